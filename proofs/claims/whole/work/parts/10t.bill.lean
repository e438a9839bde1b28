/-! billing, step by step -/
theorem billS_f {M : TS} {r v : Nat} {w : Int32} {f : Nat} (h5 : f ≠ 5) (h13 : f ≠ 13) (h14 : f ≠ 14) (h18 : f ≠ 18) : ∀ n, (billS M r w v n).1 f = M f
  | 0 => rfl
  | n + 1 => by
    rw [billS]
    split
    · split
      · dsimp only; rw [st_ne _ _ _ h5]; exact billS_f h5 h13 h14 h18 n
      · dsimp only; rw [st_ne _ _ _ h18, st_ne _ _ _ h14, st_ne _ _ _ h13, st_ne _ _ _ h5]; exact billS_f h5 h13 h14 h18 n
    · exact billS_f h5 h13 h14 h18 n
/-- entries from n on are as they were -/
theorem billS_j {M : TS} {r v : Nat} {w : Int32} {f : Nat} (hf : f ≠ 18) : ∀ (n : Nat) {j : Nat}, n ≤ j → (billS M r w v n).1 f j = M f j
  | 0, _, _ => rfl
  | n + 1, j, hj => by
    have ih := billS_j (M := M) (r := r) (v := v) (w := w) hf n (j := j) (by omega)
    have q : ∀ (N : TS) (g : Nat) (x : Int32), N f j = M f j → st N g n x f j = M f j := fun N g x h => by
      by_cases e : f = g
      · subst e; rw [st_nei _ _ (show j ≠ n by omega)]; exact h
      · rw [st_ne _ _ _ e]; exact h
    rw [billS]
    split
    · split
      · exact q _ _ _ ih
      · dsimp only
        rw [st_ne _ _ _ hf]
        exact q _ _ _ (q _ _ _ (q _ _ _ ih))
    · exact ih
theorem discS_f {M : TS} {v : Nat} {s : Int32} {f : Nat} (h13 : f ≠ 13) (h16 : f ≠ 16) : ∀ n, discS M v s n f = M f
  | 0 => rfl
  | n + 1 => by
    rw [discS]
    split
    · split
      · rw [st_ne _ _ _ h16, st_ne _ _ _ h13]; exact discS_f h13 h16 n
      · rw [st_ne _ _ _ h16]; exact discS_f h13 h16 n
    · exact discS_f h13 h16 n
theorem discS_13 {M : TS} {v : Nat} {s : Int32} : ∀ (n : Nat) {j : Nat}, n ≤ j → discS M v s n 13 j = M 13 j
  | 0, _, _ => rfl
  | n + 1, j, hj => by
    rw [discS]
    split
    · split
      · rw [st_ne _ _ _ (show 13 ≠ 16 by decide), st_nei _ _ (show j ≠ n by omega)]; exact discS_13 n (by omega)
      · rw [st_ne _ _ _ (show 13 ≠ 16 by decide)]; exact discS_13 n (by omega)
    · exact discS_13 n (by omega)
theorem W0.rule {M : TS} (h : W0 M) (v : Nat) : W0 (ruleS M v) := h.w rfl rfl rfl rfl rfl rfl rfl rfl rfl
theorem W0.bill {M : TS} (h : W0 M) (r v n : Nat) (w : Int32) : W0 (billS M r w v n).1 := by
  have q : ∀ f, f ≠ 5 → f ≠ 13 → f ≠ 14 → f ≠ 18 → (billS M r w v n).1 f = M f := fun f a b c d => billS_f a b c d n
  refine h.w ?_ ?_ ?_ (q _ (by decide) (by decide) (by decide) (by decide)) (q _ (by decide) (by decide) (by decide) (by decide)) (q _ (by decide) (by decide) (by decide) (by decide)) (q _ (by decide) (by decide) (by decide) (by decide)) (q _ (by decide) (by decide) (by decide) (by decide)) (q _ (by decide) (by decide) (by decide) (by decide)) <;> rw [q 0 (by decide) (by decide) (by decide) (by decide)]
theorem W0.disc {M : TS} (h : W0 M) (v n : Nat) (s : Int32) : W0 (discS M v s n) := by
  have q : ∀ f, f ≠ 13 → f ≠ 16 → discS M v s n f = M f := fun f a b => discS_f a b n
  refine h.w ?_ ?_ ?_ (q _ (by decide) (by decide)) (q _ (by decide) (by decide)) (q _ (by decide) (by decide)) (q _ (by decide) (by decide)) (q _ (by decide) (by decide)) (q _ (by decide) (by decide)) <;> rw [q 0 (by decide) (by decide)]
theorem nE_f {M N : TS} (h : N 0 = M 0) : nE N = nE M := by unfold nE; rw [h]
theorem nT_f {M N : TS} (h : N 0 = M 0) : nT N = nT M := by unfold nT; rw [h]
theorem bill0 {M : TS} {r v n : Nat} {w : Int32} : (billS M r w v n).1 0 = M 0 := billS_f (by decide) (by decide) (by decide) (by decide) n
theorem disc0 {M : TS} {v n : Nat} {s : Int32} : discS M v s n 0 = M 0 := discS_f (by decide) (by decide) n
/-- a count of yes and no -/
theorem cnt01 (b : Nat → Bool) : ∀ n, ∃ c : Nat, c ≤ n ∧ sumI (fun k => if b k = true then 1 else 0) n = nI c ∧ (c = 0 ↔ anyB b n = false)
  | 0 => ⟨0, Nat.le_refl 0, nI_0.symm, fun _ => rfl, fun _ => rfl⟩
  | n + 1 => by
    obtain ⟨c, hc, e, hz⟩ := cnt01 b n
    have ha : anyB b (n + 1) = (anyB b n || b n) := rfl
    cases hb : b n with
    | true => exact ⟨c + 1, by omega, by rw [sumI_s, e, if_pos hb]; exact nI_1 c, fun h => absurd h (by omega), fun h => by rw [ha, hb, Bool.or_true] at h; cases h⟩
    | false => exact ⟨c, by omega, by rw [sumI_s, e, if_neg (by rw [hb]; decide), Int32.add_zero], fun h => by rw [ha, hb, hz.mp h]; rfl, fun h => hz.mpr (by rw [ha, hb, Bool.or_false] at h; exact h)⟩
theorem cnt0 {b : Nat → Bool} {n : Nat} (hn : n < 2 ^ 31) : sumI (fun k => if b k = true then 1 else 0) n = 0 ↔ anyB b n = false := by
  obtain ⟨c, hc, e, hz⟩ := cnt01 b n
  rw [e, ← hz]
  refine ⟨fun h => ?_, fun h => by rw [h]; rfl⟩
  exact (nI_eq (by omega) (by decide)).mp (h.trans nI_0.symm)
