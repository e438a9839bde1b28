/-! chains for the model's calls -/
def stp (M : TS) (d : Nat) (a : Int32) : Int32 := if 0 < M 3 d ∧ (a = -1 ∨ M 3 d - hoursIn M d < a) then M 3 d - hoursIn M d else a
theorem rmF_fuel {M : TS} {n : Nat} (hn : n < 2 ^ 31) (hP : parOk (M 1) n) : ∀ (t : Nat), t < n → ∀ (f g : Nat) (a : Int32), t < f → t < g → rmF M f t a = rmF M g t a := by
  intro t
  induction t using Nat.strongRecOn with
  | ind t ih =>
    intro ht f g a hf hg
    cases f with
    | zero => exact absurd hf (Nat.not_lt_zero t)
    | succ f =>
      cases g with
      | zero => exact absurd hg (Nat.not_lt_zero t)
      | succ g =>
        show (if M 1 t < 0 then stp M t a else rmF M f (tn (M 1 t)) (stp M t a)) = (if M 1 t < 0 then stp M t a else rmF M g (tn (M 1 t)) (stp M t a))
        by_cases h2 : M 1 t < 0
        · rw [if_pos h2, if_pos h2]
        · rw [if_neg h2, if_neg h2]
          rcases hP t ht with h3 | ⟨q, hq, e⟩
          · exact absurd h3 h2
          · rw [e, show tn (nI q) = q from nI_clamp (by omega)]
            exact ih q hq (by omega) f g _ (by omega) (by omega)
theorem rm_top {M : TS} {d : Nat} {a : Int32} (h : M 1 d < 0) : rmF M (d + 1) d a = stp M d a := by
  show (if M 1 d < 0 then stp M d a else _) = _
  rw [if_pos h]
theorem rm_up {M : TS} {d u n : Nat} {a : Int32} (hn : n < 2 ^ 31) (hP : parOk (M 1) n) (hd : d < n) (hu : u < d) (e : M 1 d = nI u) : rmF M (d + 1) d a = rmF M (u + 1) u (stp M d a) := by
  show (if M 1 d < 0 then stp M d a else rmF M d (tn (M 1 d)) (stp M d a)) = _
  rw [if_neg (by rw [e]; exact nI_pos (by omega)), e, show tn (nI u) = u from nI_clamp (by omega)]
  exact rmF_fuel hn hP u (by omega) d (u + 1) _ hu (Nat.lt_succ_self u)
theorem wrongB_c {M : TS} {x r : Int32} (h : r = wrongB M x) : (r = 1 ∧ tkOk (nE M) x = false) ∨ (r = 2 ∧ tkOk (nE M) x = true ∧ billed M (tn x) = false) ∨ (r = 0 ∧ tkOk (nE M) x = true ∧ billed M (tn x) = true) := by
  rw [wrongB] at h
  cases h1 : tkOk (nE M) x with
  | false => rw [if_pos h1] at h; exact Or.inl ⟨h, rfl⟩
  | true =>
    rw [if_neg (by rw [h1]; decide)] at h
    cases h2 : billed M (tn x) with
    | false => rw [if_pos h2] at h; exact Or.inr (Or.inl ⟨h, rfl, rfl⟩)
    | true => rw [if_neg (by rw [h2]; decide)] at h; exact Or.inr (Or.inr ⟨h, rfl, rfl⟩)
theorem PR.c26 {ac : Nat → ClassId} {m0 : Nat} {am : Nat → Nat} {th : Int32} {M : TS} {G : TG} (h : PR ac m0 am th M G) {v : Int32} : PR ac m0 am th (st M 0 26 v) G := by
  refine ⟨?_, fun k hk => ?_, h.2.2⟩
  · rw [h.1]; simp [mF, st, va_up, upd]
  · rw [h.2.1 k hk, st_ne M 26 v (Nat.succ_ne_zero k)]
theorem PR.c27 {ac : Nat → ClassId} {m0 : Nat} {am : Nat → Nat} {th : Int32} {M : TS} {G : TG} (h : PR ac m0 am th M G) {v : Int32} : PR ac m0 am th (st M 0 27 v) G := by
  refine ⟨?_, fun k hk => ?_, h.2.2⟩
  · rw [h.1]; simp [mF, st, va_up, upd]
  · rw [h.2.1 k hk, st_ne M 27 v (Nat.succ_ne_zero k)]
/-- what the class alone keeps doesn't matter to the model -/
theorem PR.cu {ac : Nat → ClassId} {m0 : Nat} {am : Nat → Nat} {th : Int32} {M : TS} {G : TG} (h : PR ac m0 am th M G) (f : Nat) (hf : 19 ≤ f) {u : Nat → Int32} : PR ac m0 am th (va_up M f u) G := by
  have e : va_up M f u 0 = M 0 := va_up_ne _ _ (by omega)
  refine ⟨?_, fun k hk => ?_, h.2.2⟩
  · rw [h.1]; simp only [mF, e]
  · rw [h.2.1 k hk, va_up_ne _ _ (by omega)]
theorem crS_f {M : TS} {t f : Nat} (h5 : f ≠ 5) (h17 : f ≠ 17) : ∀ n, (crS M t n).1 f = M f
  | 0 => rfl
  | n + 1 => by
    rw [crS]
    split
    · dsimp only; rw [st_ne _ _ _ h17, st_ne _ _ _ h5]; exact crS_f h5 h17 n
    · exact crS_f h5 h17 n
theorem crS_5 {M : TS} {t : Nat} : ∀ (n : Nat) {j : Nat}, n ≤ j → (crS M t n).1 5 j = M 5 j
  | 0, _, _ => rfl
  | n + 1, j, hj => by
    rw [crS]
    split
    · dsimp only; rw [st_ne _ _ _ (show 5 ≠ 17 by decide), st_nei _ _ (show j ≠ n by omega)]; exact crS_5 n (by omega)
    · exact crS_5 n (by omega)
theorem dropS_f {M : TS} {w : Int32} {f : Nat} (h5 : f ≠ 5) : ∀ n, (dropS M w n).1 f = M f
  | 0 => rfl
  | n + 1 => by
    rw [dropS]
    split
    · dsimp only; rw [st_ne _ _ _ h5]; exact dropS_f h5 n
    · exact dropS_f h5 n
theorem dropS_5 {M : TS} {w : Int32} : ∀ (n : Nat) {j : Nat}, n ≤ j → (dropS M w n).1 5 j = M 5 j
  | 0, _, _ => rfl
  | n + 1, j, hj => by
    rw [dropS]
    split
    · dsimp only; rw [st_nei _ _ (show j ≠ n by omega)]; exact dropS_5 n (by omega)
    · exact dropS_5 n (by omega)
