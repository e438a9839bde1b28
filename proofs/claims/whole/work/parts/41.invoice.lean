/-! an invoice keeps what holds; both sides bill alike -/
theorem looked_97 {M : TS} {r k : Nat} {w : Int32} (h : lookedAt M r w k = true) : M 5 k = 97 := by
  unfold lookedAt at h
  simp only [Bool.and_eq_true, decide_eq_true_eq] at h
  exact h.1.1.1
theorem looked_cg {M N : TS} {r k : Nat} {w : Int32} (e5 : N 5 k = M 5 k) (e9 : N 9 = M 9) (e1 : N 1 = M 1) (e4 : N 4 = M 4) (e11 : N 11 = M 11) : lookedAt N r w k = lookedAt M r w k := by
  unfold lookedAt isIn
  rw [e5, e9, e1, e4, e11]
theorem charged_cg {M N : TS} {p w : Int32} (eE : nE N = nE M) (e10 : N 10 = M 10) (e11 : N 11 = M 11) (e12 : N 12 = M 12) (hb : ∀ k, k < nE M → billed N k = billed M k) : charged N p w = charged M p w := by
  unfold charged
  rw [eE, e10, e11, e12]
  exact sumI_cong (fun k hk => by rw [hb k hk])
def prc (M : TS) (k : Nat) : Int32 := M 12 k * M 15 (tn (M 10 k))
section
variable {M : TS} {r v : Nat} {w : Int32}
theorem bill_k : ∀ n k, ((billS M r w v n).1 5 k = M 5 k ∧ (billS M r w v n).1 13 k = M 13 k ∧ (billS M r w v n).1 14 k = M 14 k) ∨ (M 5 k = 97 ∧ (billS M r w v n).1 5 k = 120 ∧ (billS M r w v n).1 13 k = M 13 k ∧ (billS M r w v n).1 14 k = M 14 k) ∨ (k < n ∧ M 5 k = 97 ∧ (billS M r w v n).1 5 k = 98 ∧ (billS M r w v n).1 13 k = prc M k ∧ (billS M r w v n).1 14 k = nI v)
  | 0, k => Or.inl ⟨rfl, rfl, rfl⟩
  | n + 1, k => by
    have ih := bill_k n k
    have j5 := billS_j (M := M) (r := r) (v := v) (w := w) (f := 5) (by decide) n (Nat.le_refl n)
    have j13 := billS_j (M := M) (r := r) (v := v) (w := w) (f := 13) (by decide) n (Nat.le_refl n)
    have j14 := billS_j (M := M) (r := r) (v := v) (w := w) (f := 14) (by decide) n (Nat.le_refl n)
    rw [billS]
    generalize hB : billS M r w v n = B at ih j5 j13 j14 ⊢
    split
    · rename_i c
      have c97 : M 5 n = 97 := j5.symm.trans (looked_97 c)
      split
      · dsimp only
        by_cases e : k = n
        · subst e
          refine Or.inr (Or.inl ⟨c97, st_self _ _ _ _, ?_, ?_⟩)
          · rw [st_ne _ _ _ (by decide)]; exact j13
          · rw [st_ne _ _ _ (by decide)]; exact j14
        · rw [st_nei _ _ e, st_ne _ _ _ (by decide), st_ne _ _ _ (by decide)]
          exact ih.imp id (Or.imp id (fun z => ⟨by omega, z.2⟩))
      · dsimp only
        by_cases e : k = n
        · subst e
          refine Or.inr (Or.inr ⟨Nat.lt_succ_self _, c97, ?_, ?_, ?_⟩)
          · rw [st_ne _ _ _ (by decide), st_ne _ _ _ (by decide), st_ne _ _ _ (by decide), st_self]
          · rw [st_ne _ _ _ (by decide), st_ne _ _ _ (by decide), st_self]; rfl
          · rw [st_ne _ _ _ (by decide), st_self]
        · rw [st_ne _ _ _ (show 5 ≠ 18 by decide), st_ne _ _ _ (show 5 ≠ 14 by decide), st_ne _ _ _ (show 5 ≠ 13 by decide), st_nei _ _ e, st_ne _ _ _ (show 13 ≠ 18 by decide), st_ne _ _ _ (show 13 ≠ 14 by decide), st_nei _ _ e, st_ne _ _ _ (show 13 ≠ 5 by decide), st_ne _ _ _ (show 14 ≠ 18 by decide), st_nei _ _ e, st_ne _ _ _ (show 14 ≠ 13 by decide), st_ne _ _ _ (show 14 ≠ 5 by decide)]
          exact ih.imp id (Or.imp id (fun z => ⟨by omega, z.2⟩))
    · exact ih.imp id (Or.imp id (fun z => ⟨by omega, z.2⟩))
theorem not_98 {k : Nat} {N : TS} (h : N 5 k = 97 ∨ N 5 k = 120 ∨ N 5 k = 110) : billed N k = false := by
  unfold billed
  rcases h with e | e | e <;> rw [e] <;> decide
theorem is_98 {k : Nat} {N : TS} (h : N 5 k = 98) : billed N k = true := by
  unfold billed
  rw [h]; decide
/-- the sum, and the count of items -/
theorem bill_s (hz : ∀ k, k < nE M → ¬ (billed M k = true ∧ M 14 k = nI v)) : ∀ n, n ≤ nE M → (billS M r w v n).2 = sumI (fun k => if billed (billS M r w v n).1 k = true ∧ (billS M r w v n).1 14 k = nI v then prc M k else 0) n ∧ (billS M r w v n).1 18 v = M 18 v + sumI (fun k => if billed (billS M r w v n).1 k = true ∧ (billS M r w v n).1 14 k = nI v then 1 else 0) n ∧ ∀ u, u ≠ v → (billS M r w v n).1 18 u = M 18 u
  | 0, _ => ⟨rfl, (Int32.add_zero _).symm, fun _ _ => rfl⟩
  | n + 1, hn => by
    obtain ⟨i1, i2, i3⟩ := bill_s hz n (by omega)
    have j5 := billS_j (M := M) (r := r) (v := v) (w := w) (f := 5) (by decide) n (Nat.le_refl n)
    have j14 := billS_j (M := M) (r := r) (v := v) (w := w) (f := 14) (by decide) n (Nat.le_refl n)
    rw [billS]
    generalize hB : billS M r w v n = B at i1 i2 i3 j5 j14 ⊢
    have hzn : ¬ (billed B.1 n = true ∧ B.1 14 n = nI v) := fun z => hz n (by omega) ⟨by rw [← bil_cg j5]; exact z.1, j14.symm.trans z.2⟩
    split
    · rename_i c
      split
      · dsimp only
        have ho : ∀ k, k < n → billed (st B.1 5 n 120) k = billed B.1 k := fun k hk => bil_cg (st_nei _ _ (by omega))
        have hn0 : billed (st B.1 5 n 120) n = false := not_98 (Or.inr (Or.inl (st_self _ _ _ _)))
        have e14 : st B.1 5 n 120 14 = B.1 14 := st_ne _ _ _ (by decide)
        refine ⟨?_, ?_, fun u hu => by rw [st_ne _ _ _ (by decide)]; exact i3 u hu⟩
        · rw [sumI_s, if_neg (fun z => by rw [hn0] at z; cases z.1), Int32.add_zero, i1]
          exact sumI_cong (fun k hk => itn (by rw [ho k hk, e14]) (fun _ => rfl) (fun _ => rfl))
        · rw [st_ne _ _ _ (by decide), sumI_s, if_neg (fun z => by rw [hn0] at z; cases z.1), Int32.add_zero, i2]
          congr 1
          exact sumI_cong (fun k hk => itn (by rw [ho k hk, e14]) (fun _ => rfl) (fun _ => rfl))
      · dsimp only
        generalize hx : B.1 18 v + 1 = y
        have e5 : st (st (st (st B.1 5 n 98) 13 n (M 12 n * M 15 (tn (M 10 n)))) 14 n (nI v)) 18 v y 5 = upd (B.1 5) n 98 := by rw [st_ne _ _ _ (by decide), st_ne _ _ _ (by decide), st_ne _ _ _ (by decide), st_eq]
        have e14 : st (st (st (st B.1 5 n 98) 13 n (M 12 n * M 15 (tn (M 10 n)))) 14 n (nI v)) 18 v y 14 = upd (B.1 14) n (nI v) := by rw [st_ne _ _ _ (by decide), st_eq, st_ne _ _ _ (by decide), st_ne _ _ _ (by decide)]
        have e18 : st (st (st (st B.1 5 n 98) 13 n (M 12 n * M 15 (tn (M 10 n)))) 14 n (nI v)) 18 v y 18 = upd (B.1 18) v y := by rw [st_eq, st_ne _ _ _ (by decide), st_ne _ _ _ (by decide), st_ne _ _ _ (by decide)]
        generalize st (st (st (st B.1 5 n 98) 13 n (M 12 n * M 15 (tn (M 10 n)))) 14 n (nI v)) 18 v y = C at e5 e14 e18 ⊢
        have ho : ∀ k, k < n → billed C k = billed B.1 k := fun k hk => bil_cg (by rw [e5]; simp [upd, show ¬ k = n by omega])
        have h14 : ∀ k, k < n → C 14 k = B.1 14 k := fun k hk => by rw [e14]; simp [upd, show ¬ k = n by omega]
        have hn1 : billed C n = true := is_98 (by rw [e5]; simp [upd])
        have hn14 : C 14 n = nI v := by rw [e14]; simp [upd]
        refine ⟨?_, ?_, fun u hu => by rw [e18, show upd (B.1 18) v y u = B.1 18 u from by simp [upd, hu]]; exact i3 u hu⟩
        · rw [sumI_s, if_pos ⟨hn1, hn14⟩, i1]
          congr 1
          exact sumI_cong (fun k hk => itn (by rw [ho k hk, h14 k hk]) (fun _ => rfl) (fun _ => rfl))
        · rw [e18, show upd (B.1 18) v y v = y from by simp [upd], ← hx, i2, sumI_s, if_pos ⟨hn1, hn14⟩, ← Int32.add_assoc]
          congr 2
          exact sumI_cong (fun k hk => itn (by rw [ho k hk, h14 k hk]) (fun _ => rfl) (fun _ => rfl))
    · refine ⟨?_, ?_, i3⟩
      · rw [sumI_s, if_neg hzn, Int32.add_zero]; exact i1
      · rw [sumI_s, if_neg hzn, Int32.add_zero]; exact i2
/-- nobody has more than the greatest cap -/
theorem bill_c {g : Int32} (hg : M 0 23 ≤ g) (hc : ∀ p w, charged M p w ≤ g) : ∀ n, n ≤ nE M → ∀ p' w', charged (billS M r w v n).1 p' w' ≤ g
  | 0, _ => hc
  | n + 1, hn => by
    intro p' w'
    have ih := bill_c hg hc n (by omega)
    have j5 := billS_j (M := M) (r := r) (v := v) (w := w) (f := 5) (by decide) n (Nat.le_refl n)
    have a : ∀ f, f ≠ 5 → f ≠ 13 → f ≠ 14 → f ≠ 18 → (billS M r w v n).1 f = M f := fun f b c d e => billS_f b c d e n
    rw [billS]
    generalize hB : billS M r w v n = B at ih j5 a ⊢
    have eE : nE B.1 = nE M := nE_0 (by rw [a 0 (by decide) (by decide) (by decide) (by decide)])
    have a10 := a 10 (by decide) (by decide) (by decide) (by decide)
    have a11 := a 11 (by decide) (by decide) (by decide) (by decide)
    have a12 := a 12 (by decide) (by decide) (by decide) (by decide)
    split
    · rename_i c
      have c97 := looked_97 c
      split
      · dsimp only
        rw [charged_cg (M := B.1) (N := st B.1 5 n 120) (nE_0 rfl) (st_ne _ _ _ (by decide)) (st_ne _ _ _ (by decide)) (st_ne _ _ _ (by decide)) (fun k _ => by
          by_cases e : k = n
          · subst e
            rw [not_98 (N := st B.1 5 k 120) (Or.inr (Or.inl (st_self _ _ _ _))), not_98 (N := B.1) (Or.inl c97)]
          · exact bil_cg (st_nei _ _ e))]
        exact ih p' w'
      · rename_i c2
        dsimp only
        have c3 := Int32.not_lt.mp c2
        have hbn := not_98 (N := B.1) (k := n) (Or.inl c97)
        generalize hx : B.1 18 v + 1 = y
        have e5 : st (st (st (st B.1 5 n 98) 13 n (M 12 n * M 15 (tn (M 10 n)))) 14 n (nI v)) 18 v y 5 = upd (B.1 5) n 98 := by rw [st_ne _ _ _ (by decide), st_ne _ _ _ (by decide), st_ne _ _ _ (by decide), st_eq]
        have e0 : st (st (st (st B.1 5 n 98) 13 n (M 12 n * M 15 (tn (M 10 n)))) 14 n (nI v)) 18 v y 0 = B.1 0 := by rw [st_ne _ _ _ (by decide), st_ne _ _ _ (by decide), st_ne _ _ _ (by decide), st_ne _ _ _ (by decide)]
        have e10 : st (st (st (st B.1 5 n 98) 13 n (M 12 n * M 15 (tn (M 10 n)))) 14 n (nI v)) 18 v y 10 = B.1 10 := by rw [st_ne _ _ _ (by decide), st_ne _ _ _ (by decide), st_ne _ _ _ (by decide), st_ne _ _ _ (by decide)]
        have e11 : st (st (st (st B.1 5 n 98) 13 n (M 12 n * M 15 (tn (M 10 n)))) 14 n (nI v)) 18 v y 11 = B.1 11 := by rw [st_ne _ _ _ (by decide), st_ne _ _ _ (by decide), st_ne _ _ _ (by decide), st_ne _ _ _ (by decide)]
        have e12 : st (st (st (st B.1 5 n 98) 13 n (M 12 n * M 15 (tn (M 10 n)))) 14 n (nI v)) 18 v y 12 = B.1 12 := by rw [st_ne _ _ _ (by decide), st_ne _ _ _ (by decide), st_ne _ _ _ (by decide), st_ne _ _ _ (by decide)]
        generalize st (st (st (st B.1 5 n 98) 13 n (M 12 n * M 15 (tn (M 10 n)))) 14 n (nI v)) 18 v y = C at e5 e0 e10 e11 e12 ⊢
        have eC : nE C = nE B.1 := nE_0 (by rw [e0])
        have hn1 : billed C n = true := is_98 (by rw [e5]; simp [upd])
        have hs : charged C p' w' = charged B.1 p' w' + ((if M 10 n = p' ∧ M 11 n = w' then M 12 n else 0) - 0) := by
          unfold charged
          rw [eC, sumI_at (f := fun k => if (decide (B.1 10 k = p') && decide (B.1 11 k = w') && billed B.1 k) = true then B.1 12 k else 0) (i := n) (by omega) (fun k hk hne => by
            show (if _ then _ else _) = (if _ then _ else _)
            rw [e10, e11, e12, bil_cg (M := B.1) (N := C) (k := k) (by rw [e5]; simp [upd, hne])])]
          congr 1
          have z1 : (if (decide (C 10 n = p') && decide (C 11 n = w') && billed C n) = true then C 12 n else 0) = (if M 10 n = p' ∧ M 11 n = w' then M 12 n else 0) := by
            rw [e10, e11, e12, hn1, a10, a11, a12, Bool.and_true]
            exact itn (by rw [Bool.and_eq_true, decide_eq_true_iff, decide_eq_true_iff]) (fun _ => rfl) (fun _ => rfl)
          have z2 : (if (decide (B.1 10 n = p') && decide (B.1 11 n = w') && billed B.1 n) = true then B.1 12 n else 0) = 0 := by
            rw [hbn, Bool.and_false]
            rfl
          show (if _ then _ else _) - (if _ then _ else _) = _
          rw [z1, z2]
        rw [hs, Int32.sub_zero]
        by_cases q : M 10 n = p' ∧ M 11 n = w'
        · rw [if_pos q, ← q.1, ← q.2]
          exact Int32.le_trans c3 hg
        · rw [if_neg q, Int32.add_zero]
          exact ih p' w'
    · exact ih p' w'
/-- the discount -/
theorem disc_k {s : Int32} : ∀ n k, (k < n ∧ billed M k = true ∧ M 14 k = nI v → discS M v s n 13 k = disc (M 0 24) (M 0 25) (M 13 k) s) ∧ (¬ (billed M k = true ∧ M 14 k = nI v) → discS M v s n 13 k = M 13 k)
  | 0, k => ⟨fun z => absurd z.1 (Nat.not_lt_zero k), fun _ => rfl⟩
  | n + 1, k => by
    obtain ⟨i1, i2⟩ := disc_k (s := s) n k
    rw [discS]
    split
    · rename_i c
      by_cases e : k = n
      · subst e
        refine ⟨fun _ => ?_, fun z => absurd c z⟩
        split
        · rename_i c2
          rw [st_ne _ _ _ (by decide), st_self, disc, if_pos c2]
        · rename_i c2
          rw [st_ne _ _ _ (by decide), discS_13 k (Nat.le_refl k), disc, if_neg c2]
      · have i1' : k < n + 1 ∧ billed M k = true ∧ M 14 k = nI v → discS M v s n 13 k = disc (M 0 24) (M 0 25) (M 13 k) s := fun z => i1 ⟨by omega, z.2⟩
        split
        · rw [st_ne _ _ _ (by decide), st_nei _ _ e]; exact ⟨i1', i2⟩
        · rw [st_ne _ _ _ (by decide)]; exact ⟨i1', i2⟩
    · rename_i c
      refine ⟨fun z => i1 ⟨?_, z.2⟩, i2⟩
      have : k ≠ n := fun e => c (by rw [← e]; exact z.2)
      omega
theorem disc_s {s : Int32} : ∀ n, discS M v s n 16 v = M 16 v + sumI (fun k => if billed M k = true ∧ M 14 k = nI v then disc (M 0 24) (M 0 25) (M 13 k) s else 0) n ∧ ∀ u, u ≠ v → discS M v s n 16 u = M 16 u
  | 0 => ⟨(Int32.add_zero _).symm, fun _ _ => rfl⟩
  | n + 1 => by
    obtain ⟨i1, i2⟩ := disc_s (s := s) n
    rw [discS, sumI_s]
    split
    · rename_i c
      rw [← Int32.add_assoc, ← i1, disc]
      split
      · exact ⟨st_self _ _ _ _, fun u hu => by rw [st_nei _ _ hu, st_ne _ _ _ (by decide)]; exact i2 u hu⟩
      · exact ⟨st_self _ _ _ _, fun u hu => by rw [st_nei _ _ hu]; exact i2 u hu⟩
    · rename_i c
      rw [Int32.add_zero]
      exact ⟨i1, i2⟩
/-- the class bills as the model does -/
theorem cb_eq (hW : W0 M) (e21 : M 21 v = M 0 23) (e20 : ∀ p, p < 4 → M 20 (4 * v + p) = M 15 p) : ∀ n, n ≤ nE M → (∀ f, f ≠ 18 → (cbS M r w v n).1 f = (billS M r w v n).1 f) ∧ (cbS M r w v n).2 = (billS M r w v n).2
  | 0, _ => ⟨fun _ _ => rfl, rfl⟩
  | n + 1, hn => by
    obtain ⟨i1, i2⟩ := cb_eq hW e21 e20 n (by omega)
    have hp : priceV M v n = M 12 n * M 15 (tn (M 10 n)) := by
      obtain ⟨q, hq, e⟩ := hW.ep (show n < nE M by omega)
      unfold priceV
      rw [e, show tn (nI q) = q from nI_clamp (by omega), e20 q hq]
    rw [cbS, billS]
    generalize cbS M r w v n = C at i1 i2 ⊢
    generalize billS M r w v n = B at i1 i2 ⊢
    have hl : lookedAt C.1 r w n = lookedAt B.1 r w n := looked_cg (by rw [i1 5 (by decide)]) (i1 9 (by decide)) (i1 1 (by decide)) (i1 4 (by decide)) (i1 11 (by decide))
    have hc : charged C.1 (M 10 n) (M 11 n) = charged B.1 (M 10 n) (M 11 n) := charged_cg (nE_0 (by rw [i1 0 (by decide)])) (i1 10 (by decide)) (i1 11 (by decide)) (i1 12 (by decide)) (fun k _ => bil_cg (by rw [i1 5 (by decide)]))
    rw [hl, hc, e21, hp, i2]
    split
    · split
      · rename_i c2
        rw [if_neg (Int32.not_lt.mpr c2)]
        refine ⟨fun f hf => ?_, rfl⟩
        show st (st (st C.1 5 n 98) 14 n (nI v)) 13 n (M 12 n * M 15 (tn (M 10 n))) f = st (st (st (st B.1 5 n 98) 13 n (M 12 n * M 15 (tn (M 10 n)))) 14 n (nI v)) 18 v (B.1 18 v + 1) f
        rw [st_ne _ _ _ hf, st_comm (f := 14) (g := 13) (by decide)]
        by_cases f14 : f = 14
        · subst f14; rw [st_eq, st_eq, st_ne _ _ _ (by decide), st_ne _ _ _ (by decide), st_ne _ _ _ (by decide), st_ne _ _ _ (by decide), i1 14 (by decide)]
        · rw [st_ne _ _ _ f14, st_ne _ _ _ f14]
          by_cases f13 : f = 13
          · subst f13; rw [st_eq, st_eq, st_ne _ _ _ (by decide), st_ne _ _ _ (by decide), i1 13 (by decide)]
          · rw [st_ne _ _ _ f13, st_ne _ _ _ f13]
            by_cases f5 : f = 5
            · subst f5; rw [st_eq, st_eq, i1 5 (by decide)]
            · rw [st_ne _ _ _ f5, st_ne _ _ _ f5, i1 f hf]
      · rename_i c2
        rw [if_pos (Int32.not_le.mp c2)]
        refine ⟨fun f hf => ?_, rfl⟩
        show st C.1 5 n 120 f = st B.1 5 n 120 f
        by_cases f5 : f = 5
        · subst f5; rw [st_eq, st_eq, i1 5 (by decide)]
        · rw [st_ne _ _ _ f5, st_ne _ _ _ f5, i1 f hf]
    · exact ⟨i1, i2⟩
theorem cd_eq {C : TS} {s : Int32} (i1 : ∀ f, f ≠ 18 → C f = M f) (e22 : C 22 v = M 0 24) (e23 : C 23 v = M 0 25) : ∀ n, (∀ f, f ≠ 16 → f ≠ 18 → (cdS C v s n).1 f = discS M v s n f) ∧ discS M v s n 16 v = M 16 v + (cdS C v s n).2
  | 0 => ⟨fun f _ h => i1 f h, (Int32.add_zero _).symm⟩
  | n + 1 => by
    obtain ⟨k1, k2⟩ := cd_eq i1 e22 e23 (s := s) n
    have hb : billed C n = billed M n := bil_cg (by rw [i1 5 (by decide)])
    rw [cdS, discS, hb, i1 14 (by decide), i1 13 (by decide), e22, e23]
    split
    · unfold disc
      split
      · refine ⟨fun f h16 h18 => ?_, ?_⟩
        · show st (cdS C v s n).1 13 n _ f = _
          rw [st_ne _ _ _ h16]
          by_cases h13 : f = 13
          · subst h13; rw [st_eq, st_eq, k1 13 (by decide) (by decide)]
          · rw [st_ne _ _ _ h13, st_ne _ _ _ h13]; exact k1 f h16 h18
        · rw [st_self, k2, Int32.add_assoc]
      · refine ⟨fun f h16 h18 => ?_, ?_⟩
        · show st (cdS C v s n).1 13 n _ f = _
          rw [st_ne _ _ _ h16]
          by_cases h13 : f = 13
          · subst h13
            rw [st_eq, k1 13 (by decide) (by decide)]
            funext j
            by_cases e : j = n
            · subst e
              rw [show upd (discS M v s j 13) j (M 13 j) j = M 13 j from by simp [upd], discS_13 j (Nat.le_refl j)]
            · simp [upd, e]
          · rw [st_ne _ _ _ h13]; exact k1 f h16 h18
        · rw [st_self, k2, Int32.add_assoc]
    · exact ⟨k1, k2⟩
end
theorem rule_f {M : TS} {v f : Nat} (h20 : f ≠ 20) (h21 : f ≠ 21) (h22 : f ≠ 22) (h23 : f ≠ 23) : ruleS M v f = M f := by
  unfold ruleS
  rw [va_up_ne _ _ h20, st_ne _ _ _ h23, st_ne _ _ _ h22, st_ne _ _ _ h21]
theorem rule_21 {M : TS} {v : Nat} : ruleS M v 21 v = M 0 23 := by
  unfold ruleS
  rw [va_up_ne _ _ (by decide), st_ne _ _ _ (by decide), st_ne _ _ _ (by decide), st_self]
theorem rule_22 {M : TS} {v : Nat} : ruleS M v 22 = upd (M 22) v (M 0 24) := by
  unfold ruleS
  rw [va_up_ne _ _ (by decide), st_ne _ _ _ (by decide), st_eq, st_ne _ _ _ (by decide)]
theorem rule_23 {M : TS} {v : Nat} : ruleS M v 23 = upd (M 23) v (M 0 25) := by
  unfold ruleS
  rw [va_up_ne _ _ (by decide), st_eq, st_ne _ _ _ (by decide), st_ne _ _ _ (by decide)]
theorem rule_20 {M : TS} {v : Nat} (j : Nat) : ruleS M v 20 j = if j / 4 = v then M 15 (j % 4) else M 20 j := by
  unfold ruleS
  rw [va_up_self]
theorem rule_20v {M : TS} {v p : Nat} (hp : p < 4) : ruleS M v 20 (4 * v + p) = M 15 p := by
  rw [rule_20, if_pos (by omega), show (4 * v + p) % 4 = p by omega]
theorem rule_20u {M : TS} {v u p : Nat} (hp : p < 4) (hu : u ≠ v) : ruleS M v 20 (4 * u + p) = M 20 (4 * u + p) := by
  rw [rule_20, if_neg (by omega)]
section
variable {M : TS}
theorem inv_z (h : IV M) : ∀ k, k < nE M → ¬ (billed M k = true ∧ M 14 k = nI (nV M)) := fun k hk z => by
  obtain ⟨u, hu, e⟩ := h.w1.2.2 k hk z.1
  have := h.w.v.2
  have := (nI_eq (by omega) (by omega)).mp (e.symm.trans z.2)
  omega
theorem kn_eq (h : IV M) (r : Nat) (w : Int32) : ∀ f, f ≠ 6 → f ≠ 7 → f ≠ 8 → f ≠ 18 → nInv M r w f = kInv M r w f := by
  intro f _ _ _ h18
  have hV := h.w.v.2
  have eE : nE (ruleS M (nV M)) = nE M := rfl
  obtain ⟨c1, c2⟩ := cb_eq (M := ruleS M (nV M)) (r := r) (v := nV M) (w := w) (ruleS_W h.w (nV M)) (rule_21.trans (by rw [rule_f (by decide) (by decide) (by decide) (by decide)])) (fun p hp => (rule_20v hp).trans (by rw [rule_f (by decide) (by decide) (by decide) (by decide)])) (nE M) (Nat.le_refl _)
  have b0 : (billS (ruleS M (nV M)) r w (nV M) (nE M)).1 0 = M 0 := bill0.trans (rule_f (by decide) (by decide) (by decide) (by decide))
  have b16 : (billS (ruleS M (nV M)) r w (nV M) (nE M)).1 16 = M 16 := (billS_f (by decide) (by decide) (by decide) (by decide) _).trans (rule_f (by decide) (by decide) (by decide) (by decide))
  have k22 : (kB M r w).1 22 (nV M) = M 0 24 := by rw [kB_f (by decide) (by decide) (by decide), rule_22]; simp [upd]
  have k23 : (kB M r w).1 23 (nV M) = M 0 25 := by rw [kB_f (by decide) (by decide) (by decide), rule_23]; simp [upd]
  have k16 : (kD M r w).1 16 = M 16 := by rw [kD_f (by decide), kB_f (by decide) (by decide) (by decide)]; exact rule_f (by decide) (by decide) (by decide) (by decide)
  obtain ⟨d1, d2⟩ := cd_eq (M := (billS (ruleS M (nV M)) r w (nV M) (nE M)).1) (C := (kB M r w).1) (v := nV M) (s := (kB M r w).2) c1 (by rw [b0]; exact k22) (by rw [b0]; exact k23) (nE M)
  have d3 := (disc_s (M := (billS (ruleS M (nV M)) r w (nV M) (nE M)).1) (v := nV M) (s := (kB M r w).2) (nE M)).2
  have ek : (kB M r w).2 = (billS (ruleS M (nV M)) r w (nV M) (nE M)).2 := c2
  unfold nInv kInv
  rw [← ek]
  by_cases f0 : f = 0
  · subst f0
    rw [st_eq, st_eq, st_ne _ _ _ (by decide)]
    congr 1
    exact (d1 0 (by decide) (by decide)).symm
  · rw [st_ne _ _ _ f0, st_ne _ _ _ f0]
    by_cases f16 : f = 16
    · subst f16
      rw [st_eq, k16]
      funext u
      by_cases e : u = nV M
      · subst e
        rw [d2, b16, (h.q.1 _ (Nat.le_refl _)).1, Int32.zero_add]
        simp [upd]; rfl
      · rw [d3 u e, b16]; simp [upd, e]
    · rw [st_ne _ _ _ f16]
      exact (d1 f f16 h18).symm
theorem IV.inv (h : IV M) (r : Nat) (w : Int32) (hn : nV M < 20) : IV (nInv M r w) := by
  have hV := h.w.v.2
  have hE := h.w.e.2
  obtain ⟨v, hv⟩ : ∃ v, v = nV M := ⟨_, rfl⟩
  have rf : ∀ f, f ≠ 20 → f ≠ 21 → f ≠ 22 → f ≠ 23 → ruleS M v f = M f := fun f a b c d => rule_f a b c d
  have rE : nE (ruleS M v) = nE M := nE_0 (by rw [rf 0 (by decide) (by decide) (by decide) (by decide)])
  have r5 := rf 5 (by decide) (by decide) (by decide) (by decide)
  have r14 := rf 14 (by decide) (by decide) (by decide) (by decide)
  have hz0 : ∀ k, k < nE (ruleS M v) → ¬ (billed (ruleS M v) k = true ∧ ruleS M v 14 k = nI v) := fun k hk z => by
    rw [rE] at hk
    refine inv_z h k hk ⟨?_, ?_⟩
    · rw [← bil_cg (M := M) (N := ruleS M v) (by rw [r5])]; exact z.1
    · rw [← hv, ← r14]; exact z.2
  have tk := bill_k (M := ruleS M v) (r := r) (v := v) (w := w) (nE M)
  obtain ⟨s1, s2, s3⟩ := bill_s (M := ruleS M v) (r := r) (v := v) (w := w) hz0 (nE M) (Nat.le_of_eq rE.symm)
  have ch := bill_c (M := ruleS M v) (r := r) (v := v) (w := w) (g := M 0 26) (by rw [rf 0 (by decide) (by decide) (by decide) (by decide)]; exact h.c.2) (fun p w => by rw [charged_cg rE (rf 10 (by decide) (by decide) (by decide) (by decide)) (rf 11 (by decide) (by decide) (by decide) (by decide)) (rf 12 (by decide) (by decide) (by decide) (by decide)) (fun k _ => bil_cg (by rw [r5]))]; exact h.c.1 p w) (nE M) (Nat.le_of_eq rE.symm)
  have bf : ∀ f, f ≠ 5 → f ≠ 13 → f ≠ 14 → f ≠ 18 → (billS (ruleS M v) r w v (nE M)).1 f = ruleS M v f := fun f a b c d => billS_f a b c d _
  have wB := (ruleS_W h.w v).bill r v (nE M) w
  have hprc : ∀ k, prc (ruleS M v) k = prc M k := fun k => by unfold prc; rw [rf 12 (by decide) (by decide) (by decide) (by decide), rf 15 (by decide) (by decide) (by decide) (by decide), rf 10 (by decide) (by decide) (by decide) (by decide)]
  have eN : nInv M r w = st (discS (billS (ruleS M v) r w v (nE M)).1 v (billS (ruleS M v) r w v (nE M)).2 (nE M)) 0 22 (nI v + 1) := by rw [hv]; rfl
  rw [eN]
  generalize (billS (ruleS M v) r w v (nE M)).2 = s at s1 ⊢
  generalize (billS (ruleS M v) r w v (nE M)).1 = B at tk s1 s2 s3 ch bf wB ⊢
  have df : ∀ f, f ≠ 13 → f ≠ 16 → discS B v s (nE M) f = B f := fun f a b => discS_f a b _
  have d13 := disc_k (M := B) (v := v) (s := s) (nE M)
  obtain ⟨d16, d16u⟩ := disc_s (M := B) (v := v) (s := s) (nE M)
  have hD13 : ∀ k, nE M ≤ k → discS B v s (nE M) 13 k = B 13 k := fun k hk => discS_13 (nE M) hk
  have wD := wB.disc v (nE M) s
  generalize discS B v s (nE M) = D at df d13 d16 d16u hD13 wD ⊢
  -- what the new state holds
  have nf : ∀ f, f ≠ 0 → st D 0 22 (nI v + 1) f = D f := fun f hf => st_ne _ _ _ hf
  have n0 : ∀ k, k ≠ 22 → st D 0 22 (nI v + 1) 0 k = M 0 k := fun k hk => by rw [st_nei _ _ hk, df 0 (by decide) (by decide), bf 0 (by decide) (by decide) (by decide) (by decide), rf 0 (by decide) (by decide) (by decide) (by decide)]
  have n22 : st D 0 22 (nI v + 1) 0 22 = nI (v + 1) := by rw [st_self]; exact nI_1 v
  generalize st D 0 22 (nI v + 1) = N at nf n0 n22 ⊢
  have c : ∀ f, f ≠ 0 → f ≠ 5 → f ≠ 13 → f ≠ 14 → f ≠ 16 → f ≠ 18 → f ≠ 20 → f ≠ 21 → f ≠ 22 → f ≠ 23 → N f = M f := fun f a0 a5 a13 a14 a16 a18 a20 a21 a22 a23 => by rw [nf f a0, df f a13 a16, bf f a5 a13 a14 a18, rf f a20 a21 a22 a23]
  have c1 := c 1 (by decide) (by decide) (by decide) (by decide) (by decide) (by decide) (by decide) (by decide) (by decide) (by decide)
  have c3 := c 3 (by decide) (by decide) (by decide) (by decide) (by decide) (by decide) (by decide) (by decide) (by decide) (by decide)
  have c4 := c 4 (by decide) (by decide) (by decide) (by decide) (by decide) (by decide) (by decide) (by decide) (by decide) (by decide)
  have c6 := c 6 (by decide) (by decide) (by decide) (by decide) (by decide) (by decide) (by decide) (by decide) (by decide) (by decide)
  have c7 := c 7 (by decide) (by decide) (by decide) (by decide) (by decide) (by decide) (by decide) (by decide) (by decide) (by decide)
  have c9 := c 9 (by decide) (by decide) (by decide) (by decide) (by decide) (by decide) (by decide) (by decide) (by decide) (by decide)
  have c10 := c 10 (by decide) (by decide) (by decide) (by decide) (by decide) (by decide) (by decide) (by decide) (by decide) (by decide)
  have c11 := c 11 (by decide) (by decide) (by decide) (by decide) (by decide) (by decide) (by decide) (by decide) (by decide) (by decide)
  have c12 := c 12 (by decide) (by decide) (by decide) (by decide) (by decide) (by decide) (by decide) (by decide) (by decide) (by decide)
  have c17 := c 17 (by decide) (by decide) (by decide) (by decide) (by decide) (by decide) (by decide) (by decide) (by decide) (by decide)
  have c19 := c 19 (by decide) (by decide) (by decide) (by decide) (by decide) (by decide) (by decide) (by decide) (by decide) (by decide)
  have e5 : N 5 = B 5 := (nf 5 (by decide)).trans (df 5 (by decide) (by decide))
  have e14 : N 14 = B 14 := (nf 14 (by decide)).trans (df 14 (by decide) (by decide))
  have e13 : N 13 = D 13 := nf 13 (by decide)
  have e16 : N 16 = D 16 := nf 16 (by decide)
  have e18 : N 18 = B 18 := (nf 18 (by decide)).trans (df 18 (by decide) (by decide))
  have e20 : N 20 = ruleS M v 20 := (nf 20 (by decide)).trans ((df 20 (by decide) (by decide)).trans (bf 20 (by decide) (by decide) (by decide) (by decide)))
  have e22 : N 22 = upd (M 22) v (M 0 24) := (nf 22 (by decide)).trans ((df 22 (by decide) (by decide)).trans ((bf 22 (by decide) (by decide) (by decide) (by decide)).trans rule_22))
  have e23 : N 23 = upd (M 23) v (M 0 25) := (nf 23 (by decide)).trans ((df 23 (by decide) (by decide)).trans ((bf 23 (by decide) (by decide) (by decide) (by decide)).trans rule_23))
  have B0 : B 0 = M 0 := (bf 0 (by decide) (by decide) (by decide) (by decide)).trans (rf 0 (by decide) (by decide) (by decide) (by decide))
  have B16 : B 16 = M 16 := (bf 16 (by decide) (by decide) (by decide) (by decide)).trans (rf 16 (by decide) (by decide) (by decide) (by decide))
  have r13 := rf 13 (by decide) (by decide) (by decide) (by decide)
  have r18 := rf 18 (by decide) (by decide) (by decide) (by decide)
  rw [r5, r13, r14] at tk
  rw [r18] at s2 s3
  have hbN : ∀ k, billed N k = billed B k := fun k => bil_cg (by rw [e5])
  have eT : nT N = nT M := nT_0 (n0 19 (by decide))
  have eE : nE N = nE M := nE_0 (n0 21 (by decide))
  have eV : nV N = v + 1 := by unfold nV; rw [n22]; exact nI_clamp (by omega)
  have p4 : ∀ k, k < nE M → tn (M 10 k) < 4 := fun k hk => by obtain ⟨q, hq, e⟩ := h.w.ep hk; rw [e, show tn (nI q) = q from nI_clamp (by omega)]; exact hq
  -- entries of other invoices
  have hu : ∀ u, u < v → ∀ k, (billed N k = true ∧ N 14 k = nI u) ↔ (billed M k = true ∧ M 14 k = nI u) := fun u hu k => by
    rw [hbN, e14]
    rcases tk k with ⟨t5, t13, t14⟩ | ⟨t97, t5, t13, t14⟩ | ⟨-, t97, t5, t13, t14⟩
    · rw [bil_cg (M := M) (N := B) t5, t14]
    · rw [not_98 (N := B) (Or.inr (Or.inl t5)), not_98 (N := M) (Or.inl t97)]
      exact ⟨fun z => (by cases z.1), fun z => (by cases z.1)⟩
    · rw [not_98 (N := M) (Or.inl t97), t14]
      exact ⟨fun z => by have := (nI_eq (by omega) (by omega)).mp z.2; omega, fun z => by cases z.1⟩
  have hd : ∀ u, u < v → ∀ k, (billed M k = true ∧ M 14 k = nI u) → N 5 k = M 5 k ∧ N 13 k = M 13 k := fun u hu k z => by
    rcases tk k with ⟨t5, t13, t14⟩ | ⟨t97, t5, t13, t14⟩ | ⟨-, t97, t5, t13, t14⟩
    · refine ⟨by rw [e5, t5], ?_⟩
      rw [e13, (d13 k).2 (fun y => by rw [t14, z.2] at y; have := (nI_eq (by omega) (by omega)).mp y.2; omega), t13]
    · rw [not_98 (N := M) (Or.inl t97)] at z; cases z.1
    · rw [not_98 (N := M) (Or.inl t97)] at z; cases z.1
  -- entries of the new one
  have hw9 : ∀ k, k < nE M → (billed B k = true ∧ B 14 k = nI v) → B 5 k = 98 ∧ B 13 k = prc M k := fun k hk z => by
    rcases tk k with ⟨t5, t13, t14⟩ | ⟨t97, t5, t13, t14⟩ | ⟨-, t97, t5, t13, t14⟩
    · exact absurd ⟨(bil_cg t5).symm.trans z.1, t14.symm.trans (by rw [z.2, hv])⟩ (inv_z h k hk)
    · rw [not_98 (N := B) (Or.inr (Or.inl t5))] at z; cases z.1
    · exact ⟨t5, by rw [t13]; exact hprc k⟩
  refine ⟨⟨⟨by rw [eT, n0 19 (by decide)]; exact h.w.t, by rw [eE, n0 21 (by decide)]; exact h.w.e, ⟨by rw [eV, n22], by omega⟩, by rw [eT, c1]; exact h.w.p, by rw [eE, eT, c9]; exact fun k hk => h.w.et hk, by rw [eE, c11]; exact fun k hk => h.w.ew hk, by rw [eE, c10]; exact fun k hk => h.w.ep hk, by rw [c6]; exact h.w.b, by rw [c7]; exact h.w.lk⟩, by rw [eT, c4]; exact h.w1.1, ?_, ?_⟩, ⟨h.m.cg c6 c19, h.z.cg eT c6, h.l.cg (n0 27 (by decide)) c7⟩, ⟨h.h.cg eE c12, h.b.cg eT eE c1 c3 c9 c12⟩, ⟨⟨?_, ?_, by rw [eT, c19]; exact h.q.2.2⟩, ?_, ?_, by rw [n0 23 (by decide), n0 26 (by decide)]; exact h.c.2⟩, ?_⟩
  · intro k hk
    rw [eE] at hk
    rw [e5]
    rcases tk k with ⟨t5, t13, t14⟩ | ⟨t97, t5, t13, t14⟩ | ⟨-, t97, t5, t13, t14⟩
    · rw [t5]; exact h.w1.2.1 k hk
    · exact Or.inr (Or.inr (Or.inr (Or.inr t5)))
    · exact Or.inr (Or.inr (Or.inl t5))
  · intro k hk hbk
    rw [eE] at hk
    rw [hbN] at hbk
    rw [eV, e14]
    rcases tk k with ⟨t5, t13, t14⟩ | ⟨t97, t5, t13, t14⟩ | ⟨-, t97, t5, t13, t14⟩
    · rw [bil_cg (M := M) t5] at hbk
      obtain ⟨u, hu, e⟩ := h.w1.2.2 k hk hbk
      exact ⟨u, by omega, by rw [t14]; exact e⟩
    · rw [not_98 (N := B) (Or.inr (Or.inl t5))] at hbk; cases hbk
    · exact ⟨v, Nat.lt_succ_self v, t14⟩
  · intro u hu9
    rw [eV] at hu9
    rw [e16, d16u u (by omega), B16, c17, e18, s3 u (by omega)]
    exact h.q.1 u (by omega)
  · intro k hk
    rw [eE] at hk
    rw [e13]
    rcases tk k with ⟨t5, t13, t14⟩ | ⟨t97, t5, t13, t14⟩ | ⟨t0, -⟩
    · rw [hD13 k hk, t13]; exact h.q.2.1 k hk
    · rw [hD13 k hk, t13]; exact h.q.2.1 k hk
    · omega
  · intro u hu9
    rw [eV] at hu9
    rw [eE]
    rcases Nat.lt_or_ge u v with q | q
    · obtain ⟨t1, t2, t3⟩ := h.t u (by omega)
      refine ⟨?_, ?_, ?_⟩
      · rw [e16, d16u u (by omega), B16, t1]
        have hS : recS N u (nE M) = recS M u (nE M) := by
          unfold recS
          refine sumI_cong (fun k hk => itn (hu u q k) (fun _ => ?_) (fun _ => rfl))
          rw [priceV, priceV, c12, c10, e20, rule_20u (p4 k hk) (by omega)]
        unfold recT
        rw [eE, hS, e22, e23, show upd (M 22) v (M 0 24) u = M 22 u from by simp [upd, show ¬ u = v by omega], show upd (M 23) v (M 0 25) u = M 23 u from by simp [upd, show ¬ u = v by omega]]
        refine sumI_cong (fun k hk => itn (hu u q k).symm (fun _ => ?_) (fun _ => rfl))
        rw [priceV, priceV, c12, c10, e20, rule_20u (p4 k hk) (by omega)]
      · rw [c17, t2]
        unfold crP
        refine sumI_cong (fun k hk => itn ⟨fun z => ⟨(hu u q k).mpr z.1, by rw [(hd u q k z.1).1]; exact z.2⟩, fun z => ⟨(hu u q k).mp z.1, by rw [← (hd u q k ((hu u q k).mp z.1)).1]; exact z.2⟩⟩ (fun z => ((hd u q k z.1).2).symm) (fun _ => rfl))
      · rw [e18, s3 u (by omega), t3]
        unfold itC
        exact sumI_cong (fun k hk => itn (hu u q k).symm (fun _ => rfl) (fun _ => rfl))
    · obtain rfl : u = v := by omega
      have hS : recS N u (nE M) = s := by
        rw [s1]
        unfold recS
        refine sumI_cong (fun k hk => itn (by rw [hbN, e14]) (fun _ => ?_) (fun _ => rfl))
        rw [priceV, c12, c10, e20, rule_20v (p4 k hk)]
        exact (hprc k).symm
      have q0 := h.q.1 u (by omega)
      refine ⟨?_, ?_, ?_⟩
      · rw [e16, d16, B16, q0.1, Int32.zero_add]
        unfold recT
        rw [eE, hS, e22, e23, show upd (M 22) u (M 0 24) u = M 0 24 from by simp [upd], show upd (M 23) u (M 0 25) u = M 0 25 from by simp [upd], B0]
        refine sumI_cong (fun k hk => itn (by rw [hbN, e14]) (fun z => ?_) (fun _ => rfl))
        rw [(hw9 k hk z).2, priceV, c12, c10, e20, rule_20v (p4 k hk)]
        rfl
      · rw [c17, q0.2.1]
        unfold crP
        refine (sumI_z0 (fun k hk => if_neg (fun z => ?_))).symm
        have z1 := z.1
        rw [hbN, e14] at z1
        have := (hw9 k hk z1).1
        have z2 := z.2
        rw [e5, this] at z2
        exact absurd z2 (by decide)
      · rw [e18, s2, q0.2.2, Int32.zero_add]
        unfold itC
        exact sumI_cong (fun k hk => itn (by rw [hbN, e14]) (fun _ => rfl) (fun _ => rfl))
  · intro p w'
    rw [charged_cg (M := B) (N := N) (nE_0 (by rw [n0 21 (by decide), B0])) (by rw [c10, bf 10 (by decide) (by decide) (by decide) (by decide), rf 10 (by decide) (by decide) (by decide) (by decide)]) (by rw [c11, bf 11 (by decide) (by decide) (by decide) (by decide), rf 11 (by decide) (by decide) (by decide) (by decide)]) (by rw [c12, bf 12 (by decide) (by decide) (by decide) (by decide), rf 12 (by decide) (by decide) (by decide) (by decide)]) (fun k _ => hbN k), n0 26 (by decide)]
    exact ch p w'
  · obtain ⟨q, hq, e⟩ := h.d
    exact ⟨q, hq, by rw [n0 20 (by decide)]; exact e⟩
theorem keep_invoice (h : IV M) (x w : Int32) : IV (S_invoice M x w).2.1 := by
  unfold S_invoice
  split
  · exact h
  split
  · exact h
  split
  · exact h
  split
  · exact h
  rename_i h1
  have hV := h.w.v.2
  have : nV M ≠ 20 := fun z => h1 (Or.inr (by rw [h.w.v.1, z]; rfl))
  exact h.inv _ _ (by omega)
theorem eq_invoice (h : IV M) (x w : Int32) : (K_invoice M x w).1 = (S_invoice M x w).1 ∧ (K_invoice M x w).2.2 = (S_invoice M x w).2.2 ∧ (∀ f, f ≠ 6 → f ≠ 7 → f ≠ 8 → f ≠ 18 → (S_invoice M x w).2.1 f = (K_invoice M x w).2.1 f) := by
  unfold K_invoice S_invoice
  by_cases h1 : tkOk (nT M) x = false
  · rw [if_pos h1, if_pos h1]; exact ⟨rfl, rfl, fun _ _ _ _ _ => rfl⟩
  rw [if_neg h1, if_neg h1]
  by_cases h2 : tkOk 30 w = false
  · rw [if_pos h2, if_pos h2]; exact ⟨rfl, rfl, fun _ _ _ _ _ => rfl⟩
  rw [if_neg h2, if_neg h2]
  by_cases h3 : 0 ≤ M 1 (tn x)
  · rw [if_pos h3, if_pos h3]; exact ⟨rfl, rfl, fun _ _ _ _ _ => rfl⟩
  rw [if_neg h3, if_neg h3]
  have hV := h.w.v.2
  have e : (20 ≤ nI (nV M)) ↔ M 0 22 = 20 := by
    rw [h.w.v.1, show (20 : Int32) = nI 20 from rfl]
    exact ⟨fun z => by rw [show nV M = 20 from Nat.le_antisymm hV ((nI_leI (by decide) (by omega)).mp z)], fun z => by rw [z]; exact nI_le (Nat.le_refl _) (by decide)⟩
  by_cases h4 : anyB (lookedAt M (tn x) w) (nE M) = false ∨ M 0 22 = 20
  · rw [if_pos h4, if_pos (h4.imp id e.mpr)]; exact ⟨rfl, rfl, fun _ _ _ _ _ => rfl⟩
  rw [if_neg h4, if_neg (fun z => h4 (z.imp id e.mp))]
  exact ⟨rfl, rfl, kn_eq h (tn x) w⟩
end
