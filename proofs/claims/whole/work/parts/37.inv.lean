/-! what holds of the state between calls -/
def IM (M : TS) : Prop := ∀ t, t < 16 → (∃ m, m < 65536 ∧ M 19 t = nI m) ∧ ∀ k, k < 16 → hb (M 19 t) k = bB M k t
def IZ (M : TS) : Prop := ∀ k t, k < 16 → t < 16 → (nT M ≤ k ∨ nT M ≤ t) → M 6 (16 * k + t) = 0
def IL (M : TS) : Prop := ∀ w, w < 30 → lkB M w = decide (¬ M 7 w = 0)
def IH (M : TS) : Prop := ∀ k, k < nE M → ∃ h, 1 ≤ h ∧ h ≤ 40 ∧ M 12 k = nI h
def IB (M : TS) : Prop := ∀ t, t < nT M → ∃ b, b ≤ 400 ∧ M 3 t = nI b ∧ (0 < b → isN (hoursIn M t) b)
def IQ (M : TS) : Prop := (∀ v, nV M ≤ v → M 16 v = 0 ∧ M 17 v = 0 ∧ M 18 v = 0) ∧ (∀ k, nE M ≤ k → M 13 k = 0) ∧ ∀ t, nT M ≤ t → M 19 t = 0
def IT (M : TS) : Prop := ∀ v, v < nV M → M 16 v = recT M v (nE M) ∧ M 17 v = crP M v (nE M) ∧ M 18 v = itC M v (nE M)
def IC (M : TS) : Prop := (∀ p w, charged M p w ≤ M 0 26) ∧ M 0 23 ≤ M 0 26
def IDc (M : TS) : Prop := ∃ c, c ≤ 20 ∧ M 0 20 = nI c
def IV (M : TS) : Prop := (W0 M ∧ W1 M) ∧ (IM M ∧ IZ M ∧ IL M) ∧ (IH M ∧ IB M) ∧ (IQ M ∧ IT M ∧ IC M) ∧ IDc M
section
variable {M : TS}
theorem IV.w (h : IV M) : W0 M := h.1.1
theorem IV.w1 (h : IV M) : W1 M := h.1.2
theorem IV.m (h : IV M) : IM M := h.2.1.1
theorem IV.z (h : IV M) : IZ M := h.2.1.2.1
theorem IV.l (h : IV M) : IL M := h.2.1.2.2
theorem IV.h (h : IV M) : IH M := h.2.2.1.1
theorem IV.b (h : IV M) : IB M := h.2.2.1.2
theorem IV.q (h : IV M) : IQ M := h.2.2.2.1.1
theorem IV.t (h : IV M) : IT M := h.2.2.2.1.2.1
theorem IV.c (h : IV M) : IC M := h.2.2.2.1.2.2
theorem IV.d (h : IV M) : IDc M := h.2.2.2.2
theorem IV.wb (h : IV M) : WB M (nV M) := ⟨Nat.le_trans h.w.v.2 (by decide), fun k hk hb => h.w1.2.2 k hk hb⟩
end
theorem nT_0 {M N : TS} (e : N 0 19 = M 0 19) : nT N = nT M := by unfold nT; rw [e]
theorem nE_0 {M N : TS} (e : N 0 21 = M 0 21) : nE N = nE M := by unfold nE; rw [e]
theorem nV_0 {M N : TS} (e : N 0 22 = M 0 22) : nV N = nV M := by unfold nV; rw [e]
section
variable {M N : TS}
theorem IM.cg (h : IM M) (e6 : N 6 = M 6) (e19 : N 19 = M 19) : IM N := by
  unfold IM bB at h ⊢
  rw [e6, e19]; exact h
theorem IZ.cg (h : IZ M) (eT : nT N = nT M) (e6 : N 6 = M 6) : IZ N := by
  unfold IZ at h ⊢
  rw [e6, eT]; exact h
theorem IL.cg (h : IL M) (e0 : N 0 27 = M 0 27) (e7 : N 7 = M 7) : IL N := by
  unfold IL lkB at h ⊢
  rw [e0, e7]; exact h
theorem IH.cg (h : IH M) (eE : nE N = nE M) (e12 : N 12 = M 12) : IH N := by
  unfold IH at h ⊢
  rw [eE, e12]; exact h
theorem IB.cg (h : IB M) (eT : nT N = nT M) (eE : nE N = nE M) (e1 : N 1 = M 1) (e3 : N 3 = M 3) (e9 : N 9 = M 9) (e12 : N 12 = M 12) : IB N := by
  unfold IB hoursIn isIn at h ⊢
  rw [eT, eE, e1, e3, e9, e12]; exact h
theorem IQ.cg (h : IQ M) (eT : nT N = nT M) (eE : nE N = nE M) (eV : nV N = nV M) (e16 : N 16 = M 16) (e17 : N 17 = M 17) (e18 : N 18 = M 18) (e13 : N 13 = M 13) (e19 : N 19 = M 19) : IQ N := by
  unfold IQ at h ⊢
  rw [eT, eE, eV, e16, e17, e18, e13, e19]; exact h
theorem IC.cg (h : IC M) (eE : nE N = nE M) (e10 : N 10 = M 10) (e11 : N 11 = M 11) (e12 : N 12 = M 12) (hb : ∀ k, k < nE M → billed N k = billed M k) (e26 : N 0 26 = M 0 26) (e23 : N 0 23 = M 0 23) : IC N := by
  refine ⟨fun p w => ?_, by rw [e26, e23]; exact h.2⟩
  have e : charged N p w = charged M p w := by
    unfold charged
    rw [eE, e10, e11, e12]
    exact sumI_cong (fun k hk => by rw [hb k hk])
  rw [e, e26]
  exact h.1 p w
theorem recS_cg {v : Nat} {n : Nat} (hb : ∀ k, k < n → billed N k = billed M k) (e10 : ∀ k, k < n → N 10 k = M 10 k) (e12 : ∀ k, k < n → N 12 k = M 12 k) (e14 : ∀ k, k < n → N 14 k = M 14 k) (e20 : ∀ k, k < n → N 20 (4 * v + tn (M 10 k)) = M 20 (4 * v + tn (M 10 k))) : recS N v n = recS M v n := by
  unfold recS priceV
  exact sumI_cong (fun k hk => by rw [hb k hk, e10 k hk, e12 k hk, e14 k hk, e20 k hk])
theorem recT_cg {v : Nat} (eE : nE N = nE M) (hb : ∀ k, k < nE M → billed N k = billed M k) (e10 : ∀ k, k < nE M → N 10 k = M 10 k) (e12 : ∀ k, k < nE M → N 12 k = M 12 k) (e14 : ∀ k, k < nE M → N 14 k = M 14 k) (e20 : ∀ k, k < nE M → N 20 (4 * v + tn (M 10 k)) = M 20 (4 * v + tn (M 10 k))) (e22 : N 22 v = M 22 v) (e23 : N 23 v = M 23 v) : recT N v (nE N) = recT M v (nE M) := by
  unfold recT
  rw [eE, recS_cg hb e10 e12 e14 e20, e22, e23]
  exact sumI_cong (fun k hk => by rw [priceV, priceV, hb k hk, e10 k hk, e12 k hk, e14 k hk, e20 k hk])
theorem crP_cg {v n : Nat} (hb : ∀ k, k < n → billed N k = billed M k) (e14 : ∀ k, k < n → N 14 k = M 14 k) (e13 : ∀ k, k < n → N 13 k = M 13 k) (h99 : ∀ k, k < n → (N 5 k = 99 ↔ M 5 k = 99)) : crP N v n = crP M v n := by
  unfold crP
  refine sumI_cong (fun k hk => ?_)
  simp only [hb k hk, e14 k hk, e13 k hk, h99 k hk]
theorem itC_cg {v n : Nat} (hb : ∀ k, k < n → billed N k = billed M k) (e14 : ∀ k, k < n → N 14 k = M 14 k) : itC N v n = itC M v n := by
  unfold itC
  exact sumI_cong (fun k hk => by rw [hb k hk, e14 k hk])
/-- a change of fields that nothing here asks, or of the entries' states among the not billed, or of the tasks' -/
theorem IV.cgs (h : IV M) (hN : ∀ f, f ≠ 0 → f ≠ 2 → f ≠ 4 → f ≠ 5 → f ≠ 8 → f ≠ 15 → N f = M f) (e0 : ∀ k, k ≠ 24 → k ≠ 25 → N 0 k = M 0 k) (h4 : ∀ t, t < nT M → N 4 t = 111 ∨ N 4 t = 119 ∨ N 4 t = 114 ∨ N 4 t = 100) (h5 : ∀ k, k < nE M → N 5 k = 110 ∨ N 5 k = 97 ∨ N 5 k = 98 ∨ N 5 k = 99 ∨ N 5 k = 120) (hb : ∀ k, k < nE M → billed N k = billed M k) (h99 : ∀ k, k < nE M → (N 5 k = 99 ↔ M 5 k = 99)) : IV N := by
  have eT : nT N = nT M := nT_0 (e0 _ (by decide) (by decide))
  have eE : nE N = nE M := nE_0 (e0 _ (by decide) (by decide))
  have eV : nV N = nV M := nV_0 (e0 _ (by decide) (by decide))
  have a1 : N 1 = M 1 := hN 1 (by decide) (by decide) (by decide) (by decide) (by decide) (by decide)
  have a3 : N 3 = M 3 := hN 3 (by decide) (by decide) (by decide) (by decide) (by decide) (by decide)
  have a6 : N 6 = M 6 := hN 6 (by decide) (by decide) (by decide) (by decide) (by decide) (by decide)
  have a7 : N 7 = M 7 := hN 7 (by decide) (by decide) (by decide) (by decide) (by decide) (by decide)
  have a9 : N 9 = M 9 := hN 9 (by decide) (by decide) (by decide) (by decide) (by decide) (by decide)
  have a10 : N 10 = M 10 := hN 10 (by decide) (by decide) (by decide) (by decide) (by decide) (by decide)
  have a11 : N 11 = M 11 := hN 11 (by decide) (by decide) (by decide) (by decide) (by decide) (by decide)
  have a12 : N 12 = M 12 := hN 12 (by decide) (by decide) (by decide) (by decide) (by decide) (by decide)
  have a13 : N 13 = M 13 := hN 13 (by decide) (by decide) (by decide) (by decide) (by decide) (by decide)
  have a14 : N 14 = M 14 := hN 14 (by decide) (by decide) (by decide) (by decide) (by decide) (by decide)
  have a16 : N 16 = M 16 := hN 16 (by decide) (by decide) (by decide) (by decide) (by decide) (by decide)
  have a17 : N 17 = M 17 := hN 17 (by decide) (by decide) (by decide) (by decide) (by decide) (by decide)
  have a18 : N 18 = M 18 := hN 18 (by decide) (by decide) (by decide) (by decide) (by decide) (by decide)
  have a19 : N 19 = M 19 := hN 19 (by decide) (by decide) (by decide) (by decide) (by decide) (by decide)
  have a20 : N 20 = M 20 := hN 20 (by decide) (by decide) (by decide) (by decide) (by decide) (by decide)
  have a21 : N 21 = M 21 := hN 21 (by decide) (by decide) (by decide) (by decide) (by decide) (by decide)
  have a22 : N 22 = M 22 := hN 22 (by decide) (by decide) (by decide) (by decide) (by decide) (by decide)
  have a23 : N 23 = M 23 := hN 23 (by decide) (by decide) (by decide) (by decide) (by decide) (by decide)
  have z19 := e0 19 (by decide) (by decide)
  have z21 := e0 21 (by decide) (by decide)
  have z22 := e0 22 (by decide) (by decide)
  have w1 : W1 N := ⟨by rw [eT]; exact h4, by rw [eE]; exact h5, fun k hk hbk => by rw [eE] at hk; rw [hb k hk] at hbk; rw [eV, a14]; exact h.w1.2.2 k hk hbk⟩
  have t1 : IT N := by
    intro v hv
    rw [eV] at hv
    rw [recT_cg eE hb (fun k _ => by rw [a10]) (fun k _ => by rw [a12]) (fun k _ => by rw [a14]) (fun k _ => by rw [a20]) (by rw [a22]) (by rw [a23]), eE, crP_cg hb (fun k _ => by rw [a14]) (fun k _ => by rw [a13]) h99, itC_cg hb (fun k _ => by rw [a14]), a16, a17, a18]
    exact h.t v hv
  exact ⟨⟨h.w.w z19 z21 z22 a1 a9 a11 a10 a6 a7, w1⟩, ⟨h.m.cg a6 a19, h.z.cg eT a6, h.l.cg (e0 27 (by decide) (by decide)) a7⟩, ⟨h.h.cg eE a12, h.b.cg eT eE a1 a3 a9 a12⟩, ⟨h.q.cg eT eE eV a16 a17 a18 a13 a19, t1, h.c.cg eE a10 a11 a12 hb (e0 26 (by decide) (by decide)) (e0 23 (by decide) (by decide))⟩, h.d.elim (fun c hc => ⟨c, hc.1, by rw [e0 20 (by decide) (by decide)]; exact hc.2⟩)⟩
end
