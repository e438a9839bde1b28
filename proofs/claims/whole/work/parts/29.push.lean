/-! the class's picture under additions -/
theorem LX.mono {ac : Nat → ClassId} {dE q d n : Nat} {f : Nat → Nat} {G G2 : TG} (hL : LX ac dE q d n f G) (h : ∀ a e, G a = some e → G2 a = some e) : LX ac dE q d n f G2 := by
  obtain ⟨⟨mc, hq⟩, hd⟩ := hL
  refine ⟨⟨mc, h _ _ hq⟩, ?_⟩
  rcases hd with hd | ⟨cap, g, hd, h3⟩
  · exact Or.inl hd
  · exact Or.inr ⟨cap, g, h _ _ hd, h3⟩
theorem PX.mono {ac : Nat → ClassId} {dE h0 : Nat} {α : Nat → Nat → Nat} {M : TS} {nv : Nat} {G G2 : TG} (hP : PX ac dE h0 α M nv G) (h : ∀ a e, G a = some e → G2 a = some e) : PX ac dE h0 α M nv G2 :=
  hP.gen rfl rfl rfl (fun _ _ _ _ hl => hl.mono h) (h _ _ hP.h) (h _ _ hP.ru) (h _ _ hP.ra) (fun i hi => h _ _ (hP.t hi)) (fun k hk => h _ _ (hP.e hk)) (fun v hv => ⟨h _ _ (hP.v hv), h _ _ (hP.vr hv), (hP.va hv).elim (fun f hf => ⟨f, h _ _ hf.1, hf.2⟩)⟩)
theorem fresh_mono {G : TG} {d : Nat} {y : Option va_E} (hd : G d = none) (a : Nat) (e : va_E) (h : G a = some e) : va_up G d y a = some e := by
  rw [va_up_ne _ _ (fun z => by rw [z, hd] at h; cases h)]
  exact h
theorem LX.sh {ac : Nat → ClassId} {dE q d n : Nat} {f : Nat → Nat} {G : TG} (hL : LX ac dE q d n f G) : (∃ fs, G q = some (.inr (2, fs))) ∧ (0 < n → ∃ cap g, G d = some (.inl (ac 3, cap, .inr (.inr (.inr (.inr g)))))) := by
  obtain ⟨⟨mc, hq⟩, hd⟩ := hL
  refine ⟨⟨_, hq⟩, fun h0 => ?_⟩
  rcases hd with hd | ⟨cap, g, hd, h3⟩
  · omega
  · exact ⟨cap, g, hd⟩
section KP
variable {ac : Nat → ClassId} {dE q d n d' : Nat} {f : Nat → Nat} {G G9 : TG}
theorem kp_O (hL : LX ac dE q d n f G) (h2 : ∀ a e, G a = some e → a ≠ q → a ≠ d' → G9 a = some e) (h3 : (d' = d ∧ 0 < n) ∨ G d' = none) {a ci : Nat} {fs : List Value} (ha : G a = some (.inr (ci, fs))) (hc : ci ≠ 2) : G9 a = some (.inr (ci, fs)) := by
  obtain ⟨⟨qf, hq⟩, hd⟩ := hL.sh
  refine h2 _ _ ha (gneR ha hq hc) ?_
  rcases h3 with ⟨rfl, h0⟩ | h3
  · obtain ⟨cap, g, hg⟩ := hd h0
    exact gneL ha hg
  · exact fun z => by rw [z, h3] at ha; cases ha
theorem kp_I (hL : LX ac dE q d n f G) (h2 : ∀ a e, G a = some e → a ≠ q → a ≠ d' → G9 a = some e) (h3 : (d' = d ∧ 0 < n) ∨ G d' = none) {a : Nat} {c : ClassId} {m : Nat} {f0 : Nat → Int32} (ha : G a = some (.inl (c, m, .inl f0))) : G9 a = some (.inl (c, m, .inl f0)) := by
  obtain ⟨⟨qf, hq⟩, hd⟩ := hL.sh
  refine h2 _ _ ha (Ne.symm (gneL hq ha)) ?_
  rcases h3 with ⟨rfl, h0⟩ | h3
  · obtain ⟨cap, g, hg⟩ := hd h0
    exact gneA ha hg
  · exact fun z => by rw [z, h3] at ha; cases ha
theorem kp_L (hL : LX ac dE q d n f G) (h2 : ∀ a e, G a = some e → a ≠ q → a ≠ d' → G9 a = some e) (h3 : (d' = d ∧ 0 < n) ∨ G d' = none) {q2 d2 n2 : Nat} {f2 : Nat → Nat} (hL2 : LX ac dE q2 d2 n2 f2 G) (hqq : q2 ≠ q) (hdd : 0 < n → 0 < n2 → d ≠ d2) : LX ac dE q2 d2 n2 f2 G9 := by
  obtain ⟨⟨qf, hq⟩, hd⟩ := hL.sh
  obtain ⟨⟨mc, hq2⟩, hd2⟩ := hL2
  refine ⟨⟨mc, h2 _ _ hq2 hqq ?_⟩, ?_⟩
  · rcases h3 with ⟨rfl, h0⟩ | h3
    · obtain ⟨cap, g, hg⟩ := hd h0
      exact gneL hq2 hg
    · exact fun z => by rw [z, h3] at hq2; cases hq2
  · rcases hd2 with hd2 | ⟨cap, g, hg, h4⟩
    · exact Or.inl hd2
    · refine Or.inr ⟨cap, g, h2 _ _ hg (Ne.symm (gneL hq hg)) ?_, h4⟩
      rcases h3 with ⟨rfl, h0⟩ | h3
      · exact Ne.symm (hdd h0 h4.2.2.2)
      · exact fun z => by rw [z, h3] at hg; cases hg
end KP
/-- a new task -/
def aT (α : Nat → Nat → Nat) (n x d' : Nat) : Nat → Nat → Nat := va_up (va_up α 1 (va_up (α 1) n x)) 0 (va_up (α 0) 5 d')
def nTask (M : TS) (p es bu : Int32) : TS := st (st (st (st (st M 1 (nT M) p) 2 (nT M) es) 3 (nT M) bu) 4 (nT M) 111) 0 19 (nI (nT M) + 1)
theorem PX.addT {ac : Nat → ClassId} {dE h0 : Nat} {α : Nat → Nat → Nat} {M : TS} {nv : Nat} {G G9 : TG} (hP : PX ac dE h0 α M nv G) (hW : W0 M) {x : Nat} (hA : AdP ac dE G G9 (α 0 0) (α 0 5) (nT M) (α 1) x) {p es bu : Int32} {par : Option Nat} (hx : G x = some (.inr (6, [.int (nI (nT M)), va_rf par, .int es, .int bu, .int 111, .int 0]))) (hxf : ∀ i, i < nT M → α 1 i ≠ x) (hn : nT M ≤ 15) (hpar : (p < 0 ∧ par = none) ∨ ∃ q, q < nT M ∧ p = nI q ∧ par = some (α 1 q)) (h19 : M 19 (nT M) = 0) : ∃ α9 : Nat → Nat → Nat, PX ac dE h0 α9 (nTask M p es bu) nv G9 := by
  obtain ⟨d', hL, h2, h3⟩ := hA
  have bE := hW.e.2
  have bV := hW.v.2
  have hpr : ∀ i, i < nT M → parR (aT α (nT M) x d') (nTask M p es bu) i = parR α M i := by
    intro i hi
    have e1 : nTask M p es bu 1 i = M 1 i := st_nei (f := 1) M p (show i ≠ nT M by omega)
    rcases hW.p i hi with h | ⟨q, hq, e⟩
    · rw [parR_n h, parR_n (by rw [e1]; exact h)]
    · rw [parR_s (by omega) e, parR_s (q := q) (by omega) (by rw [e1]; exact e)]
      show some (va_up (α 1) (nT M) x q) = _
      rw [va_up_ne _ _ (by omega)]
  have hT : nT (nTask M p es bu) = nT M + 1 := by
    show (st _ 0 19 (nI (nT M) + 1) 0 19).toNatClampNeg = _
    rw [st_self, nI_1, nI_clamp (by omega)]
  have s0 : ∀ j, j ≠ 19 → nTask M p es bu 0 j = M 0 j := fun j hj => st_nei (f := 0) _ _ hj
  have hE : nE (nTask M p es bu) = nE M := by unfold nE; rw [s0 _ (by decide)]
  have hV : nV (nTask M p es bu) = nV M := by unfold nV; rw [s0 _ (by decide)]
  have a0 : ∀ j, j ≠ 5 → aT α (nT M) x d' 0 j = α 0 j := fun j hj => va_up_ne _ _ hj
  have kO : ∀ {a ci : Nat} {fs : List Value}, G a = some (.inr (ci, fs)) → ci ≠ 2 → G9 a = some (.inr (ci, fs)) := fun ha hc => kp_O hP.lt h2 h3 ha hc
  refine ⟨aT α (nT M) x d', ?_⟩
  have hj := hP.2.2.2.2.2.1
  have hz := hP.2.2.2.2.2.2
  have dd : ∀ j n2, (0 < nT M → 0 < n2 → α 0 5 ≠ α 0 j) → (0 < n2 → ∃ e, G (α 0 j) = some e) → 0 < nT M + 1 → 0 < n2 → d' ≠ α 0 j := by
    intro j n2 h4 h5 _ h6
    rcases h3 with ⟨rfl, h0⟩ | h3
    · exact h4 h0 h6
    · obtain ⟨e, he⟩ := h5 h6
      exact fun z => by rw [z, he] at h3; cases h3
  unfold PX
  rw [hT, hE, hV]
  refine ⟨⟨?_, ?_, ?_, ?_⟩, ⟨?_, ?_⟩, fun i hi => ?_, fun k hk => ?_, fun v hv => ⟨?_, ?_, ?_⟩, ⟨fun i j hi hj2 e => ?_, hj.2.1, hj.2.2⟩, hz.1, ?_⟩
  · rw [kO hP.h (by decide), hF, hF, a0 _ (by decide), a0 _ (by decide), a0 _ (by decide), a0 _ (by decide), s0 _ (by decide), s0 _ (by decide), s0 _ (by decide)]
  · exact hL
  · exact kp_L hP.lt h2 h3 hP.le (Ne.symm hz.1.2.2.1) hz.2.1
  · exact kp_L hP.lt h2 h3 hP.lv (Ne.symm hz.1.2.2.2.1) hz.2.2.1
  · rw [a0 _ (by decide), a0 _ (by decide), kO hP.ru (by decide), s0 _ (by decide), s0 _ (by decide), s0 _ (by decide)]
  · rw [a0 _ (by decide), kp_I hP.lt h2 h3 hP.ra]
    rfl
  · show G9 (va_up (α 1) (nT M) x i) = _
    by_cases c : i = nT M
    · subst c
      rw [va_up_self, kO hx (by decide)]
      have e1 : nTask M p es bu 1 (nT M) = p := st_self (f := 1) M _ _
      have hp2 : parR (aT α (nT M) x d') (nTask M p es bu) (nT M) = par := by
        rcases hpar with ⟨h4, rfl⟩ | ⟨q, hq, rfl, rfl⟩
        · exact parR_n (by rw [e1]; exact h4)
        · rw [parR_s (by omega) e1]
          show some (va_up (α 1) (nT M) x q) = _
          rw [va_up_ne _ _ (by omega)]
      rw [tF, hp2, show nTask M p es bu 2 (nT M) = es from st_self (f := 2) (st M 1 (nT M) p) _ _, show nTask M p es bu 3 (nT M) = bu from st_self (f := 3) (st (st M 1 (nT M) p) 2 (nT M) es) _ _, show nTask M p es bu 4 (nT M) = 111 from st_self (f := 4) (st (st (st M 1 (nT M) p) 2 (nT M) es) 3 (nT M) bu) _ _, show nTask M p es bu 19 (nT M) = 0 from h19]
    · have hi2 : i < nT M := by omega
      rw [va_up_ne _ _ c, kO (hP.t hi2) (by decide), tF, tF, hpr i hi2, show nTask M p es bu 2 i = M 2 i from st_nei (f := 2) (st M 1 (nT M) p) _ c, show nTask M p es bu 3 i = M 3 i from st_nei (f := 3) (st (st M 1 (nT M) p) 2 (nT M) es) _ c, show nTask M p es bu 4 i = M 4 i from st_nei (f := 4) (st (st (st M 1 (nT M) p) 2 (nT M) es) 3 (nT M) bu) _ c, show nTask M p es bu 19 i = M 19 i from rfl]
  · rw [show aT α (nT M) x d' 2 k = α 2 k from rfl, kO (hP.e hk) (by decide)]
    obtain ⟨t, ht, e⟩ := hW.et hk
    rw [eF, eF, show (nTask M p es bu) 9 k = M 9 k from rfl, e, show tn (nI t) = t from nI_clamp (by omega), show aT α (nT M) x d' 1 t = α 1 t from va_up_ne _ _ (show t ≠ nT M by omega)]
    rfl
  · exact kO (hP.v hv) (by decide)
  · exact kO (hP.vr hv) (by decide)
  · obtain ⟨f, hf, hf2⟩ := hP.va hv
    exact ⟨f, kp_I hP.lt h2 h3 hf, hf2⟩
  · have e2 : va_up (α 1) (nT M) x i = va_up (α 1) (nT M) x j := e
    by_cases c1 : i = nT M
    · by_cases c2 : j = nT M
      · omega
      · rw [c1, va_up_self, va_up_ne _ _ c2] at e2
        exact absurd e2.symm (hxf j (by omega))
    · by_cases c2 : j = nT M
      · rw [c2, va_up_self, va_up_ne _ _ c1] at e2
        exact absurd e2 (hxf i (by omega))
      · rw [va_up_ne _ _ c1, va_up_ne _ _ c2] at e2
        exact hP.jt (by omega) (by omega) e2
  · refine ⟨?_, ?_, hz.2.2.2⟩
    · exact dd 6 _ hz.2.1 (fun h6 => (hP.le.sh.2 h6).elim (fun cap hc => hc.elim (fun g hg => ⟨_, hg⟩)))
    · exact dd 7 _ hz.2.2.1 (fun h6 => (hP.lv.sh.2 h6).elim (fun cap hc => hc.elim (fun g hg => ⟨_, hg⟩)))
