/-- a new entry -/
def aE (α : Nat → Nat → Nat) (n x d' : Nat) : Nat → Nat → Nat := va_up (va_up α 2 (va_up (α 2) n x)) 0 (va_up (α 0) 6 d')
def nEntr (M : TS) (x p w h : Int32) : TS := st (st (st (st (st (st M 9 (nE M) x) 10 (nE M) p) 11 (nE M) w) 12 (nE M) h) 5 (nE M) 110) 0 21 (nI (nE M) + 1)
theorem PX.addE {ac : Nat → ClassId} {dE h0 : Nat} {α : Nat → Nat → Nat} {M : TS} {nv : Nat} {G G9 : TG} (hP : PX ac dE h0 α M nv G) (hW : W0 M) {x : Nat} (hA : AdP ac dE G G9 (α 0 1) (α 0 6) (nE M) (α 2) x) {t : Nat} {p w h : Int32} (hx : G x = some (.inr (3, [.ref (α 1 t), .int p, .int w, .int h, .int 110, .int 0, .null]))) (hxf : ∀ i, i < nE M → α 2 i ≠ x) (hn : nE M ≤ 59) (ht : t < nT M) (h13 : M 13 (nE M) = 0) : ∃ α9 : Nat → Nat → Nat, PX ac dE h0 α9 (nEntr M (nI t) p w h) nv G9 := by
  obtain ⟨d', hL, h2, h3⟩ := hA
  have bT := hW.t.2
  have bV := hW.v.2
  have hE : nE (nEntr M (nI t) p w h) = nE M + 1 := by
    show (st _ 0 21 (nI (nE M) + 1) 0 21).toNatClampNeg = _
    rw [st_self, nI_1, nI_clamp (by omega)]
  have s0 : ∀ j, j ≠ 21 → nEntr M (nI t) p w h 0 j = M 0 j := fun j hj => st_nei (f := 0) _ _ hj
  have hT : nT (nEntr M (nI t) p w h) = nT M := by unfold nT; rw [s0 _ (by decide)]
  have hV : nV (nEntr M (nI t) p w h) = nV M := by unfold nV; rw [s0 _ (by decide)]
  have a0 : ∀ j, j ≠ 6 → aE α (nE M) x d' 0 j = α 0 j := fun j hj => va_up_ne _ _ hj
  have kO : ∀ {a ci : Nat} {fs : List Value}, G a = some (.inr (ci, fs)) → ci ≠ 2 → G9 a = some (.inr (ci, fs)) := fun ha hc => kp_O hP.le h2 h3 ha hc
  refine ⟨aE α (nE M) x d', ?_⟩
  have hj := hP.2.2.2.2.2.1
  have hz := hP.2.2.2.2.2.2
  have dd : ∀ j n2, (0 < nE M → 0 < n2 → α 0 6 ≠ α 0 j) → (0 < n2 → ∃ e, G (α 0 j) = some e) → 0 < n2 → d' ≠ α 0 j := by
    intro j n2 h4 h5 h6
    rcases h3 with ⟨rfl, h0⟩ | h3
    · exact h4 h0 h6
    · obtain ⟨e, he⟩ := h5 h6
      exact fun z => by rw [z, he] at h3; cases h3
  unfold PX
  rw [hT, hE, hV]
  refine ⟨⟨?_, ?_, ?_, ?_⟩, ⟨?_, ?_⟩, fun i hi => ?_, fun k hk => ?_, fun v hv => ⟨?_, ?_, ?_⟩, ⟨hj.1, fun i j hi hj2 e => ?_, hj.2.2⟩, hz.1, ?_⟩
  · rw [kO hP.h (by decide), hF, hF, a0 _ (by decide), a0 _ (by decide), a0 _ (by decide), a0 _ (by decide), s0 _ (by decide), s0 _ (by decide), s0 _ (by decide)]
  · exact kp_L hP.le h2 h3 hP.lt hz.1.2.2.1 (fun a b => Ne.symm (hz.2.1 b a))
  · exact hL
  · exact kp_L hP.le h2 h3 hP.lv (Ne.symm hz.1.2.2.2.2) hz.2.2.2
  · rw [a0 _ (by decide), a0 _ (by decide), kO hP.ru (by decide), s0 _ (by decide), s0 _ (by decide), s0 _ (by decide)]
  · rw [a0 _ (by decide), kp_I hP.le h2 h3 hP.ra]
    rfl
  · exact kO (hP.t hi) (by decide)
  · show G9 (va_up (α 2) (nE M) x k) = _
    by_cases c : k = nE M
    · subst c
      rw [va_up_self, kO hx (by decide)]
      have e5 : nEntr M (nI t) p w h 5 (nE M) = 110 := st_self (f := 5) (st (st (st (st M 9 (nE M) (nI t)) 10 (nE M) p) 11 (nE M) w) 12 (nE M) h) _ _
      have hb : invR (aE α (nE M) x d') (nEntr M (nI t) p w h) (nE M) = none := invR_n (by rw [billed, e5]; decide)
      rw [eF, hb, e5, show nEntr M (nI t) p w h 9 (nE M) = nI t from st_self (f := 9) M _ _, show tn (nI t) = t from nI_clamp (by omega), show nEntr M (nI t) p w h 10 (nE M) = p from st_self (f := 10) (st M 9 (nE M) (nI t)) _ _, show nEntr M (nI t) p w h 11 (nE M) = w from st_self (f := 11) (st (st M 9 (nE M) (nI t)) 10 (nE M) p) _ _, show nEntr M (nI t) p w h 12 (nE M) = h from st_self (f := 12) (st (st (st M 9 (nE M) (nI t)) 10 (nE M) p) 11 (nE M) w) _ _, show nEntr M (nI t) p w h 13 (nE M) = 0 from h13]
      rfl
    · have hk2 : k < nE M := by omega
      have e5 : nEntr M (nI t) p w h 5 k = M 5 k := st_nei (f := 5) (st (st (st (st M 9 (nE M) (nI t)) 10 (nE M) p) 11 (nE M) w) 12 (nE M) h) _ c
      have hb : invR (aE α (nE M) x d') (nEntr M (nI t) p w h) k = invR α M k := by
        unfold invR
        rw [bil_cg e5]
        rfl
      rw [va_up_ne _ _ c, kO (hP.e hk2) (by decide), eF, eF, hb, e5, show nEntr M (nI t) p w h 9 k = M 9 k from st_nei (f := 9) M _ c, show nEntr M (nI t) p w h 10 k = M 10 k from st_nei (f := 10) (st M 9 (nE M) (nI t)) _ c, show nEntr M (nI t) p w h 11 k = M 11 k from st_nei (f := 11) (st (st M 9 (nE M) (nI t)) 10 (nE M) p) _ c, show nEntr M (nI t) p w h 12 k = M 12 k from st_nei (f := 12) (st (st (st M 9 (nE M) (nI t)) 10 (nE M) p) 11 (nE M) w) _ c]
      rfl
  · exact kO (hP.v hv) (by decide)
  · exact kO (hP.vr hv) (by decide)
  · obtain ⟨f, hf, hf2⟩ := hP.va hv
    exact ⟨f, kp_I hP.le h2 h3 hf, hf2⟩
  · have e2 : va_up (α 2) (nE M) x i = va_up (α 2) (nE M) x j := e
    by_cases c1 : i = nE M
    · by_cases c2 : j = nE M
      · omega
      · rw [c1, va_up_self, va_up_ne _ _ c2] at e2
        exact absurd e2.symm (hxf j (by omega))
    · by_cases c2 : j = nE M
      · rw [c2, va_up_self, va_up_ne _ _ c1] at e2
        exact absurd e2 (hxf i (by omega))
      · rw [va_up_ne _ _ c1, va_up_ne _ _ c2] at e2
        exact hP.je (by omega) (by omega) e2
  · refine ⟨fun a _ => ?_, hz.2.2.1, fun _ b => ?_⟩
    · exact Ne.symm (dd 5 _ (fun a b => Ne.symm (hz.2.1 b a)) (fun h6 => (hP.lt.sh.2 h6).elim (fun cap hc => hc.elim (fun g hg => ⟨_, hg⟩))) a)
    · exact dd 7 _ hz.2.2.2 (fun h6 => (hP.lv.sh.2 h6).elim (fun cap hc => hc.elim (fun g hg => ⟨_, hg⟩))) b
/-- a new invoice, not yet in the list -/
def aV (α : Nat → Nat → Nat) (n x y z : Nat) : Nat → Nat → Nat := va_up (va_up (va_up α 3 (va_up (α 3) n x)) 4 (va_up (α 4) n y)) 5 (va_up (α 5) n z)
theorem PX.newV {ac : Nat → ClassId} {dE h0 : Nat} {α : Nat → Nat → Nat} {M : TS} {G : TG} (hP : PX ac dE h0 α M (nV M) G) (hB : WB M (nV M)) {x y z : Nat} {f : Nat → Int32} (hx : G x = some (.inr (4, [.int (nI (nV M)), .ref y, .int 0, .int 0]))) (hy : G y = some (.inr (5, rF z (M 0 23) (M 0 24) (M 0 25)))) (hz : G z = some (.inl (ac 1, 4, .inl (M 15)))) (hxf : ∀ i, i < nV M → α 3 i ≠ x) (hyf : α 0 3 ≠ y) (hzf : α 0 4 ≠ z) (h16 : M 16 (nV M) = 0) (h17 : M 17 (nV M) = 0) : PX ac dE h0 (aV α (nV M) x y z) (ruleS M (nV M)) (nV M + 1) G := by
  have hT : nT (ruleS M (nV M)) = nT M := rfl
  have hE : nE (ruleS M (nV M)) = nE M := rfl
  have hV : nV (ruleS M (nV M)) = nV M := rfl
  have hj := hP.2.2.2.2.2.1
  have hzz := hP.2.2.2.2.2.2
  have s20 : ∀ j, ruleS M (nV M) 20 j = if j / 4 = nV M then M 15 (j % 4) else M 20 j := fun j => by
    unfold ruleS
    rw [va_up_self]
  have s21 : ruleS M (nV M) 21 = upd (M 21) (nV M) (M 0 23) := rfl
  have s22 : ruleS M (nV M) 22 = upd (M 22) (nV M) (M 0 24) := rfl
  have s23 : ruleS M (nV M) 23 = upd (M 23) (nV M) (M 0 25) := rfl
  have a3 : aV α (nV M) x y z 3 = va_up (α 3) (nV M) x := rfl
  have a4 : aV α (nV M) x y z 4 = va_up (α 4) (nV M) y := rfl
  have a5 : aV α (nV M) x y z 5 = va_up (α 5) (nV M) z := rfl
  have hLv : LX ac dE (α 0 2) (α 0 7) (nV M) (va_up (α 3) (nV M) x) G := by
    obtain ⟨hq, hd⟩ := hP.lv
    refine ⟨hq, ?_⟩
    rcases hd with hd | ⟨cap, g, hd, hg, h5⟩
    · exact Or.inl hd
    · exact Or.inr ⟨cap, g, hd, fun i hi => by rw [hg i hi, va_up_ne _ _ (by omega)], h5⟩
  unfold PX
  rw [hT, hE, hV, a3, a4, a5]
  refine ⟨⟨hP.h, hP.lt, hP.le, hLv⟩, hP.2.1, fun i hi => hP.t hi, fun k hk => ?_, fun v hv => ⟨?_, ?_, ?_⟩, ⟨hj.1, hj.2.1, fun i j hi hj2 e => ?_⟩, ⟨fun v hv => ?_, fun v hv => ?_, hzz.1.2.2⟩, hzz.2⟩
  · show G (α 2 k) = _
    rw [hP.e hk]
    have hi : invR (aV α (nV M) x y z) (ruleS M (nV M)) k = invR α M k := by
      unfold invR
      rcases tk_bool (billed M k) with hb | hb
      · rw [if_neg (show ¬ billed (ruleS M (nV M)) k = true from by show ¬ billed M k = true; rw [hb]; decide), if_neg (show ¬ billed M k = true from by rw [hb]; decide)]
      · obtain ⟨v, hv, e⟩ := hB.2 k hk hb
        have hz1 := hB.1
        rw [if_pos hb, if_pos (show billed (ruleS M (nV M)) k = true from hb), show (ruleS M (nV M)) 14 k = M 14 k from rfl, e, show tn (nI v) = v from nI_clamp (by omega), a3, va_up_ne _ _ (by omega)]
    rw [eF, eF, hi]
    rfl
  · by_cases c : v = nV M
    · subst c
      rw [va_up_self, hx, vF, a4, va_up_self, show ruleS M (nV M) 16 (nV M) = 0 from h16, show ruleS M (nV M) 17 (nV M) = 0 from h17]
    · rw [va_up_ne _ _ c, hP.v (by omega), vF, vF, a4, va_up_ne _ _ c]
      rfl
  · by_cases c : v = nV M
    · subst c
      rw [va_up_self, va_up_self, hy, s21, s22, s23]
      simp [upd]
    · rw [va_up_ne _ _ c, va_up_ne _ _ c, hP.vr (by omega), s21, s22, s23]
      simp [upd, c]
  · by_cases c : v = nV M
    · subst c
      rw [va_up_self]
      exact ⟨_, hz, fun j hj => by rw [s20, if_pos (by omega), show (4 * nV M + j) % 4 = j from by omega]⟩
    · rw [va_up_ne _ _ c]
      obtain ⟨f1, hf1, hf2⟩ := hP.va (show v < nV M by omega)
      exact ⟨f1, hf1, fun j hj => by rw [s20, if_neg (by omega)]; exact hf2 j hj⟩
  · by_cases c1 : i = nV M
    · by_cases c2 : j = nV M
      · omega
      · rw [c1, va_up_self, va_up_ne _ _ c2] at e
        exact absurd e.symm (hxf j (by omega))
    · by_cases c2 : j = nV M
      · rw [c2, va_up_self, va_up_ne _ _ c1] at e
        exact absurd e (hxf i (by omega))
      · rw [va_up_ne _ _ c1, va_up_ne _ _ c2] at e
        exact hP.jv (by omega) (by omega) e
  · show α 0 3 ≠ _
    by_cases c : v = nV M
    · rw [c, va_up_self]; exact hyf
    · rw [va_up_ne _ _ c]; exact hzz.1.1 v (by omega)
  · show α 0 4 ≠ _
    by_cases c : v = nV M
    · rw [c, va_up_self]; exact hzf
    · rw [va_up_ne _ _ c]; exact hzz.1.2.1 v (by omega)
/-- the new invoice comes into the list -/
theorem PX.addV {ac : Nat → ClassId} {dE h0 : Nat} {α : Nat → Nat → Nat} {M : TS} {G G9 : TG} (hP : PX ac dE h0 α M (nV M + 1) G) (hn : nV M ≤ 19) (hA : AdP ac dE G G9 (α 0 2) (α 0 7) (nV M) (α 3) (α 3 (nV M))) : ∃ α9 : Nat → Nat → Nat, PX ac dE h0 α9 (st M 0 22 (nI (nV M) + 1)) (nV M + 1) G9 := by
  obtain ⟨d', hL, h2, h3⟩ := hA
  have hV : nV (st M 0 22 (nI (nV M) + 1)) = nV M + 1 := by
    show (st M 0 22 (nI (nV M) + 1) 0 22).toNatClampNeg = _
    rw [st_self, nI_1, nI_clamp (by omega)]
  have s0 : ∀ j, j ≠ 22 → st M 0 22 (nI (nV M) + 1) 0 j = M 0 j := fun j hj => st_nei (f := 0) _ _ hj
  have hT : nT (st M 0 22 (nI (nV M) + 1)) = nT M := by unfold nT; rw [s0 _ (by decide)]
  have hE : nE (st M 0 22 (nI (nV M) + 1)) = nE M := by unfold nE; rw [s0 _ (by decide)]
  have a0 : ∀ j, j ≠ 7 → va_up α 0 (va_up (α 0) 7 d') 0 j = α 0 j := fun j hj => va_up_ne _ _ hj
  have kO : ∀ {a ci : Nat} {fs : List Value}, G a = some (.inr (ci, fs)) → ci ≠ 2 → G9 a = some (.inr (ci, fs)) := fun ha hc => kp_O hP.lv h2 h3 ha hc
  refine ⟨va_up α 0 (va_up (α 0) 7 d'), ?_⟩
  have hj := hP.2.2.2.2.2.1
  have hz := hP.2.2.2.2.2.2
  have dd : ∀ j n2, (0 < nV M → 0 < n2 → α 0 7 ≠ α 0 j) → (0 < n2 → ∃ e, G (α 0 j) = some e) → 0 < n2 → d' ≠ α 0 j := by
    intro j n2 h4 h5 h6
    rcases h3 with ⟨rfl, h0⟩ | h3
    · exact h4 h0 h6
    · obtain ⟨e, he⟩ := h5 h6
      exact fun z => by rw [z, he] at h3; cases h3
  have hself : va_up (α 3) (nV M) (α 3 (nV M)) = α 3 := by
    funext i
    by_cases c : i = nV M
    · rw [c, va_up_self]
    · rw [va_up_ne _ _ c]
  rw [hself] at hL
  unfold PX
  rw [hT, hE, hV]
  refine ⟨⟨?_, ?_, ?_, hL⟩, ⟨?_, ?_⟩, fun i hi => ?_, fun k hk => ?_, fun v hv => ⟨?_, ?_, ?_⟩, hj, hz.1, ?_⟩
  · rw [kO hP.h (by decide), hF, hF, a0 _ (by decide), a0 _ (by decide), a0 _ (by decide), a0 _ (by decide), s0 _ (by decide), s0 _ (by decide), s0 _ (by decide)]
  · exact kp_L hP.lv h2 h3 hP.lt hz.1.2.2.2.1 (fun a b => Ne.symm (hz.2.2.1 b a))
  · exact kp_L hP.lv h2 h3 hP.le hz.1.2.2.2.2 (fun a b => Ne.symm (hz.2.2.2 b a))
  · rw [a0 _ (by decide), a0 _ (by decide), kO hP.ru (by decide), s0 _ (by decide), s0 _ (by decide), s0 _ (by decide)]
  · rw [a0 _ (by decide), kp_I hP.lv h2 h3 hP.ra]
    rfl
  · exact kO (hP.t hi) (by decide)
  · exact kO (hP.e hk) (by decide)
  · exact kO (hP.v hv) (by decide)
  · exact kO (hP.vr hv) (by decide)
  · obtain ⟨f, hf, hf2⟩ := hP.va hv
    exact ⟨f, kp_I hP.lv h2 h3 hf, hf2⟩
  · refine ⟨hz.2.1, fun a _ => ?_, fun a _ => ?_⟩
    · exact Ne.symm (dd 5 _ (fun a b => Ne.symm (hz.2.2.1 b a)) (fun h6 => (hP.lt.sh.2 h6).elim (fun cap hc => hc.elim (fun g hg => ⟨_, hg⟩))) a)
    · exact Ne.symm (dd 6 _ (fun a b => Ne.symm (hz.2.2.2 b a)) (fun h6 => (hP.le.sh.2 h6).elim (fun cap hc => hc.elim (fun g hg => ⟨_, hg⟩))) a)
