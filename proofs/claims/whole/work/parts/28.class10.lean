/-! the class: weeks, rules, blocks -/
theorem W0.s7 {M : TS} (h : W0 M) {i : Nat} : W0 (st M 7 i 1) := ⟨h.1, h.2.1, h.2.2.1, h.2.2.2.1, h.2.2.2.2.1, h.2.2.2.2.2.1, h.2.2.2.2.2.2.1, h.2.2.2.2.2.2.2.1, fun j => by
  by_cases e : j = i
  · rw [e, st_self]; exact Or.inr rfl
  · rw [st_nei _ _ e]; exact h.lk j⟩
theorem W0.s6 {M : TS} (h : W0 M) {i : Nat} : W0 (st M 6 i 1) := ⟨h.1, h.2.1, h.2.2.1, h.2.2.2.1, h.2.2.2.2.1, h.2.2.2.2.2.1, h.2.2.2.2.2.2.1, fun j => by
  by_cases e : j = i
  · rw [e, st_self]; exact Or.inr rfl
  · rw [st_nei _ _ e]; exact h.b j, h.2.2.2.2.2.2.2.2⟩
set_option maxHeartbeats 4000000 in
set_option maxRecDepth 100000 in
theorem c_X4_lock (l : Launch) (hst : l.stackTraces = false) (A : Nat → Prop) (D : va_G) (ac : Nat → ClassId) (dE : Nat) (G : TG) {h0 : Nat} {α : Nat → Nat → Nat} {M : TS} {nv : Nat} (hP : PX ac dE h0 α M (nV M) G) (hW : W0 M) (w : Int32) : vx_Met l yX4_lock wsX4_lock ({ frames := 9, cells := 2, slots := 12, locals := 500 } : Room) (va_Pc [.ref h0, .int w] (tkX A D ac dE G)) (va_Qi (fun (z : Int32) (G9 : TG) => (K_lock M w).1 = 0 ∧ (∃ α9 : Nat → Nat → Nat, PX ac dE h0 α9 (K_lock M w).2.1 (nV (K_lock M w).2.1) G9) ∧ z = (K_lock M w).2.2) (fun (G9 : TG) t => tkM A D G9 t.heap) A) (XG (fun E => (E, (K_lock M w).1) ∈ ([("java/lang/IllegalArgumentException", 1), ("java/lang/IllegalStateException", 2)] : List (String × Int32)))) 2 12 A := by
  refine vx_ofW (cc := cX4_lock) (maxL := 2) (ret := (some .int)) (by decide) rfl ?_
  intro p e s m args below meth c s₁ B hml hno hv
  obtain ⟨rfl, ⟨hM, hK, hA, hF⟩, hO⟩ := hv
  have hS : va_S A s.heap s.heap [] := va_S.rf
  have hE : tkE s.heap s.heap := tkE.rf
  have hx := B.exec
  have hb := B.bytes
  have hr := B.returns
  have hts := atoms_spec (ws := wsX4_lock) B.pre
  have hown : s.vm.findClass RX4 = some m.cls := findClass_of_methodNamed B.named
  have hlocks := B.notSynchronized
  have S0 : CallFix p m c cX4_lock 2 s ([.ref h0, .int w] : List Value).toArray wsX4_lock RX4 := ⟨hx, hb, hml, hown, hts⟩
  have inX4 : ∀ w ∈ wsX40, w ∈ wsX4_lock := by decide +kernel
  have hl := lv_entry ([.ref h0, .int w]) (n := 2) (Nat.le_of_ble_eq_true rfl)
  rw [lg_entry_eq]
  generalize (lg_sl ([.ref h0, .int w]) ++ List.replicate (2 - (lg_sl ([.ref h0, .int w])).length) Slot.unset).toArray = ls at hl ⊢
  have hl : lv_has ls 2 [(0, .ref h0), (1, .int w)] := hl
  have bT := hW.t.2
  have bE := hW.e.2
  have bV := hW.v.2
  refine lv_iload_n hx hb dX4_lock_0 rfl (lv_at hl 1 rfl) ?_
  refine tk_xSv (As := [.int w]) S0 (c_X4_requireWeek l hst A D ac dE _ w) (va_cwS 1 hts gX4_lock_X4_requireWeek rfl rfl rfl (by decide +kernel) ⟨Nat.le_of_ble_eq_true rfl, Nat.le_of_ble_eq_true rfl⟩) (tkX.blind) (tkX.at hM hK hA hF hO hS) rfl hl.1 rfl (Nat.le_of_ble_eq_true rfl) dX4_lock_1 ⟨Nat.le_of_ble_eq_true rfl, Nat.le_of_ble_eq_true rfl⟩ hS hE hno hlocks ⟨Nat.le_of_ble_eq_true rfl, Nat.le_of_ble_eq_true rfl⟩ (fun E h9 => by obtain ⟨rfl, h9⟩ := h9; exact (xl (k := 1) (by rw [K_lock, if_pos h9]) (by decide +kernel))) (fun H locs hr_1 hq9 hE hS => ?_)
  have hM := hM.keptE hq9
  have hokw := hr_1
  have hokwc := hokw
  obtain ⟨wk, hwk, rfl⟩ := tkOk_ex (by decide) hokwc
  refine lv_aload_n hx hb dX4_lock_4 rfl (lv_at hl 0 rfl) ?_
  refine lv_iload_n hx hb dX4_lock_5 rfl (lv_at hl 1 rfl) ?_
  refine tk_cVi (As := [.int (nI wk)]) S0 (c_X4_isLocked l A D ac dE _ hP wk) (cwV 1 hts gX4_lock_X4_isLocked rfl rfl rfl (by decide +kernel) ⟨Nat.le_of_ble_eq_true rfl, Nat.le_of_ble_eq_true rfl⟩) (tkX.blind) (tkX.at hM hK hA hF hO hS) (tk_recv hK hM hP.h rfl) rfl hl.1 rfl (Nat.le_of_ble_eq_true rfl) dX4_lock_6 ⟨Nat.le_of_ble_eq_true rfl, Nat.le_of_ble_eq_true rfl⟩ (fun r_2 hr_2 => ?_)
  rcases hr_2 with ⟨rfl, hr_2⟩ | ⟨rfl, hr_2⟩
  · skip
    refine lv_if_eq (tgt := 22) hx hb dX4_lock_9 (by decide) (fun c_3 => absurd c_3 (by decide)) (fun c_3 => ?_)
    exact tk_th hst hx hb hown (by decide) (hts (.classLink RX4 66 "java/lang/IllegalStateException") (by decide +kernel)) (hts (.initialized "java/lang/IllegalStateException") (by decide +kernel)) (text := "the week is locked") (by decide) (by decide) (fun w hw => hts w (List.mem_cons_of_mem _ (List.mem_append_left _ (List.mem_append_right _ hw)))) ng_70 ot_70 hF hO hS hE (hl.1.trans hml.symm) hno hlocks dX4_lock_12 dX4_lock_15 dX4_lock_16 dX4_lock_18 dX4_lock_21 (Nat.le_of_ble_eq_true rfl) (Nat.le_of_ble_eq_true rfl) ⟨Nat.le_of_ble_eq_true rfl, Nat.le_of_ble_eq_true rfl⟩ ⟨Nat.le_of_ble_eq_true rfl, Nat.le_of_ble_eq_true rfl⟩ (xl (k := 2) (by rw [K_lock, show tn (nI wk) = wk from nI_clamp (show wk < 2 ^ 31 by omega), if_neg (by rw [hokw]; decide), if_pos hr_2]) (by decide +kernel))
  · skip
    refine lv_if_eq (tgt := 22) hx hb dX4_lock_9 (by decide) (fun c_4 => ?_) (fun c_4 => absurd (by decide) c_4)
    have hP := hP.st7 (i := wk) (v := 1)
    have hW := hW.s7 (i := wk)
    refine lv_aload_n hx hb dX4_lock_22 rfl (lv_at hl 0 rfl) ?_
    refine lv_dup hx hb dX4_lock_23 rfl ?_
    refine tk_get hx hb hts inX4 hown hK hM hP.h rfl 6 (by decide) (hts (.fieldLink RX4 44 "TicketForge" "lockedWeeks" "I") (by decide +kernel)) (fun _ h9 => h9) rfl dX4_lock_24 ?_
    refine lv_iconst (v := 1) hx hb dX4_lock_27 (by decide) ?_
    refine lv_iload_n hx hb dX4_lock_28 rfl (lv_at hl 1 rfl) ?_
    refine lv_ishl hx hb dX4_lock_29 ?_
    refine lv_ior hx hb dX4_lock_30 ?_
    refine tk_put (ty := .int) hx hb hts inX4 tyX4 tyX4_ok nmX4 hown hK hM hS hP.h rfl 6 (by decide) (hts (.fieldLink RX4 44 "TicketForge" "lockedWeeks" "I") (by decide +kernel)) (fun _ h9 => h9) rfl (by decide +kernel) rfl rfl (Nat.le_of_ble_eq_true rfl) dX4_lock_31 (fun H locs hM hS => ?_)
    have hP := hP.h6 (v := (((st M 7 wk 1) 0 27) ||| ((1 : Int32) <<< ((nI wk) &&& 31))))
    have hW := hW.of0 (k := 27) (v := (((st M 7 wk 1) 0 27) ||| ((1 : Int32) <<< ((nI wk) &&& 31)))) (by decide)
    have eT : nT (st (st M 7 wk 1) 0 27 (((st M 7 wk 1) 0 27) ||| ((1 : Int32) <<< ((nI wk) &&& 31)))) = nT (st M 7 wk 1) := rfl
    have eE : nE (st (st M 7 wk 1) 0 27 (((st M 7 wk 1) 0 27) ||| ((1 : Int32) <<< ((nI wk) &&& 31)))) = nE (st M 7 wk 1) := rfl
    have eV : nV (st (st M 7 wk 1) 0 27 (((st M 7 wk 1) 0 27) ||| ((1 : Int32) <<< ((nI wk) &&& 31)))) = nV (st M 7 wk 1) := rfl
    have bT := hW.t.2
    have bE := hW.e.2
    have bV := hW.v.2
    refine lv_aload_n hx hb dX4_lock_34 rfl (lv_at hl 0 rfl) ?_
    refine lv_iload_n hx hb dX4_lock_35 rfl (lv_at hl 1 rfl) ?_
    refine tk_mVi (As := [.int (nI wk)]) S0 (c_X4_dropNotedEntries l A D ac dE _ hP hW (nI wk)) (cwV 1 hts gX4_lock_X4_dropNotedEntries rfl rfl rfl (by decide +kernel) ⟨Nat.le_of_ble_eq_true rfl, Nat.le_of_ble_eq_true rfl⟩) (tkX.blind) (tkX.at hM hK hA hF hO hS) (tk_recv hK hM hP.h rfl) rfl hl.1 rfl (Nat.le_of_ble_eq_true rfl) dX4_lock_36 ⟨Nat.le_of_ble_eq_true rfl, Nat.le_of_ble_eq_true rfl⟩ hS (fun r_5 G H locs hpr_5 hM hS => ?_)
    obtain ⟨hP, hr_5⟩ := hpr_5
    have eV2 : nV ((dropS (st (st M 7 wk 1) 0 27 (((st M 7 wk 1) 0 27) ||| ((1 : Int32) <<< ((nI wk) &&& 31)))) (nI wk) (nE (st (st M 7 wk 1) 0 27 (((st M 7 wk 1) 0 27) ||| ((1 : Int32) <<< ((nI wk) &&& 31)))))).1) = nV M := nV_cg (M := (st (st M 7 wk 1) 0 27 (((st M 7 wk 1) 0 27) ||| ((1 : Int32) <<< ((nI wk) &&& 31))))) (N := (dropS (st (st M 7 wk 1) 0 27 (((st M 7 wk 1) 0 27) ||| ((1 : Int32) <<< ((nI wk) &&& 31)))) (nI wk) (nE (st (st M 7 wk 1) 0 27 (((st M 7 wk 1) 0 27) ||| ((1 : Int32) <<< ((nI wk) &&& 31)))))).1) (dropS_f (M := (st (st M 7 wk 1) 0 27 (((st M 7 wk 1) 0 27) ||| ((1 : Int32) <<< ((nI wk) &&& 31))))) (f := 0) (by decide) _)
    refine vx_ret ?_
    refine W.widen (k := 2) (n := 12) (Nat.le_of_ble_eq_true rfl) (Nat.le_of_ble_eq_true rfl) ?_
    have eS : K_lock M (nI wk) = (0, (dropS (st (st M 7 wk 1) 0 27 (((st M 7 wk 1) 0 27) ||| ((1 : Int32) <<< ((nI wk) &&& 31)))) (nI wk) (nE (st (st M 7 wk 1) 0 27 (((st M 7 wk 1) 0 27) ||| ((1 : Int32) <<< ((nI wk) &&& 31)))))).1, r_5) := (by rw [K_lock, show tn (nI wk) = wk from nI_clamp (show wk < 2 ^ 31 by omega), if_neg (by rw [hokw]; decide), if_neg (by rw [hr_2]; decide), hr_5]; rfl)
    exact W.iret (v := r_5) hx hb hr (fun t9 h9 w9 => ⟨⟨r_5, _, rfl, (by rw [eS]; exact ⟨rfl, ⟨_, hP.nvE eV2.symm⟩, rfl⟩), (by show tkM A D _ _; rw [h9]; exact hM)⟩, hS.F h9⟩) hS.2.2 dX4_lock_39
set_option maxHeartbeats 4000000 in
set_option maxRecDepth 100000 in
theorem c_X4_setRate (l : Launch) (hst : l.stackTraces = false) (A : Nat → Prop) (D : va_G) (ac : Nat → ClassId) (dE : Nat) (G : TG) {h0 : Nat} {α : Nat → Nat → Nat} {M : TS} {nv : Nat} (hP : PX ac dE h0 α M (nV M) G) (hW : W0 M) (x y : Int32) : vx_Met l yX4_setRate wsX4_setRate ({ frames := 9, cells := 1, slots := 6, locals := 500 } : Room) (va_Pc [.ref h0, .int x, .int y] (tkX A D ac dE G)) (va_Qi (fun (z : Int32) (G9 : TG) => (S_setRate M x y).1 = 0 ∧ (∃ α9 : Nat → Nat → Nat, PX ac dE h0 α9 (S_setRate M x y).2.1 (nV (S_setRate M x y).2.1) G9) ∧ z = (S_setRate M x y).2.2) (fun (G9 : TG) t => tkM A D G9 t.heap) A) (XG (fun E => (E, (S_setRate M x y).1) ∈ ([("java/lang/IllegalArgumentException", 1)] : List (String × Int32)))) 1 6 A := by
  refine vx_ofW (cc := cX4_setRate) (maxL := 4) (ret := (some .int)) (by decide) rfl ?_
  intro p e s m args below meth c s₁ B hml hno hv
  obtain ⟨rfl, ⟨hM, hK, hA, hF⟩, hO⟩ := hv
  have hS : va_S A s.heap s.heap [] := va_S.rf
  have hE : tkE s.heap s.heap := tkE.rf
  have hx := B.exec
  have hb := B.bytes
  have hr := B.returns
  have hts := atoms_spec (ws := wsX4_setRate) B.pre
  have hown : s.vm.findClass RX4 = some m.cls := findClass_of_methodNamed B.named
  have hlocks := B.notSynchronized
  have S0 : CallFix p m c cX4_setRate 4 s ([.ref h0, .int x, .int y] : List Value).toArray wsX4_setRate RX4 := ⟨hx, hb, hml, hown, hts⟩
  have inX4 : ∀ w ∈ wsX40, w ∈ wsX4_setRate := by decide +kernel
  have hl := lv_entry ([.ref h0, .int x, .int y]) (n := 4) (Nat.le_of_ble_eq_true rfl)
  rw [lg_entry_eq]
  generalize (lg_sl ([.ref h0, .int x, .int y]) ++ List.replicate (4 - (lg_sl ([.ref h0, .int x, .int y])).length) Slot.unset).toArray = ls at hl ⊢
  have hl : lv_has ls 4 [(0, .ref h0), (1, .int x), (2, .int y)] := hl
  have bT := hW.t.2
  have bE := hW.e.2
  have bV := hW.v.2
  refine lv_iload_n hx hb dX4_setRate_0 rfl (lv_at hl 1 rfl) ?_
  refine tk_cSi (As := [.int x]) S0 (c_X4_isPerson l A D ac dE _ x) (va_cwS 1 hts gX4_setRate_X4_isPerson rfl rfl rfl (by decide +kernel) ⟨Nat.le_of_ble_eq_true rfl, Nat.le_of_ble_eq_true rfl⟩) (tkX.blind) (tkX.at hM hK hA hF hO hS) rfl hl.1 rfl (Nat.le_of_ble_eq_true rfl) dX4_setRate_1 ⟨Nat.le_of_ble_eq_true rfl, Nat.le_of_ble_eq_true rfl⟩ (fun r_1 hr_1 => ?_)
  rcases hr_1 with ⟨rfl, hr_1⟩ | ⟨rfl, hr_1⟩
  · skip
    refine lv_if_eq (tgt := 18) hx hb dX4_setRate_4 (by decide) (fun c_2 => absurd c_2 (by decide)) (fun c_2 => ?_)
    refine lv_iload_n hx hb dX4_setRate_7 rfl (lv_at hl 2 rfl) ?_
    refine lv_iconst (v := 0) hx hb dX4_setRate_8 (by decide) ?_
    refine lv_sipush (v := 200) hx hb dX4_setRate_9 (by decide) ?_
    refine tk_cSi (As := [.int y, .int 0, .int 200]) S0 (c_X4_isBetween l A D ac dE _ y 0 200) (va_cwS 3 hts gX4_setRate_X4_isBetween rfl rfl rfl (by decide +kernel) ⟨Nat.le_of_ble_eq_true rfl, Nat.le_of_ble_eq_true rfl⟩) (tkX.blind) (tkX.at hM hK hA hF hO hS) rfl hl.1 rfl (Nat.le_of_ble_eq_true rfl) dX4_setRate_12 ⟨Nat.le_of_ble_eq_true rfl, Nat.le_of_ble_eq_true rfl⟩ (fun r_3 hr_3 => ?_)
    rcases hr_3 with ⟨rfl, hr_3⟩ | ⟨rfl, hr_3⟩
    · skip
      refine lv_if_ne (tgt := 28) hx hb dX4_setRate_15 (by decide) (fun c_4 => ?_) (fun c_4 => absurd c_4 (by decide))
      have hokp := hr_1
      have hokpc := hokp
      obtain ⟨pk, hpk, rfl⟩ := tkOk_ex (by decide) hokpc
      refine lv_aload_n hx hb dX4_setRate_28 rfl (lv_at hl 0 rfl) ?_
      refine tk_get hx hb hts inX4 hown hK hM hP.h rfl 3 (by decide) (hts (.fieldLink RX4 33 "TicketForge" "rules" "LTicketForge$Rules;") (by decide +kernel)) (fun _ h9 => h9) rfl dX4_setRate_29 ?_
      refine lv_iload_n hx hb dX4_setRate_32 rfl (lv_at hl 1 rfl) ?_
      refine tk_cVi (As := [.int (nI pk)]) S0 (c_X2_rateOf l A D ac dE _ hP.ru hP.ra (nI pk)) (cwV 1 hts gX4_setRate_X2_rateOf rfl rfl rfl (by decide +kernel) ⟨Nat.le_of_ble_eq_true rfl, Nat.le_of_ble_eq_true rfl⟩) (tkX.blind) (tkX.at hM hK hA hF hO hS) (tk_recv hK hM hP.ru rfl) rfl hl.1 rfl (Nat.le_of_ble_eq_true rfl) dX4_setRate_33 ⟨Nat.le_of_ble_eq_true rfl, Nat.le_of_ble_eq_true rfl⟩ (fun r_5 hr_5 => ?_)
      rw [rateF, if_pos hokp, show tn (nI pk) = pk from nI_clamp (by omega)] at hr_5
      subst hr_5
      refine lv_istore_n (lv' := [(3, .int (M 15 pk)), (0, .ref h0), (1, .int (nI pk)), (2, .int y)]) hx hb dX4_setRate_36 rfl hl (by decide) rfl (fun ls hl => ?_)
      refine lv_aload_n hx hb dX4_setRate_37 rfl (lv_at hl 1 rfl) ?_
      refine tk_get hx hb hts inX4 hown hK hM hP.h rfl 3 (by decide) (hts (.fieldLink RX4 33 "TicketForge" "rules" "LTicketForge$Rules;") (by decide +kernel)) (fun _ h9 => h9) rfl dX4_setRate_38 ?_
      refine lv_iload_n hx hb dX4_setRate_41 rfl (lv_at hl 2 rfl) ?_
      refine lv_iload_n hx hb dX4_setRate_42 rfl (lv_at hl 3 rfl) ?_
      refine tk_mVv (As := [.int (nI pk), .int y]) S0 (c_X2_changeRate l A D ac dE _ hP.ru hP.ra (nI pk) y hokp) (cwV 2 hts gX4_setRate_X2_changeRate rfl rfl rfl (by decide +kernel) ⟨Nat.le_of_ble_eq_true rfl, Nat.le_of_ble_eq_true rfl⟩) (tkX.blind) (tkX.at hM hK hA hF hO hS) (tk_recv hK hM hP.ru rfl) rfl hl.1 rfl (Nat.le_of_ble_eq_true rfl) dX4_setRate_43 ⟨Nat.le_of_ble_eq_true rfl, Nat.le_of_ble_eq_true rfl⟩ hS (fun G H locs hpr_6 hM hS => ?_)
      subst hpr_6
      rw [show (nI pk).toNatClampNeg = pk from nI_clamp (by omega)] at hM
      have hP := hP.rate (i := pk) (v := y)
      have hW := hW.ofst 15 (by decide) (i := pk) (v := y)
      have eT : nT (st M 15 pk y) = nT M := rfl
      have eE : nE (st M 15 pk y) = nE M := rfl
      have eV : nV (st M 15 pk y) = nV M := rfl
      have bT := hW.t.2
      have bE := hW.e.2
      have bV := hW.v.2
      refine lv_iload_n hx hb dX4_setRate_46 rfl (lv_at hl 0 rfl) ?_
      refine vx_ret ?_
      refine W.widen (k := 1) (n := 6) (Nat.le_of_ble_eq_true rfl) (Nat.le_of_ble_eq_true rfl) ?_
      have eS : S_setRate M (nI pk) y = (0, (st M 15 pk y), (M 15 pk)) := (by rw [S_setRate, if_neg (by rw [hokp, hr_3]; decide), show tn (nI pk) = pk from nI_clamp (by omega)])
      exact W.iret (v := (M 15 pk)) hx hb hr (fun t9 h9 w9 => ⟨⟨(M 15 pk), _, rfl, (by rw [eS]; exact ⟨rfl, ⟨_, hP⟩, rfl⟩), (by show tkM A D _ _; rw [h9]; exact hM)⟩, hS.F h9⟩) hS.2.2 dX4_setRate_47
    · skip
      refine lv_if_ne (tgt := 28) hx hb dX4_setRate_15 (by decide) (fun c_7 => absurd c_7 (by decide)) (fun c_7 => ?_)
      exact tk_th hst hx hb hown (by decide) (hts (.classLink RX4 55 "java/lang/IllegalArgumentException") (by decide +kernel)) (hts (.initialized "java/lang/IllegalArgumentException") (by decide +kernel)) (text := "the person or the rate is out of range") (by decide) (by decide) (fun w hw => hts w (List.mem_cons_of_mem _ (List.mem_append_left _ (List.mem_append_right _ hw)))) ng_59 ot_59 hF hO hS hE (hl.1.trans hml.symm) hno hlocks dX4_setRate_18 dX4_setRate_21 dX4_setRate_22 dX4_setRate_24 dX4_setRate_27 (Nat.le_of_ble_eq_true rfl) (Nat.le_of_ble_eq_true rfl) ⟨Nat.le_of_ble_eq_true rfl, Nat.le_of_ble_eq_true rfl⟩ ⟨Nat.le_of_ble_eq_true rfl, Nat.le_of_ble_eq_true rfl⟩ (xl (k := 1) (by rw [S_setRate, if_pos (Or.inr hr_3)]) (by decide +kernel))
  · skip
    refine lv_if_eq (tgt := 18) hx hb dX4_setRate_4 (by decide) (fun c_8 => ?_) (fun c_8 => absurd (by decide) c_8)
    exact tk_th hst hx hb hown (by decide) (hts (.classLink RX4 55 "java/lang/IllegalArgumentException") (by decide +kernel)) (hts (.initialized "java/lang/IllegalArgumentException") (by decide +kernel)) (text := "the person or the rate is out of range") (by decide) (by decide) (fun w hw => hts w (List.mem_cons_of_mem _ (List.mem_append_left _ (List.mem_append_right _ hw)))) ng_59 ot_59 hF hO hS hE (hl.1.trans hml.symm) hno hlocks dX4_setRate_18 dX4_setRate_21 dX4_setRate_22 dX4_setRate_24 dX4_setRate_27 (Nat.le_of_ble_eq_true rfl) (Nat.le_of_ble_eq_true rfl) ⟨Nat.le_of_ble_eq_true rfl, Nat.le_of_ble_eq_true rfl⟩ ⟨Nat.le_of_ble_eq_true rfl, Nat.le_of_ble_eq_true rfl⟩ (xl (k := 1) (by rw [S_setRate, if_pos (Or.inl hr_1)]) (by decide +kernel))
set_option maxHeartbeats 4000000 in
set_option maxRecDepth 100000 in
theorem c_X4_setCap (l : Launch) (hst : l.stackTraces = false) (A : Nat → Prop) (D : va_G) (ac : Nat → ClassId) (dE : Nat) (G : TG) {h0 : Nat} {α : Nat → Nat → Nat} {M : TS} {nv : Nat} (hP : PX ac dE h0 α M (nV M) G) (hW : W0 M) (x : Int32) : vx_Met l yX4_setCap wsX4_setCap ({ frames := 9, cells := 1, slots := 6, locals := 500 } : Room) (va_Pc [.ref h0, .int x] (tkX A D ac dE G)) (va_Qi (fun (z : Int32) (G9 : TG) => (S_setCap M x).1 = 0 ∧ (∃ α9 : Nat → Nat → Nat, PX ac dE h0 α9 (S_setCap M x).2.1 (nV (S_setCap M x).2.1) G9) ∧ z = (S_setCap M x).2.2) (fun (G9 : TG) t => tkM A D G9 t.heap) A) (XG (fun E => (E, (S_setCap M x).1) ∈ ([("java/lang/IllegalArgumentException", 1)] : List (String × Int32)))) 1 6 A := by
  refine vx_ofW (cc := cX4_setCap) (maxL := 3) (ret := (some .int)) (by decide) rfl ?_
  intro p e s m args below meth c s₁ B hml hno hv
  obtain ⟨rfl, ⟨hM, hK, hA, hF⟩, hO⟩ := hv
  have hS : va_S A s.heap s.heap [] := va_S.rf
  have hE : tkE s.heap s.heap := tkE.rf
  have hx := B.exec
  have hb := B.bytes
  have hr := B.returns
  have hts := atoms_spec (ws := wsX4_setCap) B.pre
  have hown : s.vm.findClass RX4 = some m.cls := findClass_of_methodNamed B.named
  have hlocks := B.notSynchronized
  have S0 : CallFix p m c cX4_setCap 3 s ([.ref h0, .int x] : List Value).toArray wsX4_setCap RX4 := ⟨hx, hb, hml, hown, hts⟩
  have inX4 : ∀ w ∈ wsX40, w ∈ wsX4_setCap := by decide +kernel
  have inX2 : ∀ w ∈ wsX20, w ∈ wsX4_setCap := by decide +kernel
  have hl := lv_entry ([.ref h0, .int x]) (n := 3) (Nat.le_of_ble_eq_true rfl)
  rw [lg_entry_eq]
  generalize (lg_sl ([.ref h0, .int x]) ++ List.replicate (3 - (lg_sl ([.ref h0, .int x])).length) Slot.unset).toArray = ls at hl ⊢
  have hl : lv_has ls 3 [(0, .ref h0), (1, .int x)] := hl
  have bT := hW.t.2
  have bE := hW.e.2
  have bV := hW.v.2
  refine lv_iload_n hx hb dX4_setCap_0 rfl (lv_at hl 1 rfl) ?_
  refine lv_iconst (v := 0) hx hb dX4_setCap_1 (by decide) ?_
  refine lv_bipush (v := 60) hx hb dX4_setCap_2 (by decide) ?_
  refine tk_cSi (As := [.int x, .int 0, .int 60]) S0 (c_X4_isBetween l A D ac dE _ x 0 60) (va_cwS 3 hts gX4_setCap_X4_isBetween rfl rfl rfl (by decide +kernel) ⟨Nat.le_of_ble_eq_true rfl, Nat.le_of_ble_eq_true rfl⟩) (tkX.blind) (tkX.at hM hK hA hF hO hS) rfl hl.1 rfl (Nat.le_of_ble_eq_true rfl) dX4_setCap_4 ⟨Nat.le_of_ble_eq_true rfl, Nat.le_of_ble_eq_true rfl⟩ (fun r_1 hr_1 => ?_)
  rcases hr_1 with ⟨rfl, hr_1⟩ | ⟨rfl, hr_1⟩
  · skip
    refine lv_if_ne (tgt := 20) hx hb dX4_setCap_7 (by decide) (fun c_2 => ?_) (fun c_2 => absurd c_2 (by decide))
    refine lv_aload_n hx hb dX4_setCap_20 rfl (lv_at hl 0 rfl) ?_
    refine tk_get hx hb hts inX4 hown hK hM hP.h rfl 3 (by decide) (hts (.fieldLink RX4 33 "TicketForge" "rules" "LTicketForge$Rules;") (by decide +kernel)) (fun _ h9 => h9) rfl dX4_setCap_21 ?_
    refine tk_get hx hb hts inX2 hown hK hM hP.ru rfl 1 (by decide) (hts (.fieldLink RX4 226 "TicketForge$Rules" "cap" "I") (by decide +kernel)) (fun _ h9 => h9) rfl dX4_setCap_24 ?_
    refine lv_istore_n (lv' := [(2, .int (M 0 23)), (0, .ref h0), (1, .int x)]) hx hb dX4_setCap_27 rfl hl (by decide) rfl (fun ls hl => ?_)
    refine lv_aload_n hx hb dX4_setCap_28 rfl (lv_at hl 1 rfl) ?_
    refine tk_get hx hb hts inX4 hown hK hM hP.h rfl 3 (by decide) (hts (.fieldLink RX4 33 "TicketForge" "rules" "LTicketForge$Rules;") (by decide +kernel)) (fun _ h9 => h9) rfl dX4_setCap_29 ?_
    refine lv_iload_n hx hb dX4_setCap_32 rfl (lv_at hl 2 rfl) ?_
    refine tk_put (ty := .int) hx hb hts inX2 tyX2 tyX2_ok nmX2 hown hK hM hS hP.ru rfl 1 (by decide) (hts (.fieldLink RX4 226 "TicketForge$Rules" "cap" "I") (by decide +kernel)) (fun _ h9 => h9) rfl (by decide +kernel) rfl rfl (Nat.le_of_ble_eq_true rfl) dX4_setCap_33 (fun H locs hM hS => ?_)
    have hP := hP.r1 (v := x)
    have hW := hW.of0 (k := 23) (v := x) (by decide)
    have eT : nT (st M 0 23 x) = nT M := rfl
    have eE : nE (st M 0 23 x) = nE M := rfl
    have eV : nV (st M 0 23 x) = nV M := rfl
    have bT := hW.t.2
    have bE := hW.e.2
    have bV := hW.v.2
    refine lv_aload_n hx hb dX4_setCap_36 rfl (lv_at hl 1 rfl) ?_
    refine lv_aload_n hx hb dX4_setCap_37 rfl (lv_at hl 1 rfl) ?_
    refine tk_get hx hb hts inX4 hown hK hM hP.h rfl 4 (by decide) (hts (.fieldLink RX4 37 "TicketForge" "greatestCap" "I") (by decide +kernel)) (fun _ h9 => h9) rfl dX4_setCap_38 ?_
    refine lv_iload_n hx hb dX4_setCap_41 rfl (lv_at hl 2 rfl) ?_
    refine va_mmax hx hb (by rw [hml]; exact hl.1.symm) hown (hts (.methodLink RX4 229 Lib.Math.max.name) (by decide +kernel)) (hts (.static Lib.Math.max.name) (by decide +kernel)) (hts (.initialized "java/lang/Math") (by decide +kernel)) (hts (.code Lib.Math.max.name Lib.Math.max.code 2 (some .int)) (by decide +kernel)) (Nat.le_of_ble_eq_true rfl) (Nat.le_of_ble_eq_true rfl) (Nat.zero_le _) (Nat.zero_le _) dX4_setCap_42 ?_
    refine tk_put (ty := .int) hx hb hts inX4 tyX4 tyX4_ok nmX4 hown hK hM hS hP.h rfl 4 (by decide) (hts (.fieldLink RX4 37 "TicketForge" "greatestCap" "I") (by decide +kernel)) (fun _ h9 => h9) rfl (by decide +kernel) rfl rfl (Nat.le_of_ble_eq_true rfl) dX4_setCap_45 (fun H locs hM hS => ?_)
    have hP := hP.h4 (v := (if ((st M 0 23 x) 0 26) < x then x else ((st M 0 23 x) 0 26)))
    have hW := hW.of0 (k := 26) (v := (if ((st M 0 23 x) 0 26) < x then x else ((st M 0 23 x) 0 26))) (by decide)
    have eT : nT (st (st M 0 23 x) 0 26 (if ((st M 0 23 x) 0 26) < x then x else ((st M 0 23 x) 0 26))) = nT (st M 0 23 x) := rfl
    have eE : nE (st (st M 0 23 x) 0 26 (if ((st M 0 23 x) 0 26) < x then x else ((st M 0 23 x) 0 26))) = nE (st M 0 23 x) := rfl
    have eV : nV (st (st M 0 23 x) 0 26 (if ((st M 0 23 x) 0 26) < x then x else ((st M 0 23 x) 0 26))) = nV (st M 0 23 x) := rfl
    have bT := hW.t.2
    have bE := hW.e.2
    have bV := hW.v.2
    refine lv_iload_n hx hb dX4_setCap_48 rfl (lv_at hl 0 rfl) ?_
    refine vx_ret ?_
    refine W.widen (k := 1) (n := 6) (Nat.le_of_ble_eq_true rfl) (Nat.le_of_ble_eq_true rfl) ?_
    have eS : S_setCap M x = (0, (st (st M 0 23 x) 0 26 (if ((st M 0 23 x) 0 26) < x then x else ((st M 0 23 x) 0 26))), (M 0 23)) := (by rw [S_setCap, if_neg (by rw [hr_1]; decide)]; rfl)
    exact W.iret (v := (M 0 23)) hx hb hr (fun t9 h9 w9 => ⟨⟨(M 0 23), _, rfl, (by rw [eS]; exact ⟨rfl, ⟨_, hP⟩, rfl⟩), (by show tkM A D _ _; rw [h9]; exact hM)⟩, hS.F h9⟩) hS.2.2 dX4_setCap_49
  · skip
    refine lv_if_ne (tgt := 20) hx hb dX4_setCap_7 (by decide) (fun c_3 => absurd c_3 (by decide)) (fun c_3 => ?_)
    exact tk_th hst hx hb hown (by decide) (hts (.classLink RX4 55 "java/lang/IllegalArgumentException") (by decide +kernel)) (hts (.initialized "java/lang/IllegalArgumentException") (by decide +kernel)) (text := "the hours are out of range") (by decide) (by decide) (fun w hw => hts w (List.mem_cons_of_mem _ (List.mem_append_right _ hw))) ng_59 ot_59 hF hO hS hE (hl.1.trans hml.symm) hno hlocks dX4_setCap_10 dX4_setCap_13 dX4_setCap_14 dX4_setCap_16 dX4_setCap_19 (Nat.le_of_ble_eq_true rfl) (Nat.le_of_ble_eq_true rfl) ⟨Nat.le_of_ble_eq_true rfl, Nat.le_of_ble_eq_true rfl⟩ ⟨Nat.le_of_ble_eq_true rfl, Nat.le_of_ble_eq_true rfl⟩ (xl (k := 1) (by rw [S_setCap, if_pos hr_1]) (by decide +kernel))
set_option maxHeartbeats 4000000 in
set_option maxRecDepth 100000 in
theorem c_X4_setDiscount (l : Launch) (hst : l.stackTraces = false) (A : Nat → Prop) (D : va_G) (ac : Nat → ClassId) (dE : Nat) (G : TG) {h0 : Nat} {α : Nat → Nat → Nat} {M : TS} {nv : Nat} (hP : PX ac dE h0 α M (nV M) G) (hW : W0 M) (x y : Int32) : vx_Met l yX4_setDiscount wsX4_setDiscount ({ frames := 9, cells := 1, slots := 6, locals := 500 } : Room) (va_Pc [.ref h0, .int x, .int y] (tkX A D ac dE G)) (va_Qi (fun (z : Int32) (G9 : TG) => (S_setDiscount M x y).1 = 0 ∧ (∃ α9 : Nat → Nat → Nat, PX ac dE h0 α9 (S_setDiscount M x y).2.1 (nV (S_setDiscount M x y).2.1) G9) ∧ z = (S_setDiscount M x y).2.2) (fun (G9 : TG) t => tkM A D G9 t.heap) A) (XG (fun E => (E, (S_setDiscount M x y).1) ∈ ([("java/lang/IllegalArgumentException", 1)] : List (String × Int32)))) 1 6 A := by
  refine vx_ofW (cc := cX4_setDiscount) (maxL := 4) (ret := (some .int)) (by decide) rfl ?_
  intro p e s m args below meth c s₁ B hml hno hv
  obtain ⟨rfl, ⟨hM, hK, hA, hF⟩, hO⟩ := hv
  have hS : va_S A s.heap s.heap [] := va_S.rf
  have hE : tkE s.heap s.heap := tkE.rf
  have hx := B.exec
  have hb := B.bytes
  have hr := B.returns
  have hts := atoms_spec (ws := wsX4_setDiscount) B.pre
  have hown : s.vm.findClass RX4 = some m.cls := findClass_of_methodNamed B.named
  have hlocks := B.notSynchronized
  have S0 : CallFix p m c cX4_setDiscount 4 s ([.ref h0, .int x, .int y] : List Value).toArray wsX4_setDiscount RX4 := ⟨hx, hb, hml, hown, hts⟩
  have inX4 : ∀ w ∈ wsX40, w ∈ wsX4_setDiscount := by decide +kernel
  have inX2 : ∀ w ∈ wsX20, w ∈ wsX4_setDiscount := by decide +kernel
  have hl := lv_entry ([.ref h0, .int x, .int y]) (n := 4) (Nat.le_of_ble_eq_true rfl)
  rw [lg_entry_eq]
  generalize (lg_sl ([.ref h0, .int x, .int y]) ++ List.replicate (4 - (lg_sl ([.ref h0, .int x, .int y])).length) Slot.unset).toArray = ls at hl ⊢
  have hl : lv_has ls 4 [(0, .ref h0), (1, .int x), (2, .int y)] := hl
  have bT := hW.t.2
  have bE := hW.e.2
  have bV := hW.v.2
  refine lv_iload_n hx hb dX4_setDiscount_0 rfl (lv_at hl 1 rfl) ?_
  refine lv_iconst (v := 0) hx hb dX4_setDiscount_1 (by decide) ?_
  refine lv_ldc hx hb hown (hts (.constant RX4 235 (99999)) (by decide +kernel)) dX4_setDiscount_2 ?_
  refine tk_cSi (As := [.int x, .int 0, .int 99999]) S0 (c_X4_isBetween l A D ac dE _ x 0 99999) (va_cwS 3 hts gX4_setDiscount_X4_isBetween rfl rfl rfl (by decide +kernel) ⟨Nat.le_of_ble_eq_true rfl, Nat.le_of_ble_eq_true rfl⟩) (tkX.blind) (tkX.at hM hK hA hF hO hS) rfl hl.1 rfl (Nat.le_of_ble_eq_true rfl) dX4_setDiscount_4 ⟨Nat.le_of_ble_eq_true rfl, Nat.le_of_ble_eq_true rfl⟩ (fun r_1 hr_1 => ?_)
  rcases hr_1 with ⟨rfl, hr_1⟩ | ⟨rfl, hr_1⟩
  · skip
    refine lv_if_eq (tgt := 20) hx hb dX4_setDiscount_7 (by decide) (fun c_2 => absurd c_2 (by decide)) (fun c_2 => ?_)
    refine lv_iload_n hx hb dX4_setDiscount_10 rfl (lv_at hl 2 rfl) ?_
    refine lv_iconst (v := 0) hx hb dX4_setDiscount_11 (by decide) ?_
    refine lv_bipush (v := 50) hx hb dX4_setDiscount_12 (by decide) ?_
    refine tk_cSi (As := [.int y, .int 0, .int 50]) S0 (c_X4_isBetween l A D ac dE _ y 0 50) (va_cwS 3 hts gX4_setDiscount_X4_isBetween rfl rfl rfl (by decide +kernel) ⟨Nat.le_of_ble_eq_true rfl, Nat.le_of_ble_eq_true rfl⟩) (tkX.blind) (tkX.at hM hK hA hF hO hS) rfl hl.1 rfl (Nat.le_of_ble_eq_true rfl) dX4_setDiscount_14 ⟨Nat.le_of_ble_eq_true rfl, Nat.le_of_ble_eq_true rfl⟩ (fun r_3 hr_3 => ?_)
    rcases hr_3 with ⟨rfl, hr_3⟩ | ⟨rfl, hr_3⟩
    · skip
      refine lv_if_ne (tgt := 30) hx hb dX4_setDiscount_17 (by decide) (fun c_4 => ?_) (fun c_4 => absurd c_4 (by decide))
      refine lv_aload_n hx hb dX4_setDiscount_30 rfl (lv_at hl 0 rfl) ?_
      refine tk_get hx hb hts inX4 hown hK hM hP.h rfl 3 (by decide) (hts (.fieldLink RX4 33 "TicketForge" "rules" "LTicketForge$Rules;") (by decide +kernel)) (fun _ h9 => h9) rfl dX4_setDiscount_31 ?_
      refine tk_get hx hb hts inX2 hown hK hM hP.ru rfl 3 (by decide) (hts (.fieldLink RX4 238 "TicketForge$Rules" "discountPercent" "I") (by decide +kernel)) (fun _ h9 => h9) rfl dX4_setDiscount_34 ?_
      refine lv_istore_n (lv' := [(3, .int (M 0 25)), (0, .ref h0), (1, .int x), (2, .int y)]) hx hb dX4_setDiscount_37 rfl hl (by decide) rfl (fun ls hl => ?_)
      refine lv_aload_n hx hb dX4_setDiscount_38 rfl (lv_at hl 1 rfl) ?_
      refine tk_get hx hb hts inX4 hown hK hM hP.h rfl 3 (by decide) (hts (.fieldLink RX4 33 "TicketForge" "rules" "LTicketForge$Rules;") (by decide +kernel)) (fun _ h9 => h9) rfl dX4_setDiscount_39 ?_
      refine lv_iload_n hx hb dX4_setDiscount_42 rfl (lv_at hl 2 rfl) ?_
      refine tk_put (ty := .int) hx hb hts inX2 tyX2 tyX2_ok nmX2 hown hK hM hS hP.ru rfl 2 (by decide) (hts (.fieldLink RX4 241 "TicketForge$Rules" "discountFrom" "I") (by decide +kernel)) (fun _ h9 => h9) rfl (by decide +kernel) rfl rfl (Nat.le_of_ble_eq_true rfl) dX4_setDiscount_43 (fun H locs hM hS => ?_)
      have hP := hP.r2 (v := x)
      have hW := hW.of0 (k := 24) (v := x) (by decide)
      have eT : nT (st M 0 24 x) = nT M := rfl
      have eE : nE (st M 0 24 x) = nE M := rfl
      have eV : nV (st M 0 24 x) = nV M := rfl
      have bT := hW.t.2
      have bE := hW.e.2
      have bV := hW.v.2
      refine lv_aload_n hx hb dX4_setDiscount_46 rfl (lv_at hl 1 rfl) ?_
      refine tk_get hx hb hts inX4 hown hK hM hP.h rfl 3 (by decide) (hts (.fieldLink RX4 33 "TicketForge" "rules" "LTicketForge$Rules;") (by decide +kernel)) (fun _ h9 => h9) rfl dX4_setDiscount_47 ?_
      refine lv_iload_n hx hb dX4_setDiscount_50 rfl (lv_at hl 3 rfl) ?_
      refine tk_put (ty := .int) hx hb hts inX2 tyX2 tyX2_ok nmX2 hown hK hM hS hP.ru rfl 3 (by decide) (hts (.fieldLink RX4 238 "TicketForge$Rules" "discountPercent" "I") (by decide +kernel)) (fun _ h9 => h9) rfl (by decide +kernel) rfl rfl (Nat.le_of_ble_eq_true rfl) dX4_setDiscount_51 (fun H locs hM hS => ?_)
      have hP := hP.r3 (v := y)
      have hW := hW.of0 (k := 25) (v := y) (by decide)
      have eT : nT (st (st M 0 24 x) 0 25 y) = nT (st M 0 24 x) := rfl
      have eE : nE (st (st M 0 24 x) 0 25 y) = nE (st M 0 24 x) := rfl
      have eV : nV (st (st M 0 24 x) 0 25 y) = nV (st M 0 24 x) := rfl
      have bT := hW.t.2
      have bE := hW.e.2
      have bV := hW.v.2
      refine lv_iload_n hx hb dX4_setDiscount_54 rfl (lv_at hl 0 rfl) ?_
      refine vx_ret ?_
      refine W.widen (k := 1) (n := 6) (Nat.le_of_ble_eq_true rfl) (Nat.le_of_ble_eq_true rfl) ?_
      have eS : S_setDiscount M x y = (0, (st (st M 0 24 x) 0 25 y), (M 0 25)) := (by rw [S_setDiscount, if_neg (by rw [hr_1, hr_3]; decide)])
      exact W.iret (v := (M 0 25)) hx hb hr (fun t9 h9 w9 => ⟨⟨(M 0 25), _, rfl, (by rw [eS]; exact ⟨rfl, ⟨_, hP⟩, rfl⟩), (by show tkM A D _ _; rw [h9]; exact hM)⟩, hS.F h9⟩) hS.2.2 dX4_setDiscount_55
    · skip
      refine lv_if_ne (tgt := 30) hx hb dX4_setDiscount_17 (by decide) (fun c_5 => absurd c_5 (by decide)) (fun c_5 => ?_)
      exact tk_th hst hx hb hown (by decide) (hts (.classLink RX4 55 "java/lang/IllegalArgumentException") (by decide +kernel)) (hts (.initialized "java/lang/IllegalArgumentException") (by decide +kernel)) (text := "the sum or the percentage is out of range") (by decide) (by decide) (fun w hw => hts w (List.mem_cons_of_mem _ (List.mem_append_right _ hw))) ng_59 ot_59 hF hO hS hE (hl.1.trans hml.symm) hno hlocks dX4_setDiscount_20 dX4_setDiscount_23 dX4_setDiscount_24 dX4_setDiscount_26 dX4_setDiscount_29 (Nat.le_of_ble_eq_true rfl) (Nat.le_of_ble_eq_true rfl) ⟨Nat.le_of_ble_eq_true rfl, Nat.le_of_ble_eq_true rfl⟩ ⟨Nat.le_of_ble_eq_true rfl, Nat.le_of_ble_eq_true rfl⟩ (xl (k := 1) (by rw [S_setDiscount, if_pos (Or.inr hr_3)]) (by decide +kernel))
  · skip
    refine lv_if_eq (tgt := 20) hx hb dX4_setDiscount_7 (by decide) (fun c_6 => ?_) (fun c_6 => absurd (by decide) c_6)
    exact tk_th hst hx hb hown (by decide) (hts (.classLink RX4 55 "java/lang/IllegalArgumentException") (by decide +kernel)) (hts (.initialized "java/lang/IllegalArgumentException") (by decide +kernel)) (text := "the sum or the percentage is out of range") (by decide) (by decide) (fun w hw => hts w (List.mem_cons_of_mem _ (List.mem_append_right _ hw))) ng_59 ot_59 hF hO hS hE (hl.1.trans hml.symm) hno hlocks dX4_setDiscount_20 dX4_setDiscount_23 dX4_setDiscount_24 dX4_setDiscount_26 dX4_setDiscount_29 (Nat.le_of_ble_eq_true rfl) (Nat.le_of_ble_eq_true rfl) ⟨Nat.le_of_ble_eq_true rfl, Nat.le_of_ble_eq_true rfl⟩ ⟨Nat.le_of_ble_eq_true rfl, Nat.le_of_ble_eq_true rfl⟩ (xl (k := 1) (by rw [S_setDiscount, if_pos (Or.inl hr_1)]) (by decide +kernel))
set_option maxHeartbeats 4000000 in
set_option maxRecDepth 100000 in
theorem c_X4_block (l : Launch) (hst : l.stackTraces = false) (A : Nat → Prop) (D : va_G) (ac : Nat → ClassId) (dE : Nat) (G : TG) {h0 : Nat} {α : Nat → Nat → Nat} {M : TS} {nv : Nat} (hP : PX ac dE h0 α M (nV M) G) (hW : W0 M) (x y : Int32) : vx_Met l yX4_block wsX4_block ({ frames := 9, cells := 3, slots := 18, locals := 500 } : Room) (va_Pc [.ref h0, .int x, .int y] (tkX A D ac dE G)) (va_Qi (fun (z : Int32) (G9 : TG) => (K_block M x y).1 = 0 ∧ (∃ α9 : Nat → Nat → Nat, PX ac dE h0 α9 (K_block M x y).2.1 (nV (K_block M x y).2.1) G9) ∧ z = (K_block M x y).2.2) (fun (G9 : TG) t => tkM A D G9 t.heap) A) (XG (fun E => (E, (K_block M x y).1) ∈ ([("java/lang/IndexOutOfBoundsException", 1), ("java/lang/IllegalArgumentException", 2), ("java/lang/IllegalStateException", 3), ("java/lang/UnsupportedOperationException", 4)] : List (String × Int32)))) 3 18 A := by
  refine vx_ofW (cc := cX4_block) (maxL := 5) (ret := (some .int)) (by decide) rfl ?_
  intro p e s m args below meth c s₁ B hml hno hv
  obtain ⟨rfl, ⟨hM, hK, hA, hF⟩, hO⟩ := hv
  have hS : va_S A s.heap s.heap [] := va_S.rf
  have hE : tkE s.heap s.heap := tkE.rf
  have hx := B.exec
  have hb := B.bytes
  have hr := B.returns
  have hts := atoms_spec (ws := wsX4_block) B.pre
  have hown : s.vm.findClass RX4 = some m.cls := findClass_of_methodNamed B.named
  have hlocks := B.notSynchronized
  have S0 : CallFix p m c cX4_block 5 s ([.ref h0, .int x, .int y] : List Value).toArray wsX4_block RX4 := ⟨hx, hb, hml, hown, hts⟩
  have inX4 : ∀ w ∈ wsX40, w ∈ wsX4_block := by decide +kernel
  have inX3 : ∀ w ∈ wsX30, w ∈ wsX4_block := by decide +kernel
  have hl := lv_entry ([.ref h0, .int x, .int y]) (n := 5) (Nat.le_of_ble_eq_true rfl)
  rw [lg_entry_eq]
  generalize (lg_sl ([.ref h0, .int x, .int y]) ++ List.replicate (5 - (lg_sl ([.ref h0, .int x, .int y])).length) Slot.unset).toArray = ls at hl ⊢
  have hl : lv_has ls 5 [(0, .ref h0), (1, .int x), (2, .int y)] := hl
  have bT := hW.t.2
  have bE := hW.e.2
  have bV := hW.v.2
  refine lv_aload_n hx hb dX4_block_0 rfl (lv_at hl 0 rfl) ?_
  refine lv_iload_n hx hb dX4_block_1 rfl (lv_at hl 1 rfl) ?_
  refine tk_xVq (As := [.int x]) S0 (c_X4_requireTask l hst A D ac dE _ hP hW x) (cwV 1 hts gX4_block_X4_requireTask rfl rfl rfl (by decide +kernel) ⟨Nat.le_of_ble_eq_true rfl, Nat.le_of_ble_eq_true rfl⟩) (tkX.blind) (tkX.at hM hK hA hF hO hS) (tk_recv hK hM hP.h rfl) rfl hl.1 rfl (Nat.le_of_ble_eq_true rfl) dX4_block_2 ⟨Nat.le_of_ble_eq_true rfl, Nat.le_of_ble_eq_true rfl⟩ hS hE hno hlocks ⟨Nat.le_of_ble_eq_true rfl, Nat.le_of_ble_eq_true rfl⟩ (fun E h9 => by obtain ⟨rfl, h9⟩ := h9; exact (xl (k := 1) (by rw [K_block, if_pos (Or.inl h9)]) (by decide +kernel))) (fun r_1 H locs hr_1 hq9 hE hS => ?_)
  have hM := hM.keptE hq9
  obtain ⟨hok, rfl⟩ := hr_1
  have hokc := hok
  obtain ⟨t, ht, rfl⟩ := tkOk_ex (by omega) hokc
  rw [show tn (nI t) = t from nI_clamp (by omega)]
  refine lv_astore_n (lv' := [(3, .ref (α 1 t)), (0, .ref h0), (1, .int (nI t)), (2, .int y)]) hx hb dX4_block_5 rfl hl (by decide) rfl (fun ls hl => ?_)
  refine lv_aload_n hx hb dX4_block_6 rfl (lv_at hl 1 rfl) ?_
  refine lv_iload_n hx hb dX4_block_7 rfl (lv_at hl 3 rfl) ?_
  refine tk_xVq (As := [.int y]) S0 (c_X4_requireTask l hst A D ac dE _ hP hW y) (cwV 1 hts gX4_block_X4_requireTask rfl rfl rfl (by decide +kernel) ⟨Nat.le_of_ble_eq_true rfl, Nat.le_of_ble_eq_true rfl⟩) (tkX.blind) (tkX.at hM hK hA hF hO hS) (tk_recv hK hM hP.h rfl) rfl hl.1 rfl (Nat.le_of_ble_eq_true rfl) dX4_block_8 ⟨Nat.le_of_ble_eq_true rfl, Nat.le_of_ble_eq_true rfl⟩ hS hE hno hlocks ⟨Nat.le_of_ble_eq_true rfl, Nat.le_of_ble_eq_true rfl⟩ (fun E h9 => by obtain ⟨rfl, h9⟩ := h9; exact (xl (k := 1) (by rw [K_block, if_pos (Or.inr h9)]) (by decide +kernel))) (fun r_2 H locs hr_2 hq9 hE hS => ?_)
  have hM := hM.keptE hq9
  obtain ⟨hok2, rfl⟩ := hr_2
  have hok2c := hok2
  obtain ⟨t2, ht2, rfl⟩ := tkOk_ex (by omega) hok2c
  rw [show tn (nI t2) = t2 from nI_clamp (by omega)]
  refine lv_astore (lv' := [(4, .ref (α 1 t2)), (3, .ref (α 1 t)), (0, .ref h0), (1, .int (nI t)), (2, .int (nI t2))]) hx hb dX4_block_11 hl (by decide) rfl (fun ls hl => ?_)
  refine lv_iload_n hx hb dX4_block_13 rfl (lv_at hl 3 rfl) ?_
  refine lv_iload_n hx hb dX4_block_14 rfl (lv_at hl 4 rfl) ?_
  refine lv_icmp_ne (tgt := 28) hx hb dX4_block_15 (by decide) (fun c_3 => ?_) (fun c_3 => ?_)
  · skip
    refine lv_aload hx hb dX4_block_28 (lv_at hl 0 rfl) ?_
    refine lv_aload_n hx hb dX4_block_30 rfl (lv_at hl 1 rfl) ?_
    refine tk_cVi (As := [.ref (α 1 t)]) S0 (c_X3_isBlockedBy l A D ac dE _ hP t2 t ht2 ht) (cwV 1 hts gX4_block_X3_isBlockedBy rfl rfl rfl (by decide +kernel) ⟨Nat.le_of_ble_eq_true rfl, Nat.le_of_ble_eq_true rfl⟩) (tkX.blind) (tkX.at hM hK hA hF hO hS) (tk_recv hK hM (hP.t ht2) rfl) rfl hl.1 rfl (Nat.le_of_ble_eq_true rfl) dX4_block_31 ⟨Nat.le_of_ble_eq_true rfl, Nat.le_of_ble_eq_true rfl⟩ (fun r_4 hr_4 => ?_)
    rcases hr_4 with ⟨rfl, hr_4⟩ | ⟨rfl, hr_4⟩
    · skip
      refine lv_if_ne (tgt := 46) hx hb dX4_block_34 (by decide) (fun c_5 => ?_) (fun c_5 => absurd c_5 (by decide))
      exact tk_th hst hx hb hown (by decide) (hts (.classLink RX4 66 "java/lang/IllegalStateException") (by decide +kernel)) (hts (.initialized "java/lang/IllegalStateException") (by decide +kernel)) (text := "it blocks the other one, or there are 20 blocks") (by decide) (by decide) (fun w hw => hts w (List.mem_cons_of_mem _ (List.mem_append_left _ (List.mem_append_left _ (List.mem_append_right _ hw))))) ng_70 ot_70 hF hO hS hE (hl.1.trans hml.symm) hno hlocks dX4_block_46 dX4_block_49 dX4_block_50 dX4_block_52 dX4_block_55 (Nat.le_of_ble_eq_true rfl) (Nat.le_of_ble_eq_true rfl) ⟨Nat.le_of_ble_eq_true rfl, Nat.le_of_ble_eq_true rfl⟩ ⟨Nat.le_of_ble_eq_true rfl, Nat.le_of_ble_eq_true rfl⟩ (xl (k := 3) (by rw [K_block, if_neg (by rw [hok, hok2]; decide), if_neg c_3, show tn (nI t) = t from nI_clamp (by omega), show tn (nI t2) = t2 from nI_clamp (by omega), if_pos (Or.inl hr_4)]) (by decide +kernel))
    · skip
      refine lv_if_ne (tgt := 46) hx hb dX4_block_34 (by decide) (fun c_6 => absurd c_6 (by decide)) (fun c_6 => ?_)
      refine lv_aload_n hx hb dX4_block_37 rfl (lv_at hl 2 rfl) ?_
      refine tk_get hx hb hts inX4 hown hK hM hP.h rfl 5 (by decide) (hts (.fieldLink RX4 41 "TicketForge" "blockCount" "I") (by decide +kernel)) (fun _ h9 => h9) rfl dX4_block_38 ?_
      refine lv_bipush (v := 20) hx hb dX4_block_41 (by decide) ?_
      refine lv_icmp_lt (tgt := 56) hx hb dX4_block_43 (by decide) (fun c_7 => ?_) (fun c_7 => ?_)
      · skip
        refine lv_aload_n hx hb dX4_block_56 rfl (lv_at hl 2 rfl) ?_
        refine lv_aload_n hx hb dX4_block_57 rfl (lv_at hl 1 rfl) ?_
        refine lv_aload hx hb dX4_block_58 (lv_at hl 0 rfl) ?_
        refine tk_cVi (As := [.ref (α 1 t), .ref (α 1 t2)]) S0 (c_X4_isBlockedByChain l A D ac dE _ hP hW t t2 ht ht2) (cwV 2 hts gX4_block_X4_isBlockedByChain rfl rfl rfl (by decide +kernel) ⟨Nat.le_of_ble_eq_true rfl, Nat.le_of_ble_eq_true rfl⟩) (tkX.blind) (tkX.at hM hK hA hF hO hS) (tk_recv hK hM hP.h rfl) rfl hl.1 rfl (Nat.le_of_ble_eq_true rfl) dX4_block_60 ⟨Nat.le_of_ble_eq_true rfl, Nat.le_of_ble_eq_true rfl⟩ (fun r_8 hr_8 => ?_)
        rcases hr_8 with ⟨rfl, hr_8⟩ | ⟨rfl, hr_8⟩
        · skip
          refine lv_if_eq (tgt := 76) hx hb dX4_block_63 (by decide) (fun c_9 => absurd c_9 (by decide)) (fun c_9 => ?_)
          exact tk_th hst hx hb hown (by decide) (hts (.classLink RX4 77 "java/lang/UnsupportedOperationException") (by decide +kernel)) (hts (.initialized "java/lang/UnsupportedOperationException") (by decide +kernel)) (text := "the other one blocks it") (by decide) (by decide) (fun w hw => hts w (List.mem_cons_of_mem _ (List.mem_append_left _ (List.mem_append_right _ hw)))) ng_81 ot_81 hF hO hS hE (hl.1.trans hml.symm) hno hlocks dX4_block_66 dX4_block_69 dX4_block_70 dX4_block_72 dX4_block_75 (Nat.le_of_ble_eq_true rfl) (Nat.le_of_ble_eq_true rfl) ⟨Nat.le_of_ble_eq_true rfl, Nat.le_of_ble_eq_true rfl⟩ ⟨Nat.le_of_ble_eq_true rfl, Nat.le_of_ble_eq_true rfl⟩ (xl (k := 4) (by rw [K_block, if_neg (by rw [hok, hok2]; decide), if_neg c_3, show tn (nI t) = t from nI_clamp (by omega), show tn (nI t2) = t2 from nI_clamp (by omega), if_neg (fun h9 => h9.elim (by rw [hr_4]; decide) (Int32.not_le.mpr c_7)), if_pos hr_8]) (by decide +kernel))
        · skip
          refine lv_if_eq (tgt := 76) hx hb dX4_block_63 (by decide) (fun c_10 => ?_) (fun c_10 => absurd (by decide) c_10)
          have hP := hP.st6 (i := 16 * t + t2) (v := 1)
          have hW := hW.s6 (i := 16 * t + t2)
          refine lv_aload hx hb dX4_block_76 (lv_at hl 0 rfl) ?_
          refine lv_aload_n hx hb dX4_block_78 rfl (lv_at hl 1 rfl) ?_
          refine tk_mVv (As := [.ref (α 1 t)]) S0 (c_X3_addBlocker l A D ac dE _ hP t2 t ht2 ht) (cwV 1 hts gX4_block_X3_addBlocker rfl rfl rfl (by decide +kernel) ⟨Nat.le_of_ble_eq_true rfl, Nat.le_of_ble_eq_true rfl⟩) (tkX.blind) (tkX.at hM hK hA hF hO hS) (tk_recv hK hM (hP.t ht2) rfl) rfl hl.1 rfl (Nat.le_of_ble_eq_true rfl) dX4_block_79 ⟨Nat.le_of_ble_eq_true rfl, Nat.le_of_ble_eq_true rfl⟩ hS (fun G H locs hpr_11 hM hS => ?_)
          have hP := hpr_11
          have hW := hW.ofst 19 (by decide) (i := t2) (v := ((st M 6 (16 * t + t2) 1) 19 t2 ||| bitOf t))
          have eT : nT (st (st M 6 (16 * t + t2) 1) 19 t2 ((st M 6 (16 * t + t2) 1) 19 t2 ||| bitOf t)) = nT (st M 6 (16 * t + t2) 1) := rfl
          have eE : nE (st (st M 6 (16 * t + t2) 1) 19 t2 ((st M 6 (16 * t + t2) 1) 19 t2 ||| bitOf t)) = nE (st M 6 (16 * t + t2) 1) := rfl
          have eV : nV (st (st M 6 (16 * t + t2) 1) 19 t2 ((st M 6 (16 * t + t2) 1) 19 t2 ||| bitOf t)) = nV (st M 6 (16 * t + t2) 1) := rfl
          have bT := hW.t.2
          have bE := hW.e.2
          have bV := hW.v.2
          refine lv_aload_n hx hb dX4_block_82 rfl (lv_at hl 2 rfl) ?_
          refine lv_dup hx hb dX4_block_83 rfl ?_
          refine tk_get hx hb hts inX4 hown hK hM hP.h rfl 5 (by decide) (hts (.fieldLink RX4 41 "TicketForge" "blockCount" "I") (by decide +kernel)) (fun _ h9 => h9) rfl dX4_block_84 ?_
          refine lv_iconst (v := 1) hx hb dX4_block_87 (by decide) ?_
          refine lv_iadd hx hb dX4_block_88 ?_
          refine tk_put (ty := .int) hx hb hts inX4 tyX4 tyX4_ok nmX4 hown hK hM hS hP.h rfl 5 (by decide) (hts (.fieldLink RX4 41 "TicketForge" "blockCount" "I") (by decide +kernel)) (fun _ h9 => h9) rfl (by decide +kernel) rfl rfl (Nat.le_of_ble_eq_true rfl) dX4_block_89 (fun H locs hM hS => ?_)
          have hP := hP.h5 (v := (((st (st M 6 (16 * t + t2) 1) 19 t2 ((st M 6 (16 * t + t2) 1) 19 t2 ||| bitOf t)) 0 20) + 1))
          have hW := hW.of0 (k := 20) (v := (((st (st M 6 (16 * t + t2) 1) 19 t2 ((st M 6 (16 * t + t2) 1) 19 t2 ||| bitOf t)) 0 20) + 1)) (by decide)
          have eT : nT (st (st (st M 6 (16 * t + t2) 1) 19 t2 ((st M 6 (16 * t + t2) 1) 19 t2 ||| bitOf t)) 0 20 (((st (st M 6 (16 * t + t2) 1) 19 t2 ((st M 6 (16 * t + t2) 1) 19 t2 ||| bitOf t)) 0 20) + 1)) = nT (st (st M 6 (16 * t + t2) 1) 19 t2 ((st M 6 (16 * t + t2) 1) 19 t2 ||| bitOf t)) := rfl
          have eE : nE (st (st (st M 6 (16 * t + t2) 1) 19 t2 ((st M 6 (16 * t + t2) 1) 19 t2 ||| bitOf t)) 0 20 (((st (st M 6 (16 * t + t2) 1) 19 t2 ((st M 6 (16 * t + t2) 1) 19 t2 ||| bitOf t)) 0 20) + 1)) = nE (st (st M 6 (16 * t + t2) 1) 19 t2 ((st M 6 (16 * t + t2) 1) 19 t2 ||| bitOf t)) := rfl
          have eV : nV (st (st (st M 6 (16 * t + t2) 1) 19 t2 ((st M 6 (16 * t + t2) 1) 19 t2 ||| bitOf t)) 0 20 (((st (st M 6 (16 * t + t2) 1) 19 t2 ((st M 6 (16 * t + t2) 1) 19 t2 ||| bitOf t)) 0 20) + 1)) = nV (st (st M 6 (16 * t + t2) 1) 19 t2 ((st M 6 (16 * t + t2) 1) 19 t2 ||| bitOf t)) := rfl
          have bT := hW.t.2
          have bE := hW.e.2
          have bV := hW.v.2
          refine lv_aload hx hb dX4_block_92 (lv_at hl 0 rfl) ?_
          refine tk_get hx hb hts inX3 hown hK hM (hP.t ht2) rfl 5 (by decide) (hts (.fieldLink RX4 110 "TicketForge$Task" "blockers" "I") (by decide +kernel)) (fun _ h9 => h9) rfl dX4_block_94 ?_
          rw [show ((st (st (st M 6 (16 * t + t2) 1) 19 t2 ((st M 6 (16 * t + t2) 1) 19 t2 ||| bitOf t)) 0 20 (((st (st M 6 (16 * t + t2) 1) 19 t2 ((st M 6 (16 * t + t2) 1) 19 t2 ||| bitOf t)) 0 20) + 1))) 19 t2 = (M 19 t2 ||| bitOf t) from by rw [st_ne _ _ _ (show 19 ≠ 0 by decide), st_self]; rfl]
          refine tk_cSi (As := [.int (M 19 t2 ||| bitOf t)]) S0 (c_J6_bitCount_0f7a4 l A D ac dE _ (M 19 t2 ||| bitOf t)) (va_cwS 1 hts gX4_block_J6_bitCount_0f7a4 rfl rfl rfl (by decide +kernel) ⟨Nat.le_of_ble_eq_true rfl, Nat.le_of_ble_eq_true rfl⟩) (tkX.blind) (tkX.at hM hK hA hF hO hS) rfl hl.1 rfl (Nat.le_of_ble_eq_true rfl) dX4_block_97 ⟨Nat.le_of_ble_eq_true rfl, Nat.le_of_ble_eq_true rfl⟩ (fun r_12 hr_12 => ?_)
          subst hr_12
          refine vx_ret ?_
          refine W.widen (k := 3) (n := 18) (Nat.le_of_ble_eq_true rfl) (Nat.le_of_ble_eq_true rfl) ?_
          have eS : K_block M (nI t) (nI t2) = (0, (st (st (st M 6 (16 * t + t2) 1) 19 t2 ((st M 6 (16 * t + t2) 1) 19 t2 ||| bitOf t)) 0 20 (((st (st M 6 (16 * t + t2) 1) 19 t2 ((st M 6 (16 * t + t2) 1) 19 t2 ||| bitOf t)) 0 20) + 1)), bcI (M 19 t2 ||| bitOf t)) := (by rw [K_block, if_neg (by rw [hok, hok2]; decide), if_neg c_3, show tn (nI t) = t from nI_clamp (by omega), show tn (nI t2) = t2 from nI_clamp (by omega), if_neg (fun h9 => h9.elim (by rw [hr_4]; decide) (Int32.not_le.mpr c_7)), if_neg (by rw [hr_8]; decide), nBlock, st_comm (f := 0) (g := 19) (by decide)]; rfl)
          exact W.iret (v := (bcI (M 19 t2 ||| bitOf t))) hx hb hr (fun t9 h9 w9 => ⟨⟨(bcI (M 19 t2 ||| bitOf t)), _, rfl, (by rw [eS]; exact ⟨rfl, ⟨_, hP⟩, rfl⟩), (by show tkM A D _ _; rw [h9]; exact hM)⟩, hS.F h9⟩) hS.2.2 dX4_block_100
      · skip
        exact tk_th hst hx hb hown (by decide) (hts (.classLink RX4 66 "java/lang/IllegalStateException") (by decide +kernel)) (hts (.initialized "java/lang/IllegalStateException") (by decide +kernel)) (text := "it blocks the other one, or there are 20 blocks") (by decide) (by decide) (fun w hw => hts w (List.mem_cons_of_mem _ (List.mem_append_left _ (List.mem_append_left _ (List.mem_append_right _ hw))))) ng_70 ot_70 hF hO hS hE (hl.1.trans hml.symm) hno hlocks dX4_block_46 dX4_block_49 dX4_block_50 dX4_block_52 dX4_block_55 (Nat.le_of_ble_eq_true rfl) (Nat.le_of_ble_eq_true rfl) ⟨Nat.le_of_ble_eq_true rfl, Nat.le_of_ble_eq_true rfl⟩ ⟨Nat.le_of_ble_eq_true rfl, Nat.le_of_ble_eq_true rfl⟩ (xl (k := 3) (by rw [K_block, if_neg (by rw [hok, hok2]; decide), if_neg c_3, show tn (nI t) = t from nI_clamp (by omega), show tn (nI t2) = t2 from nI_clamp (by omega), if_pos (Or.inr (Int32.not_lt.mp c_7))]) (by decide +kernel))
  · skip
    exact tk_th hst hx hb hown (by decide) (hts (.classLink RX4 55 "java/lang/IllegalArgumentException") (by decide +kernel)) (hts (.initialized "java/lang/IllegalArgumentException") (by decide +kernel)) (text := "a task does not block itself") (by decide) (by decide) (fun w hw => hts w (List.mem_cons_of_mem _ (List.mem_append_left _ (List.mem_append_left _ (List.mem_append_left _ (List.mem_append_right _ hw)))))) ng_59 ot_59 hF hO hS hE (hl.1.trans hml.symm) hno hlocks dX4_block_18 dX4_block_21 dX4_block_22 dX4_block_24 dX4_block_27 (Nat.le_of_ble_eq_true rfl) (Nat.le_of_ble_eq_true rfl) ⟨Nat.le_of_ble_eq_true rfl, Nat.le_of_ble_eq_true rfl⟩ ⟨Nat.le_of_ble_eq_true rfl, Nat.le_of_ble_eq_true rfl⟩ (xl (k := 2) (by rw [K_block, if_neg (by rw [hok, hok2]; decide), if_pos c_3]) (by decide +kernel))
