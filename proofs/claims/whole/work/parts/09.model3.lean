/-! the model: calls, further -/
set_option maxHeartbeats 4000000 in
set_option maxRecDepth 100000 in
theorem c_X5_state (l : Launch) (A : Nat → Prop) (D : va_G) (ac : Nat → ClassId) (G : TG) {m0 : Nat} {am : Nat → Nat} {th : Int32} {M : TS} (hR : PR ac m0 am th M G) (hW : W0 M) (h1 : W1 M) (x : Int32) : Met l yX5_state wsX5_state ({ frames := 3, cells := 0, slots := 0, locals := 180 } : Room) (va_Pc [.ref m0, .int x] (tkJ A D ac G)) (va_Qi (fun (z : Int32) (G9 : TG) => PR ac m0 am (S_state M x).1 (S_state M x).2.1 G9 ∧ z = (S_state M x).2.2) (fun (G9 : TG) t => tkM A D G9 t.heap) A) 0 0 A := by
  refine Met.ofW (cc := cX5_state) (maxL := 2) (ret := (some .char)) (by decide) rfl ?_
  intro p e s m args below meth c s₁ B hml hv
  obtain ⟨rfl, hM, hK⟩ := hv
  have hS : va_S A s.heap s.heap [] := va_S.rf
  have hx := B.exec
  have hb := B.bytes
  have hr := B.returns
  have hts := atoms_spec (ws := wsX5_state) B.pre
  have hown : s.vm.findClass RX5 = some m.cls := findClass_of_methodNamed B.named
  have hlocks := B.notSynchronized
  have S0 : CallFix p m c cX5_state 2 s ([.ref m0, .int x] : List Value).toArray wsX5_state RX5 := ⟨hx, hb, hml, hown, hts⟩
  have inX5 : ∀ w ∈ wsX50, w ∈ wsX5_state := by decide +kernel
  have hl := lv_entry ([.ref m0, .int x]) (n := 2) (Nat.le_of_ble_eq_true rfl)
  rw [lg_entry_eq]
  generalize (lg_sl ([.ref m0, .int x]) ++ List.replicate (2 - (lg_sl ([.ref m0, .int x])).length) Slot.unset).toArray = ls at hl ⊢
  have hl : lv_has ls 2 [(0, .ref m0), (1, .int x)] := hl
  have bT := hW.t.2
  have bE := hW.e.2
  have bV := hW.v.2
  refine lv_aload_n hx hb dX5_state_0 rfl (lv_at hl 0 rfl) ?_
  refine lv_aload_n hx hb dX5_state_1 rfl (lv_at hl 0 rfl) ?_
  refine lv_iload_n hx hb dX5_state_2 rfl (lv_at hl 1 rfl) ?_
  refine tk_cVi (As := [.int x]) S0 (c_X5_isTask l A D ac _ hR hW x) (cwV 1 hts gX5_state_X5_isTask rfl rfl rfl (by decide +kernel) ⟨Nat.le_of_ble_eq_true rfl, Nat.le_of_ble_eq_true rfl⟩) (tkJ.blind) (tkJ.at hM hK) (tk_recv hK hM hR.1 rfl) rfl hl.1 rfl (Nat.le_of_ble_eq_true rfl) dX5_state_3 ⟨Nat.zero_le _, Nat.zero_le _⟩ (fun r_1 hr_1 => ?_)
  rcases hr_1 with ⟨rfl, hr_1⟩ | ⟨rfl, hr_1⟩
  · have hok := hr_1
    obtain ⟨t, ht, rfl⟩ := tkOk_ex (by omega) hr_1
    refine tk_mVi (As := [.int 1]) S0 (c_X5_checked_t l A D ac _ hR) (cwV 1 hts gX5_state_X5_checked rfl rfl rfl (by decide +kernel) ⟨Nat.le_of_ble_eq_true rfl, Nat.le_of_ble_eq_true rfl⟩) (tkJ.blind) (tkJ.at hM hK) (tk_recv hK hM hR.1 rfl) rfl hl.1 rfl (Nat.le_of_ble_eq_true rfl) dX5_state_6 ⟨Nat.zero_le _, Nat.zero_le _⟩ hS (fun r_2 G H locs hp hM hS => ?_)
    obtain ⟨hR, hr_2⟩ := hp
    subst hr_2
    refine lv_if_le (tgt := 17) hx hb dX5_state_9 (by decide) (fun c_3 => ?_) (fun c_3 => absurd (by decide) c_3)
    refine lv_aload_n hx hb dX5_state_17 rfl (lv_at hl 0 rfl) ?_
    refine tk_get hx hb hts inX5 hown hK hM hR.1 rfl 3 (by decide) (hts (.fieldLink RX5 19 "TicketForgeModel" "states" "[C") (by decide +kernel)) (fun _ h9 => h9) rfl dX5_state_18 ?_
    refine lv_iload_n hx hb dX5_state_21 rfl (lv_at hl 1 rfl) ?_
    refine tk_cald hx hb hK hM 0 hR.a3 rfl (vp_in_nI (by omega) (by decide)) dX5_state_22 ?_
    rw [show (nI t).toNatClampNeg = t from nI_clamp (by omega)]
    have eS : S_state M (nI t) = (0, M, ((M 4) t)) := (by rw [S_state, show tn (nI t) = t from nI_clamp (show t < 2 ^ 31 by omega), if_neg (by rw [hok]; decide)])
    exact W.zret (v := ((M 4) t)) hx hb hr (h1.nt ht) (fun t9 h9 w9 => ⟨⟨((M 4) t), _, rfl, by rw [eS]; exact ⟨hR, rfl⟩, (by show tkM A D _ _; rw [h9]; exact hM)⟩, hS.F h9⟩) hS.2.2 dX5_state_23
  · skip
    refine tk_mVi (As := [.int 0]) S0 (c_X5_checked_f l A D ac _ hR) (cwV 1 hts gX5_state_X5_checked rfl rfl rfl (by decide +kernel) ⟨Nat.le_of_ble_eq_true rfl, Nat.le_of_ble_eq_true rfl⟩) (tkJ.blind) (tkJ.at hM hK) (tk_recv hK hM hR.1 rfl) rfl hl.1 rfl (Nat.le_of_ble_eq_true rfl) dX5_state_6 ⟨Nat.zero_le _, Nat.zero_le _⟩ hS (fun r_4 G H locs hp hM hS => ?_)
    obtain ⟨hR, hr_4⟩ := hp
    subst hr_4
    refine lv_if_le (tgt := 17) hx hb dX5_state_9 (by decide) (fun c_5 => absurd c_5 (by decide)) (fun c_5 => ?_)
    refine lv_bipush (v := 32) hx hb dX5_state_12 (by decide) ?_
    refine lv_goto (tgt := 23) hx hb dX5_state_14 (by decide) ?_
    have eS : S_state M x = (1, M, 32) := (by rw [S_state, if_pos hr_1])
    exact W.zret (v := 32) hx hb hr rfl (fun t9 h9 w9 => ⟨⟨32, _, rfl, by rw [eS]; exact ⟨hR, rfl⟩, (by show tkM A D _ _; rw [h9]; exact hM)⟩, hS.F h9⟩) hS.2.2 dX5_state_23
set_option maxHeartbeats 4000000 in
set_option maxRecDepth 100000 in
theorem c_X5_entryState (l : Launch) (A : Nat → Prop) (D : va_G) (ac : Nat → ClassId) (G : TG) {m0 : Nat} {am : Nat → Nat} {th : Int32} {M : TS} (hR : PR ac m0 am th M G) (hW : W0 M) (h1 : W1 M) (x : Int32) : Met l yX5_entryState wsX5_entryState ({ frames := 3, cells := 0, slots := 0, locals := 180 } : Room) (va_Pc [.ref m0, .int x] (tkJ A D ac G)) (va_Qi (fun (z : Int32) (G9 : TG) => PR ac m0 am (S_entryState M x).1 (S_entryState M x).2.1 G9 ∧ z = (S_entryState M x).2.2) (fun (G9 : TG) t => tkM A D G9 t.heap) A) 0 0 A := by
  refine Met.ofW (cc := cX5_entryState) (maxL := 2) (ret := (some .char)) (by decide) rfl ?_
  intro p e s m args below meth c s₁ B hml hv
  obtain ⟨rfl, hM, hK⟩ := hv
  have hS : va_S A s.heap s.heap [] := va_S.rf
  have hx := B.exec
  have hb := B.bytes
  have hr := B.returns
  have hts := atoms_spec (ws := wsX5_entryState) B.pre
  have hown : s.vm.findClass RX5 = some m.cls := findClass_of_methodNamed B.named
  have hlocks := B.notSynchronized
  have S0 : CallFix p m c cX5_entryState 2 s ([.ref m0, .int x] : List Value).toArray wsX5_entryState RX5 := ⟨hx, hb, hml, hown, hts⟩
  have inX5 : ∀ w ∈ wsX50, w ∈ wsX5_entryState := by decide +kernel
  have hl := lv_entry ([.ref m0, .int x]) (n := 2) (Nat.le_of_ble_eq_true rfl)
  rw [lg_entry_eq]
  generalize (lg_sl ([.ref m0, .int x]) ++ List.replicate (2 - (lg_sl ([.ref m0, .int x])).length) Slot.unset).toArray = ls at hl ⊢
  have hl : lv_has ls 2 [(0, .ref m0), (1, .int x)] := hl
  have bT := hW.t.2
  have bE := hW.e.2
  have bV := hW.v.2
  refine lv_aload_n hx hb dX5_entryState_0 rfl (lv_at hl 0 rfl) ?_
  refine lv_aload_n hx hb dX5_entryState_1 rfl (lv_at hl 0 rfl) ?_
  refine lv_iload_n hx hb dX5_entryState_2 rfl (lv_at hl 1 rfl) ?_
  refine tk_cVi (As := [.int x]) S0 (c_X5_isEntry l A D ac _ hR hW x) (cwV 1 hts gX5_entryState_X5_isEntry rfl rfl rfl (by decide +kernel) ⟨Nat.le_of_ble_eq_true rfl, Nat.le_of_ble_eq_true rfl⟩) (tkJ.blind) (tkJ.at hM hK) (tk_recv hK hM hR.1 rfl) rfl hl.1 rfl (Nat.le_of_ble_eq_true rfl) dX5_entryState_3 ⟨Nat.zero_le _, Nat.zero_le _⟩ (fun r_1 hr_1 => ?_)
  rcases hr_1 with ⟨rfl, hr_1⟩ | ⟨rfl, hr_1⟩
  · have hok := hr_1
    obtain ⟨k, hk, rfl⟩ := tkOk_ex (by omega) hr_1
    refine tk_mVi (As := [.int 1]) S0 (c_X5_checked_t l A D ac _ hR) (cwV 1 hts gX5_entryState_X5_checked rfl rfl rfl (by decide +kernel) ⟨Nat.le_of_ble_eq_true rfl, Nat.le_of_ble_eq_true rfl⟩) (tkJ.blind) (tkJ.at hM hK) (tk_recv hK hM hR.1 rfl) rfl hl.1 rfl (Nat.le_of_ble_eq_true rfl) dX5_entryState_6 ⟨Nat.zero_le _, Nat.zero_le _⟩ hS (fun r_2 G H locs hp hM hS => ?_)
    obtain ⟨hR, hr_2⟩ := hp
    subst hr_2
    refine lv_if_le (tgt := 17) hx hb dX5_entryState_9 (by decide) (fun c_3 => ?_) (fun c_3 => absurd (by decide) c_3)
    refine lv_aload_n hx hb dX5_entryState_17 rfl (lv_at hl 0 rfl) ?_
    refine tk_get hx hb hts inX5 hown hK hM hR.1 rfl 4 (by decide) (hts (.fieldLink RX5 23 "TicketForgeModel" "entryStates" "[C") (by decide +kernel)) (fun _ h9 => h9) rfl dX5_entryState_18 ?_
    refine lv_iload_n hx hb dX5_entryState_21 rfl (lv_at hl 1 rfl) ?_
    refine tk_cald hx hb hK hM 0 hR.a4 rfl (vp_in_nI (by omega) (by decide)) dX5_entryState_22 ?_
    rw [show (nI k).toNatClampNeg = k from nI_clamp (by omega)]
    have eS : S_entryState M (nI k) = (0, M, ((M 5) k)) := (by rw [S_entryState, show tn (nI k) = k from nI_clamp (show k < 2 ^ 31 by omega), if_neg (by rw [hok]; decide)])
    exact W.zret (v := ((M 5) k)) hx hb hr (h1.ne hk) (fun t9 h9 w9 => ⟨⟨((M 5) k), _, rfl, by rw [eS]; exact ⟨hR, rfl⟩, (by show tkM A D _ _; rw [h9]; exact hM)⟩, hS.F h9⟩) hS.2.2 dX5_entryState_23
  · skip
    refine tk_mVi (As := [.int 0]) S0 (c_X5_checked_f l A D ac _ hR) (cwV 1 hts gX5_entryState_X5_checked rfl rfl rfl (by decide +kernel) ⟨Nat.le_of_ble_eq_true rfl, Nat.le_of_ble_eq_true rfl⟩) (tkJ.blind) (tkJ.at hM hK) (tk_recv hK hM hR.1 rfl) rfl hl.1 rfl (Nat.le_of_ble_eq_true rfl) dX5_entryState_6 ⟨Nat.zero_le _, Nat.zero_le _⟩ hS (fun r_4 G H locs hp hM hS => ?_)
    obtain ⟨hR, hr_4⟩ := hp
    subst hr_4
    refine lv_if_le (tgt := 17) hx hb dX5_entryState_9 (by decide) (fun c_5 => absurd c_5 (by decide)) (fun c_5 => ?_)
    refine lv_bipush (v := 32) hx hb dX5_entryState_12 (by decide) ?_
    refine lv_goto (tgt := 23) hx hb dX5_entryState_14 (by decide) ?_
    have eS : S_entryState M x = (1, M, 32) := (by rw [S_entryState, if_pos hr_1])
    exact W.zret (v := 32) hx hb hr rfl (fun t9 h9 w9 => ⟨⟨32, _, rfl, by rw [eS]; exact ⟨hR, rfl⟩, (by show tkM A D _ _; rw [h9]; exact hM)⟩, hS.F h9⟩) hS.2.2 dX5_entryState_23
set_option maxHeartbeats 4000000 in
set_option maxRecDepth 100000 in
theorem c_X5_parent (l : Launch) (A : Nat → Prop) (D : va_G) (ac : Nat → ClassId) (G : TG) {m0 : Nat} {am : Nat → Nat} {th : Int32} {M : TS} (hR : PR ac m0 am th M G) (hW : W0 M) (x : Int32) : Met l yX5_parent wsX5_parent ({ frames := 3, cells := 0, slots := 0, locals := 180 } : Room) (va_Pc [.ref m0, .int x] (tkJ A D ac G)) (va_Qi (fun (z : Int32) (G9 : TG) => PR ac m0 am (S_parent M x).1 (S_parent M x).2.1 G9 ∧ z = (S_parent M x).2.2) (fun (G9 : TG) t => tkM A D G9 t.heap) A) 0 0 A := by
  refine Met.ofW (cc := cX5_parent) (maxL := 2) (ret := (some .int)) (by decide) rfl ?_
  intro p e s m args below meth c s₁ B hml hv
  obtain ⟨rfl, hM, hK⟩ := hv
  have hS : va_S A s.heap s.heap [] := va_S.rf
  have hx := B.exec
  have hb := B.bytes
  have hr := B.returns
  have hts := atoms_spec (ws := wsX5_parent) B.pre
  have hown : s.vm.findClass RX5 = some m.cls := findClass_of_methodNamed B.named
  have hlocks := B.notSynchronized
  have S0 : CallFix p m c cX5_parent 2 s ([.ref m0, .int x] : List Value).toArray wsX5_parent RX5 := ⟨hx, hb, hml, hown, hts⟩
  have inX5 : ∀ w ∈ wsX50, w ∈ wsX5_parent := by decide +kernel
  have hl := lv_entry ([.ref m0, .int x]) (n := 2) (Nat.le_of_ble_eq_true rfl)
  rw [lg_entry_eq]
  generalize (lg_sl ([.ref m0, .int x]) ++ List.replicate (2 - (lg_sl ([.ref m0, .int x])).length) Slot.unset).toArray = ls at hl ⊢
  have hl : lv_has ls 2 [(0, .ref m0), (1, .int x)] := hl
  have bT := hW.t.2
  have bE := hW.e.2
  have bV := hW.v.2
  refine lv_aload_n hx hb dX5_parent_0 rfl (lv_at hl 0 rfl) ?_
  refine lv_aload_n hx hb dX5_parent_1 rfl (lv_at hl 0 rfl) ?_
  refine lv_iload_n hx hb dX5_parent_2 rfl (lv_at hl 1 rfl) ?_
  refine tk_cVi (As := [.int x]) S0 (c_X5_isTask l A D ac _ hR hW x) (cwV 1 hts gX5_parent_X5_isTask rfl rfl rfl (by decide +kernel) ⟨Nat.le_of_ble_eq_true rfl, Nat.le_of_ble_eq_true rfl⟩) (tkJ.blind) (tkJ.at hM hK) (tk_recv hK hM hR.1 rfl) rfl hl.1 rfl (Nat.le_of_ble_eq_true rfl) dX5_parent_3 ⟨Nat.zero_le _, Nat.zero_le _⟩ (fun r_1 hr_1 => ?_)
  rcases hr_1 with ⟨rfl, hr_1⟩ | ⟨rfl, hr_1⟩
  · have hok := hr_1
    obtain ⟨t, ht, rfl⟩ := tkOk_ex (by omega) hr_1
    refine lv_if_ne (tgt := 13) hx hb dX5_parent_6 (by decide) (fun c_2 => ?_) (fun c_2 => absurd c_2 (by decide))
    refine lv_aload_n hx hb dX5_parent_13 rfl (lv_at hl 0 rfl) ?_
    refine tk_get hx hb hts inX5 hown hK hM hR.1 rfl 0 (by decide) (hts (.fieldLink RX5 7 "TicketForgeModel" "parents" "[I") (by decide +kernel)) (fun _ h9 => h9) rfl dX5_parent_14 ?_
    refine lv_iload_n hx hb dX5_parent_17 rfl (lv_at hl 1 rfl) ?_
    refine tk_iald hx hb hK hM 1 hR.a0 rfl (vp_in_nI (by omega) (by decide)) dX5_parent_18 ?_
    rw [show (nI t).toNatClampNeg = t from nI_clamp (by omega)]
    refine lv_if_ge (tgt := 26) hx hb dX5_parent_19 (by decide) (fun c_3 => ?_) (fun c_3 => ?_)
    · skip
      refine lv_iconst (v := 0) hx hb dX5_parent_26 (by decide) ?_
      refine tk_put (ty := .int) hx hb hts inX5 tyX5 tyX5_ok nmX5 hown hK hM hS hR.1 rfl 18 (by decide) (hts (.fieldLink RX5 66 "TicketForgeModel" "thrown" "I") (by decide +kernel)) (fun _ h9 => h9) rfl (by decide +kernel) rfl rfl (Nat.le_of_ble_eq_true rfl) dX5_parent_27 (fun H locs hM hS => ?_)
      have hR := hR.th (v := 0)
      refine lv_aload_n hx hb dX5_parent_30 rfl (lv_at hl 0 rfl) ?_
      refine tk_get hx hb hts inX5 hown hK hM hR.1 rfl 18 (by decide) (hts (.fieldLink RX5 66 "TicketForgeModel" "thrown" "I") (by decide +kernel)) (fun _ h9 => h9) rfl dX5_parent_31 ?_
      refine lv_if_le (tgt := 41) hx hb dX5_parent_34 (by decide) (fun c_4 => ?_) (fun c_4 => absurd (by decide) c_4)
      refine lv_aload_n hx hb dX5_parent_41 rfl (lv_at hl 0 rfl) ?_
      refine tk_get hx hb hts inX5 hown hK hM hR.1 rfl 0 (by decide) (hts (.fieldLink RX5 7 "TicketForgeModel" "parents" "[I") (by decide +kernel)) (fun _ h9 => h9) rfl dX5_parent_42 ?_
      refine lv_iload_n hx hb dX5_parent_45 rfl (lv_at hl 1 rfl) ?_
      refine tk_iald hx hb hK hM 1 hR.a0 rfl (vp_in_nI (by omega) (by decide)) dX5_parent_46 ?_
      rw [show (nI t).toNatClampNeg = t from nI_clamp (by omega)]
      have eS : S_parent M (nI t) = (0, M, ((M 1) t)) := (by rw [S_parent, show tn (nI t) = t from nI_clamp (show t < 2 ^ 31 by omega), if_neg (by rw [hok]; decide), if_neg (Int32.not_lt.mpr c_3)])
      exact W.iret (v := ((M 1) t)) hx hb hr (fun t9 h9 w9 => ⟨⟨((M 1) t), _, rfl, by rw [eS]; exact ⟨hR, rfl⟩, (by show tkM A D _ _; rw [h9]; exact hM)⟩, hS.F h9⟩) hS.2.2 dX5_parent_47
    · skip
      refine lv_iconst (v := 2) hx hb dX5_parent_22 (by decide) ?_
      refine lv_goto (tgt := 27) hx hb dX5_parent_23 (by decide) ?_
      refine tk_put (ty := .int) hx hb hts inX5 tyX5 tyX5_ok nmX5 hown hK hM hS hR.1 rfl 18 (by decide) (hts (.fieldLink RX5 66 "TicketForgeModel" "thrown" "I") (by decide +kernel)) (fun _ h9 => h9) rfl (by decide +kernel) rfl rfl (Nat.le_of_ble_eq_true rfl) dX5_parent_27 (fun H locs hM hS => ?_)
      have hR := hR.th (v := 2)
      refine lv_aload_n hx hb dX5_parent_30 rfl (lv_at hl 0 rfl) ?_
      refine tk_get hx hb hts inX5 hown hK hM hR.1 rfl 18 (by decide) (hts (.fieldLink RX5 66 "TicketForgeModel" "thrown" "I") (by decide +kernel)) (fun _ h9 => h9) rfl dX5_parent_31 ?_
      refine lv_if_le (tgt := 41) hx hb dX5_parent_34 (by decide) (fun c_5 => absurd c_5 (by decide)) (fun c_5 => ?_)
      refine lv_iconst (v := 0) hx hb dX5_parent_37 (by decide) ?_
      refine lv_goto (tgt := 47) hx hb dX5_parent_38 (by decide) ?_
      have eS : S_parent M (nI t) = (2, M, 0) := (by rw [S_parent, show tn (nI t) = t from nI_clamp (show t < 2 ^ 31 by omega), if_neg (by rw [hok]; decide), if_pos (Int32.not_le.mp c_3)])
      exact W.iret (v := 0) hx hb hr (fun t9 h9 w9 => ⟨⟨0, _, rfl, by rw [eS]; exact ⟨hR, rfl⟩, (by show tkM A D _ _; rw [h9]; exact hM)⟩, hS.F h9⟩) hS.2.2 dX5_parent_47
  · skip
    refine lv_if_ne (tgt := 13) hx hb dX5_parent_6 (by decide) (fun c_6 => absurd c_6 (by decide)) (fun c_6 => ?_)
    refine lv_iconst (v := 1) hx hb dX5_parent_9 (by decide) ?_
    refine lv_goto (tgt := 27) hx hb dX5_parent_10 (by decide) ?_
    refine tk_put (ty := .int) hx hb hts inX5 tyX5 tyX5_ok nmX5 hown hK hM hS hR.1 rfl 18 (by decide) (hts (.fieldLink RX5 66 "TicketForgeModel" "thrown" "I") (by decide +kernel)) (fun _ h9 => h9) rfl (by decide +kernel) rfl rfl (Nat.le_of_ble_eq_true rfl) dX5_parent_27 (fun H locs hM hS => ?_)
    have hR := hR.th (v := 1)
    refine lv_aload_n hx hb dX5_parent_30 rfl (lv_at hl 0 rfl) ?_
    refine tk_get hx hb hts inX5 hown hK hM hR.1 rfl 18 (by decide) (hts (.fieldLink RX5 66 "TicketForgeModel" "thrown" "I") (by decide +kernel)) (fun _ h9 => h9) rfl dX5_parent_31 ?_
    refine lv_if_le (tgt := 41) hx hb dX5_parent_34 (by decide) (fun c_7 => absurd c_7 (by decide)) (fun c_7 => ?_)
    refine lv_iconst (v := 0) hx hb dX5_parent_37 (by decide) ?_
    refine lv_goto (tgt := 47) hx hb dX5_parent_38 (by decide) ?_
    have eS : S_parent M x = (1, M, 0) := (by rw [S_parent, if_pos hr_1])
    exact W.iret (v := 0) hx hb hr (fun t9 h9 w9 => ⟨⟨0, _, rfl, by rw [eS]; exact ⟨hR, rfl⟩, (by show tkM A D _ _; rw [h9]; exact hM)⟩, hS.F h9⟩) hS.2.2 dX5_parent_47
set_option maxHeartbeats 4000000 in
set_option maxRecDepth 100000 in
theorem c_X5_roomFor (l : Launch) (A : Nat → Prop) (D : va_G) (ac : Nat → ClassId) (G : TG) {m0 : Nat} {am : Nat → Nat} {th : Int32} {M : TS} (hR : PR ac m0 am th M G) (hW : W0 M) (t : Nat) (ht : t < nT M) : Met l yX5_roomFor wsX5_roomFor ({ frames := 2, cells := 0, slots := 0, locals := 140 } : Room) (va_Pc [.ref m0, .int (nI t)] (tkJ A D ac G)) (vp_Si (fun z => z = roomFor M t)) 0 0 (fun _ => False) := by
  refine Met.ofW (cc := cX5_roomFor) (maxL := 5) (ret := (some .int)) (by decide) rfl ?_
  intro p e s m args below meth c s₁ B hml hv
  obtain ⟨rfl, hM, hK⟩ := hv
  have hx := B.exec
  have hb := B.bytes
  have hr := B.returns
  have hts := atoms_spec (ws := wsX5_roomFor) B.pre
  have hown : s.vm.findClass RX5 = some m.cls := findClass_of_methodNamed B.named
  have hlocks := B.notSynchronized
  have S0 : CallFix p m c cX5_roomFor 5 s ([.ref m0, .int (nI t)] : List Value).toArray wsX5_roomFor RX5 := ⟨hx, hb, hml, hown, hts⟩
  have inX5 : ∀ w ∈ wsX50, w ∈ wsX5_roomFor := by decide +kernel
  have hl := lv_entry ([.ref m0, .int (nI t)]) (n := 5) (Nat.le_of_ble_eq_true rfl)
  rw [lg_entry_eq]
  generalize (lg_sl ([.ref m0, .int (nI t)]) ++ List.replicate (5 - (lg_sl ([.ref m0, .int (nI t)])).length) Slot.unset).toArray = ls at hl ⊢
  have hl : lv_has ls 5 [(0, .ref m0), (1, .int (nI t))] := hl
  have bT := hW.t.2
  have bE := hW.e.2
  have bV := hW.v.2
  refine lv_iconst (v := (-1)) hx hb dX5_roomFor_0 (by decide) ?_
  refine lv_istore_n (lv' := [(2, .int (-1)), (0, .ref m0), (1, .int (nI t))]) hx hb dX5_roomFor_1 rfl hl (by decide) rfl (fun ls hl => ?_)
  refine lv_iload_n hx hb dX5_roomFor_2 rfl (lv_at hl 2 rfl) ?_
  refine lv_istore_n (lv' := [(3, .int (nI t)), (2, .int (-1)), (0, .ref m0), (1, .int (nI t))]) hx hb dX5_roomFor_3 rfl hl (by decide) rfl (fun ls hl => ?_)
  refine tk_d2 (Wf := W p l e _ s m _ below meth c _ _ _ _ _) (fun q (x acc : Int32) ls => lv_has ls 5 [(0, .ref m0), (1, .int (nI t)), (2, .int acc), (3, .int x)] ∧ ((x < 0 ∧ acc = roomFor M t) ∨ ∃ d : Nat, q = d + 1 ∧ d < nT M ∧ x = nI d ∧ rmF M (d + 1) d acc = roomFor M t)) (fun q x acc ls hinv ih => ?_) (t + 1) _ _ ls ⟨(lv_sub hl [2, 3, 1, 0] rfl), Or.inr ⟨t, rfl, ht, rfl, rfl⟩⟩
  obtain ⟨hl, hinv⟩ := hinv
  refine lv_iload_n hx hb dX5_roomFor_4 rfl (lv_at hl 3 rfl) ?_
  refine lv_if_lt (tgt := 55) hx hb dX5_roomFor_5 (by decide) (fun c_1 => ?_) (fun c_1 => ?_)
  · rcases hinv with ⟨-, hfin⟩ | ⟨d, -, hd, rfl, -⟩
    rotate_left
    · exact absurd c_1 (nI_pos (by omega))
    refine lv_iload_n hx hb dX5_roomFor_55 rfl (lv_at hl 2 rfl) ?_
    exact W.iret (v := acc) hx hb hr (fun t9 h9 w9 => ⟨acc, rfl, hfin, h9⟩) (fun q hq => absurd hq List.not_mem_nil) dX5_roomFor_56
  · rcases hinv with ⟨hneg, -⟩ | ⟨d, rfl, hd, rfl, heq⟩
    · exact absurd hneg c_1
    refine lv_aload_n hx hb dX5_roomFor_8 rfl (lv_at hl 0 rfl) ?_
    refine tk_get hx hb hts inX5 hown hK hM hR.1 rfl 2 (by decide) (hts (.fieldLink RX5 16 "TicketForgeModel" "budgets" "[I") (by decide +kernel)) (fun _ h9 => h9) rfl dX5_roomFor_9 ?_
    refine lv_iload_n hx hb dX5_roomFor_12 rfl (lv_at hl 3 rfl) ?_
    refine tk_iald hx hb hK hM 1 hR.a2 rfl (vp_in_nI (by omega) (by decide)) dX5_roomFor_13 ?_
    rw [show (nI d).toNatClampNeg = d from nI_clamp (by omega)]
    refine lv_aload_n hx hb dX5_roomFor_14 rfl (lv_at hl 0 rfl) ?_
    refine lv_iload_n hx hb dX5_roomFor_15 rfl (lv_at hl 3 rfl) ?_
    refine tk_cVi (As := [.int (nI d)]) S0 (c_X5_hoursIn l A D ac _ hR hW d (by omega) ) (cwV 1 hts gX5_roomFor_X5_hoursIn rfl rfl rfl (by decide +kernel) ⟨Nat.le_of_ble_eq_true rfl, Nat.le_of_ble_eq_true rfl⟩) (tkJ.blind) (tkJ.at hM hK) (tk_recv hK hM hR.1 rfl) rfl hl.1 rfl (Nat.le_of_ble_eq_true rfl) dX5_roomFor_16 ⟨Nat.zero_le _, Nat.zero_le _⟩ (fun r_2 hr_2 => ?_)
    skip
    refine lv_isub hx hb dX5_roomFor_19 ?_
    refine lv_istore (lv' := [(4, .int (((M 3) d) - r_2)), (0, .ref m0), (1, .int (nI t)), (2, .int acc), (3, .int (nI d))]) hx hb dX5_roomFor_20 hl (by decide) rfl (fun ls hl => ?_)
    refine lv_aload_n hx hb dX5_roomFor_22 rfl (lv_at hl 1 rfl) ?_
    refine tk_get hx hb hts inX5 hown hK hM hR.1 rfl 2 (by decide) (hts (.fieldLink RX5 16 "TicketForgeModel" "budgets" "[I") (by decide +kernel)) (fun _ h9 => h9) rfl dX5_roomFor_23 ?_
    refine lv_iload_n hx hb dX5_roomFor_26 rfl (lv_at hl 4 rfl) ?_
    refine tk_iald hx hb hK hM 1 hR.a2 rfl (vp_in_nI (by omega) (by decide)) dX5_roomFor_27 ?_
    rw [show (nI d).toNatClampNeg = d from nI_clamp (by omega)]
    refine lv_if_le (tgt := 45) hx hb dX5_roomFor_28 (by decide) (fun c_3 => ?_) (fun c_3 => ?_)
    · skip
      refine lv_aload_n hx hb dX5_roomFor_45 rfl (lv_at hl 1 rfl) ?_
      refine tk_get hx hb hts inX5 hown hK hM hR.1 rfl 0 (by decide) (hts (.fieldLink RX5 7 "TicketForgeModel" "parents" "[I") (by decide +kernel)) (fun _ h9 => h9) rfl dX5_roomFor_46 ?_
      refine lv_iload_n hx hb dX5_roomFor_49 rfl (lv_at hl 4 rfl) ?_
      refine tk_iald hx hb hK hM 1 hR.a0 rfl (vp_in_nI (by omega) (by decide)) dX5_roomFor_50 ?_
      rw [show (nI d).toNatClampNeg = d from nI_clamp (by omega)]
      refine lv_istore_n (lv' := [(3, .int ((M 1) d)), (4, .int (((M 3) d) - r_2)), (0, .ref m0), (1, .int (nI t)), (2, .int acc)]) hx hb dX5_roomFor_51 rfl hl (by decide) rfl (fun ls hl => ?_)
      refine lv_goto (tgt := 4) hx hb dX5_roomFor_52 (by decide) ?_
      have hstp : stp M d acc = acc := by rw [stp, ← hr_2, if_neg (fun h => absurd h.1 (Int32.not_lt.mpr c_3))]
      rcases hW.p d hd with hp | ⟨u, hu, eu⟩
      · exact ih 0 _ _ ls (by omega) ⟨(lv_sub hl [2, 3, 4, 0] rfl), Or.inl ⟨hp, by rw [← heq, rm_top hp, hstp]⟩⟩
      · exact ih (u + 1) _ _ ls (by omega) ⟨(lv_sub hl [2, 3, 4, 0] rfl), Or.inr ⟨u, rfl, by omega, eu, by rw [← heq, rm_up (by omega) hW.p hd hu eu, hstp]⟩⟩
    · skip
      refine lv_iload_n hx hb dX5_roomFor_31 rfl (lv_at hl 3 rfl) ?_
      refine lv_iconst (v := (-1)) hx hb dX5_roomFor_32 (by decide) ?_
      refine lv_icmp_eq (tgt := 42) hx hb dX5_roomFor_33 (by decide) (fun c_4 => ?_) (fun c_4 => ?_)
      · skip
        refine lv_iload hx hb dX5_roomFor_42 (lv_at hl 0 rfl) ?_
        refine lv_istore_n (lv' := [(2, .int (((M 3) d) - r_2)), (4, .int (((M 3) d) - r_2)), (0, .ref m0), (1, .int (nI t)), (3, .int (nI d))]) hx hb dX5_roomFor_44 rfl hl (by decide) rfl (fun ls hl => ?_)
        refine lv_aload_n hx hb dX5_roomFor_45 rfl (lv_at hl 2 rfl) ?_
        refine tk_get hx hb hts inX5 hown hK hM hR.1 rfl 0 (by decide) (hts (.fieldLink RX5 7 "TicketForgeModel" "parents" "[I") (by decide +kernel)) (fun _ h9 => h9) rfl dX5_roomFor_46 ?_
        refine lv_iload_n hx hb dX5_roomFor_49 rfl (lv_at hl 4 rfl) ?_
        refine tk_iald hx hb hK hM 1 hR.a0 rfl (vp_in_nI (by omega) (by decide)) dX5_roomFor_50 ?_
        rw [show (nI d).toNatClampNeg = d from nI_clamp (by omega)]
        refine lv_istore_n (lv' := [(3, .int ((M 1) d)), (2, .int (((M 3) d) - r_2)), (4, .int (((M 3) d) - r_2)), (0, .ref m0), (1, .int (nI t))]) hx hb dX5_roomFor_51 rfl hl (by decide) rfl (fun ls hl => ?_)
        refine lv_goto (tgt := 4) hx hb dX5_roomFor_52 (by decide) ?_
        have hstp : stp M d acc = (((M 3) d) - r_2) := by rw [stp, ← hr_2, if_pos ⟨Int32.not_le.mp c_3, Or.inl c_4⟩]
        rcases hW.p d hd with hp | ⟨u, hu, eu⟩
        · exact ih 0 _ _ ls (by omega) ⟨(lv_sub hl [3, 4, 1, 0] rfl), Or.inl ⟨hp, by rw [← heq, rm_top hp, hstp]⟩⟩
        · exact ih (u + 1) _ _ ls (by omega) ⟨(lv_sub hl [3, 4, 1, 0] rfl), Or.inr ⟨u, rfl, by omega, eu, by rw [← heq, rm_up (by omega) hW.p hd hu eu, hstp]⟩⟩
      · skip
        refine lv_iload hx hb dX5_roomFor_36 (lv_at hl 0 rfl) ?_
        refine lv_iload_n hx hb dX5_roomFor_38 rfl (lv_at hl 3 rfl) ?_
        refine lv_icmp_ge (tgt := 45) hx hb dX5_roomFor_39 (by decide) (fun c_5 => ?_) (fun c_5 => ?_)
        · skip
          refine lv_aload_n hx hb dX5_roomFor_45 rfl (lv_at hl 1 rfl) ?_
          refine tk_get hx hb hts inX5 hown hK hM hR.1 rfl 0 (by decide) (hts (.fieldLink RX5 7 "TicketForgeModel" "parents" "[I") (by decide +kernel)) (fun _ h9 => h9) rfl dX5_roomFor_46 ?_
          refine lv_iload_n hx hb dX5_roomFor_49 rfl (lv_at hl 4 rfl) ?_
          refine tk_iald hx hb hK hM 1 hR.a0 rfl (vp_in_nI (by omega) (by decide)) dX5_roomFor_50 ?_
          rw [show (nI d).toNatClampNeg = d from nI_clamp (by omega)]
          refine lv_istore_n (lv' := [(3, .int ((M 1) d)), (4, .int (((M 3) d) - r_2)), (0, .ref m0), (1, .int (nI t)), (2, .int acc)]) hx hb dX5_roomFor_51 rfl hl (by decide) rfl (fun ls hl => ?_)
          refine lv_goto (tgt := 4) hx hb dX5_roomFor_52 (by decide) ?_
          have hstp : stp M d acc = acc := by rw [stp, ← hr_2, if_neg (fun h => h.2.elim (fun q => c_4 q) (fun q => absurd q (Int32.not_lt.mpr c_5)))]
          rcases hW.p d hd with hp | ⟨u, hu, eu⟩
          · exact ih 0 _ _ ls (by omega) ⟨(lv_sub hl [2, 3, 4, 0] rfl), Or.inl ⟨hp, by rw [← heq, rm_top hp, hstp]⟩⟩
          · exact ih (u + 1) _ _ ls (by omega) ⟨(lv_sub hl [2, 3, 4, 0] rfl), Or.inr ⟨u, rfl, by omega, eu, by rw [← heq, rm_up (by omega) hW.p hd hu eu, hstp]⟩⟩
        · skip
          refine lv_iload hx hb dX5_roomFor_42 (lv_at hl 0 rfl) ?_
          refine lv_istore_n (lv' := [(2, .int (((M 3) d) - r_2)), (4, .int (((M 3) d) - r_2)), (0, .ref m0), (1, .int (nI t)), (3, .int (nI d))]) hx hb dX5_roomFor_44 rfl hl (by decide) rfl (fun ls hl => ?_)
          refine lv_aload_n hx hb dX5_roomFor_45 rfl (lv_at hl 2 rfl) ?_
          refine tk_get hx hb hts inX5 hown hK hM hR.1 rfl 0 (by decide) (hts (.fieldLink RX5 7 "TicketForgeModel" "parents" "[I") (by decide +kernel)) (fun _ h9 => h9) rfl dX5_roomFor_46 ?_
          refine lv_iload_n hx hb dX5_roomFor_49 rfl (lv_at hl 4 rfl) ?_
          refine tk_iald hx hb hK hM 1 hR.a0 rfl (vp_in_nI (by omega) (by decide)) dX5_roomFor_50 ?_
          rw [show (nI d).toNatClampNeg = d from nI_clamp (by omega)]
          refine lv_istore_n (lv' := [(3, .int ((M 1) d)), (2, .int (((M 3) d) - r_2)), (4, .int (((M 3) d) - r_2)), (0, .ref m0), (1, .int (nI t))]) hx hb dX5_roomFor_51 rfl hl (by decide) rfl (fun ls hl => ?_)
          refine lv_goto (tgt := 4) hx hb dX5_roomFor_52 (by decide) ?_
          have hstp : stp M d acc = (((M 3) d) - r_2) := by rw [stp, ← hr_2, if_pos ⟨Int32.not_le.mp c_3, Or.inr (Int32.not_le.mp c_5)⟩]
          rcases hW.p d hd with hp | ⟨u, hu, eu⟩
          · exact ih 0 _ _ ls (by omega) ⟨(lv_sub hl [3, 4, 1, 0] rfl), Or.inl ⟨hp, by rw [← heq, rm_top hp, hstp]⟩⟩
          · exact ih (u + 1) _ _ ls (by omega) ⟨(lv_sub hl [3, 4, 1, 0] rfl), Or.inr ⟨u, rfl, by omega, eu, by rw [← heq, rm_up (by omega) hW.p hd hu eu, hstp]⟩⟩
set_option maxHeartbeats 4000000 in
set_option maxRecDepth 100000 in
theorem c_X5_treeSize (l : Launch) (A : Nat → Prop) (D : va_G) (ac : Nat → ClassId) (G : TG) {m0 : Nat} {am : Nat → Nat} {th : Int32} {M : TS} (hR : PR ac m0 am th M G) (hW : W0 M) (x : Int32) : Met l yX5_treeSize wsX5_treeSize ({ frames := 3, cells := 0, slots := 0, locals := 180 } : Room) (va_Pc [.ref m0, .int x] (tkJ A D ac G)) (va_Qi (fun (z : Int32) (G9 : TG) => PR ac m0 am (S_treeSize M x).1 (S_treeSize M x).2.1 G9 ∧ z = (S_treeSize M x).2.2) (fun (G9 : TG) t => tkM A D G9 t.heap) A) 0 0 A := by
  refine Met.ofW (cc := cX5_treeSize) (maxL := 4) (ret := (some .int)) (by decide) rfl ?_
  intro p e s m args below meth c s₁ B hml hv
  obtain ⟨rfl, hM, hK⟩ := hv
  have hS : va_S A s.heap s.heap [] := va_S.rf
  have hx := B.exec
  have hb := B.bytes
  have hr := B.returns
  have hts := atoms_spec (ws := wsX5_treeSize) B.pre
  have hown : s.vm.findClass RX5 = some m.cls := findClass_of_methodNamed B.named
  have hlocks := B.notSynchronized
  have S0 : CallFix p m c cX5_treeSize 4 s ([.ref m0, .int x] : List Value).toArray wsX5_treeSize RX5 := ⟨hx, hb, hml, hown, hts⟩
  have inX5 : ∀ w ∈ wsX50, w ∈ wsX5_treeSize := by decide +kernel
  have hl := lv_entry ([.ref m0, .int x]) (n := 4) (Nat.le_of_ble_eq_true rfl)
  rw [lg_entry_eq]
  generalize (lg_sl ([.ref m0, .int x]) ++ List.replicate (4 - (lg_sl ([.ref m0, .int x])).length) Slot.unset).toArray = ls at hl ⊢
  have hl : lv_has ls 4 [(0, .ref m0), (1, .int x)] := hl
  have bT := hW.t.2
  have bE := hW.e.2
  have bV := hW.v.2
  refine lv_aload_n hx hb dX5_treeSize_0 rfl (lv_at hl 0 rfl) ?_
  refine lv_aload_n hx hb dX5_treeSize_1 rfl (lv_at hl 0 rfl) ?_
  refine lv_iload_n hx hb dX5_treeSize_2 rfl (lv_at hl 1 rfl) ?_
  refine tk_cVi (As := [.int x]) S0 (c_X5_isTask l A D ac _ hR hW x) (cwV 1 hts gX5_treeSize_X5_isTask rfl rfl rfl (by decide +kernel) ⟨Nat.le_of_ble_eq_true rfl, Nat.le_of_ble_eq_true rfl⟩) (tkJ.blind) (tkJ.at hM hK) (tk_recv hK hM hR.1 rfl) rfl hl.1 rfl (Nat.le_of_ble_eq_true rfl) dX5_treeSize_3 ⟨Nat.zero_le _, Nat.zero_le _⟩ (fun r_1 hr_1 => ?_)
  rcases hr_1 with ⟨rfl, hr_1⟩ | ⟨rfl, hr_1⟩
  · have hok := hr_1
    obtain ⟨t, ht, rfl⟩ := tkOk_ex (by omega) hr_1
    refine tk_mVi (As := [.int 1]) S0 (c_X5_checked_t l A D ac _ hR) (cwV 1 hts gX5_treeSize_X5_checked rfl rfl rfl (by decide +kernel) ⟨Nat.le_of_ble_eq_true rfl, Nat.le_of_ble_eq_true rfl⟩) (tkJ.blind) (tkJ.at hM hK) (tk_recv hK hM hR.1 rfl) rfl hl.1 rfl (Nat.le_of_ble_eq_true rfl) dX5_treeSize_6 ⟨Nat.zero_le _, Nat.zero_le _⟩ hS (fun r_2 G H locs hp hM hS => ?_)
    obtain ⟨hR, hr_2⟩ := hp
    subst hr_2
    refine lv_if_le (tgt := 14) hx hb dX5_treeSize_9 (by decide) (fun c_3 => ?_) (fun c_3 => absurd (by decide) c_3)
    refine lv_iconst (v := 0) hx hb dX5_treeSize_14 (by decide) ?_
    refine lv_istore_n (lv' := [(2, .int 0), (0, .ref m0), (1, .int (nI t))]) hx hb dX5_treeSize_15 rfl hl (by decide) rfl (fun ls hl => ?_)
    refine lv_iconst (v := 0) hx hb dX5_treeSize_16 (by decide) ?_
    refine lv_istore_n (lv' := [(3, .int 0), (2, .int 0), (0, .ref m0), (1, .int (nI t))]) hx hb dX5_treeSize_17 rfl hl (by decide) rfl (fun ls hl => ?_)
    refine tk_f1 (Wf := W p l e _ s m _ below meth c _ _ _ _ _) (nT M) (fun i acc ls => lv_has ls 4 [(0, .ref m0), (1, .int (nI t)), (3, .int (nI i)), (2, .int acc)] ∧ acc = sumI (fun k => if isIn M k t = true then 1 else 0) i) (fun i acc ls hi hinv ih => ?_) _ ls ⟨(lv_sub hl [2, 3, 0, 1] rfl), rfl⟩
    obtain ⟨hl, hinv⟩ := hinv
    refine lv_iload_n hx hb dX5_treeSize_18 rfl (lv_at hl 2 rfl) ?_
    refine lv_aload_n hx hb dX5_treeSize_19 rfl (lv_at hl 0 rfl) ?_
    refine tk_get hx hb hts inX5 hown hK hM hR.1 rfl 19 (by decide) (hts (.fieldLink RX5 70 "TicketForgeModel" "tasks" "I") (by decide +kernel)) (fun _ h9 => h9) rfl dX5_treeSize_20 ?_
    rw [hW.t.1]
    refine lv_icmp_ge (tgt := 49) hx hb dX5_treeSize_23 (by decide) (fun c_4 => ?_) (fun c_4 => ?_)
    · have hge := tk_ge (by omega) (by omega) c_4
      refine lv_iload_n hx hb dX5_treeSize_49 rfl (lv_at hl 3 rfl) ?_
      have eS : S_treeSize M (nI t) = (0, M, acc) := (by rw [S_treeSize, show tn (nI t) = t from nI_clamp (show t < 2 ^ 31 by omega), if_neg (by rw [hok]; decide), tSize, ← sumI_e hinv hi hge])
      exact W.iret (v := acc) hx hb hr (fun t9 h9 w9 => ⟨⟨acc, _, rfl, by rw [eS]; exact ⟨hR, rfl⟩, (by show tkM A D _ _; rw [h9]; exact hM)⟩, hS.F h9⟩) hS.2.2 dX5_treeSize_50
    · have hlt := tk_lt (by omega) (by omega) c_4
      refine lv_iload_n hx hb dX5_treeSize_26 rfl (lv_at hl 3 rfl) ?_
      refine lv_aload_n hx hb dX5_treeSize_27 rfl (lv_at hl 0 rfl) ?_
      refine lv_iload_n hx hb dX5_treeSize_28 rfl (lv_at hl 2 rfl) ?_
      refine lv_iload_n hx hb dX5_treeSize_29 rfl (lv_at hl 1 rfl) ?_
      refine tk_cVi (As := [.int (nI i), .int (nI t)]) S0 (c_X5_isIn l A D ac _ hR hW i t (by omega) (by omega) ) (cwV 2 hts gX5_treeSize_X5_isIn rfl rfl rfl (by decide +kernel) ⟨Nat.le_of_ble_eq_true rfl, Nat.le_of_ble_eq_true rfl⟩) (tkJ.blind) (tkJ.at hM hK) (tk_recv hK hM hR.1 rfl) rfl hl.1 rfl (Nat.le_of_ble_eq_true rfl) dX5_treeSize_30 ⟨Nat.zero_le _, Nat.zero_le _⟩ (fun r_5 hr_5 => ?_)
      rcases hr_5 with ⟨rfl, hr_5⟩ | ⟨rfl, hr_5⟩
      · skip
        refine lv_if_eq (tgt := 40) hx hb dX5_treeSize_33 (by decide) (fun c_6 => absurd c_6 (by decide)) (fun c_6 => ?_)
        refine lv_iconst (v := 1) hx hb dX5_treeSize_36 (by decide) ?_
        refine lv_goto (tgt := 41) hx hb dX5_treeSize_37 (by decide) ?_
        refine lv_iadd hx hb dX5_treeSize_41 ?_
        refine lv_istore_n (lv' := [(2, .int (acc + 1)), (0, .ref m0), (1, .int (nI t)), (3, .int (nI i))]) hx hb dX5_treeSize_42 rfl hl (by decide) rfl (fun ls hl => ?_)
        refine lv_iinc (v := (nI (i + 1))) (lv' := [(3, .int (nI (i + 1))), (2, .int (acc + 1)), (0, .ref m0), (1, .int (nI t))]) hx hb dX5_treeSize_43 hl (k := 3) rfl (nI_1 i) (by decide) rfl (fun ls hl => ?_)
        refine lv_goto (tgt := 18) hx hb dX5_treeSize_46 (by decide) ?_
        exact ih _ ls (by omega) ⟨(lv_sub hl [2, 3, 0, 1] rfl), sumI_t hinv (if_pos hr_5)⟩
      · skip
        refine lv_if_eq (tgt := 40) hx hb dX5_treeSize_33 (by decide) (fun c_7 => ?_) (fun c_7 => absurd (by decide) c_7)
        refine lv_iconst (v := 0) hx hb dX5_treeSize_40 (by decide) ?_
        refine lv_iadd hx hb dX5_treeSize_41 ?_
        refine lv_istore_n (lv' := [(2, .int (acc + 0)), (0, .ref m0), (1, .int (nI t)), (3, .int (nI i))]) hx hb dX5_treeSize_42 rfl hl (by decide) rfl (fun ls hl => ?_)
        refine lv_iinc (v := (nI (i + 1))) (lv' := [(3, .int (nI (i + 1))), (2, .int (acc + 0)), (0, .ref m0), (1, .int (nI t))]) hx hb dX5_treeSize_43 hl (k := 3) rfl (nI_1 i) (by decide) rfl (fun ls hl => ?_)
        refine lv_goto (tgt := 18) hx hb dX5_treeSize_46 (by decide) ?_
        exact ih _ ls (by omega) ⟨(lv_sub hl [2, 3, 0, 1] rfl), sumI_z hinv (if_neg (by rw [hr_5]; decide))⟩
  · skip
    refine tk_mVi (As := [.int 0]) S0 (c_X5_checked_f l A D ac _ hR) (cwV 1 hts gX5_treeSize_X5_checked rfl rfl rfl (by decide +kernel) ⟨Nat.le_of_ble_eq_true rfl, Nat.le_of_ble_eq_true rfl⟩) (tkJ.blind) (tkJ.at hM hK) (tk_recv hK hM hR.1 rfl) rfl hl.1 rfl (Nat.le_of_ble_eq_true rfl) dX5_treeSize_6 ⟨Nat.zero_le _, Nat.zero_le _⟩ hS (fun r_8 G H locs hp hM hS => ?_)
    obtain ⟨hR, hr_8⟩ := hp
    subst hr_8
    refine lv_if_le (tgt := 14) hx hb dX5_treeSize_9 (by decide) (fun c_9 => absurd c_9 (by decide)) (fun c_9 => ?_)
    refine lv_iconst (v := 0) hx hb dX5_treeSize_12 (by decide) ?_
    have eS : S_treeSize M x = (1, M, 0) := (by rw [S_treeSize, if_pos hr_1])
    exact W.iret (v := 0) hx hb hr (fun t9 h9 w9 => ⟨⟨0, _, rfl, by rw [eS]; exact ⟨hR, rfl⟩, (by show tkM A D _ _; rw [h9]; exact hM)⟩, hS.F h9⟩) hS.2.2 dX5_treeSize_13
set_option maxHeartbeats 4000000 in
set_option maxRecDepth 100000 in
theorem c_X5_canBegin (l : Launch) (A : Nat → Prop) (D : va_G) (ac : Nat → ClassId) (G : TG) {m0 : Nat} {am : Nat → Nat} {th : Int32} {M : TS} (hR : PR ac m0 am th M G) (hW : W0 M) (x : Int32) : Met l yX5_canBegin wsX5_canBegin ({ frames := 3, cells := 0, slots := 0, locals := 180 } : Room) (va_Pc [.ref m0, .int x] (tkJ A D ac G)) (va_Qi (fun (z : Int32) (G9 : TG) => PR ac m0 am (S_canBegin M x).1 (S_canBegin M x).2.1 G9 ∧ tkB z (S_canBegin M x).2.2) (fun (G9 : TG) t => tkM A D G9 t.heap) A) 0 0 A := by
  refine Met.ofW (cc := cX5_canBegin) (maxL := 2) (ret := (some .boolean)) (by decide) rfl ?_
  intro p e s m args below meth c s₁ B hml hv
  obtain ⟨rfl, hM, hK⟩ := hv
  have hS : va_S A s.heap s.heap [] := va_S.rf
  have hx := B.exec
  have hb := B.bytes
  have hr := B.returns
  have hts := atoms_spec (ws := wsX5_canBegin) B.pre
  have hown : s.vm.findClass RX5 = some m.cls := findClass_of_methodNamed B.named
  have hlocks := B.notSynchronized
  have S0 : CallFix p m c cX5_canBegin 2 s ([.ref m0, .int x] : List Value).toArray wsX5_canBegin RX5 := ⟨hx, hb, hml, hown, hts⟩
  have inX5 : ∀ w ∈ wsX50, w ∈ wsX5_canBegin := by decide +kernel
  have hl := lv_entry ([.ref m0, .int x]) (n := 2) (Nat.le_of_ble_eq_true rfl)
  rw [lg_entry_eq]
  generalize (lg_sl ([.ref m0, .int x]) ++ List.replicate (2 - (lg_sl ([.ref m0, .int x])).length) Slot.unset).toArray = ls at hl ⊢
  have hl : lv_has ls 2 [(0, .ref m0), (1, .int x)] := hl
  have bT := hW.t.2
  have bE := hW.e.2
  have bV := hW.v.2
  refine lv_aload_n hx hb dX5_canBegin_0 rfl (lv_at hl 0 rfl) ?_
  refine lv_aload_n hx hb dX5_canBegin_1 rfl (lv_at hl 0 rfl) ?_
  refine lv_iload_n hx hb dX5_canBegin_2 rfl (lv_at hl 1 rfl) ?_
  refine tk_cVi (As := [.int x]) S0 (c_X5_isTask l A D ac _ hR hW x) (cwV 1 hts gX5_canBegin_X5_isTask rfl rfl rfl (by decide +kernel) ⟨Nat.le_of_ble_eq_true rfl, Nat.le_of_ble_eq_true rfl⟩) (tkJ.blind) (tkJ.at hM hK) (tk_recv hK hM hR.1 rfl) rfl hl.1 rfl (Nat.le_of_ble_eq_true rfl) dX5_canBegin_3 ⟨Nat.zero_le _, Nat.zero_le _⟩ (fun r_1 hr_1 => ?_)
  rcases hr_1 with ⟨rfl, hr_1⟩ | ⟨rfl, hr_1⟩
  · have hok := hr_1
    obtain ⟨t, ht, rfl⟩ := tkOk_ex (by omega) hr_1
    refine tk_mVi (As := [.int 1]) S0 (c_X5_checked_t l A D ac _ hR) (cwV 1 hts gX5_canBegin_X5_checked rfl rfl rfl (by decide +kernel) ⟨Nat.le_of_ble_eq_true rfl, Nat.le_of_ble_eq_true rfl⟩) (tkJ.blind) (tkJ.at hM hK) (tk_recv hK hM hR.1 rfl) rfl hl.1 rfl (Nat.le_of_ble_eq_true rfl) dX5_canBegin_6 ⟨Nat.zero_le _, Nat.zero_le _⟩ hS (fun r_2 G H locs hp hM hS => ?_)
    obtain ⟨hR, hr_2⟩ := hp
    subst hr_2
    refine lv_if_ne (tgt := 35) hx hb dX5_canBegin_9 (by decide) (fun c_3 => absurd c_3 (by decide)) (fun c_3 => ?_)
    refine lv_aload_n hx hb dX5_canBegin_12 rfl (lv_at hl 0 rfl) ?_
    refine tk_get hx hb hts inX5 hown hK hM hR.1 rfl 3 (by decide) (hts (.fieldLink RX5 19 "TicketForgeModel" "states" "[C") (by decide +kernel)) (fun _ h9 => h9) rfl dX5_canBegin_13 ?_
    refine lv_iload_n hx hb dX5_canBegin_16 rfl (lv_at hl 1 rfl) ?_
    refine tk_cald hx hb hK hM 0 hR.a3 rfl (vp_in_nI (by omega) (by decide)) dX5_canBegin_17 ?_
    rw [show (nI t).toNatClampNeg = t from nI_clamp (by omega)]
    refine lv_bipush (v := 111) hx hb dX5_canBegin_18 (by decide) ?_
    refine lv_icmp_ne (tgt := 35) hx hb dX5_canBegin_20 (by decide) (fun c_4 => ?_) (fun c_4 => ?_)
    · skip
      refine lv_iconst (v := 0) hx hb dX5_canBegin_35 (by decide) ?_
      have eS : S_canBegin M (nI t) = (0, M, false) := (by rw [S_canBegin, show tn (nI t) = t from nI_clamp (show t < 2 ^ 31 by omega), if_neg (by rw [hok]; decide), decide_eq_false c_4]; rfl)
      exact W.zret (v := 0) hx hb hr rfl (fun t9 h9 w9 => ⟨⟨0, _, rfl, by rw [eS]; exact ⟨hR, tkB_0 rfl⟩, (by show tkM A D _ _; rw [h9]; exact hM)⟩, hS.F h9⟩) hS.2.2 dX5_canBegin_36
    · skip
      refine lv_aload_n hx hb dX5_canBegin_23 rfl (lv_at hl 0 rfl) ?_
      refine lv_iload_n hx hb dX5_canBegin_24 rfl (lv_at hl 1 rfl) ?_
      refine tk_cVi (As := [.int (nI t)]) S0 (c_X5_isFree l A D ac _ hR hW t (by omega) ) (cwV 1 hts gX5_canBegin_X5_isFree rfl rfl rfl (by decide +kernel) ⟨Nat.le_of_ble_eq_true rfl, Nat.le_of_ble_eq_true rfl⟩) (tkJ.blind) (tkJ.at hM hK) (tk_recv hK hM hR.1 rfl) rfl hl.1 rfl (Nat.le_of_ble_eq_true rfl) dX5_canBegin_25 ⟨Nat.zero_le _, Nat.zero_le _⟩ (fun r_5 hr_5 => ?_)
      rcases hr_5 with ⟨rfl, hr_5⟩ | ⟨rfl, hr_5⟩
      · skip
        refine lv_if_eq (tgt := 35) hx hb dX5_canBegin_28 (by decide) (fun c_6 => absurd c_6 (by decide)) (fun c_6 => ?_)
        refine lv_iconst (v := 1) hx hb dX5_canBegin_31 (by decide) ?_
        refine lv_goto (tgt := 36) hx hb dX5_canBegin_32 (by decide) ?_
        have eS : S_canBegin M (nI t) = (0, M, true) := (by rw [S_canBegin, show tn (nI t) = t from nI_clamp (show t < 2 ^ 31 by omega), if_neg (by rw [hok]; decide), decide_eq_true c_4, hr_5]; rfl)
        exact W.zret (v := 1) hx hb hr rfl (fun t9 h9 w9 => ⟨⟨1, _, rfl, by rw [eS]; exact ⟨hR, tkB_1 rfl⟩, (by show tkM A D _ _; rw [h9]; exact hM)⟩, hS.F h9⟩) hS.2.2 dX5_canBegin_36
      · skip
        refine lv_if_eq (tgt := 35) hx hb dX5_canBegin_28 (by decide) (fun c_7 => ?_) (fun c_7 => absurd (by decide) c_7)
        refine lv_iconst (v := 0) hx hb dX5_canBegin_35 (by decide) ?_
        have eS : S_canBegin M (nI t) = (0, M, false) := (by rw [S_canBegin, show tn (nI t) = t from nI_clamp (show t < 2 ^ 31 by omega), if_neg (by rw [hok]; decide), decide_eq_true c_4, hr_5]; rfl)
        exact W.zret (v := 0) hx hb hr rfl (fun t9 h9 w9 => ⟨⟨0, _, rfl, by rw [eS]; exact ⟨hR, tkB_0 rfl⟩, (by show tkM A D _ _; rw [h9]; exact hM)⟩, hS.F h9⟩) hS.2.2 dX5_canBegin_36
  · skip
    refine tk_mVi (As := [.int 0]) S0 (c_X5_checked_f l A D ac _ hR) (cwV 1 hts gX5_canBegin_X5_checked rfl rfl rfl (by decide +kernel) ⟨Nat.le_of_ble_eq_true rfl, Nat.le_of_ble_eq_true rfl⟩) (tkJ.blind) (tkJ.at hM hK) (tk_recv hK hM hR.1 rfl) rfl hl.1 rfl (Nat.le_of_ble_eq_true rfl) dX5_canBegin_6 ⟨Nat.zero_le _, Nat.zero_le _⟩ hS (fun r_8 G H locs hp hM hS => ?_)
    obtain ⟨hR, hr_8⟩ := hp
    subst hr_8
    refine lv_if_ne (tgt := 35) hx hb dX5_canBegin_9 (by decide) (fun c_9 => ?_) (fun c_9 => absurd c_9 (by decide))
    refine lv_iconst (v := 0) hx hb dX5_canBegin_35 (by decide) ?_
    have eS : S_canBegin M x = (1, M, false) := (by rw [S_canBegin, if_pos hr_1])
    exact W.zret (v := 0) hx hb hr rfl (fun t9 h9 w9 => ⟨⟨0, _, rfl, by rw [eS]; exact ⟨hR, tkB_0 rfl⟩, (by show tkM A D _ _; rw [h9]; exact hM)⟩, hS.F h9⟩) hS.2.2 dX5_canBegin_36
set_option maxHeartbeats 4000000 in
set_option maxRecDepth 100000 in
theorem c_X5_tasks (l : Launch) (A : Nat → Prop) (D : va_G) (ac : Nat → ClassId) (G : TG) {m0 : Nat} {am : Nat → Nat} {th : Int32} {M : TS} (hR : PR ac m0 am th M G) : Met l yX5_tasks wsX5_tasks ({ frames := 1, cells := 0, slots := 0, locals := 100 } : Room) (va_Pc [.ref m0] (tkJ A D ac G)) (va_Qi (fun (z : Int32) (G9 : TG) => PR ac m0 am 0 M G9 ∧ z = M 0 19) (fun (G9 : TG) t => tkM A D G9 t.heap) A) 0 0 A := by
  refine Met.ofW (cc := cX5_tasks) (maxL := 1) (ret := (some .int)) (by decide) rfl ?_
  intro p e s m args below meth c s₁ B hml hv
  obtain ⟨rfl, hM, hK⟩ := hv
  have hS : va_S A s.heap s.heap [] := va_S.rf
  have hx := B.exec
  have hb := B.bytes
  have hr := B.returns
  have hts := atoms_spec (ws := wsX5_tasks) B.pre
  have hown : s.vm.findClass RX5 = some m.cls := findClass_of_methodNamed B.named
  have hlocks := B.notSynchronized
  have S0 : CallFix p m c cX5_tasks 1 s ([.ref m0] : List Value).toArray wsX5_tasks RX5 := ⟨hx, hb, hml, hown, hts⟩
  have inX5 : ∀ w ∈ wsX50, w ∈ wsX5_tasks := by decide +kernel
  have hl := lv_entry ([.ref m0]) (n := 1) (Nat.le_of_ble_eq_true rfl)
  rw [lg_entry_eq]
  generalize (lg_sl ([.ref m0]) ++ List.replicate (1 - (lg_sl ([.ref m0])).length) Slot.unset).toArray = ls at hl ⊢
  have hl : lv_has ls 1 [(0, .ref m0)] := hl
  refine lv_aload_n hx hb dX5_tasks_0 rfl (lv_at hl 0 rfl) ?_
  refine lv_aload_n hx hb dX5_tasks_1 rfl (lv_at hl 0 rfl) ?_
  refine tk_get hx hb hts inX5 hown hK hM hR.1 rfl 19 (by decide) (hts (.fieldLink RX5 70 "TicketForgeModel" "tasks" "I") (by decide +kernel)) (fun _ h9 => h9) rfl dX5_tasks_2 ?_
  refine tk_mVi (As := [.int (M 0 19)]) S0 (c_X5_plain l A D ac _ hR (M 0 19)) (cwV 1 hts gX5_tasks_X5_plain rfl rfl rfl (by decide +kernel) ⟨Nat.le_of_ble_eq_true rfl, Nat.le_of_ble_eq_true rfl⟩) (tkJ.blind) (tkJ.at hM hK) (tk_recv hK hM hR.1 rfl) rfl hl.1 rfl (Nat.le_of_ble_eq_true rfl) dX5_tasks_5 ⟨Nat.zero_le _, Nat.zero_le _⟩ hS (fun r_1 G H locs hp hM hS => ?_)
  obtain ⟨hR, hr_1⟩ := hp
  subst hr_1
  exact W.iret (v := (M 0 19)) hx hb hr (fun t9 h9 w9 => ⟨⟨(M 0 19), _, rfl, ⟨hR, rfl⟩, (by show tkM A D _ _; rw [h9]; exact hM)⟩, hS.F h9⟩) hS.2.2 dX5_tasks_8
set_option maxHeartbeats 4000000 in
set_option maxRecDepth 100000 in
theorem c_X5_entries (l : Launch) (A : Nat → Prop) (D : va_G) (ac : Nat → ClassId) (G : TG) {m0 : Nat} {am : Nat → Nat} {th : Int32} {M : TS} (hR : PR ac m0 am th M G) : Met l yX5_entries wsX5_entries ({ frames := 1, cells := 0, slots := 0, locals := 100 } : Room) (va_Pc [.ref m0] (tkJ A D ac G)) (va_Qi (fun (z : Int32) (G9 : TG) => PR ac m0 am 0 M G9 ∧ z = M 0 21) (fun (G9 : TG) t => tkM A D G9 t.heap) A) 0 0 A := by
  refine Met.ofW (cc := cX5_entries) (maxL := 1) (ret := (some .int)) (by decide) rfl ?_
  intro p e s m args below meth c s₁ B hml hv
  obtain ⟨rfl, hM, hK⟩ := hv
  have hS : va_S A s.heap s.heap [] := va_S.rf
  have hx := B.exec
  have hb := B.bytes
  have hr := B.returns
  have hts := atoms_spec (ws := wsX5_entries) B.pre
  have hown : s.vm.findClass RX5 = some m.cls := findClass_of_methodNamed B.named
  have hlocks := B.notSynchronized
  have S0 : CallFix p m c cX5_entries 1 s ([.ref m0] : List Value).toArray wsX5_entries RX5 := ⟨hx, hb, hml, hown, hts⟩
  have inX5 : ∀ w ∈ wsX50, w ∈ wsX5_entries := by decide +kernel
  have hl := lv_entry ([.ref m0]) (n := 1) (Nat.le_of_ble_eq_true rfl)
  rw [lg_entry_eq]
  generalize (lg_sl ([.ref m0]) ++ List.replicate (1 - (lg_sl ([.ref m0])).length) Slot.unset).toArray = ls at hl ⊢
  have hl : lv_has ls 1 [(0, .ref m0)] := hl
  refine lv_aload_n hx hb dX5_entries_0 rfl (lv_at hl 0 rfl) ?_
  refine lv_aload_n hx hb dX5_entries_1 rfl (lv_at hl 0 rfl) ?_
  refine tk_get hx hb hts inX5 hown hK hM hR.1 rfl 21 (by decide) (hts (.fieldLink RX5 76 "TicketForgeModel" "entries" "I") (by decide +kernel)) (fun _ h9 => h9) rfl dX5_entries_2 ?_
  refine tk_mVi (As := [.int (M 0 21)]) S0 (c_X5_plain l A D ac _ hR (M 0 21)) (cwV 1 hts gX5_entries_X5_plain rfl rfl rfl (by decide +kernel) ⟨Nat.le_of_ble_eq_true rfl, Nat.le_of_ble_eq_true rfl⟩) (tkJ.blind) (tkJ.at hM hK) (tk_recv hK hM hR.1 rfl) rfl hl.1 rfl (Nat.le_of_ble_eq_true rfl) dX5_entries_5 ⟨Nat.zero_le _, Nat.zero_le _⟩ hS (fun r_1 G H locs hp hM hS => ?_)
  obtain ⟨hR, hr_1⟩ := hp
  subst hr_1
  exact W.iret (v := (M 0 21)) hx hb hr (fun t9 h9 w9 => ⟨⟨(M 0 21), _, rfl, ⟨hR, rfl⟩, (by show tkM A D _ _; rw [h9]; exact hM)⟩, hS.F h9⟩) hS.2.2 dX5_entries_8
set_option maxHeartbeats 4000000 in
set_option maxRecDepth 100000 in
theorem c_X5_invoices (l : Launch) (A : Nat → Prop) (D : va_G) (ac : Nat → ClassId) (G : TG) {m0 : Nat} {am : Nat → Nat} {th : Int32} {M : TS} (hR : PR ac m0 am th M G) : Met l yX5_invoices wsX5_invoices ({ frames := 1, cells := 0, slots := 0, locals := 100 } : Room) (va_Pc [.ref m0] (tkJ A D ac G)) (va_Qi (fun (z : Int32) (G9 : TG) => PR ac m0 am 0 M G9 ∧ z = M 0 22) (fun (G9 : TG) t => tkM A D G9 t.heap) A) 0 0 A := by
  refine Met.ofW (cc := cX5_invoices) (maxL := 1) (ret := (some .int)) (by decide) rfl ?_
  intro p e s m args below meth c s₁ B hml hv
  obtain ⟨rfl, hM, hK⟩ := hv
  have hS : va_S A s.heap s.heap [] := va_S.rf
  have hx := B.exec
  have hb := B.bytes
  have hr := B.returns
  have hts := atoms_spec (ws := wsX5_invoices) B.pre
  have hown : s.vm.findClass RX5 = some m.cls := findClass_of_methodNamed B.named
  have hlocks := B.notSynchronized
  have S0 : CallFix p m c cX5_invoices 1 s ([.ref m0] : List Value).toArray wsX5_invoices RX5 := ⟨hx, hb, hml, hown, hts⟩
  have inX5 : ∀ w ∈ wsX50, w ∈ wsX5_invoices := by decide +kernel
  have hl := lv_entry ([.ref m0]) (n := 1) (Nat.le_of_ble_eq_true rfl)
  rw [lg_entry_eq]
  generalize (lg_sl ([.ref m0]) ++ List.replicate (1 - (lg_sl ([.ref m0])).length) Slot.unset).toArray = ls at hl ⊢
  have hl : lv_has ls 1 [(0, .ref m0)] := hl
  refine lv_aload_n hx hb dX5_invoices_0 rfl (lv_at hl 0 rfl) ?_
  refine lv_aload_n hx hb dX5_invoices_1 rfl (lv_at hl 0 rfl) ?_
  refine tk_get hx hb hts inX5 hown hK hM hR.1 rfl 22 (by decide) (hts (.fieldLink RX5 79 "TicketForgeModel" "invoices" "I") (by decide +kernel)) (fun _ h9 => h9) rfl dX5_invoices_2 ?_
  refine tk_mVi (As := [.int (M 0 22)]) S0 (c_X5_plain l A D ac _ hR (M 0 22)) (cwV 1 hts gX5_invoices_X5_plain rfl rfl rfl (by decide +kernel) ⟨Nat.le_of_ble_eq_true rfl, Nat.le_of_ble_eq_true rfl⟩) (tkJ.blind) (tkJ.at hM hK) (tk_recv hK hM hR.1 rfl) rfl hl.1 rfl (Nat.le_of_ble_eq_true rfl) dX5_invoices_5 ⟨Nat.zero_le _, Nat.zero_le _⟩ hS (fun r_1 G H locs hp hM hS => ?_)
  obtain ⟨hR, hr_1⟩ := hp
  subst hr_1
  exact W.iret (v := (M 0 22)) hx hb hr (fun t9 h9 w9 => ⟨⟨(M 0 22), _, rfl, ⟨hR, rfl⟩, (by show tkM A D _ _; rw [h9]; exact hM)⟩, hS.F h9⟩) hS.2.2 dX5_invoices_8
set_option maxHeartbeats 4000000 in
set_option maxRecDepth 100000 in
theorem c_X5_isSettled (l : Launch) (A : Nat → Prop) (D : va_G) (ac : Nat → ClassId) (G : TG) {m0 : Nat} {am : Nat → Nat} {th : Int32} {M : TS} (hR : PR ac m0 am th M G) : Met l yX5_isSettled wsX5_isSettled ({ frames := 0, cells := 0, slots := 0, locals := 60 } : Room) (va_Pc [.ref m0] (tkJ A D ac G)) (va_Qi (fun (z : Int32) (G9 : TG) => PR ac m0 am 0 M G9 ∧ z = 1) (fun (G9 : TG) t => tkM A D G9 t.heap) A) 0 0 A := by
  refine Met.ofW (cc := cX5_isSettled) (maxL := 1) (ret := (some .boolean)) (by decide) rfl ?_
  intro p e s m args below meth c s₁ B hml hv
  obtain ⟨rfl, hM, hK⟩ := hv
  have hS : va_S A s.heap s.heap [] := va_S.rf
  have hx := B.exec
  have hb := B.bytes
  have hr := B.returns
  have hts := atoms_spec (ws := wsX5_isSettled) B.pre
  have hown : s.vm.findClass RX5 = some m.cls := findClass_of_methodNamed B.named
  have hlocks := B.notSynchronized
  have S0 : CallFix p m c cX5_isSettled 1 s ([.ref m0] : List Value).toArray wsX5_isSettled RX5 := ⟨hx, hb, hml, hown, hts⟩
  have inX5 : ∀ w ∈ wsX50, w ∈ wsX5_isSettled := by decide +kernel
  have hl := lv_entry ([.ref m0]) (n := 1) (Nat.le_of_ble_eq_true rfl)
  rw [lg_entry_eq]
  generalize (lg_sl ([.ref m0]) ++ List.replicate (1 - (lg_sl ([.ref m0])).length) Slot.unset).toArray = ls at hl ⊢
  have hl : lv_has ls 1 [(0, .ref m0)] := hl
  refine lv_aload_n hx hb dX5_isSettled_0 rfl (lv_at hl 0 rfl) ?_
  refine lv_iconst (v := 0) hx hb dX5_isSettled_1 (by decide) ?_
  refine tk_put (ty := .int) hx hb hts inX5 tyX5 tyX5_ok nmX5 hown hK hM hS hR.1 rfl 18 (by decide) (hts (.fieldLink RX5 66 "TicketForgeModel" "thrown" "I") (by decide +kernel)) (fun _ h9 => h9) rfl (by decide +kernel) rfl rfl (Nat.le_of_ble_eq_true rfl) dX5_isSettled_2 (fun H locs hM hS => ?_)
  have hR := hR.th (v := 0)
  refine lv_iconst (v := 1) hx hb dX5_isSettled_5 (by decide) ?_
  exact W.zret (v := 1) hx hb hr rfl (fun t9 h9 w9 => ⟨⟨1, _, rfl, ⟨hR, rfl⟩, (by show tkM A D _ _; rw [h9]; exact hM)⟩, hS.F h9⟩) hS.2.2 dX5_isSettled_6
set_option maxHeartbeats 4000000 in
set_option maxRecDepth 100000 in
theorem c_X5_hours (l : Launch) (A : Nat → Prop) (D : va_G) (ac : Nat → ClassId) (G : TG) {m0 : Nat} {am : Nat → Nat} {th : Int32} {M : TS} (hR : PR ac m0 am th M G) (hW : W0 M) (x : Int32) : Met l yX5_hours wsX5_hours ({ frames := 3, cells := 0, slots := 0, locals := 180 } : Room) (va_Pc [.ref m0, .int x] (tkJ A D ac G)) (va_Qi (fun (z : Int32) (G9 : TG) => PR ac m0 am (S_hours M x).1 (S_hours M x).2.1 G9 ∧ z = (S_hours M x).2.2) (fun (G9 : TG) t => tkM A D G9 t.heap) A) 0 0 A := by
  refine Met.ofW (cc := cX5_hours) (maxL := 2) (ret := (some .int)) (by decide) rfl ?_
  intro p e s m args below meth c s₁ B hml hv
  obtain ⟨rfl, hM, hK⟩ := hv
  have hS : va_S A s.heap s.heap [] := va_S.rf
  have hx := B.exec
  have hb := B.bytes
  have hr := B.returns
  have hts := atoms_spec (ws := wsX5_hours) B.pre
  have hown : s.vm.findClass RX5 = some m.cls := findClass_of_methodNamed B.named
  have hlocks := B.notSynchronized
  have S0 : CallFix p m c cX5_hours 2 s ([.ref m0, .int x] : List Value).toArray wsX5_hours RX5 := ⟨hx, hb, hml, hown, hts⟩
  have inX5 : ∀ w ∈ wsX50, w ∈ wsX5_hours := by decide +kernel
  have hl := lv_entry ([.ref m0, .int x]) (n := 2) (Nat.le_of_ble_eq_true rfl)
  rw [lg_entry_eq]
  generalize (lg_sl ([.ref m0, .int x]) ++ List.replicate (2 - (lg_sl ([.ref m0, .int x])).length) Slot.unset).toArray = ls at hl ⊢
  have hl : lv_has ls 2 [(0, .ref m0), (1, .int x)] := hl
  have bT := hW.t.2
  have bE := hW.e.2
  have bV := hW.v.2
  refine lv_aload_n hx hb dX5_hours_0 rfl (lv_at hl 0 rfl) ?_
  refine lv_aload_n hx hb dX5_hours_1 rfl (lv_at hl 0 rfl) ?_
  refine lv_iload_n hx hb dX5_hours_2 rfl (lv_at hl 1 rfl) ?_
  refine tk_cVi (As := [.int x]) S0 (c_X5_isTask l A D ac _ hR hW x) (cwV 1 hts gX5_hours_X5_isTask rfl rfl rfl (by decide +kernel) ⟨Nat.le_of_ble_eq_true rfl, Nat.le_of_ble_eq_true rfl⟩) (tkJ.blind) (tkJ.at hM hK) (tk_recv hK hM hR.1 rfl) rfl hl.1 rfl (Nat.le_of_ble_eq_true rfl) dX5_hours_3 ⟨Nat.zero_le _, Nat.zero_le _⟩ (fun r_1 hr_1 => ?_)
  rcases hr_1 with ⟨rfl, hr_1⟩ | ⟨rfl, hr_1⟩
  · have hok := hr_1
    obtain ⟨t, ht, rfl⟩ := tkOk_ex (by omega) hr_1
    refine tk_mVi (As := [.int 1]) S0 (c_X5_checked_t l A D ac _ hR) (cwV 1 hts gX5_hours_X5_checked rfl rfl rfl (by decide +kernel) ⟨Nat.le_of_ble_eq_true rfl, Nat.le_of_ble_eq_true rfl⟩) (tkJ.blind) (tkJ.at hM hK) (tk_recv hK hM hR.1 rfl) rfl hl.1 rfl (Nat.le_of_ble_eq_true rfl) dX5_hours_6 ⟨Nat.zero_le _, Nat.zero_le _⟩ hS (fun r_2 G H locs hp hM hS => ?_)
    obtain ⟨hR, hr_2⟩ := hp
    subst hr_2
    refine lv_if_le (tgt := 16) hx hb dX5_hours_9 (by decide) (fun c_3 => ?_) (fun c_3 => absurd (by decide) c_3)
    refine lv_aload_n hx hb dX5_hours_16 rfl (lv_at hl 0 rfl) ?_
    refine lv_iload_n hx hb dX5_hours_17 rfl (lv_at hl 1 rfl) ?_
    refine tk_cVi (As := [.int (nI t)]) S0 (c_X5_hoursIn l A D ac _ hR hW t (by omega) ) (cwV 1 hts gX5_hours_X5_hoursIn rfl rfl rfl (by decide +kernel) ⟨Nat.le_of_ble_eq_true rfl, Nat.le_of_ble_eq_true rfl⟩) (tkJ.blind) (tkJ.at hM hK) (tk_recv hK hM hR.1 rfl) rfl hl.1 rfl (Nat.le_of_ble_eq_true rfl) dX5_hours_18 ⟨Nat.zero_le _, Nat.zero_le _⟩ (fun r_4 hr_4 => ?_)
    have eS : S_hours M (nI t) = (0, M, r_4) := (by rw [S_hours, show tn (nI t) = t from nI_clamp (show t < 2 ^ 31 by omega), if_neg (by rw [hok]; decide), hr_4])
    exact W.iret (v := r_4) hx hb hr (fun t9 h9 w9 => ⟨⟨r_4, _, rfl, by rw [eS]; exact ⟨hR, rfl⟩, (by show tkM A D _ _; rw [h9]; exact hM)⟩, hS.F h9⟩) hS.2.2 dX5_hours_21
  · skip
    refine tk_mVi (As := [.int 0]) S0 (c_X5_checked_f l A D ac _ hR) (cwV 1 hts gX5_hours_X5_checked rfl rfl rfl (by decide +kernel) ⟨Nat.le_of_ble_eq_true rfl, Nat.le_of_ble_eq_true rfl⟩) (tkJ.blind) (tkJ.at hM hK) (tk_recv hK hM hR.1 rfl) rfl hl.1 rfl (Nat.le_of_ble_eq_true rfl) dX5_hours_6 ⟨Nat.zero_le _, Nat.zero_le _⟩ hS (fun r_5 G H locs hp hM hS => ?_)
    obtain ⟨hR, hr_5⟩ := hp
    subst hr_5
    refine lv_if_le (tgt := 16) hx hb dX5_hours_9 (by decide) (fun c_6 => absurd c_6 (by decide)) (fun c_6 => ?_)
    refine lv_iconst (v := 0) hx hb dX5_hours_12 (by decide) ?_
    refine lv_goto (tgt := 21) hx hb dX5_hours_13 (by decide) ?_
    have eS : S_hours M x = (1, M, 0) := (by rw [S_hours, if_pos hr_1])
    exact W.iret (v := 0) hx hb hr (fun t9 h9 w9 => ⟨⟨0, _, rfl, by rw [eS]; exact ⟨hR, rfl⟩, (by show tkM A D _ _; rw [h9]; exact hM)⟩, hS.F h9⟩) hS.2.2 dX5_hours_21
set_option maxHeartbeats 4000000 in
set_option maxRecDepth 100000 in
theorem c_X5_left (l : Launch) (A : Nat → Prop) (D : va_G) (ac : Nat → ClassId) (G : TG) {m0 : Nat} {am : Nat → Nat} {th : Int32} {M : TS} (hR : PR ac m0 am th M G) (hW : W0 M) (x : Int32) : Met l yX5_left wsX5_left ({ frames := 3, cells := 0, slots := 0, locals := 180 } : Room) (va_Pc [.ref m0, .int x] (tkJ A D ac G)) (va_Qi (fun (z : Int32) (G9 : TG) => PR ac m0 am (S_left M x).1 (S_left M x).2.1 G9 ∧ z = (S_left M x).2.2) (fun (G9 : TG) t => tkM A D G9 t.heap) A) 0 0 A := by
  refine Met.ofW (cc := cX5_left) (maxL := 2) (ret := (some .int)) (by decide) rfl ?_
  intro p e s m args below meth c s₁ B hml hv
  obtain ⟨rfl, hM, hK⟩ := hv
  have hS : va_S A s.heap s.heap [] := va_S.rf
  have hx := B.exec
  have hb := B.bytes
  have hr := B.returns
  have hts := atoms_spec (ws := wsX5_left) B.pre
  have hown : s.vm.findClass RX5 = some m.cls := findClass_of_methodNamed B.named
  have hlocks := B.notSynchronized
  have S0 : CallFix p m c cX5_left 2 s ([.ref m0, .int x] : List Value).toArray wsX5_left RX5 := ⟨hx, hb, hml, hown, hts⟩
  have inX5 : ∀ w ∈ wsX50, w ∈ wsX5_left := by decide +kernel
  have hl := lv_entry ([.ref m0, .int x]) (n := 2) (Nat.le_of_ble_eq_true rfl)
  rw [lg_entry_eq]
  generalize (lg_sl ([.ref m0, .int x]) ++ List.replicate (2 - (lg_sl ([.ref m0, .int x])).length) Slot.unset).toArray = ls at hl ⊢
  have hl : lv_has ls 2 [(0, .ref m0), (1, .int x)] := hl
  have bT := hW.t.2
  have bE := hW.e.2
  have bV := hW.v.2
  refine lv_aload_n hx hb dX5_left_0 rfl (lv_at hl 0 rfl) ?_
  refine lv_aload_n hx hb dX5_left_1 rfl (lv_at hl 0 rfl) ?_
  refine lv_iload_n hx hb dX5_left_2 rfl (lv_at hl 1 rfl) ?_
  refine tk_cVi (As := [.int x]) S0 (c_X5_isTask l A D ac _ hR hW x) (cwV 1 hts gX5_left_X5_isTask rfl rfl rfl (by decide +kernel) ⟨Nat.le_of_ble_eq_true rfl, Nat.le_of_ble_eq_true rfl⟩) (tkJ.blind) (tkJ.at hM hK) (tk_recv hK hM hR.1 rfl) rfl hl.1 rfl (Nat.le_of_ble_eq_true rfl) dX5_left_3 ⟨Nat.zero_le _, Nat.zero_le _⟩ (fun r_1 hr_1 => ?_)
  rcases hr_1 with ⟨rfl, hr_1⟩ | ⟨rfl, hr_1⟩
  · have hok := hr_1
    obtain ⟨t, ht, rfl⟩ := tkOk_ex (by omega) hr_1
    refine tk_mVi (As := [.int 1]) S0 (c_X5_checked_t l A D ac _ hR) (cwV 1 hts gX5_left_X5_checked rfl rfl rfl (by decide +kernel) ⟨Nat.le_of_ble_eq_true rfl, Nat.le_of_ble_eq_true rfl⟩) (tkJ.blind) (tkJ.at hM hK) (tk_recv hK hM hR.1 rfl) rfl hl.1 rfl (Nat.le_of_ble_eq_true rfl) dX5_left_6 ⟨Nat.zero_le _, Nat.zero_le _⟩ hS (fun r_2 G H locs hp hM hS => ?_)
    obtain ⟨hR, hr_2⟩ := hp
    subst hr_2
    refine lv_if_le (tgt := 16) hx hb dX5_left_9 (by decide) (fun c_3 => ?_) (fun c_3 => absurd (by decide) c_3)
    refine lv_aload_n hx hb dX5_left_16 rfl (lv_at hl 0 rfl) ?_
    refine lv_iload_n hx hb dX5_left_17 rfl (lv_at hl 1 rfl) ?_
    refine tk_cVi (As := [.int (nI t)]) S0 (c_X5_leftOf l A D ac _ hR hW t (by omega) ) (cwV 1 hts gX5_left_X5_leftOf rfl rfl rfl (by decide +kernel) ⟨Nat.le_of_ble_eq_true rfl, Nat.le_of_ble_eq_true rfl⟩) (tkJ.blind) (tkJ.at hM hK) (tk_recv hK hM hR.1 rfl) rfl hl.1 rfl (Nat.le_of_ble_eq_true rfl) dX5_left_18 ⟨Nat.zero_le _, Nat.zero_le _⟩ (fun r_4 hr_4 => ?_)
    have eS : S_left M (nI t) = (0, M, r_4) := (by rw [S_left, show tn (nI t) = t from nI_clamp (show t < 2 ^ 31 by omega), if_neg (by rw [hok]; decide), hr_4])
    exact W.iret (v := r_4) hx hb hr (fun t9 h9 w9 => ⟨⟨r_4, _, rfl, by rw [eS]; exact ⟨hR, rfl⟩, (by show tkM A D _ _; rw [h9]; exact hM)⟩, hS.F h9⟩) hS.2.2 dX5_left_21
  · skip
    refine tk_mVi (As := [.int 0]) S0 (c_X5_checked_f l A D ac _ hR) (cwV 1 hts gX5_left_X5_checked rfl rfl rfl (by decide +kernel) ⟨Nat.le_of_ble_eq_true rfl, Nat.le_of_ble_eq_true rfl⟩) (tkJ.blind) (tkJ.at hM hK) (tk_recv hK hM hR.1 rfl) rfl hl.1 rfl (Nat.le_of_ble_eq_true rfl) dX5_left_6 ⟨Nat.zero_le _, Nat.zero_le _⟩ hS (fun r_5 G H locs hp hM hS => ?_)
    obtain ⟨hR, hr_5⟩ := hp
    subst hr_5
    refine lv_if_le (tgt := 16) hx hb dX5_left_9 (by decide) (fun c_6 => absurd c_6 (by decide)) (fun c_6 => ?_)
    refine lv_iconst (v := 0) hx hb dX5_left_12 (by decide) ?_
    refine lv_goto (tgt := 21) hx hb dX5_left_13 (by decide) ?_
    have eS : S_left M x = (1, M, 0) := (by rw [S_left, if_pos hr_1])
    exact W.iret (v := 0) hx hb hr (fun t9 h9 w9 => ⟨⟨0, _, rfl, by rw [eS]; exact ⟨hR, rfl⟩, (by show tkM A D _ _; rw [h9]; exact hM)⟩, hS.F h9⟩) hS.2.2 dX5_left_21
set_option maxHeartbeats 4000000 in
set_option maxRecDepth 100000 in
theorem c_X5_room (l : Launch) (A : Nat → Prop) (D : va_G) (ac : Nat → ClassId) (G : TG) {m0 : Nat} {am : Nat → Nat} {th : Int32} {M : TS} (hR : PR ac m0 am th M G) (hW : W0 M) (x : Int32) : Met l yX5_room wsX5_room ({ frames := 3, cells := 0, slots := 0, locals := 180 } : Room) (va_Pc [.ref m0, .int x] (tkJ A D ac G)) (va_Qi (fun (z : Int32) (G9 : TG) => PR ac m0 am (S_room M x).1 (S_room M x).2.1 G9 ∧ z = (S_room M x).2.2) (fun (G9 : TG) t => tkM A D G9 t.heap) A) 0 0 A := by
  refine Met.ofW (cc := cX5_room) (maxL := 2) (ret := (some .int)) (by decide) rfl ?_
  intro p e s m args below meth c s₁ B hml hv
  obtain ⟨rfl, hM, hK⟩ := hv
  have hS : va_S A s.heap s.heap [] := va_S.rf
  have hx := B.exec
  have hb := B.bytes
  have hr := B.returns
  have hts := atoms_spec (ws := wsX5_room) B.pre
  have hown : s.vm.findClass RX5 = some m.cls := findClass_of_methodNamed B.named
  have hlocks := B.notSynchronized
  have S0 : CallFix p m c cX5_room 2 s ([.ref m0, .int x] : List Value).toArray wsX5_room RX5 := ⟨hx, hb, hml, hown, hts⟩
  have inX5 : ∀ w ∈ wsX50, w ∈ wsX5_room := by decide +kernel
  have hl := lv_entry ([.ref m0, .int x]) (n := 2) (Nat.le_of_ble_eq_true rfl)
  rw [lg_entry_eq]
  generalize (lg_sl ([.ref m0, .int x]) ++ List.replicate (2 - (lg_sl ([.ref m0, .int x])).length) Slot.unset).toArray = ls at hl ⊢
  have hl : lv_has ls 2 [(0, .ref m0), (1, .int x)] := hl
  have bT := hW.t.2
  have bE := hW.e.2
  have bV := hW.v.2
  refine lv_aload_n hx hb dX5_room_0 rfl (lv_at hl 0 rfl) ?_
  refine lv_aload_n hx hb dX5_room_1 rfl (lv_at hl 0 rfl) ?_
  refine lv_iload_n hx hb dX5_room_2 rfl (lv_at hl 1 rfl) ?_
  refine tk_cVi (As := [.int x]) S0 (c_X5_isTask l A D ac _ hR hW x) (cwV 1 hts gX5_room_X5_isTask rfl rfl rfl (by decide +kernel) ⟨Nat.le_of_ble_eq_true rfl, Nat.le_of_ble_eq_true rfl⟩) (tkJ.blind) (tkJ.at hM hK) (tk_recv hK hM hR.1 rfl) rfl hl.1 rfl (Nat.le_of_ble_eq_true rfl) dX5_room_3 ⟨Nat.zero_le _, Nat.zero_le _⟩ (fun r_1 hr_1 => ?_)
  rcases hr_1 with ⟨rfl, hr_1⟩ | ⟨rfl, hr_1⟩
  · have hok := hr_1
    obtain ⟨t, ht, rfl⟩ := tkOk_ex (by omega) hr_1
    refine lv_if_ne (tgt := 13) hx hb dX5_room_6 (by decide) (fun c_2 => ?_) (fun c_2 => absurd c_2 (by decide))
    refine lv_aload_n hx hb dX5_room_13 rfl (lv_at hl 0 rfl) ?_
    refine lv_iload_n hx hb dX5_room_14 rfl (lv_at hl 1 rfl) ?_
    refine tk_cVi (As := [.int (nI t)]) S0 (c_X5_roomFor l A D ac _ hR hW t (by omega) ) (cwV 1 hts gX5_room_X5_roomFor rfl rfl rfl (by decide +kernel) ⟨Nat.le_of_ble_eq_true rfl, Nat.le_of_ble_eq_true rfl⟩) (tkJ.blind) (tkJ.at hM hK) (tk_recv hK hM hR.1 rfl) rfl hl.1 rfl (Nat.le_of_ble_eq_true rfl) dX5_room_15 ⟨Nat.zero_le _, Nat.zero_le _⟩ (fun r_3 hr_3 => ?_)
    skip
    refine lv_iconst (v := (-1)) hx hb dX5_room_18 (by decide) ?_
    refine lv_icmp_ne (tgt := 26) hx hb dX5_room_19 (by decide) (fun c_4 => ?_) (fun c_4 => ?_)
    · skip
      refine lv_iconst (v := 0) hx hb dX5_room_26 (by decide) ?_
      refine tk_put (ty := .int) hx hb hts inX5 tyX5 tyX5_ok nmX5 hown hK hM hS hR.1 rfl 18 (by decide) (hts (.fieldLink RX5 66 "TicketForgeModel" "thrown" "I") (by decide +kernel)) (fun _ h9 => h9) rfl (by decide +kernel) rfl rfl (Nat.le_of_ble_eq_true rfl) dX5_room_27 (fun H locs hM hS => ?_)
      have hR := hR.th (v := 0)
      refine lv_aload_n hx hb dX5_room_30 rfl (lv_at hl 0 rfl) ?_
      refine tk_get hx hb hts inX5 hown hK hM hR.1 rfl 18 (by decide) (hts (.fieldLink RX5 66 "TicketForgeModel" "thrown" "I") (by decide +kernel)) (fun _ h9 => h9) rfl dX5_room_31 ?_
      refine lv_if_le (tgt := 41) hx hb dX5_room_34 (by decide) (fun c_5 => ?_) (fun c_5 => absurd (by decide) c_5)
      refine lv_aload_n hx hb dX5_room_41 rfl (lv_at hl 0 rfl) ?_
      refine lv_iload_n hx hb dX5_room_42 rfl (lv_at hl 1 rfl) ?_
      refine tk_cVi (As := [.int (nI t)]) S0 (c_X5_roomFor l A D ac _ hR hW t (by omega) ) (cwV 1 hts gX5_room_X5_roomFor rfl rfl rfl (by decide +kernel) ⟨Nat.le_of_ble_eq_true rfl, Nat.le_of_ble_eq_true rfl⟩) (tkJ.blind) (tkJ.at hM hK) (tk_recv hK hM hR.1 rfl) rfl hl.1 rfl (Nat.le_of_ble_eq_true rfl) dX5_room_43 ⟨Nat.zero_le _, Nat.zero_le _⟩ (fun r_6 hr_6 => ?_)
      have eS : S_room M (nI t) = (0, M, r_6) := (by rw [S_room, show tn (nI t) = t from nI_clamp (show t < 2 ^ 31 by omega), if_neg (by rw [hok]; decide), if_neg (by rw [← hr_3]; exact c_4), hr_6])
      exact W.iret (v := r_6) hx hb hr (fun t9 h9 w9 => ⟨⟨r_6, _, rfl, by rw [eS]; exact ⟨hR, rfl⟩, (by show tkM A D _ _; rw [h9]; exact hM)⟩, hS.F h9⟩) hS.2.2 dX5_room_46
    · skip
      refine lv_iconst (v := 2) hx hb dX5_room_22 (by decide) ?_
      refine lv_goto (tgt := 27) hx hb dX5_room_23 (by decide) ?_
      refine tk_put (ty := .int) hx hb hts inX5 tyX5 tyX5_ok nmX5 hown hK hM hS hR.1 rfl 18 (by decide) (hts (.fieldLink RX5 66 "TicketForgeModel" "thrown" "I") (by decide +kernel)) (fun _ h9 => h9) rfl (by decide +kernel) rfl rfl (Nat.le_of_ble_eq_true rfl) dX5_room_27 (fun H locs hM hS => ?_)
      have hR := hR.th (v := 2)
      refine lv_aload_n hx hb dX5_room_30 rfl (lv_at hl 0 rfl) ?_
      refine tk_get hx hb hts inX5 hown hK hM hR.1 rfl 18 (by decide) (hts (.fieldLink RX5 66 "TicketForgeModel" "thrown" "I") (by decide +kernel)) (fun _ h9 => h9) rfl dX5_room_31 ?_
      refine lv_if_le (tgt := 41) hx hb dX5_room_34 (by decide) (fun c_7 => absurd c_7 (by decide)) (fun c_7 => ?_)
      refine lv_iconst (v := 0) hx hb dX5_room_37 (by decide) ?_
      refine lv_goto (tgt := 46) hx hb dX5_room_38 (by decide) ?_
      have eS : S_room M (nI t) = (2, M, 0) := (by rw [S_room, show tn (nI t) = t from nI_clamp (show t < 2 ^ 31 by omega), if_neg (by rw [hok]; decide), if_pos (by rw [← hr_3]; exact c_4)])
      exact W.iret (v := 0) hx hb hr (fun t9 h9 w9 => ⟨⟨0, _, rfl, by rw [eS]; exact ⟨hR, rfl⟩, (by show tkM A D _ _; rw [h9]; exact hM)⟩, hS.F h9⟩) hS.2.2 dX5_room_46
  · skip
    refine lv_if_ne (tgt := 13) hx hb dX5_room_6 (by decide) (fun c_8 => absurd c_8 (by decide)) (fun c_8 => ?_)
    refine lv_iconst (v := 1) hx hb dX5_room_9 (by decide) ?_
    refine lv_goto (tgt := 27) hx hb dX5_room_10 (by decide) ?_
    refine tk_put (ty := .int) hx hb hts inX5 tyX5 tyX5_ok nmX5 hown hK hM hS hR.1 rfl 18 (by decide) (hts (.fieldLink RX5 66 "TicketForgeModel" "thrown" "I") (by decide +kernel)) (fun _ h9 => h9) rfl (by decide +kernel) rfl rfl (Nat.le_of_ble_eq_true rfl) dX5_room_27 (fun H locs hM hS => ?_)
    have hR := hR.th (v := 1)
    refine lv_aload_n hx hb dX5_room_30 rfl (lv_at hl 0 rfl) ?_
    refine tk_get hx hb hts inX5 hown hK hM hR.1 rfl 18 (by decide) (hts (.fieldLink RX5 66 "TicketForgeModel" "thrown" "I") (by decide +kernel)) (fun _ h9 => h9) rfl dX5_room_31 ?_
    refine lv_if_le (tgt := 41) hx hb dX5_room_34 (by decide) (fun c_9 => absurd c_9 (by decide)) (fun c_9 => ?_)
    refine lv_iconst (v := 0) hx hb dX5_room_37 (by decide) ?_
    refine lv_goto (tgt := 46) hx hb dX5_room_38 (by decide) ?_
    have eS : S_room M x = (1, M, 0) := (by rw [S_room, if_pos hr_1])
    exact W.iret (v := 0) hx hb hr (fun t9 h9 w9 => ⟨⟨0, _, rfl, by rw [eS]; exact ⟨hR, rfl⟩, (by show tkM A D _ _; rw [h9]; exact hM)⟩, hS.F h9⟩) hS.2.2 dX5_room_46
set_option maxHeartbeats 4000000 in
set_option maxRecDepth 100000 in
theorem c_X5_price (l : Launch) (A : Nat → Prop) (D : va_G) (ac : Nat → ClassId) (G : TG) {m0 : Nat} {am : Nat → Nat} {th : Int32} {M : TS} (hR : PR ac m0 am th M G) (hW : W0 M) (x : Int32) : Met l yX5_price wsX5_price ({ frames := 3, cells := 0, slots := 0, locals := 180 } : Room) (va_Pc [.ref m0, .int x] (tkJ A D ac G)) (va_Qi (fun (z : Int32) (G9 : TG) => PR ac m0 am (S_price M x).1 (S_price M x).2.1 G9 ∧ z = (S_price M x).2.2) (fun (G9 : TG) t => tkM A D G9 t.heap) A) 0 0 A := by
  refine Met.ofW (cc := cX5_price) (maxL := 2) (ret := (some .int)) (by decide) rfl ?_
  intro p e s m args below meth c s₁ B hml hv
  obtain ⟨rfl, hM, hK⟩ := hv
  have hS : va_S A s.heap s.heap [] := va_S.rf
  have hx := B.exec
  have hb := B.bytes
  have hr := B.returns
  have hts := atoms_spec (ws := wsX5_price) B.pre
  have hown : s.vm.findClass RX5 = some m.cls := findClass_of_methodNamed B.named
  have hlocks := B.notSynchronized
  have S0 : CallFix p m c cX5_price 2 s ([.ref m0, .int x] : List Value).toArray wsX5_price RX5 := ⟨hx, hb, hml, hown, hts⟩
  have inX5 : ∀ w ∈ wsX50, w ∈ wsX5_price := by decide +kernel
  have hl := lv_entry ([.ref m0, .int x]) (n := 2) (Nat.le_of_ble_eq_true rfl)
  rw [lg_entry_eq]
  generalize (lg_sl ([.ref m0, .int x]) ++ List.replicate (2 - (lg_sl ([.ref m0, .int x])).length) Slot.unset).toArray = ls at hl ⊢
  have hl : lv_has ls 2 [(0, .ref m0), (1, .int x)] := hl
  have bT := hW.t.2
  have bE := hW.e.2
  have bV := hW.v.2
  refine lv_aload_n hx hb dX5_price_0 rfl (lv_at hl 0 rfl) ?_
  refine lv_aload_n hx hb dX5_price_1 rfl (lv_at hl 0 rfl) ?_
  refine lv_iload_n hx hb dX5_price_2 rfl (lv_at hl 1 rfl) ?_
  refine tk_cVi (As := [.int x]) S0 (c_X5_wrongBilled l A D ac _ hR hW x) (cwV 1 hts gX5_price_X5_wrongBilled rfl rfl rfl (by decide +kernel) ⟨Nat.le_of_ble_eq_true rfl, Nat.le_of_ble_eq_true rfl⟩) (tkJ.blind) (tkJ.at hM hK) (tk_recv hK hM hR.1 rfl) rfl hl.1 rfl (Nat.le_of_ble_eq_true rfl) dX5_price_3 ⟨Nat.zero_le _, Nat.zero_le _⟩ (fun r_1 hr_1 => ?_)
  rcases wrongB_c hr_1 with ⟨rfl, hw1⟩ | ⟨rfl, hok, hw2⟩ | ⟨rfl, hok, hw3⟩
  · skip
    refine tk_put (ty := .int) hx hb hts inX5 tyX5 tyX5_ok nmX5 hown hK hM hS hR.1 rfl 18 (by decide) (hts (.fieldLink RX5 66 "TicketForgeModel" "thrown" "I") (by decide +kernel)) (fun _ h9 => h9) rfl (by decide +kernel) rfl rfl (Nat.le_of_ble_eq_true rfl) dX5_price_6 (fun H locs hM hS => ?_)
    have hR := hR.th (v := 1)
    refine lv_aload_n hx hb dX5_price_9 rfl (lv_at hl 0 rfl) ?_
    refine tk_get hx hb hts inX5 hown hK hM hR.1 rfl 18 (by decide) (hts (.fieldLink RX5 66 "TicketForgeModel" "thrown" "I") (by decide +kernel)) (fun _ h9 => h9) rfl dX5_price_10 ?_
    refine lv_if_le (tgt := 20) hx hb dX5_price_13 (by decide) (fun c_2 => absurd c_2 (by decide)) (fun c_2 => ?_)
    refine lv_iconst (v := 0) hx hb dX5_price_16 (by decide) ?_
    refine lv_goto (tgt := 26) hx hb dX5_price_17 (by decide) ?_
    have eS : S_price M x = (1, M, 0) := (by rw [S_price, if_pos hw1])
    exact W.iret (v := 0) hx hb hr (fun t9 h9 w9 => ⟨⟨0, _, rfl, by rw [eS]; exact ⟨hR, rfl⟩, (by show tkM A D _ _; rw [h9]; exact hM)⟩, hS.F h9⟩) hS.2.2 dX5_price_26
  · have hok2 := hok
    obtain ⟨k, hk, rfl⟩ := tkOk_ex (by omega) hok2
    rw [show tn (nI k) = k from nI_clamp (by omega)] at hw2
    refine tk_put (ty := .int) hx hb hts inX5 tyX5 tyX5_ok nmX5 hown hK hM hS hR.1 rfl 18 (by decide) (hts (.fieldLink RX5 66 "TicketForgeModel" "thrown" "I") (by decide +kernel)) (fun _ h9 => h9) rfl (by decide +kernel) rfl rfl (Nat.le_of_ble_eq_true rfl) dX5_price_6 (fun H locs hM hS => ?_)
    have hR := hR.th (v := 2)
    refine lv_aload_n hx hb dX5_price_9 rfl (lv_at hl 0 rfl) ?_
    refine tk_get hx hb hts inX5 hown hK hM hR.1 rfl 18 (by decide) (hts (.fieldLink RX5 66 "TicketForgeModel" "thrown" "I") (by decide +kernel)) (fun _ h9 => h9) rfl dX5_price_10 ?_
    refine lv_if_le (tgt := 20) hx hb dX5_price_13 (by decide) (fun c_3 => absurd c_3 (by decide)) (fun c_3 => ?_)
    refine lv_iconst (v := 0) hx hb dX5_price_16 (by decide) ?_
    refine lv_goto (tgt := 26) hx hb dX5_price_17 (by decide) ?_
    have eS : S_price M (nI k) = (2, M, 0) := (by rw [S_price, show tn (nI k) = k from nI_clamp (show k < 2 ^ 31 by omega), if_neg (by rw [hok]; decide), if_pos hw2])
    exact W.iret (v := 0) hx hb hr (fun t9 h9 w9 => ⟨⟨0, _, rfl, by rw [eS]; exact ⟨hR, rfl⟩, (by show tkM A D _ _; rw [h9]; exact hM)⟩, hS.F h9⟩) hS.2.2 dX5_price_26
  · have hok2 := hok
    obtain ⟨k, hk, rfl⟩ := tkOk_ex (by omega) hok2
    rw [show tn (nI k) = k from nI_clamp (by omega)] at hw3
    refine tk_put (ty := .int) hx hb hts inX5 tyX5 tyX5_ok nmX5 hown hK hM hS hR.1 rfl 18 (by decide) (hts (.fieldLink RX5 66 "TicketForgeModel" "thrown" "I") (by decide +kernel)) (fun _ h9 => h9) rfl (by decide +kernel) rfl rfl (Nat.le_of_ble_eq_true rfl) dX5_price_6 (fun H locs hM hS => ?_)
    have hR := hR.th (v := 0)
    refine lv_aload_n hx hb dX5_price_9 rfl (lv_at hl 0 rfl) ?_
    refine tk_get hx hb hts inX5 hown hK hM hR.1 rfl 18 (by decide) (hts (.fieldLink RX5 66 "TicketForgeModel" "thrown" "I") (by decide +kernel)) (fun _ h9 => h9) rfl dX5_price_10 ?_
    refine lv_if_le (tgt := 20) hx hb dX5_price_13 (by decide) (fun c_4 => ?_) (fun c_4 => absurd (by decide) c_4)
    refine lv_aload_n hx hb dX5_price_20 rfl (lv_at hl 0 rfl) ?_
    refine tk_get hx hb hts inX5 hown hK hM hR.1 rfl 12 (by decide) (hts (.fieldLink RX5 48 "TicketForgeModel" "prices" "[I") (by decide +kernel)) (fun _ h9 => h9) rfl dX5_price_21 ?_
    refine lv_iload_n hx hb dX5_price_24 rfl (lv_at hl 1 rfl) ?_
    refine tk_iald hx hb hK hM 1 hR.a12 rfl (vp_in_nI (by omega) (by decide)) dX5_price_25 ?_
    rw [show (nI k).toNatClampNeg = k from nI_clamp (by omega)]
    have eS : S_price M (nI k) = (0, M, ((M 13) k)) := (by rw [S_price, show tn (nI k) = k from nI_clamp (show k < 2 ^ 31 by omega), if_neg (by rw [hok]; decide), if_neg (by rw [hw3]; decide)])
    exact W.iret (v := ((M 13) k)) hx hb hr (fun t9 h9 w9 => ⟨⟨((M 13) k), _, rfl, by rw [eS]; exact ⟨hR, rfl⟩, (by show tkM A D _ _; rw [h9]; exact hM)⟩, hS.F h9⟩) hS.2.2 dX5_price_26
set_option maxHeartbeats 4000000 in
set_option maxRecDepth 100000 in
theorem c_X5_invoiceOf (l : Launch) (A : Nat → Prop) (D : va_G) (ac : Nat → ClassId) (G : TG) {m0 : Nat} {am : Nat → Nat} {th : Int32} {M : TS} (hR : PR ac m0 am th M G) (hW : W0 M) (x : Int32) : Met l yX5_invoiceOf wsX5_invoiceOf ({ frames := 3, cells := 0, slots := 0, locals := 180 } : Room) (va_Pc [.ref m0, .int x] (tkJ A D ac G)) (va_Qi (fun (z : Int32) (G9 : TG) => PR ac m0 am (S_invoiceOf M x).1 (S_invoiceOf M x).2.1 G9 ∧ z = (S_invoiceOf M x).2.2) (fun (G9 : TG) t => tkM A D G9 t.heap) A) 0 0 A := by
  refine Met.ofW (cc := cX5_invoiceOf) (maxL := 2) (ret := (some .int)) (by decide) rfl ?_
  intro p e s m args below meth c s₁ B hml hv
  obtain ⟨rfl, hM, hK⟩ := hv
  have hS : va_S A s.heap s.heap [] := va_S.rf
  have hx := B.exec
  have hb := B.bytes
  have hr := B.returns
  have hts := atoms_spec (ws := wsX5_invoiceOf) B.pre
  have hown : s.vm.findClass RX5 = some m.cls := findClass_of_methodNamed B.named
  have hlocks := B.notSynchronized
  have S0 : CallFix p m c cX5_invoiceOf 2 s ([.ref m0, .int x] : List Value).toArray wsX5_invoiceOf RX5 := ⟨hx, hb, hml, hown, hts⟩
  have inX5 : ∀ w ∈ wsX50, w ∈ wsX5_invoiceOf := by decide +kernel
  have hl := lv_entry ([.ref m0, .int x]) (n := 2) (Nat.le_of_ble_eq_true rfl)
  rw [lg_entry_eq]
  generalize (lg_sl ([.ref m0, .int x]) ++ List.replicate (2 - (lg_sl ([.ref m0, .int x])).length) Slot.unset).toArray = ls at hl ⊢
  have hl : lv_has ls 2 [(0, .ref m0), (1, .int x)] := hl
  have bT := hW.t.2
  have bE := hW.e.2
  have bV := hW.v.2
  refine lv_aload_n hx hb dX5_invoiceOf_0 rfl (lv_at hl 0 rfl) ?_
  refine lv_aload_n hx hb dX5_invoiceOf_1 rfl (lv_at hl 0 rfl) ?_
  refine lv_iload_n hx hb dX5_invoiceOf_2 rfl (lv_at hl 1 rfl) ?_
  refine tk_cVi (As := [.int x]) S0 (c_X5_wrongBilled l A D ac _ hR hW x) (cwV 1 hts gX5_invoiceOf_X5_wrongBilled rfl rfl rfl (by decide +kernel) ⟨Nat.le_of_ble_eq_true rfl, Nat.le_of_ble_eq_true rfl⟩) (tkJ.blind) (tkJ.at hM hK) (tk_recv hK hM hR.1 rfl) rfl hl.1 rfl (Nat.le_of_ble_eq_true rfl) dX5_invoiceOf_3 ⟨Nat.zero_le _, Nat.zero_le _⟩ (fun r_1 hr_1 => ?_)
  rcases wrongB_c hr_1 with ⟨rfl, hw1⟩ | ⟨rfl, hok, hw2⟩ | ⟨rfl, hok, hw3⟩
  · skip
    refine tk_put (ty := .int) hx hb hts inX5 tyX5 tyX5_ok nmX5 hown hK hM hS hR.1 rfl 18 (by decide) (hts (.fieldLink RX5 66 "TicketForgeModel" "thrown" "I") (by decide +kernel)) (fun _ h9 => h9) rfl (by decide +kernel) rfl rfl (Nat.le_of_ble_eq_true rfl) dX5_invoiceOf_6 (fun H locs hM hS => ?_)
    have hR := hR.th (v := 1)
    refine lv_aload_n hx hb dX5_invoiceOf_9 rfl (lv_at hl 0 rfl) ?_
    refine tk_get hx hb hts inX5 hown hK hM hR.1 rfl 18 (by decide) (hts (.fieldLink RX5 66 "TicketForgeModel" "thrown" "I") (by decide +kernel)) (fun _ h9 => h9) rfl dX5_invoiceOf_10 ?_
    refine lv_if_le (tgt := 20) hx hb dX5_invoiceOf_13 (by decide) (fun c_2 => absurd c_2 (by decide)) (fun c_2 => ?_)
    refine lv_iconst (v := 0) hx hb dX5_invoiceOf_16 (by decide) ?_
    refine lv_goto (tgt := 26) hx hb dX5_invoiceOf_17 (by decide) ?_
    have eS : S_invoiceOf M x = (1, M, 0) := (by rw [S_invoiceOf, if_pos hw1])
    exact W.iret (v := 0) hx hb hr (fun t9 h9 w9 => ⟨⟨0, _, rfl, by rw [eS]; exact ⟨hR, rfl⟩, (by show tkM A D _ _; rw [h9]; exact hM)⟩, hS.F h9⟩) hS.2.2 dX5_invoiceOf_26
  · have hok2 := hok
    obtain ⟨k, hk, rfl⟩ := tkOk_ex (by omega) hok2
    rw [show tn (nI k) = k from nI_clamp (by omega)] at hw2
    refine tk_put (ty := .int) hx hb hts inX5 tyX5 tyX5_ok nmX5 hown hK hM hS hR.1 rfl 18 (by decide) (hts (.fieldLink RX5 66 "TicketForgeModel" "thrown" "I") (by decide +kernel)) (fun _ h9 => h9) rfl (by decide +kernel) rfl rfl (Nat.le_of_ble_eq_true rfl) dX5_invoiceOf_6 (fun H locs hM hS => ?_)
    have hR := hR.th (v := 2)
    refine lv_aload_n hx hb dX5_invoiceOf_9 rfl (lv_at hl 0 rfl) ?_
    refine tk_get hx hb hts inX5 hown hK hM hR.1 rfl 18 (by decide) (hts (.fieldLink RX5 66 "TicketForgeModel" "thrown" "I") (by decide +kernel)) (fun _ h9 => h9) rfl dX5_invoiceOf_10 ?_
    refine lv_if_le (tgt := 20) hx hb dX5_invoiceOf_13 (by decide) (fun c_3 => absurd c_3 (by decide)) (fun c_3 => ?_)
    refine lv_iconst (v := 0) hx hb dX5_invoiceOf_16 (by decide) ?_
    refine lv_goto (tgt := 26) hx hb dX5_invoiceOf_17 (by decide) ?_
    have eS : S_invoiceOf M (nI k) = (2, M, 0) := (by rw [S_invoiceOf, show tn (nI k) = k from nI_clamp (show k < 2 ^ 31 by omega), if_neg (by rw [hok]; decide), if_pos hw2])
    exact W.iret (v := 0) hx hb hr (fun t9 h9 w9 => ⟨⟨0, _, rfl, by rw [eS]; exact ⟨hR, rfl⟩, (by show tkM A D _ _; rw [h9]; exact hM)⟩, hS.F h9⟩) hS.2.2 dX5_invoiceOf_26
  · have hok2 := hok
    obtain ⟨k, hk, rfl⟩ := tkOk_ex (by omega) hok2
    rw [show tn (nI k) = k from nI_clamp (by omega)] at hw3
    refine tk_put (ty := .int) hx hb hts inX5 tyX5 tyX5_ok nmX5 hown hK hM hS hR.1 rfl 18 (by decide) (hts (.fieldLink RX5 66 "TicketForgeModel" "thrown" "I") (by decide +kernel)) (fun _ h9 => h9) rfl (by decide +kernel) rfl rfl (Nat.le_of_ble_eq_true rfl) dX5_invoiceOf_6 (fun H locs hM hS => ?_)
    have hR := hR.th (v := 0)
    refine lv_aload_n hx hb dX5_invoiceOf_9 rfl (lv_at hl 0 rfl) ?_
    refine tk_get hx hb hts inX5 hown hK hM hR.1 rfl 18 (by decide) (hts (.fieldLink RX5 66 "TicketForgeModel" "thrown" "I") (by decide +kernel)) (fun _ h9 => h9) rfl dX5_invoiceOf_10 ?_
    refine lv_if_le (tgt := 20) hx hb dX5_invoiceOf_13 (by decide) (fun c_4 => ?_) (fun c_4 => absurd (by decide) c_4)
    refine lv_aload_n hx hb dX5_invoiceOf_20 rfl (lv_at hl 0 rfl) ?_
    refine tk_get hx hb hts inX5 hown hK hM hR.1 rfl 13 (by decide) (hts (.fieldLink RX5 51 "TicketForgeModel" "invoicesOf" "[I") (by decide +kernel)) (fun _ h9 => h9) rfl dX5_invoiceOf_21 ?_
    refine lv_iload_n hx hb dX5_invoiceOf_24 rfl (lv_at hl 1 rfl) ?_
    refine tk_iald hx hb hK hM 1 hR.a13 rfl (vp_in_nI (by omega) (by decide)) dX5_invoiceOf_25 ?_
    rw [show (nI k).toNatClampNeg = k from nI_clamp (by omega)]
    have eS : S_invoiceOf M (nI k) = (0, M, ((M 14) k)) := (by rw [S_invoiceOf, show tn (nI k) = k from nI_clamp (show k < 2 ^ 31 by omega), if_neg (by rw [hok]; decide), if_neg (by rw [hw3]; decide)])
    exact W.iret (v := ((M 14) k)) hx hb hr (fun t9 h9 w9 => ⟨⟨((M 14) k), _, rfl, by rw [eS]; exact ⟨hR, rfl⟩, (by show tkM A D _ _; rw [h9]; exact hM)⟩, hS.F h9⟩) hS.2.2 dX5_invoiceOf_26
set_option maxHeartbeats 4000000 in
set_option maxRecDepth 100000 in
theorem c_X5_total (l : Launch) (A : Nat → Prop) (D : va_G) (ac : Nat → ClassId) (G : TG) {m0 : Nat} {am : Nat → Nat} {th : Int32} {M : TS} (hR : PR ac m0 am th M G) (hW : W0 M) (x : Int32) : Met l yX5_total wsX5_total ({ frames := 3, cells := 0, slots := 0, locals := 180 } : Room) (va_Pc [.ref m0, .int x] (tkJ A D ac G)) (va_Qi (fun (z : Int32) (G9 : TG) => PR ac m0 am (S_total M x).1 (S_total M x).2.1 G9 ∧ z = (S_total M x).2.2) (fun (G9 : TG) t => tkM A D G9 t.heap) A) 0 0 A := by
  refine Met.ofW (cc := cX5_total) (maxL := 2) (ret := (some .int)) (by decide) rfl ?_
  intro p e s m args below meth c s₁ B hml hv
  obtain ⟨rfl, hM, hK⟩ := hv
  have hS : va_S A s.heap s.heap [] := va_S.rf
  have hx := B.exec
  have hb := B.bytes
  have hr := B.returns
  have hts := atoms_spec (ws := wsX5_total) B.pre
  have hown : s.vm.findClass RX5 = some m.cls := findClass_of_methodNamed B.named
  have hlocks := B.notSynchronized
  have S0 : CallFix p m c cX5_total 2 s ([.ref m0, .int x] : List Value).toArray wsX5_total RX5 := ⟨hx, hb, hml, hown, hts⟩
  have inX5 : ∀ w ∈ wsX50, w ∈ wsX5_total := by decide +kernel
  have hl := lv_entry ([.ref m0, .int x]) (n := 2) (Nat.le_of_ble_eq_true rfl)
  rw [lg_entry_eq]
  generalize (lg_sl ([.ref m0, .int x]) ++ List.replicate (2 - (lg_sl ([.ref m0, .int x])).length) Slot.unset).toArray = ls at hl ⊢
  have hl : lv_has ls 2 [(0, .ref m0), (1, .int x)] := hl
  have bT := hW.t.2
  have bE := hW.e.2
  have bV := hW.v.2
  refine lv_aload_n hx hb dX5_total_0 rfl (lv_at hl 0 rfl) ?_
  refine lv_aload_n hx hb dX5_total_1 rfl (lv_at hl 0 rfl) ?_
  refine lv_iload_n hx hb dX5_total_2 rfl (lv_at hl 1 rfl) ?_
  refine tk_cVi (As := [.int x]) S0 (c_X5_isInvoice l A D ac _ hR hW x) (cwV 1 hts gX5_total_X5_isInvoice rfl rfl rfl (by decide +kernel) ⟨Nat.le_of_ble_eq_true rfl, Nat.le_of_ble_eq_true rfl⟩) (tkJ.blind) (tkJ.at hM hK) (tk_recv hK hM hR.1 rfl) rfl hl.1 rfl (Nat.le_of_ble_eq_true rfl) dX5_total_3 ⟨Nat.zero_le _, Nat.zero_le _⟩ (fun r_1 hr_1 => ?_)
  rcases hr_1 with ⟨rfl, hr_1⟩ | ⟨rfl, hr_1⟩
  · have hok := hr_1
    obtain ⟨v, hv, rfl⟩ := tkOk_ex (by omega) hr_1
    refine tk_mVi (As := [.int 1]) S0 (c_X5_checked_t l A D ac _ hR) (cwV 1 hts gX5_total_X5_checked rfl rfl rfl (by decide +kernel) ⟨Nat.le_of_ble_eq_true rfl, Nat.le_of_ble_eq_true rfl⟩) (tkJ.blind) (tkJ.at hM hK) (tk_recv hK hM hR.1 rfl) rfl hl.1 rfl (Nat.le_of_ble_eq_true rfl) dX5_total_6 ⟨Nat.zero_le _, Nat.zero_le _⟩ hS (fun r_2 G H locs hp hM hS => ?_)
    obtain ⟨hR, hr_2⟩ := hp
    subst hr_2
    refine lv_if_le (tgt := 16) hx hb dX5_total_9 (by decide) (fun c_3 => ?_) (fun c_3 => absurd (by decide) c_3)
    refine lv_aload_n hx hb dX5_total_16 rfl (lv_at hl 0 rfl) ?_
    refine tk_get hx hb hts inX5 hown hK hM hR.1 rfl 15 (by decide) (hts (.fieldLink RX5 57 "TicketForgeModel" "totals" "[I") (by decide +kernel)) (fun _ h9 => h9) rfl dX5_total_17 ?_
    refine lv_iload_n hx hb dX5_total_20 rfl (lv_at hl 1 rfl) ?_
    refine tk_iald hx hb hK hM 1 hR.a15 rfl (vp_in_nI (by omega) (by decide)) dX5_total_21 ?_
    rw [show (nI v).toNatClampNeg = v from nI_clamp (by omega)]
    have eS : S_total M (nI v) = (0, M, ((M 16) v)) := (by rw [S_total, show tn (nI v) = v from nI_clamp (show v < 2 ^ 31 by omega), if_neg (by rw [hok]; decide)])
    exact W.iret (v := ((M 16) v)) hx hb hr (fun t9 h9 w9 => ⟨⟨((M 16) v), _, rfl, by rw [eS]; exact ⟨hR, rfl⟩, (by show tkM A D _ _; rw [h9]; exact hM)⟩, hS.F h9⟩) hS.2.2 dX5_total_22
  · skip
    refine tk_mVi (As := [.int 0]) S0 (c_X5_checked_f l A D ac _ hR) (cwV 1 hts gX5_total_X5_checked rfl rfl rfl (by decide +kernel) ⟨Nat.le_of_ble_eq_true rfl, Nat.le_of_ble_eq_true rfl⟩) (tkJ.blind) (tkJ.at hM hK) (tk_recv hK hM hR.1 rfl) rfl hl.1 rfl (Nat.le_of_ble_eq_true rfl) dX5_total_6 ⟨Nat.zero_le _, Nat.zero_le _⟩ hS (fun r_4 G H locs hp hM hS => ?_)
    obtain ⟨hR, hr_4⟩ := hp
    subst hr_4
    refine lv_if_le (tgt := 16) hx hb dX5_total_9 (by decide) (fun c_5 => absurd c_5 (by decide)) (fun c_5 => ?_)
    refine lv_iconst (v := 0) hx hb dX5_total_12 (by decide) ?_
    refine lv_goto (tgt := 22) hx hb dX5_total_13 (by decide) ?_
    have eS : S_total M x = (1, M, 0) := (by rw [S_total, if_pos hr_1])
    exact W.iret (v := 0) hx hb hr (fun t9 h9 w9 => ⟨⟨0, _, rfl, by rw [eS]; exact ⟨hR, rfl⟩, (by show tkM A D _ _; rw [h9]; exact hM)⟩, hS.F h9⟩) hS.2.2 dX5_total_22
set_option maxHeartbeats 4000000 in
set_option maxRecDepth 100000 in
theorem c_X5_credited (l : Launch) (A : Nat → Prop) (D : va_G) (ac : Nat → ClassId) (G : TG) {m0 : Nat} {am : Nat → Nat} {th : Int32} {M : TS} (hR : PR ac m0 am th M G) (hW : W0 M) (x : Int32) : Met l yX5_credited wsX5_credited ({ frames := 3, cells := 0, slots := 0, locals := 180 } : Room) (va_Pc [.ref m0, .int x] (tkJ A D ac G)) (va_Qi (fun (z : Int32) (G9 : TG) => PR ac m0 am (S_credited M x).1 (S_credited M x).2.1 G9 ∧ z = (S_credited M x).2.2) (fun (G9 : TG) t => tkM A D G9 t.heap) A) 0 0 A := by
  refine Met.ofW (cc := cX5_credited) (maxL := 2) (ret := (some .int)) (by decide) rfl ?_
  intro p e s m args below meth c s₁ B hml hv
  obtain ⟨rfl, hM, hK⟩ := hv
  have hS : va_S A s.heap s.heap [] := va_S.rf
  have hx := B.exec
  have hb := B.bytes
  have hr := B.returns
  have hts := atoms_spec (ws := wsX5_credited) B.pre
  have hown : s.vm.findClass RX5 = some m.cls := findClass_of_methodNamed B.named
  have hlocks := B.notSynchronized
  have S0 : CallFix p m c cX5_credited 2 s ([.ref m0, .int x] : List Value).toArray wsX5_credited RX5 := ⟨hx, hb, hml, hown, hts⟩
  have inX5 : ∀ w ∈ wsX50, w ∈ wsX5_credited := by decide +kernel
  have hl := lv_entry ([.ref m0, .int x]) (n := 2) (Nat.le_of_ble_eq_true rfl)
  rw [lg_entry_eq]
  generalize (lg_sl ([.ref m0, .int x]) ++ List.replicate (2 - (lg_sl ([.ref m0, .int x])).length) Slot.unset).toArray = ls at hl ⊢
  have hl : lv_has ls 2 [(0, .ref m0), (1, .int x)] := hl
  have bT := hW.t.2
  have bE := hW.e.2
  have bV := hW.v.2
  refine lv_aload_n hx hb dX5_credited_0 rfl (lv_at hl 0 rfl) ?_
  refine lv_aload_n hx hb dX5_credited_1 rfl (lv_at hl 0 rfl) ?_
  refine lv_iload_n hx hb dX5_credited_2 rfl (lv_at hl 1 rfl) ?_
  refine tk_cVi (As := [.int x]) S0 (c_X5_isInvoice l A D ac _ hR hW x) (cwV 1 hts gX5_credited_X5_isInvoice rfl rfl rfl (by decide +kernel) ⟨Nat.le_of_ble_eq_true rfl, Nat.le_of_ble_eq_true rfl⟩) (tkJ.blind) (tkJ.at hM hK) (tk_recv hK hM hR.1 rfl) rfl hl.1 rfl (Nat.le_of_ble_eq_true rfl) dX5_credited_3 ⟨Nat.zero_le _, Nat.zero_le _⟩ (fun r_1 hr_1 => ?_)
  rcases hr_1 with ⟨rfl, hr_1⟩ | ⟨rfl, hr_1⟩
  · have hok := hr_1
    obtain ⟨v, hv, rfl⟩ := tkOk_ex (by omega) hr_1
    refine tk_mVi (As := [.int 1]) S0 (c_X5_checked_t l A D ac _ hR) (cwV 1 hts gX5_credited_X5_checked rfl rfl rfl (by decide +kernel) ⟨Nat.le_of_ble_eq_true rfl, Nat.le_of_ble_eq_true rfl⟩) (tkJ.blind) (tkJ.at hM hK) (tk_recv hK hM hR.1 rfl) rfl hl.1 rfl (Nat.le_of_ble_eq_true rfl) dX5_credited_6 ⟨Nat.zero_le _, Nat.zero_le _⟩ hS (fun r_2 G H locs hp hM hS => ?_)
    obtain ⟨hR, hr_2⟩ := hp
    subst hr_2
    refine lv_if_le (tgt := 16) hx hb dX5_credited_9 (by decide) (fun c_3 => ?_) (fun c_3 => absurd (by decide) c_3)
    refine lv_aload_n hx hb dX5_credited_16 rfl (lv_at hl 0 rfl) ?_
    refine tk_get hx hb hts inX5 hown hK hM hR.1 rfl 16 (by decide) (hts (.fieldLink RX5 60 "TicketForgeModel" "credits" "[I") (by decide +kernel)) (fun _ h9 => h9) rfl dX5_credited_17 ?_
    refine lv_iload_n hx hb dX5_credited_20 rfl (lv_at hl 1 rfl) ?_
    refine tk_iald hx hb hK hM 1 hR.a16 rfl (vp_in_nI (by omega) (by decide)) dX5_credited_21 ?_
    rw [show (nI v).toNatClampNeg = v from nI_clamp (by omega)]
    have eS : S_credited M (nI v) = (0, M, ((M 17) v)) := (by rw [S_credited, show tn (nI v) = v from nI_clamp (show v < 2 ^ 31 by omega), if_neg (by rw [hok]; decide)])
    exact W.iret (v := ((M 17) v)) hx hb hr (fun t9 h9 w9 => ⟨⟨((M 17) v), _, rfl, by rw [eS]; exact ⟨hR, rfl⟩, (by show tkM A D _ _; rw [h9]; exact hM)⟩, hS.F h9⟩) hS.2.2 dX5_credited_22
  · skip
    refine tk_mVi (As := [.int 0]) S0 (c_X5_checked_f l A D ac _ hR) (cwV 1 hts gX5_credited_X5_checked rfl rfl rfl (by decide +kernel) ⟨Nat.le_of_ble_eq_true rfl, Nat.le_of_ble_eq_true rfl⟩) (tkJ.blind) (tkJ.at hM hK) (tk_recv hK hM hR.1 rfl) rfl hl.1 rfl (Nat.le_of_ble_eq_true rfl) dX5_credited_6 ⟨Nat.zero_le _, Nat.zero_le _⟩ hS (fun r_4 G H locs hp hM hS => ?_)
    obtain ⟨hR, hr_4⟩ := hp
    subst hr_4
    refine lv_if_le (tgt := 16) hx hb dX5_credited_9 (by decide) (fun c_5 => absurd c_5 (by decide)) (fun c_5 => ?_)
    refine lv_iconst (v := 0) hx hb dX5_credited_12 (by decide) ?_
    refine lv_goto (tgt := 22) hx hb dX5_credited_13 (by decide) ?_
    have eS : S_credited M x = (1, M, 0) := (by rw [S_credited, if_pos hr_1])
    exact W.iret (v := 0) hx hb hr (fun t9 h9 w9 => ⟨⟨0, _, rfl, by rw [eS]; exact ⟨hR, rfl⟩, (by show tkM A D _ _; rw [h9]; exact hM)⟩, hS.F h9⟩) hS.2.2 dX5_credited_22
set_option maxHeartbeats 4000000 in
set_option maxRecDepth 100000 in
theorem c_X5_items (l : Launch) (A : Nat → Prop) (D : va_G) (ac : Nat → ClassId) (G : TG) {m0 : Nat} {am : Nat → Nat} {th : Int32} {M : TS} (hR : PR ac m0 am th M G) (hW : W0 M) (x : Int32) : Met l yX5_items wsX5_items ({ frames := 3, cells := 0, slots := 0, locals := 180 } : Room) (va_Pc [.ref m0, .int x] (tkJ A D ac G)) (va_Qi (fun (z : Int32) (G9 : TG) => PR ac m0 am (S_items M x).1 (S_items M x).2.1 G9 ∧ z = (S_items M x).2.2) (fun (G9 : TG) t => tkM A D G9 t.heap) A) 0 0 A := by
  refine Met.ofW (cc := cX5_items) (maxL := 2) (ret := (some .int)) (by decide) rfl ?_
  intro p e s m args below meth c s₁ B hml hv
  obtain ⟨rfl, hM, hK⟩ := hv
  have hS : va_S A s.heap s.heap [] := va_S.rf
  have hx := B.exec
  have hb := B.bytes
  have hr := B.returns
  have hts := atoms_spec (ws := wsX5_items) B.pre
  have hown : s.vm.findClass RX5 = some m.cls := findClass_of_methodNamed B.named
  have hlocks := B.notSynchronized
  have S0 : CallFix p m c cX5_items 2 s ([.ref m0, .int x] : List Value).toArray wsX5_items RX5 := ⟨hx, hb, hml, hown, hts⟩
  have inX5 : ∀ w ∈ wsX50, w ∈ wsX5_items := by decide +kernel
  have hl := lv_entry ([.ref m0, .int x]) (n := 2) (Nat.le_of_ble_eq_true rfl)
  rw [lg_entry_eq]
  generalize (lg_sl ([.ref m0, .int x]) ++ List.replicate (2 - (lg_sl ([.ref m0, .int x])).length) Slot.unset).toArray = ls at hl ⊢
  have hl : lv_has ls 2 [(0, .ref m0), (1, .int x)] := hl
  have bT := hW.t.2
  have bE := hW.e.2
  have bV := hW.v.2
  refine lv_aload_n hx hb dX5_items_0 rfl (lv_at hl 0 rfl) ?_
  refine lv_aload_n hx hb dX5_items_1 rfl (lv_at hl 0 rfl) ?_
  refine lv_iload_n hx hb dX5_items_2 rfl (lv_at hl 1 rfl) ?_
  refine tk_cVi (As := [.int x]) S0 (c_X5_isInvoice l A D ac _ hR hW x) (cwV 1 hts gX5_items_X5_isInvoice rfl rfl rfl (by decide +kernel) ⟨Nat.le_of_ble_eq_true rfl, Nat.le_of_ble_eq_true rfl⟩) (tkJ.blind) (tkJ.at hM hK) (tk_recv hK hM hR.1 rfl) rfl hl.1 rfl (Nat.le_of_ble_eq_true rfl) dX5_items_3 ⟨Nat.zero_le _, Nat.zero_le _⟩ (fun r_1 hr_1 => ?_)
  rcases hr_1 with ⟨rfl, hr_1⟩ | ⟨rfl, hr_1⟩
  · have hok := hr_1
    obtain ⟨v, hv, rfl⟩ := tkOk_ex (by omega) hr_1
    refine tk_mVi (As := [.int 1]) S0 (c_X5_checked_t l A D ac _ hR) (cwV 1 hts gX5_items_X5_checked rfl rfl rfl (by decide +kernel) ⟨Nat.le_of_ble_eq_true rfl, Nat.le_of_ble_eq_true rfl⟩) (tkJ.blind) (tkJ.at hM hK) (tk_recv hK hM hR.1 rfl) rfl hl.1 rfl (Nat.le_of_ble_eq_true rfl) dX5_items_6 ⟨Nat.zero_le _, Nat.zero_le _⟩ hS (fun r_2 G H locs hp hM hS => ?_)
    obtain ⟨hR, hr_2⟩ := hp
    subst hr_2
    refine lv_if_le (tgt := 16) hx hb dX5_items_9 (by decide) (fun c_3 => ?_) (fun c_3 => absurd (by decide) c_3)
    refine lv_aload_n hx hb dX5_items_16 rfl (lv_at hl 0 rfl) ?_
    refine tk_get hx hb hts inX5 hown hK hM hR.1 rfl 17 (by decide) (hts (.fieldLink RX5 63 "TicketForgeModel" "items" "[I") (by decide +kernel)) (fun _ h9 => h9) rfl dX5_items_17 ?_
    refine lv_iload_n hx hb dX5_items_20 rfl (lv_at hl 1 rfl) ?_
    refine tk_iald hx hb hK hM 1 hR.a17 rfl (vp_in_nI (by omega) (by decide)) dX5_items_21 ?_
    rw [show (nI v).toNatClampNeg = v from nI_clamp (by omega)]
    have eS : S_items M (nI v) = (0, M, ((M 18) v)) := (by rw [S_items, show tn (nI v) = v from nI_clamp (show v < 2 ^ 31 by omega), if_neg (by rw [hok]; decide)])
    exact W.iret (v := ((M 18) v)) hx hb hr (fun t9 h9 w9 => ⟨⟨((M 18) v), _, rfl, by rw [eS]; exact ⟨hR, rfl⟩, (by show tkM A D _ _; rw [h9]; exact hM)⟩, hS.F h9⟩) hS.2.2 dX5_items_22
  · skip
    refine tk_mVi (As := [.int 0]) S0 (c_X5_checked_f l A D ac _ hR) (cwV 1 hts gX5_items_X5_checked rfl rfl rfl (by decide +kernel) ⟨Nat.le_of_ble_eq_true rfl, Nat.le_of_ble_eq_true rfl⟩) (tkJ.blind) (tkJ.at hM hK) (tk_recv hK hM hR.1 rfl) rfl hl.1 rfl (Nat.le_of_ble_eq_true rfl) dX5_items_6 ⟨Nat.zero_le _, Nat.zero_le _⟩ hS (fun r_4 G H locs hp hM hS => ?_)
    obtain ⟨hR, hr_4⟩ := hp
    subst hr_4
    refine lv_if_le (tgt := 16) hx hb dX5_items_9 (by decide) (fun c_5 => absurd c_5 (by decide)) (fun c_5 => ?_)
    refine lv_iconst (v := 0) hx hb dX5_items_12 (by decide) ?_
    refine lv_goto (tgt := 22) hx hb dX5_items_13 (by decide) ?_
    have eS : S_items M x = (1, M, 0) := (by rw [S_items, if_pos hr_1])
    exact W.iret (v := 0) hx hb hr (fun t9 h9 w9 => ⟨⟨0, _, rfl, by rw [eS]; exact ⟨hR, rfl⟩, (by show tkM A D _ _; rw [h9]; exact hM)⟩, hS.F h9⟩) hS.2.2 dX5_items_22
set_option maxHeartbeats 4000000 in
set_option maxRecDepth 100000 in
theorem c_X5_totalByRules (l : Launch) (A : Nat → Prop) (D : va_G) (ac : Nat → ClassId) (G : TG) {m0 : Nat} {am : Nat → Nat} {th : Int32} {M : TS} (hR : PR ac m0 am th M G) (hW : W0 M) (x : Int32) : Met l yX5_totalByRules wsX5_totalByRules ({ frames := 4, cells := 0, slots := 0, locals := 220 } : Room) (va_Pc [.ref m0, .int x] (tkJ A D ac G)) (va_Qi (fun (z : Int32) (G9 : TG) => PR ac m0 am (S_total M x).1 (S_total M x).2.1 G9 ∧ z = (S_total M x).2.2) (fun (G9 : TG) t => tkM A D G9 t.heap) A) 0 0 A := by
  refine Met.ofW (cc := cX5_totalByRules) (maxL := 2) (ret := (some .int)) (by decide) rfl ?_
  intro p e s m args below meth c s₁ B hml hv
  obtain ⟨rfl, hM, hK⟩ := hv
  have hS : va_S A s.heap s.heap [] := va_S.rf
  have hx := B.exec
  have hb := B.bytes
  have hr := B.returns
  have hts := atoms_spec (ws := wsX5_totalByRules) B.pre
  have hown : s.vm.findClass RX5 = some m.cls := findClass_of_methodNamed B.named
  have hlocks := B.notSynchronized
  have S0 : CallFix p m c cX5_totalByRules 2 s ([.ref m0, .int x] : List Value).toArray wsX5_totalByRules RX5 := ⟨hx, hb, hml, hown, hts⟩
  have inX5 : ∀ w ∈ wsX50, w ∈ wsX5_totalByRules := by decide +kernel
  have hl := lv_entry ([.ref m0, .int x]) (n := 2) (Nat.le_of_ble_eq_true rfl)
  rw [lg_entry_eq]
  generalize (lg_sl ([.ref m0, .int x]) ++ List.replicate (2 - (lg_sl ([.ref m0, .int x])).length) Slot.unset).toArray = ls at hl ⊢
  have hl : lv_has ls 2 [(0, .ref m0), (1, .int x)] := hl
  refine lv_aload_n hx hb dX5_totalByRules_0 rfl (lv_at hl 0 rfl) ?_
  refine lv_iload_n hx hb dX5_totalByRules_1 rfl (lv_at hl 1 rfl) ?_
  refine tk_mVi (As := [.int x]) S0 (c_X5_total l A D ac _ hR hW x) (cwV 1 hts gX5_totalByRules_X5_total rfl rfl rfl (by decide +kernel) ⟨Nat.le_of_ble_eq_true rfl, Nat.le_of_ble_eq_true rfl⟩) (tkJ.blind) (tkJ.at hM hK) (tk_recv hK hM hR.1 rfl) rfl hl.1 rfl (Nat.le_of_ble_eq_true rfl) dX5_totalByRules_2 ⟨Nat.zero_le _, Nat.zero_le _⟩ hS (fun r_1 G H locs hp hM hS => ?_)
  obtain ⟨hR, hr_1⟩ := hp
  exact W.iret (v := r_1) hx hb hr (fun t9 h9 w9 => ⟨⟨r_1, _, rfl, ⟨hR, hr_1⟩, (by show tkM A D _ _; rw [h9]; exact hM)⟩, hS.F h9⟩) hS.2.2 dX5_totalByRules_5
set_option maxHeartbeats 4000000 in
set_option maxRecDepth 100000 in
theorem c_X5_setRate (l : Launch) (A : Nat → Prop) (D : va_G) (ac : Nat → ClassId) (G : TG) {m0 : Nat} {am : Nat → Nat} {th : Int32} {M : TS} (hR : PR ac m0 am th M G) (p0 : Int32) (r0 : Int32) : Met l yX5_setRate wsX5_setRate ({ frames := 3, cells := 0, slots := 0, locals := 180 } : Room) (va_Pc [.ref m0, .int p0, .int r0] (tkJ A D ac G)) (va_Qi (fun (z : Int32) (G9 : TG) => PR ac m0 am (S_setRate M p0 r0).1 (S_setRate M p0 r0).2.1 G9 ∧ z = (S_setRate M p0 r0).2.2) (fun (G9 : TG) t => tkM A D G9 t.heap) A) 0 0 A := by
  refine Met.ofW (cc := cX5_setRate) (maxL := 4) (ret := (some .int)) (by decide) rfl ?_
  intro p e s m args below meth c s₁ B hml hv
  obtain ⟨rfl, hM, hK⟩ := hv
  have hS : va_S A s.heap s.heap [] := va_S.rf
  have hx := B.exec
  have hb := B.bytes
  have hr := B.returns
  have hts := atoms_spec (ws := wsX5_setRate) B.pre
  have hown : s.vm.findClass RX5 = some m.cls := findClass_of_methodNamed B.named
  have hlocks := B.notSynchronized
  have S0 : CallFix p m c cX5_setRate 4 s ([.ref m0, .int p0, .int r0] : List Value).toArray wsX5_setRate RX5 := ⟨hx, hb, hml, hown, hts⟩
  have inX5 : ∀ w ∈ wsX50, w ∈ wsX5_setRate := by decide +kernel
  have hl := lv_entry ([.ref m0, .int p0, .int r0]) (n := 4) (Nat.le_of_ble_eq_true rfl)
  rw [lg_entry_eq]
  generalize (lg_sl ([.ref m0, .int p0, .int r0]) ++ List.replicate (4 - (lg_sl ([.ref m0, .int p0, .int r0])).length) Slot.unset).toArray = ls at hl ⊢
  have hl : lv_has ls 4 [(0, .ref m0), (1, .int p0), (2, .int r0)] := hl
  refine lv_aload_n hx hb dX5_setRate_0 rfl (lv_at hl 0 rfl) ?_
  refine lv_iload_n hx hb dX5_setRate_1 rfl (lv_at hl 1 rfl) ?_
  refine lv_iconst (v := 0) hx hb dX5_setRate_2 (by decide) ?_
  refine lv_iconst (v := 3) hx hb dX5_setRate_3 (by decide) ?_
  refine tk_cSi (As := [.int p0, .int 0, .int 3]) S0 (c_X5_in l A D ac _ p0 0 3) (va_cwS 3 hts gX5_setRate_X5_in rfl rfl rfl (by decide +kernel) ⟨Nat.le_of_ble_eq_true rfl, Nat.le_of_ble_eq_true rfl⟩) (tkJ.blind) (tkJ.at hM hK) rfl hl.1 rfl (Nat.le_of_ble_eq_true rfl) dX5_setRate_4 ⟨Nat.zero_le _, Nat.zero_le _⟩ (fun r_1 hr_1 => ?_)
  rcases hr_1 with ⟨rfl, hr_1⟩ | ⟨rfl, hr_1⟩
  · have hok_p0 : tkOk 4 p0 = true := by rw [← tkIn_n (by decide)]; exact hr_1
    obtain ⟨q, hq, rfl⟩ := tkOk_ex (by decide) hok_p0
    refine lv_if_eq (tgt := 25) hx hb dX5_setRate_7 (by decide) (fun c_2 => absurd c_2 (by decide)) (fun c_2 => ?_)
    refine lv_iload_n hx hb dX5_setRate_10 rfl (lv_at hl 2 rfl) ?_
    refine lv_iconst (v := 0) hx hb dX5_setRate_11 (by decide) ?_
    refine lv_sipush (v := 200) hx hb dX5_setRate_12 (by decide) ?_
    refine tk_cSi (As := [.int r0, .int 0, .int 200]) S0 (c_X5_in l A D ac _ r0 0 200) (va_cwS 3 hts gX5_setRate_X5_in rfl rfl rfl (by decide +kernel) ⟨Nat.le_of_ble_eq_true rfl, Nat.le_of_ble_eq_true rfl⟩) (tkJ.blind) (tkJ.at hM hK) rfl hl.1 rfl (Nat.le_of_ble_eq_true rfl) dX5_setRate_15 ⟨Nat.zero_le _, Nat.zero_le _⟩ (fun r_3 hr_3 => ?_)
    rcases hr_3 with ⟨rfl, hr_3⟩ | ⟨rfl, hr_3⟩
    · skip
      refine lv_if_eq (tgt := 25) hx hb dX5_setRate_18 (by decide) (fun c_4 => absurd c_4 (by decide)) (fun c_4 => ?_)
      refine lv_iconst (v := 1) hx hb dX5_setRate_21 (by decide) ?_
      refine lv_goto (tgt := 26) hx hb dX5_setRate_22 (by decide) ?_
      refine tk_mVi (As := [.int 1]) S0 (c_X5_checked_t l A D ac _ hR) (cwV 1 hts gX5_setRate_X5_checked rfl rfl rfl (by decide +kernel) ⟨Nat.le_of_ble_eq_true rfl, Nat.le_of_ble_eq_true rfl⟩) (tkJ.blind) (tkJ.at hM hK) (tk_recv hK hM hR.1 rfl) rfl hl.1 rfl (Nat.le_of_ble_eq_true rfl) dX5_setRate_26 ⟨Nat.zero_le _, Nat.zero_le _⟩ hS (fun r_5 G H locs hp hM hS => ?_)
      obtain ⟨hR, hr_5⟩ := hp
      subst hr_5
      refine lv_if_le (tgt := 34) hx hb dX5_setRate_29 (by decide) (fun c_6 => ?_) (fun c_6 => absurd (by decide) c_6)
      refine lv_aload_n hx hb dX5_setRate_34 rfl (lv_at hl 0 rfl) ?_
      refine tk_get hx hb hts inX5 hown hK hM hR.1 rfl 14 (by decide) (hts (.fieldLink RX5 54 "TicketForgeModel" "rates" "[I") (by decide +kernel)) (fun _ h9 => h9) rfl dX5_setRate_35 ?_
      refine lv_iload_n hx hb dX5_setRate_38 rfl (lv_at hl 1 rfl) ?_
      refine tk_iald hx hb hK hM 1 hR.a14 rfl (vp_in_nI (by omega) (by decide)) dX5_setRate_39 ?_
      rw [show (nI q).toNatClampNeg = q from nI_clamp (by omega)]
      refine lv_istore_n (lv' := [(3, .int ((M 15) q)), (0, .ref m0), (1, .int (nI q)), (2, .int r0)]) hx hb dX5_setRate_40 rfl hl (by decide) rfl (fun ls hl => ?_)
      refine lv_aload_n hx hb dX5_setRate_41 rfl (lv_at hl 1 rfl) ?_
      refine tk_get hx hb hts inX5 hown hK hM hR.1 rfl 14 (by decide) (hts (.fieldLink RX5 54 "TicketForgeModel" "rates" "[I") (by decide +kernel)) (fun _ h9 => h9) rfl dX5_setRate_42 ?_
      refine lv_iload_n hx hb dX5_setRate_45 rfl (lv_at hl 2 rfl) ?_
      refine lv_iload_n hx hb dX5_setRate_46 rfl (lv_at hl 3 rfl) ?_
      refine tk_iast hx hb hK hM hS 1 hR.a14 rfl (vp_in_nI (by omega) (by decide)) dX5_setRate_47 (fun H locs hM hS => ?_)
      rw [show (nI q).toNatClampNeg = q from nI_clamp (by omega)] at hM
      have hR := hR.p14 (i := q) (v := r0)
      refine lv_iload_n hx hb dX5_setRate_48 rfl (lv_at hl 0 rfl) ?_
      have eS : S_setRate M (nI q) r0 = (0, (st M 15 q r0), ((M 15) q)) := (by rw [S_setRate, show tn (nI q) = q from nI_clamp (show q < 2 ^ 31 by omega), if_neg (by rw [hok_p0, hr_3]; decide)])
      exact W.iret (v := ((M 15) q)) hx hb hr (fun t9 h9 w9 => ⟨⟨((M 15) q), _, rfl, by rw [eS]; exact ⟨hR, rfl⟩, (by show tkM A D _ _; rw [h9]; exact hM)⟩, hS.F h9⟩) hS.2.2 dX5_setRate_49
    · skip
      refine lv_if_eq (tgt := 25) hx hb dX5_setRate_18 (by decide) (fun c_7 => ?_) (fun c_7 => absurd (by decide) c_7)
      refine lv_iconst (v := 0) hx hb dX5_setRate_25 (by decide) ?_
      refine tk_mVi (As := [.int 0]) S0 (c_X5_checked_f l A D ac _ hR) (cwV 1 hts gX5_setRate_X5_checked rfl rfl rfl (by decide +kernel) ⟨Nat.le_of_ble_eq_true rfl, Nat.le_of_ble_eq_true rfl⟩) (tkJ.blind) (tkJ.at hM hK) (tk_recv hK hM hR.1 rfl) rfl hl.1 rfl (Nat.le_of_ble_eq_true rfl) dX5_setRate_26 ⟨Nat.zero_le _, Nat.zero_le _⟩ hS (fun r_8 G H locs hp hM hS => ?_)
      obtain ⟨hR, hr_8⟩ := hp
      subst hr_8
      refine lv_if_le (tgt := 34) hx hb dX5_setRate_29 (by decide) (fun c_9 => absurd c_9 (by decide)) (fun c_9 => ?_)
      refine lv_iconst (v := 0) hx hb dX5_setRate_32 (by decide) ?_
      have eS : S_setRate M (nI q) r0 = (1, M, 0) := (by rw [S_setRate, if_pos (Or.inr (hr_3))])
      exact W.iret (v := 0) hx hb hr (fun t9 h9 w9 => ⟨⟨0, _, rfl, by rw [eS]; exact ⟨hR, rfl⟩, (by show tkM A D _ _; rw [h9]; exact hM)⟩, hS.F h9⟩) hS.2.2 dX5_setRate_33
  · have hok_p0 : tkOk 4 p0 = false := by rw [← tkIn_n (by decide)]; exact hr_1
    refine lv_if_eq (tgt := 25) hx hb dX5_setRate_7 (by decide) (fun c_10 => ?_) (fun c_10 => absurd (by decide) c_10)
    refine lv_iconst (v := 0) hx hb dX5_setRate_25 (by decide) ?_
    refine tk_mVi (As := [.int 0]) S0 (c_X5_checked_f l A D ac _ hR) (cwV 1 hts gX5_setRate_X5_checked rfl rfl rfl (by decide +kernel) ⟨Nat.le_of_ble_eq_true rfl, Nat.le_of_ble_eq_true rfl⟩) (tkJ.blind) (tkJ.at hM hK) (tk_recv hK hM hR.1 rfl) rfl hl.1 rfl (Nat.le_of_ble_eq_true rfl) dX5_setRate_26 ⟨Nat.zero_le _, Nat.zero_le _⟩ hS (fun r_11 G H locs hp hM hS => ?_)
    obtain ⟨hR, hr_11⟩ := hp
    subst hr_11
    refine lv_if_le (tgt := 34) hx hb dX5_setRate_29 (by decide) (fun c_12 => absurd c_12 (by decide)) (fun c_12 => ?_)
    refine lv_iconst (v := 0) hx hb dX5_setRate_32 (by decide) ?_
    have eS : S_setRate M p0 r0 = (1, M, 0) := (by rw [S_setRate, if_pos (Or.inl hok_p0)])
    exact W.iret (v := 0) hx hb hr (fun t9 h9 w9 => ⟨⟨0, _, rfl, by rw [eS]; exact ⟨hR, rfl⟩, (by show tkM A D _ _; rw [h9]; exact hM)⟩, hS.F h9⟩) hS.2.2 dX5_setRate_33
set_option maxHeartbeats 4000000 in
set_option maxRecDepth 100000 in
theorem c_X5_setCap (l : Launch) (A : Nat → Prop) (D : va_G) (ac : Nat → ClassId) (G : TG) {m0 : Nat} {am : Nat → Nat} {th : Int32} {M : TS} (hR : PR ac m0 am th M G) (h0 : Int32) : Met l yX5_setCap wsX5_setCap ({ frames := 3, cells := 0, slots := 0, locals := 180 } : Room) (va_Pc [.ref m0, .int h0] (tkJ A D ac G)) (va_Qi (fun (z : Int32) (G9 : TG) => PR ac m0 am (S_setCap M h0).1 (S_setCap M h0).2.1 G9 ∧ z = (S_setCap M h0).2.2) (fun (G9 : TG) t => tkM A D G9 t.heap) A) 0 0 A := by
  refine Met.ofW (cc := cX5_setCap) (maxL := 3) (ret := (some .int)) (by decide) rfl ?_
  intro p e s m args below meth c s₁ B hml hv
  obtain ⟨rfl, hM, hK⟩ := hv
  have hS : va_S A s.heap s.heap [] := va_S.rf
  have hx := B.exec
  have hb := B.bytes
  have hr := B.returns
  have hts := atoms_spec (ws := wsX5_setCap) B.pre
  have hown : s.vm.findClass RX5 = some m.cls := findClass_of_methodNamed B.named
  have hlocks := B.notSynchronized
  have S0 : CallFix p m c cX5_setCap 3 s ([.ref m0, .int h0] : List Value).toArray wsX5_setCap RX5 := ⟨hx, hb, hml, hown, hts⟩
  have inX5 : ∀ w ∈ wsX50, w ∈ wsX5_setCap := by decide +kernel
  have hl := lv_entry ([.ref m0, .int h0]) (n := 3) (Nat.le_of_ble_eq_true rfl)
  rw [lg_entry_eq]
  generalize (lg_sl ([.ref m0, .int h0]) ++ List.replicate (3 - (lg_sl ([.ref m0, .int h0])).length) Slot.unset).toArray = ls at hl ⊢
  have hl : lv_has ls 3 [(0, .ref m0), (1, .int h0)] := hl
  refine lv_aload_n hx hb dX5_setCap_0 rfl (lv_at hl 0 rfl) ?_
  refine lv_iload_n hx hb dX5_setCap_1 rfl (lv_at hl 1 rfl) ?_
  refine lv_iconst (v := 0) hx hb dX5_setCap_2 (by decide) ?_
  refine lv_bipush (v := 60) hx hb dX5_setCap_3 (by decide) ?_
  refine tk_cSi (As := [.int h0, .int 0, .int 60]) S0 (c_X5_in l A D ac _ h0 0 60) (va_cwS 3 hts gX5_setCap_X5_in rfl rfl rfl (by decide +kernel) ⟨Nat.le_of_ble_eq_true rfl, Nat.le_of_ble_eq_true rfl⟩) (tkJ.blind) (tkJ.at hM hK) rfl hl.1 rfl (Nat.le_of_ble_eq_true rfl) dX5_setCap_5 ⟨Nat.zero_le _, Nat.zero_le _⟩ (fun r_1 hr_1 => ?_)
  rcases hr_1 with ⟨rfl, hr_1⟩ | ⟨rfl, hr_1⟩
  · skip
    refine tk_mVi (As := [.int 1]) S0 (c_X5_checked_t l A D ac _ hR) (cwV 1 hts gX5_setCap_X5_checked rfl rfl rfl (by decide +kernel) ⟨Nat.le_of_ble_eq_true rfl, Nat.le_of_ble_eq_true rfl⟩) (tkJ.blind) (tkJ.at hM hK) (tk_recv hK hM hR.1 rfl) rfl hl.1 rfl (Nat.le_of_ble_eq_true rfl) dX5_setCap_8 ⟨Nat.zero_le _, Nat.zero_le _⟩ hS (fun r_2 G H locs hp hM hS => ?_)
    obtain ⟨hR, hr_2⟩ := hp
    subst hr_2
    refine lv_if_le (tgt := 16) hx hb dX5_setCap_11 (by decide) (fun c_3 => ?_) (fun c_3 => absurd (by decide) c_3)
    refine lv_aload_n hx hb dX5_setCap_16 rfl (lv_at hl 0 rfl) ?_
    refine tk_get hx hb hts inX5 hown hK hM hR.1 rfl 23 (by decide) (hts (.fieldLink RX5 82 "TicketForgeModel" "cap" "I") (by decide +kernel)) (fun _ h9 => h9) rfl dX5_setCap_17 ?_
    refine lv_istore_n (lv' := [(2, .int (M 0 23)), (0, .ref m0), (1, .int h0)]) hx hb dX5_setCap_20 rfl hl (by decide) rfl (fun ls hl => ?_)
    refine lv_aload_n hx hb dX5_setCap_21 rfl (lv_at hl 1 rfl) ?_
    refine lv_iload_n hx hb dX5_setCap_22 rfl (lv_at hl 2 rfl) ?_
    refine tk_put (ty := .int) hx hb hts inX5 tyX5 tyX5_ok nmX5 hown hK hM hS hR.1 rfl 23 (by decide) (hts (.fieldLink RX5 82 "TicketForgeModel" "cap" "I") (by decide +kernel)) (fun _ h9 => h9) rfl (by decide +kernel) rfl rfl (Nat.le_of_ble_eq_true rfl) dX5_setCap_23 (fun H locs hM hS => ?_)
    have hR := hR.sc 23 (mF_23 _ _ _ h0)
    have hR := hR.c26 (v := if M 0 26 < h0 then h0 else M 0 26)
    refine lv_iload_n hx hb dX5_setCap_26 rfl (lv_at hl 0 rfl) ?_
    have eS : S_setCap M h0 = (0, (st (st M 0 23 h0) 0 26 (if M 0 26 < h0 then h0 else M 0 26)), (M 0 23)) := (by rw [S_setCap, if_neg (by rw [hr_1]; decide)])
    exact W.iret (v := (M 0 23)) hx hb hr (fun t9 h9 w9 => ⟨⟨(M 0 23), _, rfl, by rw [eS]; exact ⟨hR, rfl⟩, (by show tkM A D _ _; rw [h9]; exact hM)⟩, hS.F h9⟩) hS.2.2 dX5_setCap_27
  · skip
    refine tk_mVi (As := [.int 0]) S0 (c_X5_checked_f l A D ac _ hR) (cwV 1 hts gX5_setCap_X5_checked rfl rfl rfl (by decide +kernel) ⟨Nat.le_of_ble_eq_true rfl, Nat.le_of_ble_eq_true rfl⟩) (tkJ.blind) (tkJ.at hM hK) (tk_recv hK hM hR.1 rfl) rfl hl.1 rfl (Nat.le_of_ble_eq_true rfl) dX5_setCap_8 ⟨Nat.zero_le _, Nat.zero_le _⟩ hS (fun r_4 G H locs hp hM hS => ?_)
    obtain ⟨hR, hr_4⟩ := hp
    subst hr_4
    refine lv_if_le (tgt := 16) hx hb dX5_setCap_11 (by decide) (fun c_5 => absurd c_5 (by decide)) (fun c_5 => ?_)
    refine lv_iconst (v := 0) hx hb dX5_setCap_14 (by decide) ?_
    have eS : S_setCap M h0 = (1, M, 0) := (by rw [S_setCap, if_pos hr_1])
    exact W.iret (v := 0) hx hb hr (fun t9 h9 w9 => ⟨⟨0, _, rfl, by rw [eS]; exact ⟨hR, rfl⟩, (by show tkM A D _ _; rw [h9]; exact hM)⟩, hS.F h9⟩) hS.2.2 dX5_setCap_15
set_option maxHeartbeats 4000000 in
set_option maxRecDepth 100000 in
theorem c_X5_setDiscount (l : Launch) (A : Nat → Prop) (D : va_G) (ac : Nat → ClassId) (G : TG) {m0 : Nat} {am : Nat → Nat} {th : Int32} {M : TS} (hR : PR ac m0 am th M G) (f0 : Int32) (q0 : Int32) : Met l yX5_setDiscount wsX5_setDiscount ({ frames := 3, cells := 0, slots := 0, locals := 180 } : Room) (va_Pc [.ref m0, .int f0, .int q0] (tkJ A D ac G)) (va_Qi (fun (z : Int32) (G9 : TG) => PR ac m0 am (S_setDiscount M f0 q0).1 (S_setDiscount M f0 q0).2.1 G9 ∧ z = (S_setDiscount M f0 q0).2.2) (fun (G9 : TG) t => tkM A D G9 t.heap) A) 0 0 A := by
  refine Met.ofW (cc := cX5_setDiscount) (maxL := 4) (ret := (some .int)) (by decide) rfl ?_
  intro p e s m args below meth c s₁ B hml hv
  obtain ⟨rfl, hM, hK⟩ := hv
  have hS : va_S A s.heap s.heap [] := va_S.rf
  have hx := B.exec
  have hb := B.bytes
  have hr := B.returns
  have hts := atoms_spec (ws := wsX5_setDiscount) B.pre
  have hown : s.vm.findClass RX5 = some m.cls := findClass_of_methodNamed B.named
  have hlocks := B.notSynchronized
  have S0 : CallFix p m c cX5_setDiscount 4 s ([.ref m0, .int f0, .int q0] : List Value).toArray wsX5_setDiscount RX5 := ⟨hx, hb, hml, hown, hts⟩
  have inX5 : ∀ w ∈ wsX50, w ∈ wsX5_setDiscount := by decide +kernel
  have hl := lv_entry ([.ref m0, .int f0, .int q0]) (n := 4) (Nat.le_of_ble_eq_true rfl)
  rw [lg_entry_eq]
  generalize (lg_sl ([.ref m0, .int f0, .int q0]) ++ List.replicate (4 - (lg_sl ([.ref m0, .int f0, .int q0])).length) Slot.unset).toArray = ls at hl ⊢
  have hl : lv_has ls 4 [(0, .ref m0), (1, .int f0), (2, .int q0)] := hl
  refine lv_aload_n hx hb dX5_setDiscount_0 rfl (lv_at hl 0 rfl) ?_
  refine lv_iload_n hx hb dX5_setDiscount_1 rfl (lv_at hl 1 rfl) ?_
  refine lv_iconst (v := 0) hx hb dX5_setDiscount_2 (by decide) ?_
  refine lv_ldc hx hb hown (hts (.constant RX5 144 (99999)) (by decide +kernel)) dX5_setDiscount_3 ?_
  refine tk_cSi (As := [.int f0, .int 0, .int 99999]) S0 (c_X5_in l A D ac _ f0 0 99999) (va_cwS 3 hts gX5_setDiscount_X5_in rfl rfl rfl (by decide +kernel) ⟨Nat.le_of_ble_eq_true rfl, Nat.le_of_ble_eq_true rfl⟩) (tkJ.blind) (tkJ.at hM hK) rfl hl.1 rfl (Nat.le_of_ble_eq_true rfl) dX5_setDiscount_5 ⟨Nat.zero_le _, Nat.zero_le _⟩ (fun r_1 hr_1 => ?_)
  rcases hr_1 with ⟨rfl, hr_1⟩ | ⟨rfl, hr_1⟩
  · skip
    refine lv_if_eq (tgt := 25) hx hb dX5_setDiscount_8 (by decide) (fun c_2 => absurd c_2 (by decide)) (fun c_2 => ?_)
    refine lv_iload_n hx hb dX5_setDiscount_11 rfl (lv_at hl 2 rfl) ?_
    refine lv_iconst (v := 0) hx hb dX5_setDiscount_12 (by decide) ?_
    refine lv_bipush (v := 50) hx hb dX5_setDiscount_13 (by decide) ?_
    refine tk_cSi (As := [.int q0, .int 0, .int 50]) S0 (c_X5_in l A D ac _ q0 0 50) (va_cwS 3 hts gX5_setDiscount_X5_in rfl rfl rfl (by decide +kernel) ⟨Nat.le_of_ble_eq_true rfl, Nat.le_of_ble_eq_true rfl⟩) (tkJ.blind) (tkJ.at hM hK) rfl hl.1 rfl (Nat.le_of_ble_eq_true rfl) dX5_setDiscount_15 ⟨Nat.zero_le _, Nat.zero_le _⟩ (fun r_3 hr_3 => ?_)
    rcases hr_3 with ⟨rfl, hr_3⟩ | ⟨rfl, hr_3⟩
    · skip
      refine lv_if_eq (tgt := 25) hx hb dX5_setDiscount_18 (by decide) (fun c_4 => absurd c_4 (by decide)) (fun c_4 => ?_)
      refine lv_iconst (v := 1) hx hb dX5_setDiscount_21 (by decide) ?_
      refine lv_goto (tgt := 26) hx hb dX5_setDiscount_22 (by decide) ?_
      refine tk_mVi (As := [.int 1]) S0 (c_X5_checked_t l A D ac _ hR) (cwV 1 hts gX5_setDiscount_X5_checked rfl rfl rfl (by decide +kernel) ⟨Nat.le_of_ble_eq_true rfl, Nat.le_of_ble_eq_true rfl⟩) (tkJ.blind) (tkJ.at hM hK) (tk_recv hK hM hR.1 rfl) rfl hl.1 rfl (Nat.le_of_ble_eq_true rfl) dX5_setDiscount_26 ⟨Nat.zero_le _, Nat.zero_le _⟩ hS (fun r_5 G H locs hp hM hS => ?_)
      obtain ⟨hR, hr_5⟩ := hp
      subst hr_5
      refine lv_if_le (tgt := 34) hx hb dX5_setDiscount_29 (by decide) (fun c_6 => ?_) (fun c_6 => absurd (by decide) c_6)
      refine lv_aload_n hx hb dX5_setDiscount_34 rfl (lv_at hl 0 rfl) ?_
      refine tk_get hx hb hts inX5 hown hK hM hR.1 rfl 25 (by decide) (hts (.fieldLink RX5 88 "TicketForgeModel" "discount" "I") (by decide +kernel)) (fun _ h9 => h9) rfl dX5_setDiscount_35 ?_
      refine lv_istore_n (lv' := [(3, .int (M 0 25)), (0, .ref m0), (1, .int f0), (2, .int q0)]) hx hb dX5_setDiscount_38 rfl hl (by decide) rfl (fun ls hl => ?_)
      refine lv_aload_n hx hb dX5_setDiscount_39 rfl (lv_at hl 1 rfl) ?_
      refine lv_iload_n hx hb dX5_setDiscount_40 rfl (lv_at hl 2 rfl) ?_
      refine tk_put (ty := .int) hx hb hts inX5 tyX5 tyX5_ok nmX5 hown hK hM hS hR.1 rfl 24 (by decide) (hts (.fieldLink RX5 85 "TicketForgeModel" "discountFrom" "I") (by decide +kernel)) (fun _ h9 => h9) rfl (by decide +kernel) rfl rfl (Nat.le_of_ble_eq_true rfl) dX5_setDiscount_41 (fun H locs hM hS => ?_)
      have hR := hR.sc 24 (mF_24 _ _ _ f0)
      refine lv_aload_n hx hb dX5_setDiscount_44 rfl (lv_at hl 1 rfl) ?_
      refine lv_iload_n hx hb dX5_setDiscount_45 rfl (lv_at hl 3 rfl) ?_
      refine tk_put (ty := .int) hx hb hts inX5 tyX5 tyX5_ok nmX5 hown hK hM hS hR.1 rfl 25 (by decide) (hts (.fieldLink RX5 88 "TicketForgeModel" "discount" "I") (by decide +kernel)) (fun _ h9 => h9) rfl (by decide +kernel) rfl rfl (Nat.le_of_ble_eq_true rfl) dX5_setDiscount_46 (fun H locs hM hS => ?_)
      have hR := hR.sc 25 (mF_25 _ _ _ q0)
      refine lv_iload_n hx hb dX5_setDiscount_49 rfl (lv_at hl 0 rfl) ?_
      have eS : S_setDiscount M f0 q0 = (0, (st (st M 0 24 f0) 0 25 q0), (M 0 25)) := (by rw [S_setDiscount, if_neg (by rw [hr_1, hr_3]; decide)])
      exact W.iret (v := (M 0 25)) hx hb hr (fun t9 h9 w9 => ⟨⟨(M 0 25), _, rfl, by rw [eS]; exact ⟨hR, rfl⟩, (by show tkM A D _ _; rw [h9]; exact hM)⟩, hS.F h9⟩) hS.2.2 dX5_setDiscount_50
    · skip
      refine lv_if_eq (tgt := 25) hx hb dX5_setDiscount_18 (by decide) (fun c_7 => ?_) (fun c_7 => absurd (by decide) c_7)
      refine lv_iconst (v := 0) hx hb dX5_setDiscount_25 (by decide) ?_
      refine tk_mVi (As := [.int 0]) S0 (c_X5_checked_f l A D ac _ hR) (cwV 1 hts gX5_setDiscount_X5_checked rfl rfl rfl (by decide +kernel) ⟨Nat.le_of_ble_eq_true rfl, Nat.le_of_ble_eq_true rfl⟩) (tkJ.blind) (tkJ.at hM hK) (tk_recv hK hM hR.1 rfl) rfl hl.1 rfl (Nat.le_of_ble_eq_true rfl) dX5_setDiscount_26 ⟨Nat.zero_le _, Nat.zero_le _⟩ hS (fun r_8 G H locs hp hM hS => ?_)
      obtain ⟨hR, hr_8⟩ := hp
      subst hr_8
      refine lv_if_le (tgt := 34) hx hb dX5_setDiscount_29 (by decide) (fun c_9 => absurd c_9 (by decide)) (fun c_9 => ?_)
      refine lv_iconst (v := 0) hx hb dX5_setDiscount_32 (by decide) ?_
      have eS : S_setDiscount M f0 q0 = (1, M, 0) := (by rw [S_setDiscount, if_pos (Or.inr (hr_3))])
      exact W.iret (v := 0) hx hb hr (fun t9 h9 w9 => ⟨⟨0, _, rfl, by rw [eS]; exact ⟨hR, rfl⟩, (by show tkM A D _ _; rw [h9]; exact hM)⟩, hS.F h9⟩) hS.2.2 dX5_setDiscount_33
  · skip
    refine lv_if_eq (tgt := 25) hx hb dX5_setDiscount_8 (by decide) (fun c_10 => ?_) (fun c_10 => absurd (by decide) c_10)
    refine lv_iconst (v := 0) hx hb dX5_setDiscount_25 (by decide) ?_
    refine tk_mVi (As := [.int 0]) S0 (c_X5_checked_f l A D ac _ hR) (cwV 1 hts gX5_setDiscount_X5_checked rfl rfl rfl (by decide +kernel) ⟨Nat.le_of_ble_eq_true rfl, Nat.le_of_ble_eq_true rfl⟩) (tkJ.blind) (tkJ.at hM hK) (tk_recv hK hM hR.1 rfl) rfl hl.1 rfl (Nat.le_of_ble_eq_true rfl) dX5_setDiscount_26 ⟨Nat.zero_le _, Nat.zero_le _⟩ hS (fun r_11 G H locs hp hM hS => ?_)
    obtain ⟨hR, hr_11⟩ := hp
    subst hr_11
    refine lv_if_le (tgt := 34) hx hb dX5_setDiscount_29 (by decide) (fun c_12 => absurd c_12 (by decide)) (fun c_12 => ?_)
    refine lv_iconst (v := 0) hx hb dX5_setDiscount_32 (by decide) ?_
    have eS : S_setDiscount M f0 q0 = (1, M, 0) := (by rw [S_setDiscount, if_pos (Or.inl hr_1)])
    exact W.iret (v := 0) hx hb hr (fun t9 h9 w9 => ⟨⟨0, _, rfl, by rw [eS]; exact ⟨hR, rfl⟩, (by show tkM A D _ _; rw [h9]; exact hM)⟩, hS.F h9⟩) hS.2.2 dX5_setDiscount_33
