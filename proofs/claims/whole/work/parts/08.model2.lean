/-! the model: calls -/
set_option maxHeartbeats 4000000 in
set_option maxRecDepth 100000 in
theorem c_X5_plain (l : Launch) (A : Nat → Prop) (D : va_G) (ac : Nat → ClassId) (G : TG) {m0 : Nat} {am : Nat → Nat} {th : Int32} {M : TS} (hR : PR ac m0 am th M G) (x : Int32) : Met l yX5_plain wsX5_plain ({ frames := 0, cells := 0, slots := 0, locals := 60 } : Room) (va_Pc [.ref m0, .int x] (tkJ A D ac G)) (va_Qi (fun (z : Int32) (G9 : TG) => PR ac m0 am 0 M G9 ∧ z = x) (fun (G9 : TG) t => tkM A D G9 t.heap) A) 0 0 A := by
  refine Met.ofW (cc := cX5_plain) (maxL := 2) (ret := (some .int)) (by decide) rfl ?_
  intro p e s m args below meth c s₁ B hml hv
  obtain ⟨rfl, hM, hK⟩ := hv
  have hS : va_S A s.heap s.heap [] := va_S.rf
  have hx := B.exec
  have hb := B.bytes
  have hr := B.returns
  have hts := atoms_spec (ws := wsX5_plain) B.pre
  have hown : s.vm.findClass RX5 = some m.cls := findClass_of_methodNamed B.named
  have hlocks := B.notSynchronized
  have S0 : CallFix p m c cX5_plain 2 s ([.ref m0, .int x] : List Value).toArray wsX5_plain RX5 := ⟨hx, hb, hml, hown, hts⟩
  have inX5 : ∀ w ∈ wsX50, w ∈ wsX5_plain := by decide +kernel
  have hl := lv_entry ([.ref m0, .int x]) (n := 2) (Nat.le_of_ble_eq_true rfl)
  rw [lg_entry_eq]
  generalize (lg_sl ([.ref m0, .int x]) ++ List.replicate (2 - (lg_sl ([.ref m0, .int x])).length) Slot.unset).toArray = ls at hl ⊢
  have hl : lv_has ls 2 [(0, .ref m0), (1, .int x)] := hl
  refine lv_aload_n hx hb dX5_plain_0 rfl (lv_at hl 0 rfl) ?_
  refine lv_iconst (v := 0) hx hb dX5_plain_1 (by decide) ?_
  refine tk_put (ty := .int) hx hb hts inX5 tyX5 tyX5_ok nmX5 hown hK hM hS hR.1 rfl 18 (by decide) (hts (.fieldLink RX5 66 "TicketForgeModel" "thrown" "I") (by decide +kernel)) (fun _ h9 => h9) rfl (by decide +kernel) rfl rfl (Nat.le_of_ble_eq_true rfl) dX5_plain_2 (fun H locs hM hS => ?_)
  have hR := hR.th (v := 0)
  refine lv_iload_n hx hb dX5_plain_5 rfl (lv_at hl 1 rfl) ?_
  exact W.iret (v := x) hx hb hr (fun t9 h9 w9 => ⟨⟨x, _, rfl, ⟨hR, rfl⟩, (by show tkM A D _ _; rw [h9]; exact hM)⟩, hS.F h9⟩) hS.2.2 dX5_plain_6
set_option maxHeartbeats 4000000 in
set_option maxRecDepth 100000 in
theorem c_X5_checked_t (l : Launch) (A : Nat → Prop) (D : va_G) (ac : Nat → ClassId) (G : TG) {m0 : Nat} {am : Nat → Nat} {th : Int32} {M : TS} (hR : PR ac m0 am th M G) : Met l yX5_checked wsX5_checked ({ frames := 0, cells := 0, slots := 0, locals := 60 } : Room) (va_Pc [.ref m0, .int 1] (tkJ A D ac G)) (va_Qi (fun (z : Int32) (G9 : TG) => PR ac m0 am 0 M G9 ∧ z = 0) (fun (G9 : TG) t => tkM A D G9 t.heap) A) 0 0 A := by
  refine Met.ofW (cc := cX5_checked) (maxL := 2) (ret := (some .int)) (by decide) rfl ?_
  intro p e s m args below meth c s₁ B hml hv
  obtain ⟨rfl, hM, hK⟩ := hv
  have hS : va_S A s.heap s.heap [] := va_S.rf
  have hx := B.exec
  have hb := B.bytes
  have hr := B.returns
  have hts := atoms_spec (ws := wsX5_checked) B.pre
  have hown : s.vm.findClass RX5 = some m.cls := findClass_of_methodNamed B.named
  have hlocks := B.notSynchronized
  have S0 : CallFix p m c cX5_checked 2 s ([.ref m0, .int 1] : List Value).toArray wsX5_checked RX5 := ⟨hx, hb, hml, hown, hts⟩
  have inX5 : ∀ w ∈ wsX50, w ∈ wsX5_checked := by decide +kernel
  have hl := lv_entry ([.ref m0, .int 1]) (n := 2) (Nat.le_of_ble_eq_true rfl)
  rw [lg_entry_eq]
  generalize (lg_sl ([.ref m0, .int 1]) ++ List.replicate (2 - (lg_sl ([.ref m0, .int 1])).length) Slot.unset).toArray = ls at hl ⊢
  have hl : lv_has ls 2 [(0, .ref m0), (1, .int 1)] := hl
  refine lv_aload_n hx hb dX5_checked_0 rfl (lv_at hl 0 rfl) ?_
  refine lv_iload_n hx hb dX5_checked_1 rfl (lv_at hl 1 rfl) ?_
  refine lv_if_eq (tgt := 9) hx hb dX5_checked_2 (by decide) (fun c_1 => absurd c_1 (by decide)) (fun c_1 => ?_)
  refine lv_iconst (v := 0) hx hb dX5_checked_5 (by decide) ?_
  refine lv_goto (tgt := 10) hx hb dX5_checked_6 (by decide) ?_
  refine tk_put (ty := .int) hx hb hts inX5 tyX5 tyX5_ok nmX5 hown hK hM hS hR.1 rfl 18 (by decide) (hts (.fieldLink RX5 66 "TicketForgeModel" "thrown" "I") (by decide +kernel)) (fun _ h9 => h9) rfl (by decide +kernel) rfl rfl (Nat.le_of_ble_eq_true rfl) dX5_checked_10 (fun H locs hM hS => ?_)
  have hR := hR.th (v := 0)
  refine lv_aload_n hx hb dX5_checked_13 rfl (lv_at hl 0 rfl) ?_
  refine tk_get hx hb hts inX5 hown hK hM hR.1 rfl 18 (by decide) (hts (.fieldLink RX5 66 "TicketForgeModel" "thrown" "I") (by decide +kernel)) (fun _ h9 => h9) rfl dX5_checked_14 ?_
  exact W.iret (v := 0) hx hb hr (fun t9 h9 w9 => ⟨⟨0, _, rfl, ⟨hR, rfl⟩, (by show tkM A D _ _; rw [h9]; exact hM)⟩, hS.F h9⟩) hS.2.2 dX5_checked_17
set_option maxHeartbeats 4000000 in
set_option maxRecDepth 100000 in
theorem c_X5_checked_f (l : Launch) (A : Nat → Prop) (D : va_G) (ac : Nat → ClassId) (G : TG) {m0 : Nat} {am : Nat → Nat} {th : Int32} {M : TS} (hR : PR ac m0 am th M G) : Met l yX5_checked wsX5_checked ({ frames := 0, cells := 0, slots := 0, locals := 60 } : Room) (va_Pc [.ref m0, .int 0] (tkJ A D ac G)) (va_Qi (fun (z : Int32) (G9 : TG) => PR ac m0 am 1 M G9 ∧ z = 1) (fun (G9 : TG) t => tkM A D G9 t.heap) A) 0 0 A := by
  refine Met.ofW (cc := cX5_checked) (maxL := 2) (ret := (some .int)) (by decide) rfl ?_
  intro p e s m args below meth c s₁ B hml hv
  obtain ⟨rfl, hM, hK⟩ := hv
  have hS : va_S A s.heap s.heap [] := va_S.rf
  have hx := B.exec
  have hb := B.bytes
  have hr := B.returns
  have hts := atoms_spec (ws := wsX5_checked) B.pre
  have hown : s.vm.findClass RX5 = some m.cls := findClass_of_methodNamed B.named
  have hlocks := B.notSynchronized
  have S0 : CallFix p m c cX5_checked 2 s ([.ref m0, .int 0] : List Value).toArray wsX5_checked RX5 := ⟨hx, hb, hml, hown, hts⟩
  have inX5 : ∀ w ∈ wsX50, w ∈ wsX5_checked := by decide +kernel
  have hl := lv_entry ([.ref m0, .int 0]) (n := 2) (Nat.le_of_ble_eq_true rfl)
  rw [lg_entry_eq]
  generalize (lg_sl ([.ref m0, .int 0]) ++ List.replicate (2 - (lg_sl ([.ref m0, .int 0])).length) Slot.unset).toArray = ls at hl ⊢
  have hl : lv_has ls 2 [(0, .ref m0), (1, .int 0)] := hl
  refine lv_aload_n hx hb dX5_checked_0 rfl (lv_at hl 0 rfl) ?_
  refine lv_iload_n hx hb dX5_checked_1 rfl (lv_at hl 1 rfl) ?_
  refine lv_if_eq (tgt := 9) hx hb dX5_checked_2 (by decide) (fun c_1 => ?_) (fun c_1 => absurd (by decide) c_1)
  refine lv_iconst (v := 1) hx hb dX5_checked_9 (by decide) ?_
  refine tk_put (ty := .int) hx hb hts inX5 tyX5 tyX5_ok nmX5 hown hK hM hS hR.1 rfl 18 (by decide) (hts (.fieldLink RX5 66 "TicketForgeModel" "thrown" "I") (by decide +kernel)) (fun _ h9 => h9) rfl (by decide +kernel) rfl rfl (Nat.le_of_ble_eq_true rfl) dX5_checked_10 (fun H locs hM hS => ?_)
  have hR := hR.th (v := 1)
  refine lv_aload_n hx hb dX5_checked_13 rfl (lv_at hl 0 rfl) ?_
  refine tk_get hx hb hts inX5 hown hK hM hR.1 rfl 18 (by decide) (hts (.fieldLink RX5 66 "TicketForgeModel" "thrown" "I") (by decide +kernel)) (fun _ h9 => h9) rfl dX5_checked_14 ?_
  exact W.iret (v := 1) hx hb hr (fun t9 h9 w9 => ⟨⟨1, _, rfl, ⟨hR, rfl⟩, (by show tkM A D _ _; rw [h9]; exact hM)⟩, hS.F h9⟩) hS.2.2 dX5_checked_17
set_option maxHeartbeats 4000000 in
set_option maxRecDepth 100000 in
theorem c_X5_begin (l : Launch) (A : Nat → Prop) (D : va_G) (ac : Nat → ClassId) (G : TG) {m0 : Nat} {am : Nat → Nat} {th : Int32} {M : TS} (hR : PR ac m0 am th M G) (hW : W0 M) (x : Int32) : Met l yX5_begin wsX5_begin ({ frames := 3, cells := 0, slots := 0, locals := 180 } : Room) (va_Pc [.ref m0, .int x] (tkJ A D ac G)) (va_Qi (fun (z : Int32) (G9 : TG) => PR ac m0 am (S_begin M x).1 (S_begin M x).2.1 G9 ∧ z = (S_begin M x).2.2) (fun (G9 : TG) t => tkM A D G9 t.heap) A) 0 0 A := by
  refine Met.ofW (cc := cX5_begin) (maxL := 2) (ret := (some .int)) (by decide) rfl ?_
  intro p e s m args below meth c s₁ B hml hv
  obtain ⟨rfl, hM, hK⟩ := hv
  have hS : va_S A s.heap s.heap [] := va_S.rf
  have hx := B.exec
  have hb := B.bytes
  have hr := B.returns
  have hts := atoms_spec (ws := wsX5_begin) B.pre
  have hown : s.vm.findClass RX5 = some m.cls := findClass_of_methodNamed B.named
  have hlocks := B.notSynchronized
  have S0 : CallFix p m c cX5_begin 2 s ([.ref m0, .int x] : List Value).toArray wsX5_begin RX5 := ⟨hx, hb, hml, hown, hts⟩
  have inX5 : ∀ w ∈ wsX50, w ∈ wsX5_begin := by decide +kernel
  have hl := lv_entry ([.ref m0, .int x]) (n := 2) (Nat.le_of_ble_eq_true rfl)
  rw [lg_entry_eq]
  generalize (lg_sl ([.ref m0, .int x]) ++ List.replicate (2 - (lg_sl ([.ref m0, .int x])).length) Slot.unset).toArray = ls at hl ⊢
  have hl : lv_has ls 2 [(0, .ref m0), (1, .int x)] := hl
  have bT := hW.t.2
  have bE := hW.e.2
  have bV := hW.v.2
  refine lv_aload_n hx hb dX5_begin_0 rfl (lv_at hl 0 rfl) ?_
  refine lv_aload_n hx hb dX5_begin_1 rfl (lv_at hl 0 rfl) ?_
  refine lv_iload_n hx hb dX5_begin_2 rfl (lv_at hl 1 rfl) ?_
  refine tk_cVi (As := [.int x]) S0 (c_X5_isTask l A D ac _ hR hW x) (cwV 1 hts gX5_begin_X5_isTask rfl rfl rfl (by decide +kernel) ⟨Nat.le_of_ble_eq_true rfl, Nat.le_of_ble_eq_true rfl⟩) (tkJ.blind) (tkJ.at hM hK) (tk_recv hK hM hR.1 rfl) rfl hl.1 rfl (Nat.le_of_ble_eq_true rfl) dX5_begin_3 ⟨Nat.zero_le _, Nat.zero_le _⟩ (fun r_1 hr_1 => ?_)
  rcases hr_1 with ⟨rfl, hr_1⟩ | ⟨rfl, hr_1⟩
  · have hok := hr_1
    obtain ⟨t, ht, rfl⟩ := tkOk_ex (by omega) hr_1
    refine lv_if_ne (tgt := 13) hx hb dX5_begin_6 (by decide) (fun c_2 => ?_) (fun c_2 => absurd c_2 (by decide))
    refine lv_aload_n hx hb dX5_begin_13 rfl (lv_at hl 0 rfl) ?_
    refine tk_get hx hb hts inX5 hown hK hM hR.1 rfl 3 (by decide) (hts (.fieldLink RX5 19 "TicketForgeModel" "states" "[C") (by decide +kernel)) (fun _ h9 => h9) rfl dX5_begin_14 ?_
    refine lv_iload_n hx hb dX5_begin_17 rfl (lv_at hl 1 rfl) ?_
    refine tk_cald hx hb hK hM 0 hR.a3 rfl (vp_in_nI (by omega) (by decide)) dX5_begin_18 ?_
    rw [show (nI t).toNatClampNeg = t from nI_clamp (by omega)]
    refine lv_bipush (v := 111) hx hb dX5_begin_19 (by decide) ?_
    refine lv_icmp_eq (tgt := 28) hx hb dX5_begin_21 (by decide) (fun c_3 => ?_) (fun c_3 => ?_)
    · skip
      refine lv_aload_n hx hb dX5_begin_28 rfl (lv_at hl 0 rfl) ?_
      refine lv_iload_n hx hb dX5_begin_29 rfl (lv_at hl 1 rfl) ?_
      refine tk_cVi (As := [.int (nI t)]) S0 (c_X5_isFree l A D ac _ hR hW t (by omega) ) (cwV 1 hts gX5_begin_X5_isFree rfl rfl rfl (by decide +kernel) ⟨Nat.le_of_ble_eq_true rfl, Nat.le_of_ble_eq_true rfl⟩) (tkJ.blind) (tkJ.at hM hK) (tk_recv hK hM hR.1 rfl) rfl hl.1 rfl (Nat.le_of_ble_eq_true rfl) dX5_begin_30 ⟨Nat.zero_le _, Nat.zero_le _⟩ (fun r_4 hr_4 => ?_)
      rcases hr_4 with ⟨rfl, hr_4⟩ | ⟨rfl, hr_4⟩
      · skip
        refine lv_if_ne (tgt := 40) hx hb dX5_begin_33 (by decide) (fun c_5 => ?_) (fun c_5 => absurd c_5 (by decide))
        refine lv_iconst (v := 0) hx hb dX5_begin_40 (by decide) ?_
        refine tk_put (ty := .int) hx hb hts inX5 tyX5 tyX5_ok nmX5 hown hK hM hS hR.1 rfl 18 (by decide) (hts (.fieldLink RX5 66 "TicketForgeModel" "thrown" "I") (by decide +kernel)) (fun _ h9 => h9) rfl (by decide +kernel) rfl rfl (Nat.le_of_ble_eq_true rfl) dX5_begin_41 (fun H locs hM hS => ?_)
        have hR := hR.th (v := 0)
        refine lv_aload_n hx hb dX5_begin_44 rfl (lv_at hl 0 rfl) ?_
        refine tk_get hx hb hts inX5 hown hK hM hR.1 rfl 18 (by decide) (hts (.fieldLink RX5 66 "TicketForgeModel" "thrown" "I") (by decide +kernel)) (fun _ h9 => h9) rfl dX5_begin_45 ?_
        refine lv_if_le (tgt := 53) hx hb dX5_begin_48 (by decide) (fun c_6 => ?_) (fun c_6 => absurd (by decide) c_6)
        refine lv_aload_n hx hb dX5_begin_53 rfl (lv_at hl 0 rfl) ?_
        refine tk_get hx hb hts inX5 hown hK hM hR.1 rfl 3 (by decide) (hts (.fieldLink RX5 19 "TicketForgeModel" "states" "[C") (by decide +kernel)) (fun _ h9 => h9) rfl dX5_begin_54 ?_
        refine lv_iload_n hx hb dX5_begin_57 rfl (lv_at hl 1 rfl) ?_
        refine lv_bipush (v := 119) hx hb dX5_begin_58 (by decide) ?_
        refine tk_cast hx hb hK hM hS 0 hR.a3 rfl (show vp_nar .char 119 = 119 from rfl) (vp_in_nI (by omega) (by decide)) dX5_begin_60 (fun H locs hM hS => ?_)
        rw [show (nI t).toNatClampNeg = t from nI_clamp (by omega)] at hM
        have hR := hR.p3 (i := t) (v := 119)
        refine lv_aload_n hx hb dX5_begin_61 rfl (lv_at hl 0 rfl) ?_
        refine lv_bipush (v := 119) hx hb dX5_begin_62 (by decide) ?_
        refine tk_cVi (As := [.int 119]) S0 (c_X5_manyIn l A D ac _ hR (hW.ofst 4 (by decide)) 119) (cwV 1 hts gX5_begin_X5_manyIn rfl rfl rfl (by decide +kernel) ⟨Nat.le_of_ble_eq_true rfl, Nat.le_of_ble_eq_true rfl⟩) (tkJ.blind) (tkJ.at hM hK) (tk_recv hK hM hR.1 rfl) rfl hl.1 rfl (Nat.le_of_ble_eq_true rfl) dX5_begin_64 ⟨Nat.zero_le _, Nat.zero_le _⟩ (fun r_7 hr_7 => ?_)
        have eS : S_begin M (nI t) = (0, (st M 4 t 119), r_7) := (by rw [S_begin, show tn (nI t) = t from nI_clamp (show t < 2 ^ 31 by omega), if_neg (by rw [hok]; decide), if_neg (fun h => h c_3), if_neg (by rw [hr_4]; decide), hr_7])
        exact W.iret (v := r_7) hx hb hr (fun t9 h9 w9 => ⟨⟨r_7, _, rfl, by rw [eS]; exact ⟨hR, rfl⟩, (by show tkM A D _ _; rw [h9]; exact hM)⟩, hS.F h9⟩) hS.2.2 dX5_begin_67
      · skip
        refine lv_if_ne (tgt := 40) hx hb dX5_begin_33 (by decide) (fun c_8 => absurd c_8 (by decide)) (fun c_8 => ?_)
        refine lv_iconst (v := 3) hx hb dX5_begin_36 (by decide) ?_
        refine lv_goto (tgt := 41) hx hb dX5_begin_37 (by decide) ?_
        refine tk_put (ty := .int) hx hb hts inX5 tyX5 tyX5_ok nmX5 hown hK hM hS hR.1 rfl 18 (by decide) (hts (.fieldLink RX5 66 "TicketForgeModel" "thrown" "I") (by decide +kernel)) (fun _ h9 => h9) rfl (by decide +kernel) rfl rfl (Nat.le_of_ble_eq_true rfl) dX5_begin_41 (fun H locs hM hS => ?_)
        have hR := hR.th (v := 3)
        refine lv_aload_n hx hb dX5_begin_44 rfl (lv_at hl 0 rfl) ?_
        refine tk_get hx hb hts inX5 hown hK hM hR.1 rfl 18 (by decide) (hts (.fieldLink RX5 66 "TicketForgeModel" "thrown" "I") (by decide +kernel)) (fun _ h9 => h9) rfl dX5_begin_45 ?_
        refine lv_if_le (tgt := 53) hx hb dX5_begin_48 (by decide) (fun c_9 => absurd c_9 (by decide)) (fun c_9 => ?_)
        refine lv_iconst (v := 0) hx hb dX5_begin_51 (by decide) ?_
        have eS : S_begin M (nI t) = (3, M, 0) := (by rw [S_begin, show tn (nI t) = t from nI_clamp (show t < 2 ^ 31 by omega), if_neg (by rw [hok]; decide), if_neg (fun h => h c_3), if_pos hr_4])
        exact W.iret (v := 0) hx hb hr (fun t9 h9 w9 => ⟨⟨0, _, rfl, by rw [eS]; exact ⟨hR, rfl⟩, (by show tkM A D _ _; rw [h9]; exact hM)⟩, hS.F h9⟩) hS.2.2 dX5_begin_52
    · skip
      refine lv_iconst (v := 2) hx hb dX5_begin_24 (by decide) ?_
      refine lv_goto (tgt := 41) hx hb dX5_begin_25 (by decide) ?_
      refine tk_put (ty := .int) hx hb hts inX5 tyX5 tyX5_ok nmX5 hown hK hM hS hR.1 rfl 18 (by decide) (hts (.fieldLink RX5 66 "TicketForgeModel" "thrown" "I") (by decide +kernel)) (fun _ h9 => h9) rfl (by decide +kernel) rfl rfl (Nat.le_of_ble_eq_true rfl) dX5_begin_41 (fun H locs hM hS => ?_)
      have hR := hR.th (v := 2)
      refine lv_aload_n hx hb dX5_begin_44 rfl (lv_at hl 0 rfl) ?_
      refine tk_get hx hb hts inX5 hown hK hM hR.1 rfl 18 (by decide) (hts (.fieldLink RX5 66 "TicketForgeModel" "thrown" "I") (by decide +kernel)) (fun _ h9 => h9) rfl dX5_begin_45 ?_
      refine lv_if_le (tgt := 53) hx hb dX5_begin_48 (by decide) (fun c_10 => absurd c_10 (by decide)) (fun c_10 => ?_)
      refine lv_iconst (v := 0) hx hb dX5_begin_51 (by decide) ?_
      have eS : S_begin M (nI t) = (2, M, 0) := (by rw [S_begin, show tn (nI t) = t from nI_clamp (show t < 2 ^ 31 by omega), if_neg (by rw [hok]; decide), if_pos c_3])
      exact W.iret (v := 0) hx hb hr (fun t9 h9 w9 => ⟨⟨0, _, rfl, by rw [eS]; exact ⟨hR, rfl⟩, (by show tkM A D _ _; rw [h9]; exact hM)⟩, hS.F h9⟩) hS.2.2 dX5_begin_52
  · skip
    refine lv_if_ne (tgt := 13) hx hb dX5_begin_6 (by decide) (fun c_11 => absurd c_11 (by decide)) (fun c_11 => ?_)
    refine lv_iconst (v := 1) hx hb dX5_begin_9 (by decide) ?_
    refine lv_goto (tgt := 41) hx hb dX5_begin_10 (by decide) ?_
    refine tk_put (ty := .int) hx hb hts inX5 tyX5 tyX5_ok nmX5 hown hK hM hS hR.1 rfl 18 (by decide) (hts (.fieldLink RX5 66 "TicketForgeModel" "thrown" "I") (by decide +kernel)) (fun _ h9 => h9) rfl (by decide +kernel) rfl rfl (Nat.le_of_ble_eq_true rfl) dX5_begin_41 (fun H locs hM hS => ?_)
    have hR := hR.th (v := 1)
    refine lv_aload_n hx hb dX5_begin_44 rfl (lv_at hl 0 rfl) ?_
    refine tk_get hx hb hts inX5 hown hK hM hR.1 rfl 18 (by decide) (hts (.fieldLink RX5 66 "TicketForgeModel" "thrown" "I") (by decide +kernel)) (fun _ h9 => h9) rfl dX5_begin_45 ?_
    refine lv_if_le (tgt := 53) hx hb dX5_begin_48 (by decide) (fun c_12 => absurd c_12 (by decide)) (fun c_12 => ?_)
    refine lv_iconst (v := 0) hx hb dX5_begin_51 (by decide) ?_
    have eS : S_begin M x = (1, M, 0) := (by rw [S_begin, if_pos hr_1])
    exact W.iret (v := 0) hx hb hr (fun t9 h9 w9 => ⟨⟨0, _, rfl, by rw [eS]; exact ⟨hR, rfl⟩, (by show tkM A D _ _; rw [h9]; exact hM)⟩, hS.F h9⟩) hS.2.2 dX5_begin_52
set_option maxHeartbeats 4000000 in
set_option maxRecDepth 100000 in
theorem c_X5_propose (l : Launch) (A : Nat → Prop) (D : va_G) (ac : Nat → ClassId) (G : TG) {m0 : Nat} {am : Nat → Nat} {th : Int32} {M : TS} (hR : PR ac m0 am th M G) (hW : W0 M) (x : Int32) : Met l yX5_propose wsX5_propose ({ frames := 3, cells := 0, slots := 0, locals := 180 } : Room) (va_Pc [.ref m0, .int x] (tkJ A D ac G)) (va_Qi (fun (z : Int32) (G9 : TG) => PR ac m0 am (S_propose M x).1 (S_propose M x).2.1 G9 ∧ z = (S_propose M x).2.2) (fun (G9 : TG) t => tkM A D G9 t.heap) A) 0 0 A := by
  refine Met.ofW (cc := cX5_propose) (maxL := 2) (ret := (some .int)) (by decide) rfl ?_
  intro p e s m args below meth c s₁ B hml hv
  obtain ⟨rfl, hM, hK⟩ := hv
  have hS : va_S A s.heap s.heap [] := va_S.rf
  have hx := B.exec
  have hb := B.bytes
  have hr := B.returns
  have hts := atoms_spec (ws := wsX5_propose) B.pre
  have hown : s.vm.findClass RX5 = some m.cls := findClass_of_methodNamed B.named
  have hlocks := B.notSynchronized
  have S0 : CallFix p m c cX5_propose 2 s ([.ref m0, .int x] : List Value).toArray wsX5_propose RX5 := ⟨hx, hb, hml, hown, hts⟩
  have inX5 : ∀ w ∈ wsX50, w ∈ wsX5_propose := by decide +kernel
  have hl := lv_entry ([.ref m0, .int x]) (n := 2) (Nat.le_of_ble_eq_true rfl)
  rw [lg_entry_eq]
  generalize (lg_sl ([.ref m0, .int x]) ++ List.replicate (2 - (lg_sl ([.ref m0, .int x])).length) Slot.unset).toArray = ls at hl ⊢
  have hl : lv_has ls 2 [(0, .ref m0), (1, .int x)] := hl
  have bT := hW.t.2
  have bE := hW.e.2
  have bV := hW.v.2
  refine lv_aload_n hx hb dX5_propose_0 rfl (lv_at hl 0 rfl) ?_
  refine lv_aload_n hx hb dX5_propose_1 rfl (lv_at hl 0 rfl) ?_
  refine lv_iload_n hx hb dX5_propose_2 rfl (lv_at hl 1 rfl) ?_
  refine tk_cVi (As := [.int x]) S0 (c_X5_isTask l A D ac _ hR hW x) (cwV 1 hts gX5_propose_X5_isTask rfl rfl rfl (by decide +kernel) ⟨Nat.le_of_ble_eq_true rfl, Nat.le_of_ble_eq_true rfl⟩) (tkJ.blind) (tkJ.at hM hK) (tk_recv hK hM hR.1 rfl) rfl hl.1 rfl (Nat.le_of_ble_eq_true rfl) dX5_propose_3 ⟨Nat.zero_le _, Nat.zero_le _⟩ (fun r_1 hr_1 => ?_)
  rcases hr_1 with ⟨rfl, hr_1⟩ | ⟨rfl, hr_1⟩
  · have hok := hr_1
    obtain ⟨t, ht, rfl⟩ := tkOk_ex (by omega) hr_1
    refine lv_if_ne (tgt := 13) hx hb dX5_propose_6 (by decide) (fun c_2 => ?_) (fun c_2 => absurd c_2 (by decide))
    refine lv_aload_n hx hb dX5_propose_13 rfl (lv_at hl 0 rfl) ?_
    refine tk_get hx hb hts inX5 hown hK hM hR.1 rfl 3 (by decide) (hts (.fieldLink RX5 19 "TicketForgeModel" "states" "[C") (by decide +kernel)) (fun _ h9 => h9) rfl dX5_propose_14 ?_
    refine lv_iload_n hx hb dX5_propose_17 rfl (lv_at hl 1 rfl) ?_
    refine tk_cald hx hb hK hM 0 hR.a3 rfl (vp_in_nI (by omega) (by decide)) dX5_propose_18 ?_
    rw [show (nI t).toNatClampNeg = t from nI_clamp (by omega)]
    refine lv_bipush (v := 119) hx hb dX5_propose_19 (by decide) ?_
    refine lv_icmp_eq (tgt := 28) hx hb dX5_propose_21 (by decide) (fun c_3 => ?_) (fun c_3 => ?_)
    · skip
      refine lv_iconst (v := 0) hx hb dX5_propose_28 (by decide) ?_
      refine tk_put (ty := .int) hx hb hts inX5 tyX5 tyX5_ok nmX5 hown hK hM hS hR.1 rfl 18 (by decide) (hts (.fieldLink RX5 66 "TicketForgeModel" "thrown" "I") (by decide +kernel)) (fun _ h9 => h9) rfl (by decide +kernel) rfl rfl (Nat.le_of_ble_eq_true rfl) dX5_propose_29 (fun H locs hM hS => ?_)
      have hR := hR.th (v := 0)
      refine lv_aload_n hx hb dX5_propose_32 rfl (lv_at hl 0 rfl) ?_
      refine tk_get hx hb hts inX5 hown hK hM hR.1 rfl 18 (by decide) (hts (.fieldLink RX5 66 "TicketForgeModel" "thrown" "I") (by decide +kernel)) (fun _ h9 => h9) rfl dX5_propose_33 ?_
      refine lv_if_le (tgt := 41) hx hb dX5_propose_36 (by decide) (fun c_4 => ?_) (fun c_4 => absurd (by decide) c_4)
      refine lv_aload_n hx hb dX5_propose_41 rfl (lv_at hl 0 rfl) ?_
      refine tk_get hx hb hts inX5 hown hK hM hR.1 rfl 3 (by decide) (hts (.fieldLink RX5 19 "TicketForgeModel" "states" "[C") (by decide +kernel)) (fun _ h9 => h9) rfl dX5_propose_42 ?_
      refine lv_iload_n hx hb dX5_propose_45 rfl (lv_at hl 1 rfl) ?_
      refine lv_bipush (v := 114) hx hb dX5_propose_46 (by decide) ?_
      refine tk_cast hx hb hK hM hS 0 hR.a3 rfl (show vp_nar .char 114 = 114 from rfl) (vp_in_nI (by omega) (by decide)) dX5_propose_48 (fun H locs hM hS => ?_)
      rw [show (nI t).toNatClampNeg = t from nI_clamp (by omega)] at hM
      have hR := hR.p3 (i := t) (v := 114)
      refine lv_aload_n hx hb dX5_propose_49 rfl (lv_at hl 0 rfl) ?_
      refine lv_bipush (v := 114) hx hb dX5_propose_50 (by decide) ?_
      refine tk_cVi (As := [.int 114]) S0 (c_X5_manyIn l A D ac _ hR (hW.ofst 4 (by decide)) 114) (cwV 1 hts gX5_propose_X5_manyIn rfl rfl rfl (by decide +kernel) ⟨Nat.le_of_ble_eq_true rfl, Nat.le_of_ble_eq_true rfl⟩) (tkJ.blind) (tkJ.at hM hK) (tk_recv hK hM hR.1 rfl) rfl hl.1 rfl (Nat.le_of_ble_eq_true rfl) dX5_propose_52 ⟨Nat.zero_le _, Nat.zero_le _⟩ (fun r_5 hr_5 => ?_)
      have eS : S_propose M (nI t) = (0, (st M 4 t 114), r_5) := (by rw [S_propose, show tn (nI t) = t from nI_clamp (show t < 2 ^ 31 by omega), if_neg (by rw [hok]; decide), if_neg (fun h => h c_3), hr_5])
      exact W.iret (v := r_5) hx hb hr (fun t9 h9 w9 => ⟨⟨r_5, _, rfl, by rw [eS]; exact ⟨hR, rfl⟩, (by show tkM A D _ _; rw [h9]; exact hM)⟩, hS.F h9⟩) hS.2.2 dX5_propose_55
    · skip
      refine lv_iconst (v := 2) hx hb dX5_propose_24 (by decide) ?_
      refine lv_goto (tgt := 29) hx hb dX5_propose_25 (by decide) ?_
      refine tk_put (ty := .int) hx hb hts inX5 tyX5 tyX5_ok nmX5 hown hK hM hS hR.1 rfl 18 (by decide) (hts (.fieldLink RX5 66 "TicketForgeModel" "thrown" "I") (by decide +kernel)) (fun _ h9 => h9) rfl (by decide +kernel) rfl rfl (Nat.le_of_ble_eq_true rfl) dX5_propose_29 (fun H locs hM hS => ?_)
      have hR := hR.th (v := 2)
      refine lv_aload_n hx hb dX5_propose_32 rfl (lv_at hl 0 rfl) ?_
      refine tk_get hx hb hts inX5 hown hK hM hR.1 rfl 18 (by decide) (hts (.fieldLink RX5 66 "TicketForgeModel" "thrown" "I") (by decide +kernel)) (fun _ h9 => h9) rfl dX5_propose_33 ?_
      refine lv_if_le (tgt := 41) hx hb dX5_propose_36 (by decide) (fun c_6 => absurd c_6 (by decide)) (fun c_6 => ?_)
      refine lv_iconst (v := 0) hx hb dX5_propose_39 (by decide) ?_
      have eS : S_propose M (nI t) = (2, M, 0) := (by rw [S_propose, show tn (nI t) = t from nI_clamp (show t < 2 ^ 31 by omega), if_neg (by rw [hok]; decide), if_pos c_3])
      exact W.iret (v := 0) hx hb hr (fun t9 h9 w9 => ⟨⟨0, _, rfl, by rw [eS]; exact ⟨hR, rfl⟩, (by show tkM A D _ _; rw [h9]; exact hM)⟩, hS.F h9⟩) hS.2.2 dX5_propose_40
  · skip
    refine lv_if_ne (tgt := 13) hx hb dX5_propose_6 (by decide) (fun c_7 => absurd c_7 (by decide)) (fun c_7 => ?_)
    refine lv_iconst (v := 1) hx hb dX5_propose_9 (by decide) ?_
    refine lv_goto (tgt := 29) hx hb dX5_propose_10 (by decide) ?_
    refine tk_put (ty := .int) hx hb hts inX5 tyX5 tyX5_ok nmX5 hown hK hM hS hR.1 rfl 18 (by decide) (hts (.fieldLink RX5 66 "TicketForgeModel" "thrown" "I") (by decide +kernel)) (fun _ h9 => h9) rfl (by decide +kernel) rfl rfl (Nat.le_of_ble_eq_true rfl) dX5_propose_29 (fun H locs hM hS => ?_)
    have hR := hR.th (v := 1)
    refine lv_aload_n hx hb dX5_propose_32 rfl (lv_at hl 0 rfl) ?_
    refine tk_get hx hb hts inX5 hown hK hM hR.1 rfl 18 (by decide) (hts (.fieldLink RX5 66 "TicketForgeModel" "thrown" "I") (by decide +kernel)) (fun _ h9 => h9) rfl dX5_propose_33 ?_
    refine lv_if_le (tgt := 41) hx hb dX5_propose_36 (by decide) (fun c_8 => absurd c_8 (by decide)) (fun c_8 => ?_)
    refine lv_iconst (v := 0) hx hb dX5_propose_39 (by decide) ?_
    have eS : S_propose M x = (1, M, 0) := (by rw [S_propose, if_pos hr_1])
    exact W.iret (v := 0) hx hb hr (fun t9 h9 w9 => ⟨⟨0, _, rfl, by rw [eS]; exact ⟨hR, rfl⟩, (by show tkM A D _ _; rw [h9]; exact hM)⟩, hS.F h9⟩) hS.2.2 dX5_propose_40
set_option maxHeartbeats 4000000 in
set_option maxRecDepth 100000 in
theorem c_X5_reject (l : Launch) (A : Nat → Prop) (D : va_G) (ac : Nat → ClassId) (G : TG) {m0 : Nat} {am : Nat → Nat} {th : Int32} {M : TS} (hR : PR ac m0 am th M G) (hW : W0 M) (x : Int32) : Met l yX5_reject wsX5_reject ({ frames := 3, cells := 0, slots := 0, locals := 180 } : Room) (va_Pc [.ref m0, .int x] (tkJ A D ac G)) (va_Qi (fun (z : Int32) (G9 : TG) => PR ac m0 am (S_reject M x).1 (S_reject M x).2.1 G9 ∧ z = (S_reject M x).2.2) (fun (G9 : TG) t => tkM A D G9 t.heap) A) 0 0 A := by
  refine Met.ofW (cc := cX5_reject) (maxL := 2) (ret := (some .int)) (by decide) rfl ?_
  intro p e s m args below meth c s₁ B hml hv
  obtain ⟨rfl, hM, hK⟩ := hv
  have hS : va_S A s.heap s.heap [] := va_S.rf
  have hx := B.exec
  have hb := B.bytes
  have hr := B.returns
  have hts := atoms_spec (ws := wsX5_reject) B.pre
  have hown : s.vm.findClass RX5 = some m.cls := findClass_of_methodNamed B.named
  have hlocks := B.notSynchronized
  have S0 : CallFix p m c cX5_reject 2 s ([.ref m0, .int x] : List Value).toArray wsX5_reject RX5 := ⟨hx, hb, hml, hown, hts⟩
  have inX5 : ∀ w ∈ wsX50, w ∈ wsX5_reject := by decide +kernel
  have hl := lv_entry ([.ref m0, .int x]) (n := 2) (Nat.le_of_ble_eq_true rfl)
  rw [lg_entry_eq]
  generalize (lg_sl ([.ref m0, .int x]) ++ List.replicate (2 - (lg_sl ([.ref m0, .int x])).length) Slot.unset).toArray = ls at hl ⊢
  have hl : lv_has ls 2 [(0, .ref m0), (1, .int x)] := hl
  have bT := hW.t.2
  have bE := hW.e.2
  have bV := hW.v.2
  refine lv_aload_n hx hb dX5_reject_0 rfl (lv_at hl 0 rfl) ?_
  refine lv_aload_n hx hb dX5_reject_1 rfl (lv_at hl 0 rfl) ?_
  refine lv_iload_n hx hb dX5_reject_2 rfl (lv_at hl 1 rfl) ?_
  refine tk_cVi (As := [.int x]) S0 (c_X5_isTask l A D ac _ hR hW x) (cwV 1 hts gX5_reject_X5_isTask rfl rfl rfl (by decide +kernel) ⟨Nat.le_of_ble_eq_true rfl, Nat.le_of_ble_eq_true rfl⟩) (tkJ.blind) (tkJ.at hM hK) (tk_recv hK hM hR.1 rfl) rfl hl.1 rfl (Nat.le_of_ble_eq_true rfl) dX5_reject_3 ⟨Nat.zero_le _, Nat.zero_le _⟩ (fun r_1 hr_1 => ?_)
  rcases hr_1 with ⟨rfl, hr_1⟩ | ⟨rfl, hr_1⟩
  · have hok := hr_1
    obtain ⟨t, ht, rfl⟩ := tkOk_ex (by omega) hr_1
    refine lv_if_ne (tgt := 13) hx hb dX5_reject_6 (by decide) (fun c_2 => ?_) (fun c_2 => absurd c_2 (by decide))
    refine lv_aload_n hx hb dX5_reject_13 rfl (lv_at hl 0 rfl) ?_
    refine tk_get hx hb hts inX5 hown hK hM hR.1 rfl 3 (by decide) (hts (.fieldLink RX5 19 "TicketForgeModel" "states" "[C") (by decide +kernel)) (fun _ h9 => h9) rfl dX5_reject_14 ?_
    refine lv_iload_n hx hb dX5_reject_17 rfl (lv_at hl 1 rfl) ?_
    refine tk_cald hx hb hK hM 0 hR.a3 rfl (vp_in_nI (by omega) (by decide)) dX5_reject_18 ?_
    rw [show (nI t).toNatClampNeg = t from nI_clamp (by omega)]
    refine lv_bipush (v := 114) hx hb dX5_reject_19 (by decide) ?_
    refine lv_icmp_eq (tgt := 28) hx hb dX5_reject_21 (by decide) (fun c_3 => ?_) (fun c_3 => ?_)
    · skip
      refine lv_iconst (v := 0) hx hb dX5_reject_28 (by decide) ?_
      refine tk_put (ty := .int) hx hb hts inX5 tyX5 tyX5_ok nmX5 hown hK hM hS hR.1 rfl 18 (by decide) (hts (.fieldLink RX5 66 "TicketForgeModel" "thrown" "I") (by decide +kernel)) (fun _ h9 => h9) rfl (by decide +kernel) rfl rfl (Nat.le_of_ble_eq_true rfl) dX5_reject_29 (fun H locs hM hS => ?_)
      have hR := hR.th (v := 0)
      refine lv_aload_n hx hb dX5_reject_32 rfl (lv_at hl 0 rfl) ?_
      refine tk_get hx hb hts inX5 hown hK hM hR.1 rfl 18 (by decide) (hts (.fieldLink RX5 66 "TicketForgeModel" "thrown" "I") (by decide +kernel)) (fun _ h9 => h9) rfl dX5_reject_33 ?_
      refine lv_if_le (tgt := 41) hx hb dX5_reject_36 (by decide) (fun c_4 => ?_) (fun c_4 => absurd (by decide) c_4)
      refine lv_aload_n hx hb dX5_reject_41 rfl (lv_at hl 0 rfl) ?_
      refine tk_get hx hb hts inX5 hown hK hM hR.1 rfl 3 (by decide) (hts (.fieldLink RX5 19 "TicketForgeModel" "states" "[C") (by decide +kernel)) (fun _ h9 => h9) rfl dX5_reject_42 ?_
      refine lv_iload_n hx hb dX5_reject_45 rfl (lv_at hl 1 rfl) ?_
      refine lv_bipush (v := 119) hx hb dX5_reject_46 (by decide) ?_
      refine tk_cast hx hb hK hM hS 0 hR.a3 rfl (show vp_nar .char 119 = 119 from rfl) (vp_in_nI (by omega) (by decide)) dX5_reject_48 (fun H locs hM hS => ?_)
      rw [show (nI t).toNatClampNeg = t from nI_clamp (by omega)] at hM
      have hR := hR.p3 (i := t) (v := 119)
      refine lv_aload_n hx hb dX5_reject_49 rfl (lv_at hl 0 rfl) ?_
      refine lv_bipush (v := 114) hx hb dX5_reject_50 (by decide) ?_
      refine tk_cVi (As := [.int 114]) S0 (c_X5_manyIn l A D ac _ hR (hW.ofst 4 (by decide)) 114) (cwV 1 hts gX5_reject_X5_manyIn rfl rfl rfl (by decide +kernel) ⟨Nat.le_of_ble_eq_true rfl, Nat.le_of_ble_eq_true rfl⟩) (tkJ.blind) (tkJ.at hM hK) (tk_recv hK hM hR.1 rfl) rfl hl.1 rfl (Nat.le_of_ble_eq_true rfl) dX5_reject_52 ⟨Nat.zero_le _, Nat.zero_le _⟩ (fun r_5 hr_5 => ?_)
      have eS : S_reject M (nI t) = (0, (st M 4 t 119), r_5) := (by rw [S_reject, show tn (nI t) = t from nI_clamp (show t < 2 ^ 31 by omega), if_neg (by rw [hok]; decide), if_neg (fun h => h c_3), hr_5])
      exact W.iret (v := r_5) hx hb hr (fun t9 h9 w9 => ⟨⟨r_5, _, rfl, by rw [eS]; exact ⟨hR, rfl⟩, (by show tkM A D _ _; rw [h9]; exact hM)⟩, hS.F h9⟩) hS.2.2 dX5_reject_55
    · skip
      refine lv_iconst (v := 2) hx hb dX5_reject_24 (by decide) ?_
      refine lv_goto (tgt := 29) hx hb dX5_reject_25 (by decide) ?_
      refine tk_put (ty := .int) hx hb hts inX5 tyX5 tyX5_ok nmX5 hown hK hM hS hR.1 rfl 18 (by decide) (hts (.fieldLink RX5 66 "TicketForgeModel" "thrown" "I") (by decide +kernel)) (fun _ h9 => h9) rfl (by decide +kernel) rfl rfl (Nat.le_of_ble_eq_true rfl) dX5_reject_29 (fun H locs hM hS => ?_)
      have hR := hR.th (v := 2)
      refine lv_aload_n hx hb dX5_reject_32 rfl (lv_at hl 0 rfl) ?_
      refine tk_get hx hb hts inX5 hown hK hM hR.1 rfl 18 (by decide) (hts (.fieldLink RX5 66 "TicketForgeModel" "thrown" "I") (by decide +kernel)) (fun _ h9 => h9) rfl dX5_reject_33 ?_
      refine lv_if_le (tgt := 41) hx hb dX5_reject_36 (by decide) (fun c_6 => absurd c_6 (by decide)) (fun c_6 => ?_)
      refine lv_iconst (v := 0) hx hb dX5_reject_39 (by decide) ?_
      have eS : S_reject M (nI t) = (2, M, 0) := (by rw [S_reject, show tn (nI t) = t from nI_clamp (show t < 2 ^ 31 by omega), if_neg (by rw [hok]; decide), if_pos c_3])
      exact W.iret (v := 0) hx hb hr (fun t9 h9 w9 => ⟨⟨0, _, rfl, by rw [eS]; exact ⟨hR, rfl⟩, (by show tkM A D _ _; rw [h9]; exact hM)⟩, hS.F h9⟩) hS.2.2 dX5_reject_40
  · skip
    refine lv_if_ne (tgt := 13) hx hb dX5_reject_6 (by decide) (fun c_7 => absurd c_7 (by decide)) (fun c_7 => ?_)
    refine lv_iconst (v := 1) hx hb dX5_reject_9 (by decide) ?_
    refine lv_goto (tgt := 29) hx hb dX5_reject_10 (by decide) ?_
    refine tk_put (ty := .int) hx hb hts inX5 tyX5 tyX5_ok nmX5 hown hK hM hS hR.1 rfl 18 (by decide) (hts (.fieldLink RX5 66 "TicketForgeModel" "thrown" "I") (by decide +kernel)) (fun _ h9 => h9) rfl (by decide +kernel) rfl rfl (Nat.le_of_ble_eq_true rfl) dX5_reject_29 (fun H locs hM hS => ?_)
    have hR := hR.th (v := 1)
    refine lv_aload_n hx hb dX5_reject_32 rfl (lv_at hl 0 rfl) ?_
    refine tk_get hx hb hts inX5 hown hK hM hR.1 rfl 18 (by decide) (hts (.fieldLink RX5 66 "TicketForgeModel" "thrown" "I") (by decide +kernel)) (fun _ h9 => h9) rfl dX5_reject_33 ?_
    refine lv_if_le (tgt := 41) hx hb dX5_reject_36 (by decide) (fun c_8 => absurd c_8 (by decide)) (fun c_8 => ?_)
    refine lv_iconst (v := 0) hx hb dX5_reject_39 (by decide) ?_
    have eS : S_reject M x = (1, M, 0) := (by rw [S_reject, if_pos hr_1])
    exact W.iret (v := 0) hx hb hr (fun t9 h9 w9 => ⟨⟨0, _, rfl, by rw [eS]; exact ⟨hR, rfl⟩, (by show tkM A D _ _; rw [h9]; exact hM)⟩, hS.F h9⟩) hS.2.2 dX5_reject_40
set_option maxHeartbeats 4000000 in
set_option maxRecDepth 100000 in
theorem c_X5_merge (l : Launch) (A : Nat → Prop) (D : va_G) (ac : Nat → ClassId) (G : TG) {m0 : Nat} {am : Nat → Nat} {th : Int32} {M : TS} (hR : PR ac m0 am th M G) (hW : W0 M) (x : Int32) : Met l yX5_merge wsX5_merge ({ frames := 3, cells := 0, slots := 0, locals := 180 } : Room) (va_Pc [.ref m0, .int x] (tkJ A D ac G)) (va_Qi (fun (z : Int32) (G9 : TG) => PR ac m0 am (S_merge M x).1 (S_merge M x).2.1 G9 ∧ z = (S_merge M x).2.2) (fun (G9 : TG) t => tkM A D G9 t.heap) A) 0 0 A := by
  refine Met.ofW (cc := cX5_merge) (maxL := 2) (ret := (some .int)) (by decide) rfl ?_
  intro p e s m args below meth c s₁ B hml hv
  obtain ⟨rfl, hM, hK⟩ := hv
  have hS : va_S A s.heap s.heap [] := va_S.rf
  have hx := B.exec
  have hb := B.bytes
  have hr := B.returns
  have hts := atoms_spec (ws := wsX5_merge) B.pre
  have hown : s.vm.findClass RX5 = some m.cls := findClass_of_methodNamed B.named
  have hlocks := B.notSynchronized
  have S0 : CallFix p m c cX5_merge 2 s ([.ref m0, .int x] : List Value).toArray wsX5_merge RX5 := ⟨hx, hb, hml, hown, hts⟩
  have inX5 : ∀ w ∈ wsX50, w ∈ wsX5_merge := by decide +kernel
  have hl := lv_entry ([.ref m0, .int x]) (n := 2) (Nat.le_of_ble_eq_true rfl)
  rw [lg_entry_eq]
  generalize (lg_sl ([.ref m0, .int x]) ++ List.replicate (2 - (lg_sl ([.ref m0, .int x])).length) Slot.unset).toArray = ls at hl ⊢
  have hl : lv_has ls 2 [(0, .ref m0), (1, .int x)] := hl
  have bT := hW.t.2
  have bE := hW.e.2
  have bV := hW.v.2
  refine lv_aload_n hx hb dX5_merge_0 rfl (lv_at hl 0 rfl) ?_
  refine lv_aload_n hx hb dX5_merge_1 rfl (lv_at hl 0 rfl) ?_
  refine lv_iload_n hx hb dX5_merge_2 rfl (lv_at hl 1 rfl) ?_
  refine tk_cVi (As := [.int x]) S0 (c_X5_isTask l A D ac _ hR hW x) (cwV 1 hts gX5_merge_X5_isTask rfl rfl rfl (by decide +kernel) ⟨Nat.le_of_ble_eq_true rfl, Nat.le_of_ble_eq_true rfl⟩) (tkJ.blind) (tkJ.at hM hK) (tk_recv hK hM hR.1 rfl) rfl hl.1 rfl (Nat.le_of_ble_eq_true rfl) dX5_merge_3 ⟨Nat.zero_le _, Nat.zero_le _⟩ (fun r_1 hr_1 => ?_)
  rcases hr_1 with ⟨rfl, hr_1⟩ | ⟨rfl, hr_1⟩
  · have hok := hr_1
    obtain ⟨t, ht, rfl⟩ := tkOk_ex (by omega) hr_1
    refine lv_if_ne (tgt := 13) hx hb dX5_merge_6 (by decide) (fun c_2 => ?_) (fun c_2 => absurd c_2 (by decide))
    refine lv_aload_n hx hb dX5_merge_13 rfl (lv_at hl 0 rfl) ?_
    refine tk_get hx hb hts inX5 hown hK hM hR.1 rfl 3 (by decide) (hts (.fieldLink RX5 19 "TicketForgeModel" "states" "[C") (by decide +kernel)) (fun _ h9 => h9) rfl dX5_merge_14 ?_
    refine lv_iload_n hx hb dX5_merge_17 rfl (lv_at hl 1 rfl) ?_
    refine tk_cald hx hb hK hM 0 hR.a3 rfl (vp_in_nI (by omega) (by decide)) dX5_merge_18 ?_
    rw [show (nI t).toNatClampNeg = t from nI_clamp (by omega)]
    refine lv_bipush (v := 114) hx hb dX5_merge_19 (by decide) ?_
    refine lv_icmp_eq (tgt := 28) hx hb dX5_merge_21 (by decide) (fun c_3 => ?_) (fun c_3 => ?_)
    · skip
      refine lv_aload_n hx hb dX5_merge_28 rfl (lv_at hl 0 rfl) ?_
      refine lv_iload_n hx hb dX5_merge_29 rfl (lv_at hl 1 rfl) ?_
      refine tk_cVi (As := [.int (nI t)]) S0 (c_X5_hasDoneChildren l A D ac _ hR hW t (by omega) ) (cwV 1 hts gX5_merge_X5_hasDoneChildren rfl rfl rfl (by decide +kernel) ⟨Nat.le_of_ble_eq_true rfl, Nat.le_of_ble_eq_true rfl⟩) (tkJ.blind) (tkJ.at hM hK) (tk_recv hK hM hR.1 rfl) rfl hl.1 rfl (Nat.le_of_ble_eq_true rfl) dX5_merge_30 ⟨Nat.zero_le _, Nat.zero_le _⟩ (fun r_4 hr_4 => ?_)
      rcases hr_4 with ⟨rfl, hr_4⟩ | ⟨rfl, hr_4⟩
      · skip
        refine lv_if_ne (tgt := 40) hx hb dX5_merge_33 (by decide) (fun c_5 => ?_) (fun c_5 => absurd c_5 (by decide))
        refine lv_iconst (v := 0) hx hb dX5_merge_40 (by decide) ?_
        refine tk_put (ty := .int) hx hb hts inX5 tyX5 tyX5_ok nmX5 hown hK hM hS hR.1 rfl 18 (by decide) (hts (.fieldLink RX5 66 "TicketForgeModel" "thrown" "I") (by decide +kernel)) (fun _ h9 => h9) rfl (by decide +kernel) rfl rfl (Nat.le_of_ble_eq_true rfl) dX5_merge_41 (fun H locs hM hS => ?_)
        have hR := hR.th (v := 0)
        refine lv_aload_n hx hb dX5_merge_44 rfl (lv_at hl 0 rfl) ?_
        refine tk_get hx hb hts inX5 hown hK hM hR.1 rfl 18 (by decide) (hts (.fieldLink RX5 66 "TicketForgeModel" "thrown" "I") (by decide +kernel)) (fun _ h9 => h9) rfl dX5_merge_45 ?_
        refine lv_if_le (tgt := 53) hx hb dX5_merge_48 (by decide) (fun c_6 => ?_) (fun c_6 => absurd (by decide) c_6)
        refine lv_aload_n hx hb dX5_merge_53 rfl (lv_at hl 0 rfl) ?_
        refine tk_get hx hb hts inX5 hown hK hM hR.1 rfl 3 (by decide) (hts (.fieldLink RX5 19 "TicketForgeModel" "states" "[C") (by decide +kernel)) (fun _ h9 => h9) rfl dX5_merge_54 ?_
        refine lv_iload_n hx hb dX5_merge_57 rfl (lv_at hl 1 rfl) ?_
        refine lv_bipush (v := 100) hx hb dX5_merge_58 (by decide) ?_
        refine tk_cast hx hb hK hM hS 0 hR.a3 rfl (show vp_nar .char 100 = 100 from rfl) (vp_in_nI (by omega) (by decide)) dX5_merge_60 (fun H locs hM hS => ?_)
        rw [show (nI t).toNatClampNeg = t from nI_clamp (by omega)] at hM
        have hR := hR.p3 (i := t) (v := 100)
        refine lv_aload_n hx hb dX5_merge_61 rfl (lv_at hl 0 rfl) ?_
        refine lv_bipush (v := 100) hx hb dX5_merge_62 (by decide) ?_
        refine tk_cVi (As := [.int 100]) S0 (c_X5_manyIn l A D ac _ hR (hW.ofst 4 (by decide)) 100) (cwV 1 hts gX5_merge_X5_manyIn rfl rfl rfl (by decide +kernel) ⟨Nat.le_of_ble_eq_true rfl, Nat.le_of_ble_eq_true rfl⟩) (tkJ.blind) (tkJ.at hM hK) (tk_recv hK hM hR.1 rfl) rfl hl.1 rfl (Nat.le_of_ble_eq_true rfl) dX5_merge_64 ⟨Nat.zero_le _, Nat.zero_le _⟩ (fun r_7 hr_7 => ?_)
        have eS : S_merge M (nI t) = (0, (st M 4 t 100), r_7) := (by rw [S_merge, show tn (nI t) = t from nI_clamp (show t < 2 ^ 31 by omega), if_neg (by rw [hok]; decide), if_neg (fun h => h c_3), if_neg (by rw [hr_4]; decide), hr_7])
        exact W.iret (v := r_7) hx hb hr (fun t9 h9 w9 => ⟨⟨r_7, _, rfl, by rw [eS]; exact ⟨hR, rfl⟩, (by show tkM A D _ _; rw [h9]; exact hM)⟩, hS.F h9⟩) hS.2.2 dX5_merge_67
      · skip
        refine lv_if_ne (tgt := 40) hx hb dX5_merge_33 (by decide) (fun c_8 => absurd c_8 (by decide)) (fun c_8 => ?_)
        refine lv_iconst (v := 3) hx hb dX5_merge_36 (by decide) ?_
        refine lv_goto (tgt := 41) hx hb dX5_merge_37 (by decide) ?_
        refine tk_put (ty := .int) hx hb hts inX5 tyX5 tyX5_ok nmX5 hown hK hM hS hR.1 rfl 18 (by decide) (hts (.fieldLink RX5 66 "TicketForgeModel" "thrown" "I") (by decide +kernel)) (fun _ h9 => h9) rfl (by decide +kernel) rfl rfl (Nat.le_of_ble_eq_true rfl) dX5_merge_41 (fun H locs hM hS => ?_)
        have hR := hR.th (v := 3)
        refine lv_aload_n hx hb dX5_merge_44 rfl (lv_at hl 0 rfl) ?_
        refine tk_get hx hb hts inX5 hown hK hM hR.1 rfl 18 (by decide) (hts (.fieldLink RX5 66 "TicketForgeModel" "thrown" "I") (by decide +kernel)) (fun _ h9 => h9) rfl dX5_merge_45 ?_
        refine lv_if_le (tgt := 53) hx hb dX5_merge_48 (by decide) (fun c_9 => absurd c_9 (by decide)) (fun c_9 => ?_)
        refine lv_iconst (v := 0) hx hb dX5_merge_51 (by decide) ?_
        have eS : S_merge M (nI t) = (3, M, 0) := (by rw [S_merge, show tn (nI t) = t from nI_clamp (show t < 2 ^ 31 by omega), if_neg (by rw [hok]; decide), if_neg (fun h => h c_3), if_pos hr_4])
        exact W.iret (v := 0) hx hb hr (fun t9 h9 w9 => ⟨⟨0, _, rfl, by rw [eS]; exact ⟨hR, rfl⟩, (by show tkM A D _ _; rw [h9]; exact hM)⟩, hS.F h9⟩) hS.2.2 dX5_merge_52
    · skip
      refine lv_iconst (v := 2) hx hb dX5_merge_24 (by decide) ?_
      refine lv_goto (tgt := 41) hx hb dX5_merge_25 (by decide) ?_
      refine tk_put (ty := .int) hx hb hts inX5 tyX5 tyX5_ok nmX5 hown hK hM hS hR.1 rfl 18 (by decide) (hts (.fieldLink RX5 66 "TicketForgeModel" "thrown" "I") (by decide +kernel)) (fun _ h9 => h9) rfl (by decide +kernel) rfl rfl (Nat.le_of_ble_eq_true rfl) dX5_merge_41 (fun H locs hM hS => ?_)
      have hR := hR.th (v := 2)
      refine lv_aload_n hx hb dX5_merge_44 rfl (lv_at hl 0 rfl) ?_
      refine tk_get hx hb hts inX5 hown hK hM hR.1 rfl 18 (by decide) (hts (.fieldLink RX5 66 "TicketForgeModel" "thrown" "I") (by decide +kernel)) (fun _ h9 => h9) rfl dX5_merge_45 ?_
      refine lv_if_le (tgt := 53) hx hb dX5_merge_48 (by decide) (fun c_10 => absurd c_10 (by decide)) (fun c_10 => ?_)
      refine lv_iconst (v := 0) hx hb dX5_merge_51 (by decide) ?_
      have eS : S_merge M (nI t) = (2, M, 0) := (by rw [S_merge, show tn (nI t) = t from nI_clamp (show t < 2 ^ 31 by omega), if_neg (by rw [hok]; decide), if_pos c_3])
      exact W.iret (v := 0) hx hb hr (fun t9 h9 w9 => ⟨⟨0, _, rfl, by rw [eS]; exact ⟨hR, rfl⟩, (by show tkM A D _ _; rw [h9]; exact hM)⟩, hS.F h9⟩) hS.2.2 dX5_merge_52
  · skip
    refine lv_if_ne (tgt := 13) hx hb dX5_merge_6 (by decide) (fun c_11 => absurd c_11 (by decide)) (fun c_11 => ?_)
    refine lv_iconst (v := 1) hx hb dX5_merge_9 (by decide) ?_
    refine lv_goto (tgt := 41) hx hb dX5_merge_10 (by decide) ?_
    refine tk_put (ty := .int) hx hb hts inX5 tyX5 tyX5_ok nmX5 hown hK hM hS hR.1 rfl 18 (by decide) (hts (.fieldLink RX5 66 "TicketForgeModel" "thrown" "I") (by decide +kernel)) (fun _ h9 => h9) rfl (by decide +kernel) rfl rfl (Nat.le_of_ble_eq_true rfl) dX5_merge_41 (fun H locs hM hS => ?_)
    have hR := hR.th (v := 1)
    refine lv_aload_n hx hb dX5_merge_44 rfl (lv_at hl 0 rfl) ?_
    refine tk_get hx hb hts inX5 hown hK hM hR.1 rfl 18 (by decide) (hts (.fieldLink RX5 66 "TicketForgeModel" "thrown" "I") (by decide +kernel)) (fun _ h9 => h9) rfl dX5_merge_45 ?_
    refine lv_if_le (tgt := 53) hx hb dX5_merge_48 (by decide) (fun c_12 => absurd c_12 (by decide)) (fun c_12 => ?_)
    refine lv_iconst (v := 0) hx hb dX5_merge_51 (by decide) ?_
    have eS : S_merge M x = (1, M, 0) := (by rw [S_merge, if_pos hr_1])
    exact W.iret (v := 0) hx hb hr (fun t9 h9 w9 => ⟨⟨0, _, rfl, by rw [eS]; exact ⟨hR, rfl⟩, (by show tkM A D _ _; rw [h9]; exact hM)⟩, hS.F h9⟩) hS.2.2 dX5_merge_52
