/-! the model: calls, further still -/
set_option maxHeartbeats 4000000 in
set_option maxRecDepth 100000 in
theorem c_X5_addTask (l : Launch) (A : Nat → Prop) (D : va_G) (ac : Nat → ClassId) (G : TG) {m0 : Nat} {am : Nat → Nat} {th : Int32} {M : TS} (hR : PR ac m0 am th M G) (hW : W0 M) (p0 : Int32) (e0 : Int32) (b0 : Int32) : Met l yX5_addTask wsX5_addTask ({ frames := 3, cells := 0, slots := 0, locals := 180 } : Room) (va_Pc [.ref m0, .int p0, .int e0, .int b0] (tkJ A D ac G)) (va_Qi (fun (z : Int32) (G9 : TG) => PR ac m0 am (S_addTask M p0 e0 b0).1 (S_addTask M p0 e0 b0).2.1 G9 ∧ z = (S_addTask M p0 e0 b0).2.2) (fun (G9 : TG) t => tkM A D G9 t.heap) A) 0 0 A := by
  refine Met.ofW (cc := cX5_addTask) (maxL := 4) (ret := (some .int)) (by decide) rfl ?_
  intro p e s m args below meth c s₁ B hml hv
  obtain ⟨rfl, hM, hK⟩ := hv
  have hS : va_S A s.heap s.heap [] := va_S.rf
  have hx := B.exec
  have hb := B.bytes
  have hr := B.returns
  have hts := atoms_spec (ws := wsX5_addTask) B.pre
  have hown : s.vm.findClass RX5 = some m.cls := findClass_of_methodNamed B.named
  have hlocks := B.notSynchronized
  have S0 : CallFix p m c cX5_addTask 4 s ([.ref m0, .int p0, .int e0, .int b0] : List Value).toArray wsX5_addTask RX5 := ⟨hx, hb, hml, hown, hts⟩
  have inX5 : ∀ w ∈ wsX50, w ∈ wsX5_addTask := by decide +kernel
  have hl := lv_entry ([.ref m0, .int p0, .int e0, .int b0]) (n := 4) (Nat.le_of_ble_eq_true rfl)
  rw [lg_entry_eq]
  generalize (lg_sl ([.ref m0, .int p0, .int e0, .int b0]) ++ List.replicate (4 - (lg_sl ([.ref m0, .int p0, .int e0, .int b0])).length) Slot.unset).toArray = ls at hl ⊢
  have hl : lv_has ls 4 [(0, .ref m0), (1, .int p0), (2, .int e0), (3, .int b0)] := hl
  have bT := hW.t.2
  have bE := hW.e.2
  have bV := hW.v.2
  refine lv_aload_n hx hb dX5_addTask_0 rfl (lv_at hl 0 rfl) ?_
  refine lv_iload_n hx hb dX5_addTask_1 rfl (lv_at hl 1 rfl) ?_
  refine lv_iconst (v := (-1)) hx hb dX5_addTask_2 (by decide) ?_
  refine lv_icmp_eq (tgt := 18) hx hb dX5_addTask_3 (by decide) (fun c_1 => ?_) (fun c_1 => ?_)
  · skip
    refine lv_iload_n hx hb dX5_addTask_18 rfl (lv_at hl 2 rfl) ?_
    refine lv_iconst (v := 1) hx hb dX5_addTask_19 (by decide) ?_
    refine lv_sipush (v := 400) hx hb dX5_addTask_20 (by decide) ?_
    refine tk_cSi (As := [.int e0, .int 1, .int 400]) S0 (c_X5_in l A D ac _ e0 1 400) (va_cwS 3 hts gX5_addTask_X5_in rfl rfl rfl (by decide +kernel) ⟨Nat.le_of_ble_eq_true rfl, Nat.le_of_ble_eq_true rfl⟩) (tkJ.blind) (tkJ.at hM hK) rfl hl.1 rfl (Nat.le_of_ble_eq_true rfl) dX5_addTask_23 ⟨Nat.zero_le _, Nat.zero_le _⟩ (fun r_2 hr_2 => ?_)
    rcases hr_2 with ⟨rfl, hr_2⟩ | ⟨rfl, hr_2⟩
    · skip
      refine lv_if_eq (tgt := 40) hx hb dX5_addTask_26 (by decide) (fun c_3 => absurd c_3 (by decide)) (fun c_3 => ?_)
      refine lv_iload_n hx hb dX5_addTask_29 rfl (lv_at hl 3 rfl) ?_
      refine lv_iconst (v := 0) hx hb dX5_addTask_30 (by decide) ?_
      refine lv_sipush (v := 400) hx hb dX5_addTask_31 (by decide) ?_
      refine tk_cSi (As := [.int b0, .int 0, .int 400]) S0 (c_X5_in l A D ac _ b0 0 400) (va_cwS 3 hts gX5_addTask_X5_in rfl rfl rfl (by decide +kernel) ⟨Nat.le_of_ble_eq_true rfl, Nat.le_of_ble_eq_true rfl⟩) (tkJ.blind) (tkJ.at hM hK) rfl hl.1 rfl (Nat.le_of_ble_eq_true rfl) dX5_addTask_34 ⟨Nat.zero_le _, Nat.zero_le _⟩ (fun r_4 hr_4 => ?_)
      rcases hr_4 with ⟨rfl, hr_4⟩ | ⟨rfl, hr_4⟩
      · skip
        refine lv_if_ne (tgt := 44) hx hb dX5_addTask_37 (by decide) (fun c_5 => ?_) (fun c_5 => absurd c_5 (by decide))
        refine lv_aload_n hx hb dX5_addTask_44 rfl (lv_at hl 0 rfl) ?_
        refine tk_get hx hb hts inX5 hown hK hM hR.1 rfl 19 (by decide) (hts (.fieldLink RX5 70 "TicketForgeModel" "tasks" "I") (by decide +kernel)) (fun _ h9 => h9) rfl dX5_addTask_45 ?_
        rw [hW.t.1]
        refine lv_bipush (v := 16) hx hb dX5_addTask_48 (by decide) ?_
        refine lv_icmp_ne (tgt := 57) hx hb dX5_addTask_50 (by decide) (fun c_6 => ?_) (fun c_6 => ?_)
        · have hlt : nT M < 16 := Nat.lt_of_le_of_ne bT (fun h => c_6 (by rw [h]; rfl))
          refine lv_iload_n hx hb dX5_addTask_57 rfl (lv_at hl 1 rfl) ?_
          refine lv_iconst (v := (-1)) hx hb dX5_addTask_58 (by decide) ?_
          refine lv_icmp_eq (tgt := 77) hx hb dX5_addTask_59 (by decide) (fun c_7 => ?_) (fun c_7 => absurd c_1 c_7)
          refine lv_iconst (v := 0) hx hb dX5_addTask_77 (by decide) ?_
          refine tk_put (ty := .int) hx hb hts inX5 tyX5 tyX5_ok nmX5 hown hK hM hS hR.1 rfl 18 (by decide) (hts (.fieldLink RX5 66 "TicketForgeModel" "thrown" "I") (by decide +kernel)) (fun _ h9 => h9) rfl (by decide +kernel) rfl rfl (Nat.le_of_ble_eq_true rfl) dX5_addTask_78 (fun H locs hM hS => ?_)
          have hR := hR.th (v := 0)
          refine lv_aload_n hx hb dX5_addTask_81 rfl (lv_at hl 0 rfl) ?_
          refine tk_get hx hb hts inX5 hown hK hM hR.1 rfl 18 (by decide) (hts (.fieldLink RX5 66 "TicketForgeModel" "thrown" "I") (by decide +kernel)) (fun _ h9 => h9) rfl dX5_addTask_82 ?_
          refine lv_if_le (tgt := 90) hx hb dX5_addTask_85 (by decide) (fun c_8 => ?_) (fun c_8 => absurd (by decide) c_8)
          refine lv_aload_n hx hb dX5_addTask_90 rfl (lv_at hl 0 rfl) ?_
          refine tk_get hx hb hts inX5 hown hK hM hR.1 rfl 0 (by decide) (hts (.fieldLink RX5 7 "TicketForgeModel" "parents" "[I") (by decide +kernel)) (fun _ h9 => h9) rfl dX5_addTask_91 ?_
          refine lv_aload_n hx hb dX5_addTask_94 rfl (lv_at hl 0 rfl) ?_
          refine tk_get hx hb hts inX5 hown hK hM hR.1 rfl 19 (by decide) (hts (.fieldLink RX5 70 "TicketForgeModel" "tasks" "I") (by decide +kernel)) (fun _ h9 => h9) rfl dX5_addTask_95 ?_
          rw [hW.t.1]
          refine lv_iload_n hx hb dX5_addTask_98 rfl (lv_at hl 1 rfl) ?_
          refine tk_iast hx hb hK hM hS 1 hR.a0 rfl (vp_in_nI (by omega) (by decide)) dX5_addTask_99 (fun H locs hM hS => ?_)
          rw [show (nI (nT M)).toNatClampNeg = (nT M) from nI_clamp (by omega)] at hM
          have hR := hR.p0 (i := (nT M)) (v := p0)
          refine lv_aload_n hx hb dX5_addTask_100 rfl (lv_at hl 0 rfl) ?_
          refine tk_get hx hb hts inX5 hown hK hM hR.1 rfl 1 (by decide) (hts (.fieldLink RX5 13 "TicketForgeModel" "estimates" "[I") (by decide +kernel)) (fun _ h9 => h9) rfl dX5_addTask_101 ?_
          refine lv_aload_n hx hb dX5_addTask_104 rfl (lv_at hl 0 rfl) ?_
          refine tk_get hx hb hts inX5 hown hK hM hR.1 rfl 19 (by decide) (hts (.fieldLink RX5 70 "TicketForgeModel" "tasks" "I") (by decide +kernel)) (fun _ h9 => h9) rfl dX5_addTask_105 ?_
          rw [show (st M 1 (nT M) p0) 0 19 = nI (nT M) from hW.t.1]
          refine lv_iload_n hx hb dX5_addTask_108 rfl (lv_at hl 2 rfl) ?_
          refine tk_iast hx hb hK hM hS 1 hR.a1 rfl (vp_in_nI (by omega) (by decide)) dX5_addTask_109 (fun H locs hM hS => ?_)
          rw [show (nI (nT M)).toNatClampNeg = (nT M) from nI_clamp (by omega)] at hM
          have hR := hR.p1 (i := (nT M)) (v := e0)
          refine lv_aload_n hx hb dX5_addTask_110 rfl (lv_at hl 0 rfl) ?_
          refine tk_get hx hb hts inX5 hown hK hM hR.1 rfl 2 (by decide) (hts (.fieldLink RX5 16 "TicketForgeModel" "budgets" "[I") (by decide +kernel)) (fun _ h9 => h9) rfl dX5_addTask_111 ?_
          refine lv_aload_n hx hb dX5_addTask_114 rfl (lv_at hl 0 rfl) ?_
          refine tk_get hx hb hts inX5 hown hK hM hR.1 rfl 19 (by decide) (hts (.fieldLink RX5 70 "TicketForgeModel" "tasks" "I") (by decide +kernel)) (fun _ h9 => h9) rfl dX5_addTask_115 ?_
          rw [show (st (st M 1 (nT M) p0) 2 (nT M) e0) 0 19 = nI (nT M) from hW.t.1]
          refine lv_iload_n hx hb dX5_addTask_118 rfl (lv_at hl 3 rfl) ?_
          refine tk_iast hx hb hK hM hS 1 hR.a2 rfl (vp_in_nI (by omega) (by decide)) dX5_addTask_119 (fun H locs hM hS => ?_)
          rw [show (nI (nT M)).toNatClampNeg = (nT M) from nI_clamp (by omega)] at hM
          have hR := hR.p2 (i := (nT M)) (v := b0)
          refine lv_aload_n hx hb dX5_addTask_120 rfl (lv_at hl 0 rfl) ?_
          refine tk_get hx hb hts inX5 hown hK hM hR.1 rfl 3 (by decide) (hts (.fieldLink RX5 19 "TicketForgeModel" "states" "[C") (by decide +kernel)) (fun _ h9 => h9) rfl dX5_addTask_121 ?_
          refine lv_aload_n hx hb dX5_addTask_124 rfl (lv_at hl 0 rfl) ?_
          refine tk_get hx hb hts inX5 hown hK hM hR.1 rfl 19 (by decide) (hts (.fieldLink RX5 70 "TicketForgeModel" "tasks" "I") (by decide +kernel)) (fun _ h9 => h9) rfl dX5_addTask_125 ?_
          rw [show (st (st (st M 1 (nT M) p0) 2 (nT M) e0) 3 (nT M) b0) 0 19 = nI (nT M) from hW.t.1]
          refine lv_bipush (v := 111) hx hb dX5_addTask_128 (by decide) ?_
          refine tk_cast hx hb hK hM hS 0 hR.a3 rfl (show vp_nar .char 111 = 111 from rfl) (vp_in_nI (by omega) (by decide)) dX5_addTask_130 (fun H locs hM hS => ?_)
          rw [show (nI (nT M)).toNatClampNeg = (nT M) from nI_clamp (by omega)] at hM
          have hR := hR.p3 (i := (nT M)) (v := 111)
          refine lv_aload_n hx hb dX5_addTask_131 rfl (lv_at hl 0 rfl) ?_
          refine lv_dup hx hb dX5_addTask_132 rfl ?_
          refine tk_get hx hb hts inX5 hown hK hM hR.1 rfl 19 (by decide) (hts (.fieldLink RX5 70 "TicketForgeModel" "tasks" "I") (by decide +kernel)) (fun _ h9 => h9) rfl dX5_addTask_133 ?_
          rw [show (st (st (st (st M 1 (nT M) p0) 2 (nT M) e0) 3 (nT M) b0) 4 (nT M) 111) 0 19 = nI (nT M) from hW.t.1]
          refine lv_iconst (v := 1) hx hb dX5_addTask_136 (by decide) ?_
          refine lv_iadd hx hb dX5_addTask_137 ?_
          refine tk_put (ty := .int) hx hb hts inX5 tyX5 tyX5_ok nmX5 hown hK hM hS hR.1 rfl 19 (by decide) (hts (.fieldLink RX5 70 "TicketForgeModel" "tasks" "I") (by decide +kernel)) (fun _ h9 => h9) rfl (by decide +kernel) rfl rfl (Nat.le_of_ble_eq_true rfl) dX5_addTask_138 (fun H locs hM hS => ?_)
          have hR := hR.sc 19 (mF_19 _ _ _ ((nI (nT M)) + 1))
          refine lv_aload_n hx hb dX5_addTask_141 rfl (lv_at hl 0 rfl) ?_
          refine tk_get hx hb hts inX5 hown hK hM hR.1 rfl 19 (by decide) (hts (.fieldLink RX5 70 "TicketForgeModel" "tasks" "I") (by decide +kernel)) (fun _ h9 => h9) rfl dX5_addTask_142 ?_
          rw [show (st (st (st (st (st M 1 (nT M) p0) 2 (nT M) e0) 3 (nT M) b0) 4 (nT M) 111) 0 19 ((nI (nT M)) + 1)) 0 19 = nI (nT M) + 1 from st_self _ _ _ _]
          refine lv_iconst (v := 1) hx hb dX5_addTask_145 (by decide) ?_
          refine lv_isub hx hb dX5_addTask_146 ?_
          have eS : S_addTask M p0 e0 b0 = (0, (st (st (st (st (st M 1 (nT M) p0) 2 (nT M) e0) 3 (nT M) b0) 4 (nT M) 111) 0 19 ((nI (nT M)) + 1)), nI (nT M)) := (by rw [S_addTask, if_neg (fun h => h.1 c_1), if_neg (by rw [hr_2, hr_4]; decide), if_neg (by rw [hW.t.1]; exact c_6), if_neg (fun h => h.1 c_1)])
          exact W.iret (v := ((nI (nT M) + 1) - 1)) hx hb hr (fun t9 h9 w9 => ⟨⟨((nI (nT M) + 1) - 1), _, rfl, by rw [eS]; exact ⟨hR, Int32.add_sub_cancel _ _⟩, (by show tkM A D _ _; rw [h9]; exact hM)⟩, hS.F h9⟩) hS.2.2 dX5_addTask_147
        · skip
          refine lv_iconst (v := 3) hx hb dX5_addTask_53 (by decide) ?_
          refine lv_goto (tgt := 78) hx hb dX5_addTask_54 (by decide) ?_
          refine tk_put (ty := .int) hx hb hts inX5 tyX5 tyX5_ok nmX5 hown hK hM hS hR.1 rfl 18 (by decide) (hts (.fieldLink RX5 66 "TicketForgeModel" "thrown" "I") (by decide +kernel)) (fun _ h9 => h9) rfl (by decide +kernel) rfl rfl (Nat.le_of_ble_eq_true rfl) dX5_addTask_78 (fun H locs hM hS => ?_)
          have hR := hR.th (v := 3)
          refine lv_aload_n hx hb dX5_addTask_81 rfl (lv_at hl 0 rfl) ?_
          refine tk_get hx hb hts inX5 hown hK hM hR.1 rfl 18 (by decide) (hts (.fieldLink RX5 66 "TicketForgeModel" "thrown" "I") (by decide +kernel)) (fun _ h9 => h9) rfl dX5_addTask_82 ?_
          refine lv_if_le (tgt := 90) hx hb dX5_addTask_85 (by decide) (fun c_9 => absurd c_9 (by decide)) (fun c_9 => ?_)
          refine lv_iconst (v := 0) hx hb dX5_addTask_88 (by decide) ?_
          have eS : S_addTask M p0 e0 b0 = (3, M, 0) := (by rw [S_addTask, if_neg (fun h => h.1 c_1), if_neg (by rw [hr_2, hr_4]; decide), if_pos (by rw [hW.t.1]; exact c_6)])
          exact W.iret (v := 0) hx hb hr (fun t9 h9 w9 => ⟨⟨0, _, rfl, by rw [eS]; exact ⟨hR, rfl⟩, (by show tkM A D _ _; rw [h9]; exact hM)⟩, hS.F h9⟩) hS.2.2 dX5_addTask_89
      · skip
        refine lv_if_ne (tgt := 44) hx hb dX5_addTask_37 (by decide) (fun c_10 => absurd c_10 (by decide)) (fun c_10 => ?_)
        refine lv_iconst (v := 2) hx hb dX5_addTask_40 (by decide) ?_
        refine lv_goto (tgt := 78) hx hb dX5_addTask_41 (by decide) ?_
        refine tk_put (ty := .int) hx hb hts inX5 tyX5 tyX5_ok nmX5 hown hK hM hS hR.1 rfl 18 (by decide) (hts (.fieldLink RX5 66 "TicketForgeModel" "thrown" "I") (by decide +kernel)) (fun _ h9 => h9) rfl (by decide +kernel) rfl rfl (Nat.le_of_ble_eq_true rfl) dX5_addTask_78 (fun H locs hM hS => ?_)
        have hR := hR.th (v := 2)
        refine lv_aload_n hx hb dX5_addTask_81 rfl (lv_at hl 0 rfl) ?_
        refine tk_get hx hb hts inX5 hown hK hM hR.1 rfl 18 (by decide) (hts (.fieldLink RX5 66 "TicketForgeModel" "thrown" "I") (by decide +kernel)) (fun _ h9 => h9) rfl dX5_addTask_82 ?_
        refine lv_if_le (tgt := 90) hx hb dX5_addTask_85 (by decide) (fun c_11 => absurd c_11 (by decide)) (fun c_11 => ?_)
        refine lv_iconst (v := 0) hx hb dX5_addTask_88 (by decide) ?_
        have eS : S_addTask M p0 e0 b0 = (2, M, 0) := (by rw [S_addTask, if_neg (fun h => h.1 c_1), if_pos (Or.inr (hr_4))])
        exact W.iret (v := 0) hx hb hr (fun t9 h9 w9 => ⟨⟨0, _, rfl, by rw [eS]; exact ⟨hR, rfl⟩, (by show tkM A D _ _; rw [h9]; exact hM)⟩, hS.F h9⟩) hS.2.2 dX5_addTask_89
    · skip
      refine lv_if_eq (tgt := 40) hx hb dX5_addTask_26 (by decide) (fun c_12 => ?_) (fun c_12 => absurd (by decide) c_12)
      refine lv_iconst (v := 2) hx hb dX5_addTask_40 (by decide) ?_
      refine lv_goto (tgt := 78) hx hb dX5_addTask_41 (by decide) ?_
      refine tk_put (ty := .int) hx hb hts inX5 tyX5 tyX5_ok nmX5 hown hK hM hS hR.1 rfl 18 (by decide) (hts (.fieldLink RX5 66 "TicketForgeModel" "thrown" "I") (by decide +kernel)) (fun _ h9 => h9) rfl (by decide +kernel) rfl rfl (Nat.le_of_ble_eq_true rfl) dX5_addTask_78 (fun H locs hM hS => ?_)
      have hR := hR.th (v := 2)
      refine lv_aload_n hx hb dX5_addTask_81 rfl (lv_at hl 0 rfl) ?_
      refine tk_get hx hb hts inX5 hown hK hM hR.1 rfl 18 (by decide) (hts (.fieldLink RX5 66 "TicketForgeModel" "thrown" "I") (by decide +kernel)) (fun _ h9 => h9) rfl dX5_addTask_82 ?_
      refine lv_if_le (tgt := 90) hx hb dX5_addTask_85 (by decide) (fun c_13 => absurd c_13 (by decide)) (fun c_13 => ?_)
      refine lv_iconst (v := 0) hx hb dX5_addTask_88 (by decide) ?_
      have eS : S_addTask M p0 e0 b0 = (2, M, 0) := (by rw [S_addTask, if_neg (fun h => h.1 c_1), if_pos (Or.inl hr_2)])
      exact W.iret (v := 0) hx hb hr (fun t9 h9 w9 => ⟨⟨0, _, rfl, by rw [eS]; exact ⟨hR, rfl⟩, (by show tkM A D _ _; rw [h9]; exact hM)⟩, hS.F h9⟩) hS.2.2 dX5_addTask_89
  · skip
    refine lv_aload_n hx hb dX5_addTask_6 rfl (lv_at hl 0 rfl) ?_
    refine lv_iload_n hx hb dX5_addTask_7 rfl (lv_at hl 1 rfl) ?_
    refine tk_cVi (As := [.int p0]) S0 (c_X5_isTask l A D ac _ hR hW p0) (cwV 1 hts gX5_addTask_X5_isTask rfl rfl rfl (by decide +kernel) ⟨Nat.le_of_ble_eq_true rfl, Nat.le_of_ble_eq_true rfl⟩) (tkJ.blind) (tkJ.at hM hK) (tk_recv hK hM hR.1 rfl) rfl hl.1 rfl (Nat.le_of_ble_eq_true rfl) dX5_addTask_8 ⟨Nat.zero_le _, Nat.zero_le _⟩ (fun r_14 hr_14 => ?_)
    rcases hr_14 with ⟨rfl, hr_14⟩ | ⟨rfl, hr_14⟩
    · have hok := hr_14
      obtain ⟨t, ht, rfl⟩ := tkOk_ex (by omega) hr_14
      refine lv_if_ne (tgt := 18) hx hb dX5_addTask_11 (by decide) (fun c_15 => ?_) (fun c_15 => absurd c_15 (by decide))
      refine lv_iload_n hx hb dX5_addTask_18 rfl (lv_at hl 2 rfl) ?_
      refine lv_iconst (v := 1) hx hb dX5_addTask_19 (by decide) ?_
      refine lv_sipush (v := 400) hx hb dX5_addTask_20 (by decide) ?_
      refine tk_cSi (As := [.int e0, .int 1, .int 400]) S0 (c_X5_in l A D ac _ e0 1 400) (va_cwS 3 hts gX5_addTask_X5_in rfl rfl rfl (by decide +kernel) ⟨Nat.le_of_ble_eq_true rfl, Nat.le_of_ble_eq_true rfl⟩) (tkJ.blind) (tkJ.at hM hK) rfl hl.1 rfl (Nat.le_of_ble_eq_true rfl) dX5_addTask_23 ⟨Nat.zero_le _, Nat.zero_le _⟩ (fun r_16 hr_16 => ?_)
      rcases hr_16 with ⟨rfl, hr_16⟩ | ⟨rfl, hr_16⟩
      · skip
        refine lv_if_eq (tgt := 40) hx hb dX5_addTask_26 (by decide) (fun c_17 => absurd c_17 (by decide)) (fun c_17 => ?_)
        refine lv_iload_n hx hb dX5_addTask_29 rfl (lv_at hl 3 rfl) ?_
        refine lv_iconst (v := 0) hx hb dX5_addTask_30 (by decide) ?_
        refine lv_sipush (v := 400) hx hb dX5_addTask_31 (by decide) ?_
        refine tk_cSi (As := [.int b0, .int 0, .int 400]) S0 (c_X5_in l A D ac _ b0 0 400) (va_cwS 3 hts gX5_addTask_X5_in rfl rfl rfl (by decide +kernel) ⟨Nat.le_of_ble_eq_true rfl, Nat.le_of_ble_eq_true rfl⟩) (tkJ.blind) (tkJ.at hM hK) rfl hl.1 rfl (Nat.le_of_ble_eq_true rfl) dX5_addTask_34 ⟨Nat.zero_le _, Nat.zero_le _⟩ (fun r_18 hr_18 => ?_)
        rcases hr_18 with ⟨rfl, hr_18⟩ | ⟨rfl, hr_18⟩
        · skip
          refine lv_if_ne (tgt := 44) hx hb dX5_addTask_37 (by decide) (fun c_19 => ?_) (fun c_19 => absurd c_19 (by decide))
          refine lv_aload_n hx hb dX5_addTask_44 rfl (lv_at hl 0 rfl) ?_
          refine tk_get hx hb hts inX5 hown hK hM hR.1 rfl 19 (by decide) (hts (.fieldLink RX5 70 "TicketForgeModel" "tasks" "I") (by decide +kernel)) (fun _ h9 => h9) rfl dX5_addTask_45 ?_
          rw [hW.t.1]
          refine lv_bipush (v := 16) hx hb dX5_addTask_48 (by decide) ?_
          refine lv_icmp_ne (tgt := 57) hx hb dX5_addTask_50 (by decide) (fun c_20 => ?_) (fun c_20 => ?_)
          · have hlt : nT M < 16 := Nat.lt_of_le_of_ne bT (fun h => c_20 (by rw [h]; rfl))
            refine lv_iload_n hx hb dX5_addTask_57 rfl (lv_at hl 1 rfl) ?_
            refine lv_iconst (v := (-1)) hx hb dX5_addTask_58 (by decide) ?_
            refine lv_icmp_eq (tgt := 77) hx hb dX5_addTask_59 (by decide) (fun c_21 => absurd c_21 c_1) (fun c_21 => ?_)
            refine lv_aload_n hx hb dX5_addTask_62 rfl (lv_at hl 0 rfl) ?_
            refine tk_get hx hb hts inX5 hown hK hM hR.1 rfl 3 (by decide) (hts (.fieldLink RX5 19 "TicketForgeModel" "states" "[C") (by decide +kernel)) (fun _ h9 => h9) rfl dX5_addTask_63 ?_
            refine lv_iload_n hx hb dX5_addTask_66 rfl (lv_at hl 1 rfl) ?_
            refine tk_cald hx hb hK hM 0 hR.a3 rfl (vp_in_nI (by omega) (by decide)) dX5_addTask_67 ?_
            rw [show (nI t).toNatClampNeg = t from nI_clamp (by omega)]
            refine lv_bipush (v := 100) hx hb dX5_addTask_68 (by decide) ?_
            refine lv_icmp_ne (tgt := 77) hx hb dX5_addTask_70 (by decide) (fun c_22 => ?_) (fun c_22 => ?_)
            · skip
              refine lv_iconst (v := 0) hx hb dX5_addTask_77 (by decide) ?_
              refine tk_put (ty := .int) hx hb hts inX5 tyX5 tyX5_ok nmX5 hown hK hM hS hR.1 rfl 18 (by decide) (hts (.fieldLink RX5 66 "TicketForgeModel" "thrown" "I") (by decide +kernel)) (fun _ h9 => h9) rfl (by decide +kernel) rfl rfl (Nat.le_of_ble_eq_true rfl) dX5_addTask_78 (fun H locs hM hS => ?_)
              have hR := hR.th (v := 0)
              refine lv_aload_n hx hb dX5_addTask_81 rfl (lv_at hl 0 rfl) ?_
              refine tk_get hx hb hts inX5 hown hK hM hR.1 rfl 18 (by decide) (hts (.fieldLink RX5 66 "TicketForgeModel" "thrown" "I") (by decide +kernel)) (fun _ h9 => h9) rfl dX5_addTask_82 ?_
              refine lv_if_le (tgt := 90) hx hb dX5_addTask_85 (by decide) (fun c_23 => ?_) (fun c_23 => absurd (by decide) c_23)
              refine lv_aload_n hx hb dX5_addTask_90 rfl (lv_at hl 0 rfl) ?_
              refine tk_get hx hb hts inX5 hown hK hM hR.1 rfl 0 (by decide) (hts (.fieldLink RX5 7 "TicketForgeModel" "parents" "[I") (by decide +kernel)) (fun _ h9 => h9) rfl dX5_addTask_91 ?_
              refine lv_aload_n hx hb dX5_addTask_94 rfl (lv_at hl 0 rfl) ?_
              refine tk_get hx hb hts inX5 hown hK hM hR.1 rfl 19 (by decide) (hts (.fieldLink RX5 70 "TicketForgeModel" "tasks" "I") (by decide +kernel)) (fun _ h9 => h9) rfl dX5_addTask_95 ?_
              rw [hW.t.1]
              refine lv_iload_n hx hb dX5_addTask_98 rfl (lv_at hl 1 rfl) ?_
              refine tk_iast hx hb hK hM hS 1 hR.a0 rfl (vp_in_nI (by omega) (by decide)) dX5_addTask_99 (fun H locs hM hS => ?_)
              rw [show (nI (nT M)).toNatClampNeg = (nT M) from nI_clamp (by omega)] at hM
              have hR := hR.p0 (i := (nT M)) (v := (nI t))
              refine lv_aload_n hx hb dX5_addTask_100 rfl (lv_at hl 0 rfl) ?_
              refine tk_get hx hb hts inX5 hown hK hM hR.1 rfl 1 (by decide) (hts (.fieldLink RX5 13 "TicketForgeModel" "estimates" "[I") (by decide +kernel)) (fun _ h9 => h9) rfl dX5_addTask_101 ?_
              refine lv_aload_n hx hb dX5_addTask_104 rfl (lv_at hl 0 rfl) ?_
              refine tk_get hx hb hts inX5 hown hK hM hR.1 rfl 19 (by decide) (hts (.fieldLink RX5 70 "TicketForgeModel" "tasks" "I") (by decide +kernel)) (fun _ h9 => h9) rfl dX5_addTask_105 ?_
              rw [show (st M 1 (nT M) (nI t)) 0 19 = nI (nT M) from hW.t.1]
              refine lv_iload_n hx hb dX5_addTask_108 rfl (lv_at hl 2 rfl) ?_
              refine tk_iast hx hb hK hM hS 1 hR.a1 rfl (vp_in_nI (by omega) (by decide)) dX5_addTask_109 (fun H locs hM hS => ?_)
              rw [show (nI (nT M)).toNatClampNeg = (nT M) from nI_clamp (by omega)] at hM
              have hR := hR.p1 (i := (nT M)) (v := e0)
              refine lv_aload_n hx hb dX5_addTask_110 rfl (lv_at hl 0 rfl) ?_
              refine tk_get hx hb hts inX5 hown hK hM hR.1 rfl 2 (by decide) (hts (.fieldLink RX5 16 "TicketForgeModel" "budgets" "[I") (by decide +kernel)) (fun _ h9 => h9) rfl dX5_addTask_111 ?_
              refine lv_aload_n hx hb dX5_addTask_114 rfl (lv_at hl 0 rfl) ?_
              refine tk_get hx hb hts inX5 hown hK hM hR.1 rfl 19 (by decide) (hts (.fieldLink RX5 70 "TicketForgeModel" "tasks" "I") (by decide +kernel)) (fun _ h9 => h9) rfl dX5_addTask_115 ?_
              rw [show (st (st M 1 (nT M) (nI t)) 2 (nT M) e0) 0 19 = nI (nT M) from hW.t.1]
              refine lv_iload_n hx hb dX5_addTask_118 rfl (lv_at hl 3 rfl) ?_
              refine tk_iast hx hb hK hM hS 1 hR.a2 rfl (vp_in_nI (by omega) (by decide)) dX5_addTask_119 (fun H locs hM hS => ?_)
              rw [show (nI (nT M)).toNatClampNeg = (nT M) from nI_clamp (by omega)] at hM
              have hR := hR.p2 (i := (nT M)) (v := b0)
              refine lv_aload_n hx hb dX5_addTask_120 rfl (lv_at hl 0 rfl) ?_
              refine tk_get hx hb hts inX5 hown hK hM hR.1 rfl 3 (by decide) (hts (.fieldLink RX5 19 "TicketForgeModel" "states" "[C") (by decide +kernel)) (fun _ h9 => h9) rfl dX5_addTask_121 ?_
              refine lv_aload_n hx hb dX5_addTask_124 rfl (lv_at hl 0 rfl) ?_
              refine tk_get hx hb hts inX5 hown hK hM hR.1 rfl 19 (by decide) (hts (.fieldLink RX5 70 "TicketForgeModel" "tasks" "I") (by decide +kernel)) (fun _ h9 => h9) rfl dX5_addTask_125 ?_
              rw [show (st (st (st M 1 (nT M) (nI t)) 2 (nT M) e0) 3 (nT M) b0) 0 19 = nI (nT M) from hW.t.1]
              refine lv_bipush (v := 111) hx hb dX5_addTask_128 (by decide) ?_
              refine tk_cast hx hb hK hM hS 0 hR.a3 rfl (show vp_nar .char 111 = 111 from rfl) (vp_in_nI (by omega) (by decide)) dX5_addTask_130 (fun H locs hM hS => ?_)
              rw [show (nI (nT M)).toNatClampNeg = (nT M) from nI_clamp (by omega)] at hM
              have hR := hR.p3 (i := (nT M)) (v := 111)
              refine lv_aload_n hx hb dX5_addTask_131 rfl (lv_at hl 0 rfl) ?_
              refine lv_dup hx hb dX5_addTask_132 rfl ?_
              refine tk_get hx hb hts inX5 hown hK hM hR.1 rfl 19 (by decide) (hts (.fieldLink RX5 70 "TicketForgeModel" "tasks" "I") (by decide +kernel)) (fun _ h9 => h9) rfl dX5_addTask_133 ?_
              rw [show (st (st (st (st M 1 (nT M) (nI t)) 2 (nT M) e0) 3 (nT M) b0) 4 (nT M) 111) 0 19 = nI (nT M) from hW.t.1]
              refine lv_iconst (v := 1) hx hb dX5_addTask_136 (by decide) ?_
              refine lv_iadd hx hb dX5_addTask_137 ?_
              refine tk_put (ty := .int) hx hb hts inX5 tyX5 tyX5_ok nmX5 hown hK hM hS hR.1 rfl 19 (by decide) (hts (.fieldLink RX5 70 "TicketForgeModel" "tasks" "I") (by decide +kernel)) (fun _ h9 => h9) rfl (by decide +kernel) rfl rfl (Nat.le_of_ble_eq_true rfl) dX5_addTask_138 (fun H locs hM hS => ?_)
              have hR := hR.sc 19 (mF_19 _ _ _ ((nI (nT M)) + 1))
              refine lv_aload_n hx hb dX5_addTask_141 rfl (lv_at hl 0 rfl) ?_
              refine tk_get hx hb hts inX5 hown hK hM hR.1 rfl 19 (by decide) (hts (.fieldLink RX5 70 "TicketForgeModel" "tasks" "I") (by decide +kernel)) (fun _ h9 => h9) rfl dX5_addTask_142 ?_
              rw [show (st (st (st (st (st M 1 (nT M) (nI t)) 2 (nT M) e0) 3 (nT M) b0) 4 (nT M) 111) 0 19 ((nI (nT M)) + 1)) 0 19 = nI (nT M) + 1 from st_self _ _ _ _]
              refine lv_iconst (v := 1) hx hb dX5_addTask_145 (by decide) ?_
              refine lv_isub hx hb dX5_addTask_146 ?_
              have eS : S_addTask M (nI t) e0 b0 = (0, (st (st (st (st (st M 1 (nT M) (nI t)) 2 (nT M) e0) 3 (nT M) b0) 4 (nT M) 111) 0 19 ((nI (nT M)) + 1)), nI (nT M)) := (by rw [S_addTask, show tn (nI t) = t from nI_clamp (show t < 2 ^ 31 by omega), if_neg (by rw [hok]; exact fun h => absurd h.2 (by decide)), if_neg (by rw [hr_16, hr_18]; decide), if_neg (by rw [hW.t.1]; exact c_20), if_neg (fun h => c_22 h.2)])
              exact W.iret (v := ((nI (nT M) + 1) - 1)) hx hb hr (fun t9 h9 w9 => ⟨⟨((nI (nT M) + 1) - 1), _, rfl, by rw [eS]; exact ⟨hR, Int32.add_sub_cancel _ _⟩, (by show tkM A D _ _; rw [h9]; exact hM)⟩, hS.F h9⟩) hS.2.2 dX5_addTask_147
            · skip
              refine lv_iconst (v := 4) hx hb dX5_addTask_73 (by decide) ?_
              refine lv_goto (tgt := 78) hx hb dX5_addTask_74 (by decide) ?_
              refine tk_put (ty := .int) hx hb hts inX5 tyX5 tyX5_ok nmX5 hown hK hM hS hR.1 rfl 18 (by decide) (hts (.fieldLink RX5 66 "TicketForgeModel" "thrown" "I") (by decide +kernel)) (fun _ h9 => h9) rfl (by decide +kernel) rfl rfl (Nat.le_of_ble_eq_true rfl) dX5_addTask_78 (fun H locs hM hS => ?_)
              have hR := hR.th (v := 4)
              refine lv_aload_n hx hb dX5_addTask_81 rfl (lv_at hl 0 rfl) ?_
              refine tk_get hx hb hts inX5 hown hK hM hR.1 rfl 18 (by decide) (hts (.fieldLink RX5 66 "TicketForgeModel" "thrown" "I") (by decide +kernel)) (fun _ h9 => h9) rfl dX5_addTask_82 ?_
              refine lv_if_le (tgt := 90) hx hb dX5_addTask_85 (by decide) (fun c_24 => absurd c_24 (by decide)) (fun c_24 => ?_)
              refine lv_iconst (v := 0) hx hb dX5_addTask_88 (by decide) ?_
              have eS : S_addTask M (nI t) e0 b0 = (4, M, 0) := (by rw [S_addTask, show tn (nI t) = t from nI_clamp (show t < 2 ^ 31 by omega), if_neg (by rw [hok]; exact fun h => absurd h.2 (by decide)), if_neg (by rw [hr_16, hr_18]; decide), if_neg (by rw [hW.t.1]; exact c_20), if_pos ⟨c_1, c_22⟩])
              exact W.iret (v := 0) hx hb hr (fun t9 h9 w9 => ⟨⟨0, _, rfl, by rw [eS]; exact ⟨hR, rfl⟩, (by show tkM A D _ _; rw [h9]; exact hM)⟩, hS.F h9⟩) hS.2.2 dX5_addTask_89
          · skip
            refine lv_iconst (v := 3) hx hb dX5_addTask_53 (by decide) ?_
            refine lv_goto (tgt := 78) hx hb dX5_addTask_54 (by decide) ?_
            refine tk_put (ty := .int) hx hb hts inX5 tyX5 tyX5_ok nmX5 hown hK hM hS hR.1 rfl 18 (by decide) (hts (.fieldLink RX5 66 "TicketForgeModel" "thrown" "I") (by decide +kernel)) (fun _ h9 => h9) rfl (by decide +kernel) rfl rfl (Nat.le_of_ble_eq_true rfl) dX5_addTask_78 (fun H locs hM hS => ?_)
            have hR := hR.th (v := 3)
            refine lv_aload_n hx hb dX5_addTask_81 rfl (lv_at hl 0 rfl) ?_
            refine tk_get hx hb hts inX5 hown hK hM hR.1 rfl 18 (by decide) (hts (.fieldLink RX5 66 "TicketForgeModel" "thrown" "I") (by decide +kernel)) (fun _ h9 => h9) rfl dX5_addTask_82 ?_
            refine lv_if_le (tgt := 90) hx hb dX5_addTask_85 (by decide) (fun c_25 => absurd c_25 (by decide)) (fun c_25 => ?_)
            refine lv_iconst (v := 0) hx hb dX5_addTask_88 (by decide) ?_
            have eS : S_addTask M (nI t) e0 b0 = (3, M, 0) := (by rw [S_addTask, show tn (nI t) = t from nI_clamp (show t < 2 ^ 31 by omega), if_neg (by rw [hok]; exact fun h => absurd h.2 (by decide)), if_neg (by rw [hr_16, hr_18]; decide), if_pos (by rw [hW.t.1]; exact c_20)])
            exact W.iret (v := 0) hx hb hr (fun t9 h9 w9 => ⟨⟨0, _, rfl, by rw [eS]; exact ⟨hR, rfl⟩, (by show tkM A D _ _; rw [h9]; exact hM)⟩, hS.F h9⟩) hS.2.2 dX5_addTask_89
        · skip
          refine lv_if_ne (tgt := 44) hx hb dX5_addTask_37 (by decide) (fun c_26 => absurd c_26 (by decide)) (fun c_26 => ?_)
          refine lv_iconst (v := 2) hx hb dX5_addTask_40 (by decide) ?_
          refine lv_goto (tgt := 78) hx hb dX5_addTask_41 (by decide) ?_
          refine tk_put (ty := .int) hx hb hts inX5 tyX5 tyX5_ok nmX5 hown hK hM hS hR.1 rfl 18 (by decide) (hts (.fieldLink RX5 66 "TicketForgeModel" "thrown" "I") (by decide +kernel)) (fun _ h9 => h9) rfl (by decide +kernel) rfl rfl (Nat.le_of_ble_eq_true rfl) dX5_addTask_78 (fun H locs hM hS => ?_)
          have hR := hR.th (v := 2)
          refine lv_aload_n hx hb dX5_addTask_81 rfl (lv_at hl 0 rfl) ?_
          refine tk_get hx hb hts inX5 hown hK hM hR.1 rfl 18 (by decide) (hts (.fieldLink RX5 66 "TicketForgeModel" "thrown" "I") (by decide +kernel)) (fun _ h9 => h9) rfl dX5_addTask_82 ?_
          refine lv_if_le (tgt := 90) hx hb dX5_addTask_85 (by decide) (fun c_27 => absurd c_27 (by decide)) (fun c_27 => ?_)
          refine lv_iconst (v := 0) hx hb dX5_addTask_88 (by decide) ?_
          have eS : S_addTask M (nI t) e0 b0 = (2, M, 0) := (by rw [S_addTask, show tn (nI t) = t from nI_clamp (show t < 2 ^ 31 by omega), if_neg (by rw [hok]; exact fun h => absurd h.2 (by decide)), if_pos (Or.inr (hr_18))])
          exact W.iret (v := 0) hx hb hr (fun t9 h9 w9 => ⟨⟨0, _, rfl, by rw [eS]; exact ⟨hR, rfl⟩, (by show tkM A D _ _; rw [h9]; exact hM)⟩, hS.F h9⟩) hS.2.2 dX5_addTask_89
      · skip
        refine lv_if_eq (tgt := 40) hx hb dX5_addTask_26 (by decide) (fun c_28 => ?_) (fun c_28 => absurd (by decide) c_28)
        refine lv_iconst (v := 2) hx hb dX5_addTask_40 (by decide) ?_
        refine lv_goto (tgt := 78) hx hb dX5_addTask_41 (by decide) ?_
        refine tk_put (ty := .int) hx hb hts inX5 tyX5 tyX5_ok nmX5 hown hK hM hS hR.1 rfl 18 (by decide) (hts (.fieldLink RX5 66 "TicketForgeModel" "thrown" "I") (by decide +kernel)) (fun _ h9 => h9) rfl (by decide +kernel) rfl rfl (Nat.le_of_ble_eq_true rfl) dX5_addTask_78 (fun H locs hM hS => ?_)
        have hR := hR.th (v := 2)
        refine lv_aload_n hx hb dX5_addTask_81 rfl (lv_at hl 0 rfl) ?_
        refine tk_get hx hb hts inX5 hown hK hM hR.1 rfl 18 (by decide) (hts (.fieldLink RX5 66 "TicketForgeModel" "thrown" "I") (by decide +kernel)) (fun _ h9 => h9) rfl dX5_addTask_82 ?_
        refine lv_if_le (tgt := 90) hx hb dX5_addTask_85 (by decide) (fun c_29 => absurd c_29 (by decide)) (fun c_29 => ?_)
        refine lv_iconst (v := 0) hx hb dX5_addTask_88 (by decide) ?_
        have eS : S_addTask M (nI t) e0 b0 = (2, M, 0) := (by rw [S_addTask, show tn (nI t) = t from nI_clamp (show t < 2 ^ 31 by omega), if_neg (by rw [hok]; exact fun h => absurd h.2 (by decide)), if_pos (Or.inl hr_16)])
        exact W.iret (v := 0) hx hb hr (fun t9 h9 w9 => ⟨⟨0, _, rfl, by rw [eS]; exact ⟨hR, rfl⟩, (by show tkM A D _ _; rw [h9]; exact hM)⟩, hS.F h9⟩) hS.2.2 dX5_addTask_89
    · skip
      refine lv_if_ne (tgt := 18) hx hb dX5_addTask_11 (by decide) (fun c_30 => absurd c_30 (by decide)) (fun c_30 => ?_)
      refine lv_iconst (v := 1) hx hb dX5_addTask_14 (by decide) ?_
      refine lv_goto (tgt := 78) hx hb dX5_addTask_15 (by decide) ?_
      refine tk_put (ty := .int) hx hb hts inX5 tyX5 tyX5_ok nmX5 hown hK hM hS hR.1 rfl 18 (by decide) (hts (.fieldLink RX5 66 "TicketForgeModel" "thrown" "I") (by decide +kernel)) (fun _ h9 => h9) rfl (by decide +kernel) rfl rfl (Nat.le_of_ble_eq_true rfl) dX5_addTask_78 (fun H locs hM hS => ?_)
      have hR := hR.th (v := 1)
      refine lv_aload_n hx hb dX5_addTask_81 rfl (lv_at hl 0 rfl) ?_
      refine tk_get hx hb hts inX5 hown hK hM hR.1 rfl 18 (by decide) (hts (.fieldLink RX5 66 "TicketForgeModel" "thrown" "I") (by decide +kernel)) (fun _ h9 => h9) rfl dX5_addTask_82 ?_
      refine lv_if_le (tgt := 90) hx hb dX5_addTask_85 (by decide) (fun c_31 => absurd c_31 (by decide)) (fun c_31 => ?_)
      refine lv_iconst (v := 0) hx hb dX5_addTask_88 (by decide) ?_
      have eS : S_addTask M p0 e0 b0 = (1, M, 0) := (by rw [S_addTask, if_pos ⟨c_1, hr_14⟩])
      exact W.iret (v := 0) hx hb hr (fun t9 h9 w9 => ⟨⟨0, _, rfl, by rw [eS]; exact ⟨hR, rfl⟩, (by show tkM A D _ _; rw [h9]; exact hM)⟩, hS.F h9⟩) hS.2.2 dX5_addTask_89
set_option maxHeartbeats 4000000 in
set_option maxRecDepth 100000 in
theorem c_X5_note (l : Launch) (A : Nat → Prop) (D : va_G) (ac : Nat → ClassId) (G : TG) {m0 : Nat} {am : Nat → Nat} {th : Int32} {M : TS} (hR : PR ac m0 am th M G) (hW : W0 M) (x : Int32) (p0 : Int32) (w0 : Int32) (hv0 : Int32) : Met l yX5_note wsX5_note ({ frames := 4, cells := 0, slots := 0, locals := 220 } : Room) (va_Pc [.ref m0, .int x, .int p0, .int w0, .int hv0] (tkJ A D ac G)) (va_Qi (fun (z : Int32) (G9 : TG) => PR ac m0 am (S_note M x p0 w0 hv0).1 (S_note M x p0 w0 hv0).2.1 G9 ∧ z = (S_note M x p0 w0 hv0).2.2) (fun (G9 : TG) t => tkM A D G9 t.heap) A) 0 0 A := by
  refine Met.ofW (cc := cX5_note) (maxL := 7) (ret := (some .int)) (by decide) rfl ?_
  intro p e s m args below meth c s₁ B hml hv
  obtain ⟨rfl, hM, hK⟩ := hv
  have hS : va_S A s.heap s.heap [] := va_S.rf
  have hx := B.exec
  have hb := B.bytes
  have hr := B.returns
  have hts := atoms_spec (ws := wsX5_note) B.pre
  have hown : s.vm.findClass RX5 = some m.cls := findClass_of_methodNamed B.named
  have hlocks := B.notSynchronized
  have S0 : CallFix p m c cX5_note 7 s ([.ref m0, .int x, .int p0, .int w0, .int hv0] : List Value).toArray wsX5_note RX5 := ⟨hx, hb, hml, hown, hts⟩
  have inX5 : ∀ w ∈ wsX50, w ∈ wsX5_note := by decide +kernel
  have hl := lv_entry ([.ref m0, .int x, .int p0, .int w0, .int hv0]) (n := 7) (Nat.le_of_ble_eq_true rfl)
  rw [lg_entry_eq]
  generalize (lg_sl ([.ref m0, .int x, .int p0, .int w0, .int hv0]) ++ List.replicate (7 - (lg_sl ([.ref m0, .int x, .int p0, .int w0, .int hv0])).length) Slot.unset).toArray = ls at hl ⊢
  have hl : lv_has ls 7 [(0, .ref m0), (1, .int x), (2, .int p0), (3, .int w0), (4, .int hv0)] := hl
  have bT := hW.t.2
  have bE := hW.e.2
  have bV := hW.v.2
  refine lv_aload_n hx hb dX5_note_0 rfl (lv_at hl 0 rfl) ?_
  refine lv_aload_n hx hb dX5_note_1 rfl (lv_at hl 0 rfl) ?_
  refine lv_iload_n hx hb dX5_note_2 rfl (lv_at hl 1 rfl) ?_
  refine tk_cVi (As := [.int x]) S0 (c_X5_isTask l A D ac _ hR hW x) (cwV 1 hts gX5_note_X5_isTask rfl rfl rfl (by decide +kernel) ⟨Nat.le_of_ble_eq_true rfl, Nat.le_of_ble_eq_true rfl⟩) (tkJ.blind) (tkJ.at hM hK) (tk_recv hK hM hR.1 rfl) rfl hl.1 rfl (Nat.le_of_ble_eq_true rfl) dX5_note_3 ⟨Nat.zero_le _, Nat.zero_le _⟩ (fun r_1 hr_1 => ?_)
  rcases hr_1 with ⟨rfl, hr_1⟩ | ⟨rfl, hr_1⟩
  · have hok := hr_1
    obtain ⟨t, ht, rfl⟩ := tkOk_ex (by omega) hr_1
    refine lv_if_ne (tgt := 13) hx hb dX5_note_6 (by decide) (fun c_2 => ?_) (fun c_2 => absurd c_2 (by decide))
    refine lv_iload_n hx hb dX5_note_13 rfl (lv_at hl 2 rfl) ?_
    refine lv_iconst (v := 0) hx hb dX5_note_14 (by decide) ?_
    refine lv_iconst (v := 3) hx hb dX5_note_15 (by decide) ?_
    refine tk_cSi (As := [.int p0, .int 0, .int 3]) S0 (c_X5_in l A D ac _ p0 0 3) (va_cwS 3 hts gX5_note_X5_in rfl rfl rfl (by decide +kernel) ⟨Nat.le_of_ble_eq_true rfl, Nat.le_of_ble_eq_true rfl⟩) (tkJ.blind) (tkJ.at hM hK) rfl hl.1 rfl (Nat.le_of_ble_eq_true rfl) dX5_note_16 ⟨Nat.zero_le _, Nat.zero_le _⟩ (fun r_3 hr_3 => ?_)
    rcases hr_3 with ⟨rfl, hr_3⟩ | ⟨rfl, hr_3⟩
    · have hok_p0 : tkOk 4 p0 = true := by first | exact hr_3 | (rw [← tkIn_n (by decide)]; exact hr_3)
      obtain ⟨q, hq, rfl⟩ := tkOk_ex (by decide) hok_p0
      refine lv_if_eq (tgt := 40) hx hb dX5_note_19 (by decide) (fun c_4 => absurd c_4 (by decide)) (fun c_4 => ?_)
      refine lv_iload_n hx hb dX5_note_22 rfl (lv_at hl 3 rfl) ?_
      refine tk_cSi (As := [.int w0]) S0 (c_X5_isWeek l A D ac _ w0) (va_cwS 1 hts gX5_note_X5_isWeek rfl rfl rfl (by decide +kernel) ⟨Nat.le_of_ble_eq_true rfl, Nat.le_of_ble_eq_true rfl⟩) (tkJ.blind) (tkJ.at hM hK) rfl hl.1 rfl (Nat.le_of_ble_eq_true rfl) dX5_note_23 ⟨Nat.zero_le _, Nat.zero_le _⟩ (fun r_5 hr_5 => ?_)
      rcases hr_5 with ⟨rfl, hr_5⟩ | ⟨rfl, hr_5⟩
      · have hok_w0 : tkOk 30 w0 = true := by first | exact hr_5 | (rw [← tkIn_n (by decide)]; exact hr_5)
        obtain ⟨w, hw, rfl⟩ := tkOk_ex (by decide) hok_w0
        refine lv_if_eq (tgt := 40) hx hb dX5_note_26 (by decide) (fun c_6 => absurd c_6 (by decide)) (fun c_6 => ?_)
        refine lv_iload hx hb dX5_note_29 (lv_at hl 4 rfl) ?_
        refine lv_iconst (v := 1) hx hb dX5_note_31 (by decide) ?_
        refine lv_bipush (v := 40) hx hb dX5_note_32 (by decide) ?_
        refine tk_cSi (As := [.int hv0, .int 1, .int 40]) S0 (c_X5_in l A D ac _ hv0 1 40) (va_cwS 3 hts gX5_note_X5_in rfl rfl rfl (by decide +kernel) ⟨Nat.le_of_ble_eq_true rfl, Nat.le_of_ble_eq_true rfl⟩) (tkJ.blind) (tkJ.at hM hK) rfl hl.1 rfl (Nat.le_of_ble_eq_true rfl) dX5_note_34 ⟨Nat.zero_le _, Nat.zero_le _⟩ (fun r_7 hr_7 => ?_)
        rcases hr_7 with ⟨rfl, hr_7⟩ | ⟨rfl, hr_7⟩
        · skip
          refine lv_if_ne (tgt := 44) hx hb dX5_note_37 (by decide) (fun c_8 => ?_) (fun c_8 => absurd c_8 (by decide))
          refine lv_aload_n hx hb dX5_note_44 rfl (lv_at hl 0 rfl) ?_
          refine tk_get hx hb hts inX5 hown hK hM hR.1 rfl 6 (by decide) (hts (.fieldLink RX5 30 "TicketForgeModel" "areLocked" "[Z") (by decide +kernel)) (fun _ h9 => h9) rfl dX5_note_45 ?_
          refine lv_iload_n hx hb dX5_note_48 rfl (lv_at hl 3 rfl) ?_
          refine tk_zald hx hb hK hM 2 hR.a6 rfl (vp_in_nI (by omega) (by decide)) dX5_note_49 ?_
          rw [show (nI w).toNatClampNeg = w from nI_clamp (by omega)]
          refine lv_if_eq (tgt := 57) hx hb dX5_note_50 (by decide) (fun c_9 => ?_) (fun c_9 => ?_)
          · skip
            refine lv_iconst (v := 0) hx hb dX5_note_57 (by decide) ?_
            refine tk_put (ty := .int) hx hb hts inX5 tyX5 tyX5_ok nmX5 hown hK hM hS hR.1 rfl 18 (by decide) (hts (.fieldLink RX5 66 "TicketForgeModel" "thrown" "I") (by decide +kernel)) (fun _ h9 => h9) rfl (by decide +kernel) rfl rfl (Nat.le_of_ble_eq_true rfl) dX5_note_58 (fun H locs hM hS => ?_)
            have hR := hR.th (v := 0)
            refine lv_aload_n hx hb dX5_note_61 rfl (lv_at hl 0 rfl) ?_
            refine tk_get hx hb hts inX5 hown hK hM hR.1 rfl 18 (by decide) (hts (.fieldLink RX5 66 "TicketForgeModel" "thrown" "I") (by decide +kernel)) (fun _ h9 => h9) rfl dX5_note_62 ?_
            refine lv_if_le (tgt := 70) hx hb dX5_note_65 (by decide) (fun c_10 => ?_) (fun c_10 => absurd (by decide) c_10)
            refine lv_aload_n hx hb dX5_note_70 rfl (lv_at hl 0 rfl) ?_
            refine lv_iload_n hx hb dX5_note_71 rfl (lv_at hl 1 rfl) ?_
            refine tk_cVi (As := [.int (nI t)]) S0 (c_X5_roomFor l A D ac _ hR hW t (by omega) ) (cwV 1 hts gX5_note_X5_roomFor rfl rfl rfl (by decide +kernel) ⟨Nat.le_of_ble_eq_true rfl, Nat.le_of_ble_eq_true rfl⟩) (tkJ.blind) (tkJ.at hM hK) (tk_recv hK hM hR.1 rfl) rfl hl.1 rfl (Nat.le_of_ble_eq_true rfl) dX5_note_72 ⟨Nat.zero_le _, Nat.zero_le _⟩ (fun r_11 hr_11 => ?_)
            skip
            refine lv_istore (lv' := [(5, .int r_11), (0, .ref m0), (1, .int (nI t)), (2, .int (nI q)), (3, .int (nI w)), (4, .int hv0)]) hx hb dX5_note_75 hl (by decide) rfl (fun ls hl => ?_)
            refine lv_aload_n hx hb dX5_note_77 rfl (lv_at hl 1 rfl) ?_
            refine tk_get hx hb hts inX5 hown hK hM hR.1 rfl 3 (by decide) (hts (.fieldLink RX5 19 "TicketForgeModel" "states" "[C") (by decide +kernel)) (fun _ h9 => h9) rfl dX5_note_78 ?_
            refine lv_iload_n hx hb dX5_note_81 rfl (lv_at hl 2 rfl) ?_
            refine tk_cald hx hb hK hM 0 hR.a3 rfl (vp_in_nI (by omega) (by decide)) dX5_note_82 ?_
            rw [show (nI t).toNatClampNeg = t from nI_clamp (by omega)]
            refine lv_bipush (v := 119) hx hb dX5_note_83 (by decide) ?_
            refine lv_icmp_eq (tgt := 99) hx hb dX5_note_85 (by decide) (fun c_12 => ?_) (fun c_12 => ?_)
            · skip
              refine lv_iload hx hb dX5_note_99 (lv_at hl 0 rfl) ?_
              refine lv_iconst (v := (-1)) hx hb dX5_note_101 (by decide) ?_
              refine lv_icmp_eq (tgt := 112) hx hb dX5_note_102 (by decide) (fun c_13 => ?_) (fun c_13 => ?_)
              · skip
                refine lv_aload_n hx hb dX5_note_112 rfl (lv_at hl 1 rfl) ?_
                refine tk_get hx hb hts inX5 hown hK hM hR.1 rfl 21 (by decide) (hts (.fieldLink RX5 76 "TicketForgeModel" "entries" "I") (by decide +kernel)) (fun _ h9 => h9) rfl dX5_note_113 ?_
                rw [hW.e.1]
                refine lv_bipush (v := 60) hx hb dX5_note_116 (by decide) ?_
                refine lv_icmp_ge (tgt := 125) hx hb dX5_note_118 (by decide) (fun c_14 => ?_) (fun c_14 => ?_)
                · skip
                  refine lv_iconst (v := 0) hx hb dX5_note_125 (by decide) ?_
                  refine lv_istore (lv' := [(6, .int 0), (5, .int r_11), (0, .ref m0), (1, .int (nI t)), (2, .int (nI q)), (3, .int (nI w)), (4, .int hv0)]) hx hb dX5_note_126 hl (by decide) rfl (fun ls hl => ?_)
                  refine lv_aload_n hx hb dX5_note_128 rfl (lv_at hl 2 rfl) ?_
                  refine lv_iload hx hb dX5_note_129 (lv_at hl 0 rfl) ?_
                  refine lv_if_eq (tgt := 138) hx hb dX5_note_131 (by decide) (fun c_15 => ?_) (fun c_15 => absurd (by decide) c_15)
                  refine lv_iconst (v := 4) hx hb dX5_note_138 (by decide) ?_
                  refine tk_put (ty := .int) hx hb hts inX5 tyX5 tyX5_ok nmX5 hown hK hM hS hR.1 rfl 18 (by decide) (hts (.fieldLink RX5 66 "TicketForgeModel" "thrown" "I") (by decide +kernel)) (fun _ h9 => h9) rfl (by decide +kernel) rfl rfl (Nat.le_of_ble_eq_true rfl) dX5_note_139 (fun H locs hM hS => ?_)
                  have hR := hR.th (v := 4)
                  refine lv_aload_n hx hb dX5_note_142 rfl (lv_at hl 2 rfl) ?_
                  refine tk_get hx hb hts inX5 hown hK hM hR.1 rfl 18 (by decide) (hts (.fieldLink RX5 66 "TicketForgeModel" "thrown" "I") (by decide +kernel)) (fun _ h9 => h9) rfl dX5_note_143 ?_
                  refine lv_if_le (tgt := 151) hx hb dX5_note_146 (by decide) (fun c_16 => absurd c_16 (by decide)) (fun c_16 => ?_)
                  refine lv_iconst (v := 0) hx hb dX5_note_149 (by decide) ?_
                  have eS : S_note M (nI t) (nI q) (nI w) hv0 = (4, M, 0) := (by rw [S_note, show tn (nI t) = t from nI_clamp (show t < 2 ^ 31 by omega), show tn (nI w) = w from nI_clamp (show w < 2 ^ 31 by omega), if_neg (by rw [hok]; decide), if_neg (by rw [hok_p0, hok_w0, hr_7]; decide), if_neg (fun h => h c_9), if_neg (fun h => absurd h.2.2 (by rw [hW.e.1]; exact Int32.not_lt.mpr c_14))])
                  exact W.iret (v := 0) hx hb hr (fun t9 h9 w9 => ⟨⟨0, _, rfl, by rw [eS]; exact ⟨hR, rfl⟩, (by show tkM A D _ _; rw [h9]; exact hM)⟩, hS.F h9⟩) hS.2.2 dX5_note_150
                · have hlt : nE M < 60 := tk_lt (b := nE M) (a := 60) (by decide) (by omega) c_14
                  refine lv_iconst (v := 1) hx hb dX5_note_121 (by decide) ?_
                  refine lv_goto (tgt := 126) hx hb dX5_note_122 (by decide) ?_
                  refine lv_istore (lv' := [(6, .int 1), (5, .int r_11), (0, .ref m0), (1, .int (nI t)), (2, .int (nI q)), (3, .int (nI w)), (4, .int hv0)]) hx hb dX5_note_126 hl (by decide) rfl (fun ls hl => ?_)
                  refine lv_aload_n hx hb dX5_note_128 rfl (lv_at hl 2 rfl) ?_
                  refine lv_iload hx hb dX5_note_129 (lv_at hl 0 rfl) ?_
                  refine lv_if_eq (tgt := 138) hx hb dX5_note_131 (by decide) (fun c_17 => absurd c_17 (by decide)) (fun c_17 => ?_)
                  refine lv_iconst (v := 0) hx hb dX5_note_134 (by decide) ?_
                  refine lv_goto (tgt := 139) hx hb dX5_note_135 (by decide) ?_
                  refine tk_put (ty := .int) hx hb hts inX5 tyX5 tyX5_ok nmX5 hown hK hM hS hR.1 rfl 18 (by decide) (hts (.fieldLink RX5 66 "TicketForgeModel" "thrown" "I") (by decide +kernel)) (fun _ h9 => h9) rfl (by decide +kernel) rfl rfl (Nat.le_of_ble_eq_true rfl) dX5_note_139 (fun H locs hM hS => ?_)
                  have hR := hR.th (v := 0)
                  refine lv_aload_n hx hb dX5_note_142 rfl (lv_at hl 2 rfl) ?_
                  refine tk_get hx hb hts inX5 hown hK hM hR.1 rfl 18 (by decide) (hts (.fieldLink RX5 66 "TicketForgeModel" "thrown" "I") (by decide +kernel)) (fun _ h9 => h9) rfl dX5_note_143 ?_
                  refine lv_if_le (tgt := 151) hx hb dX5_note_146 (by decide) (fun c_18 => ?_) (fun c_18 => absurd (by decide) c_18)
                  refine lv_aload_n hx hb dX5_note_151 rfl (lv_at hl 2 rfl) ?_
                  refine tk_get hx hb hts inX5 hown hK hM hR.1 rfl 8 (by decide) (hts (.fieldLink RX5 36 "TicketForgeModel" "tasksOf" "[I") (by decide +kernel)) (fun _ h9 => h9) rfl dX5_note_152 ?_
                  refine lv_aload_n hx hb dX5_note_155 rfl (lv_at hl 2 rfl) ?_
                  refine tk_get hx hb hts inX5 hown hK hM hR.1 rfl 21 (by decide) (hts (.fieldLink RX5 76 "TicketForgeModel" "entries" "I") (by decide +kernel)) (fun _ h9 => h9) rfl dX5_note_156 ?_
                  rw [hW.e.1]
                  refine lv_iload_n hx hb dX5_note_159 rfl (lv_at hl 3 rfl) ?_
                  refine tk_iast hx hb hK hM hS 1 hR.a8 rfl (vp_in_nI (by omega) (by decide)) dX5_note_160 (fun H locs hM hS => ?_)
                  rw [show (nI (nE M)).toNatClampNeg = (nE M) from nI_clamp (by omega)] at hM
                  have hR := hR.p8 (i := (nE M)) (v := (nI t))
                  refine lv_aload_n hx hb dX5_note_161 rfl (lv_at hl 2 rfl) ?_
                  refine tk_get hx hb hts inX5 hown hK hM hR.1 rfl 9 (by decide) (hts (.fieldLink RX5 39 "TicketForgeModel" "persons" "[I") (by decide +kernel)) (fun _ h9 => h9) rfl dX5_note_162 ?_
                  refine lv_aload_n hx hb dX5_note_165 rfl (lv_at hl 2 rfl) ?_
                  refine tk_get hx hb hts inX5 hown hK hM hR.1 rfl 21 (by decide) (hts (.fieldLink RX5 76 "TicketForgeModel" "entries" "I") (by decide +kernel)) (fun _ h9 => h9) rfl dX5_note_166 ?_
                  rw [show (st M 9 (nE M) (nI t)) 0 21 = nI (nE M) from hW.e.1]
                  refine lv_iload_n hx hb dX5_note_169 rfl (lv_at hl 4 rfl) ?_
                  refine tk_iast hx hb hK hM hS 1 hR.a9 rfl (vp_in_nI (by omega) (by decide)) dX5_note_170 (fun H locs hM hS => ?_)
                  rw [show (nI (nE M)).toNatClampNeg = (nE M) from nI_clamp (by omega)] at hM
                  have hR := hR.p9 (i := (nE M)) (v := (nI q))
                  refine lv_aload_n hx hb dX5_note_171 rfl (lv_at hl 2 rfl) ?_
                  refine tk_get hx hb hts inX5 hown hK hM hR.1 rfl 10 (by decide) (hts (.fieldLink RX5 42 "TicketForgeModel" "weeks" "[I") (by decide +kernel)) (fun _ h9 => h9) rfl dX5_note_172 ?_
                  refine lv_aload_n hx hb dX5_note_175 rfl (lv_at hl 2 rfl) ?_
                  refine tk_get hx hb hts inX5 hown hK hM hR.1 rfl 21 (by decide) (hts (.fieldLink RX5 76 "TicketForgeModel" "entries" "I") (by decide +kernel)) (fun _ h9 => h9) rfl dX5_note_176 ?_
                  rw [show (st (st M 9 (nE M) (nI t)) 10 (nE M) (nI q)) 0 21 = nI (nE M) from hW.e.1]
                  refine lv_iload_n hx hb dX5_note_179 rfl (lv_at hl 5 rfl) ?_
                  refine tk_iast hx hb hK hM hS 1 hR.a10 rfl (vp_in_nI (by omega) (by decide)) dX5_note_180 (fun H locs hM hS => ?_)
                  rw [show (nI (nE M)).toNatClampNeg = (nE M) from nI_clamp (by omega)] at hM
                  have hR := hR.p10 (i := (nE M)) (v := (nI w))
                  refine lv_aload_n hx hb dX5_note_181 rfl (lv_at hl 2 rfl) ?_
                  refine tk_get hx hb hts inX5 hown hK hM hR.1 rfl 11 (by decide) (hts (.fieldLink RX5 45 "TicketForgeModel" "hoursOf" "[I") (by decide +kernel)) (fun _ h9 => h9) rfl dX5_note_182 ?_
                  refine lv_aload_n hx hb dX5_note_185 rfl (lv_at hl 2 rfl) ?_
                  refine tk_get hx hb hts inX5 hown hK hM hR.1 rfl 21 (by decide) (hts (.fieldLink RX5 76 "TicketForgeModel" "entries" "I") (by decide +kernel)) (fun _ h9 => h9) rfl dX5_note_186 ?_
                  rw [show (st (st (st M 9 (nE M) (nI t)) 10 (nE M) (nI q)) 11 (nE M) (nI w)) 0 21 = nI (nE M) from hW.e.1]
                  refine lv_iload hx hb dX5_note_189 (lv_at hl 6 rfl) ?_
                  refine tk_iast hx hb hK hM hS 1 hR.a11 rfl (vp_in_nI (by omega) (by decide)) dX5_note_191 (fun H locs hM hS => ?_)
                  rw [show (nI (nE M)).toNatClampNeg = (nE M) from nI_clamp (by omega)] at hM
                  have hR := hR.p11 (i := (nE M)) (v := hv0)
                  refine lv_aload_n hx hb dX5_note_192 rfl (lv_at hl 2 rfl) ?_
                  refine tk_get hx hb hts inX5 hown hK hM hR.1 rfl 4 (by decide) (hts (.fieldLink RX5 23 "TicketForgeModel" "entryStates" "[C") (by decide +kernel)) (fun _ h9 => h9) rfl dX5_note_193 ?_
                  refine lv_aload_n hx hb dX5_note_196 rfl (lv_at hl 2 rfl) ?_
                  refine tk_get hx hb hts inX5 hown hK hM hR.1 rfl 21 (by decide) (hts (.fieldLink RX5 76 "TicketForgeModel" "entries" "I") (by decide +kernel)) (fun _ h9 => h9) rfl dX5_note_197 ?_
                  rw [show (st (st (st (st M 9 (nE M) (nI t)) 10 (nE M) (nI q)) 11 (nE M) (nI w)) 12 (nE M) hv0) 0 21 = nI (nE M) from hW.e.1]
                  refine lv_bipush (v := 110) hx hb dX5_note_200 (by decide) ?_
                  refine tk_cast hx hb hK hM hS 0 hR.a4 rfl (show vp_nar .char 110 = 110 from rfl) (vp_in_nI (by omega) (by decide)) dX5_note_202 (fun H locs hM hS => ?_)
                  rw [show (nI (nE M)).toNatClampNeg = (nE M) from nI_clamp (by omega)] at hM
                  have hR := hR.p4 (i := (nE M)) (v := 110)
                  refine lv_aload_n hx hb dX5_note_203 rfl (lv_at hl 2 rfl) ?_
                  refine lv_dup hx hb dX5_note_204 rfl ?_
                  refine tk_get hx hb hts inX5 hown hK hM hR.1 rfl 21 (by decide) (hts (.fieldLink RX5 76 "TicketForgeModel" "entries" "I") (by decide +kernel)) (fun _ h9 => h9) rfl dX5_note_205 ?_
                  rw [show (st (st (st (st (st M 9 (nE M) (nI t)) 10 (nE M) (nI q)) 11 (nE M) (nI w)) 12 (nE M) hv0) 5 (nE M) 110) 0 21 = nI (nE M) from hW.e.1]
                  refine lv_iconst (v := 1) hx hb dX5_note_208 (by decide) ?_
                  refine lv_iadd hx hb dX5_note_209 ?_
                  refine tk_put (ty := .int) hx hb hts inX5 tyX5 tyX5_ok nmX5 hown hK hM hS hR.1 rfl 21 (by decide) (hts (.fieldLink RX5 76 "TicketForgeModel" "entries" "I") (by decide +kernel)) (fun _ h9 => h9) rfl (by decide +kernel) rfl rfl (Nat.le_of_ble_eq_true rfl) dX5_note_210 (fun H locs hM hS => ?_)
                  have hR := hR.sc 21 (mF_21 _ _ _ ((nI (nE M)) + 1))
                  refine lv_aload_n hx hb dX5_note_213 rfl (lv_at hl 2 rfl) ?_
                  refine tk_get hx hb hts inX5 hown hK hM hR.1 rfl 21 (by decide) (hts (.fieldLink RX5 76 "TicketForgeModel" "entries" "I") (by decide +kernel)) (fun _ h9 => h9) rfl dX5_note_214 ?_
                  rw [show (st (st (st (st (st (st M 9 (nE M) (nI t)) 10 (nE M) (nI q)) 11 (nE M) (nI w)) 12 (nE M) hv0) 5 (nE M) 110) 0 21 ((nI (nE M)) + 1)) 0 21 = nI (nE M) + 1 from st_self _ _ _ _]
                  refine lv_iconst (v := 1) hx hb dX5_note_217 (by decide) ?_
                  refine lv_isub hx hb dX5_note_218 ?_
                  have eS : S_note M (nI t) (nI q) (nI w) hv0 = (0, (st (st (st (st (st (st M 9 (nE M) (nI t)) 10 (nE M) (nI q)) 11 (nE M) (nI w)) 12 (nE M) hv0) 5 (nE M) 110) 0 21 ((nI (nE M)) + 1)), nI (nE M)) := (by rw [S_note, show tn (nI t) = t from nI_clamp (show t < 2 ^ 31 by omega), show tn (nI w) = w from nI_clamp (show w < 2 ^ 31 by omega), if_neg (by rw [hok]; decide), if_neg (by rw [hok_p0, hok_w0, hr_7]; decide), if_neg (fun h => h c_9), if_pos ⟨Or.inl c_12, Or.inl (by rw [← hr_11]; exact c_13), by rw [hW.e.1]; exact Int32.not_le.mp c_14⟩])
                  exact W.iret (v := ((nI (nE M) + 1) - 1)) hx hb hr (fun t9 h9 w9 => ⟨⟨((nI (nE M) + 1) - 1), _, rfl, by rw [eS]; exact ⟨hR, Int32.add_sub_cancel _ _⟩, (by show tkM A D _ _; rw [h9]; exact hM)⟩, hS.F h9⟩) hS.2.2 dX5_note_219
              · skip
                refine lv_iload hx hb dX5_note_105 (lv_at hl 5 rfl) ?_
                refine lv_iload hx hb dX5_note_107 (lv_at hl 0 rfl) ?_
                refine lv_icmp_gt (tgt := 125) hx hb dX5_note_109 (by decide) (fun c_19 => ?_) (fun c_19 => ?_)
                · skip
                  refine lv_iconst (v := 0) hx hb dX5_note_125 (by decide) ?_
                  refine lv_istore (lv' := [(6, .int 0), (5, .int r_11), (0, .ref m0), (1, .int (nI t)), (2, .int (nI q)), (3, .int (nI w)), (4, .int hv0)]) hx hb dX5_note_126 hl (by decide) rfl (fun ls hl => ?_)
                  refine lv_aload_n hx hb dX5_note_128 rfl (lv_at hl 2 rfl) ?_
                  refine lv_iload hx hb dX5_note_129 (lv_at hl 0 rfl) ?_
                  refine lv_if_eq (tgt := 138) hx hb dX5_note_131 (by decide) (fun c_20 => ?_) (fun c_20 => absurd (by decide) c_20)
                  refine lv_iconst (v := 4) hx hb dX5_note_138 (by decide) ?_
                  refine tk_put (ty := .int) hx hb hts inX5 tyX5 tyX5_ok nmX5 hown hK hM hS hR.1 rfl 18 (by decide) (hts (.fieldLink RX5 66 "TicketForgeModel" "thrown" "I") (by decide +kernel)) (fun _ h9 => h9) rfl (by decide +kernel) rfl rfl (Nat.le_of_ble_eq_true rfl) dX5_note_139 (fun H locs hM hS => ?_)
                  have hR := hR.th (v := 4)
                  refine lv_aload_n hx hb dX5_note_142 rfl (lv_at hl 2 rfl) ?_
                  refine tk_get hx hb hts inX5 hown hK hM hR.1 rfl 18 (by decide) (hts (.fieldLink RX5 66 "TicketForgeModel" "thrown" "I") (by decide +kernel)) (fun _ h9 => h9) rfl dX5_note_143 ?_
                  refine lv_if_le (tgt := 151) hx hb dX5_note_146 (by decide) (fun c_21 => absurd c_21 (by decide)) (fun c_21 => ?_)
                  refine lv_iconst (v := 0) hx hb dX5_note_149 (by decide) ?_
                  have eS : S_note M (nI t) (nI q) (nI w) hv0 = (4, M, 0) := (by rw [S_note, show tn (nI t) = t from nI_clamp (show t < 2 ^ 31 by omega), show tn (nI w) = w from nI_clamp (show w < 2 ^ 31 by omega), if_neg (by rw [hok]; decide), if_neg (by rw [hok_p0, hok_w0, hr_7]; decide), if_neg (fun h => h c_9), if_neg (fun h => h.2.1.elim (fun q => c_13 (by rw [hr_11]; exact q)) (fun q => absurd (show hv0 ≤ r_11 by rw [hr_11]; exact q) (Int32.not_le.mpr c_19)))])
                  exact W.iret (v := 0) hx hb hr (fun t9 h9 w9 => ⟨⟨0, _, rfl, by rw [eS]; exact ⟨hR, rfl⟩, (by show tkM A D _ _; rw [h9]; exact hM)⟩, hS.F h9⟩) hS.2.2 dX5_note_150
                · skip
                  refine lv_aload_n hx hb dX5_note_112 rfl (lv_at hl 1 rfl) ?_
                  refine tk_get hx hb hts inX5 hown hK hM hR.1 rfl 21 (by decide) (hts (.fieldLink RX5 76 "TicketForgeModel" "entries" "I") (by decide +kernel)) (fun _ h9 => h9) rfl dX5_note_113 ?_
                  rw [hW.e.1]
                  refine lv_bipush (v := 60) hx hb dX5_note_116 (by decide) ?_
                  refine lv_icmp_ge (tgt := 125) hx hb dX5_note_118 (by decide) (fun c_22 => ?_) (fun c_22 => ?_)
                  · skip
                    refine lv_iconst (v := 0) hx hb dX5_note_125 (by decide) ?_
                    refine lv_istore (lv' := [(6, .int 0), (5, .int r_11), (0, .ref m0), (1, .int (nI t)), (2, .int (nI q)), (3, .int (nI w)), (4, .int hv0)]) hx hb dX5_note_126 hl (by decide) rfl (fun ls hl => ?_)
                    refine lv_aload_n hx hb dX5_note_128 rfl (lv_at hl 2 rfl) ?_
                    refine lv_iload hx hb dX5_note_129 (lv_at hl 0 rfl) ?_
                    refine lv_if_eq (tgt := 138) hx hb dX5_note_131 (by decide) (fun c_23 => ?_) (fun c_23 => absurd (by decide) c_23)
                    refine lv_iconst (v := 4) hx hb dX5_note_138 (by decide) ?_
                    refine tk_put (ty := .int) hx hb hts inX5 tyX5 tyX5_ok nmX5 hown hK hM hS hR.1 rfl 18 (by decide) (hts (.fieldLink RX5 66 "TicketForgeModel" "thrown" "I") (by decide +kernel)) (fun _ h9 => h9) rfl (by decide +kernel) rfl rfl (Nat.le_of_ble_eq_true rfl) dX5_note_139 (fun H locs hM hS => ?_)
                    have hR := hR.th (v := 4)
                    refine lv_aload_n hx hb dX5_note_142 rfl (lv_at hl 2 rfl) ?_
                    refine tk_get hx hb hts inX5 hown hK hM hR.1 rfl 18 (by decide) (hts (.fieldLink RX5 66 "TicketForgeModel" "thrown" "I") (by decide +kernel)) (fun _ h9 => h9) rfl dX5_note_143 ?_
                    refine lv_if_le (tgt := 151) hx hb dX5_note_146 (by decide) (fun c_24 => absurd c_24 (by decide)) (fun c_24 => ?_)
                    refine lv_iconst (v := 0) hx hb dX5_note_149 (by decide) ?_
                    have eS : S_note M (nI t) (nI q) (nI w) hv0 = (4, M, 0) := (by rw [S_note, show tn (nI t) = t from nI_clamp (show t < 2 ^ 31 by omega), show tn (nI w) = w from nI_clamp (show w < 2 ^ 31 by omega), if_neg (by rw [hok]; decide), if_neg (by rw [hok_p0, hok_w0, hr_7]; decide), if_neg (fun h => h c_9), if_neg (fun h => absurd h.2.2 (by rw [hW.e.1]; exact Int32.not_lt.mpr c_22))])
                    exact W.iret (v := 0) hx hb hr (fun t9 h9 w9 => ⟨⟨0, _, rfl, by rw [eS]; exact ⟨hR, rfl⟩, (by show tkM A D _ _; rw [h9]; exact hM)⟩, hS.F h9⟩) hS.2.2 dX5_note_150
                  · have hlt : nE M < 60 := tk_lt (b := nE M) (a := 60) (by decide) (by omega) c_22
                    refine lv_iconst (v := 1) hx hb dX5_note_121 (by decide) ?_
                    refine lv_goto (tgt := 126) hx hb dX5_note_122 (by decide) ?_
                    refine lv_istore (lv' := [(6, .int 1), (5, .int r_11), (0, .ref m0), (1, .int (nI t)), (2, .int (nI q)), (3, .int (nI w)), (4, .int hv0)]) hx hb dX5_note_126 hl (by decide) rfl (fun ls hl => ?_)
                    refine lv_aload_n hx hb dX5_note_128 rfl (lv_at hl 2 rfl) ?_
                    refine lv_iload hx hb dX5_note_129 (lv_at hl 0 rfl) ?_
                    refine lv_if_eq (tgt := 138) hx hb dX5_note_131 (by decide) (fun c_25 => absurd c_25 (by decide)) (fun c_25 => ?_)
                    refine lv_iconst (v := 0) hx hb dX5_note_134 (by decide) ?_
                    refine lv_goto (tgt := 139) hx hb dX5_note_135 (by decide) ?_
                    refine tk_put (ty := .int) hx hb hts inX5 tyX5 tyX5_ok nmX5 hown hK hM hS hR.1 rfl 18 (by decide) (hts (.fieldLink RX5 66 "TicketForgeModel" "thrown" "I") (by decide +kernel)) (fun _ h9 => h9) rfl (by decide +kernel) rfl rfl (Nat.le_of_ble_eq_true rfl) dX5_note_139 (fun H locs hM hS => ?_)
                    have hR := hR.th (v := 0)
                    refine lv_aload_n hx hb dX5_note_142 rfl (lv_at hl 2 rfl) ?_
                    refine tk_get hx hb hts inX5 hown hK hM hR.1 rfl 18 (by decide) (hts (.fieldLink RX5 66 "TicketForgeModel" "thrown" "I") (by decide +kernel)) (fun _ h9 => h9) rfl dX5_note_143 ?_
                    refine lv_if_le (tgt := 151) hx hb dX5_note_146 (by decide) (fun c_26 => ?_) (fun c_26 => absurd (by decide) c_26)
                    refine lv_aload_n hx hb dX5_note_151 rfl (lv_at hl 2 rfl) ?_
                    refine tk_get hx hb hts inX5 hown hK hM hR.1 rfl 8 (by decide) (hts (.fieldLink RX5 36 "TicketForgeModel" "tasksOf" "[I") (by decide +kernel)) (fun _ h9 => h9) rfl dX5_note_152 ?_
                    refine lv_aload_n hx hb dX5_note_155 rfl (lv_at hl 2 rfl) ?_
                    refine tk_get hx hb hts inX5 hown hK hM hR.1 rfl 21 (by decide) (hts (.fieldLink RX5 76 "TicketForgeModel" "entries" "I") (by decide +kernel)) (fun _ h9 => h9) rfl dX5_note_156 ?_
                    rw [hW.e.1]
                    refine lv_iload_n hx hb dX5_note_159 rfl (lv_at hl 3 rfl) ?_
                    refine tk_iast hx hb hK hM hS 1 hR.a8 rfl (vp_in_nI (by omega) (by decide)) dX5_note_160 (fun H locs hM hS => ?_)
                    rw [show (nI (nE M)).toNatClampNeg = (nE M) from nI_clamp (by omega)] at hM
                    have hR := hR.p8 (i := (nE M)) (v := (nI t))
                    refine lv_aload_n hx hb dX5_note_161 rfl (lv_at hl 2 rfl) ?_
                    refine tk_get hx hb hts inX5 hown hK hM hR.1 rfl 9 (by decide) (hts (.fieldLink RX5 39 "TicketForgeModel" "persons" "[I") (by decide +kernel)) (fun _ h9 => h9) rfl dX5_note_162 ?_
                    refine lv_aload_n hx hb dX5_note_165 rfl (lv_at hl 2 rfl) ?_
                    refine tk_get hx hb hts inX5 hown hK hM hR.1 rfl 21 (by decide) (hts (.fieldLink RX5 76 "TicketForgeModel" "entries" "I") (by decide +kernel)) (fun _ h9 => h9) rfl dX5_note_166 ?_
                    rw [show (st M 9 (nE M) (nI t)) 0 21 = nI (nE M) from hW.e.1]
                    refine lv_iload_n hx hb dX5_note_169 rfl (lv_at hl 4 rfl) ?_
                    refine tk_iast hx hb hK hM hS 1 hR.a9 rfl (vp_in_nI (by omega) (by decide)) dX5_note_170 (fun H locs hM hS => ?_)
                    rw [show (nI (nE M)).toNatClampNeg = (nE M) from nI_clamp (by omega)] at hM
                    have hR := hR.p9 (i := (nE M)) (v := (nI q))
                    refine lv_aload_n hx hb dX5_note_171 rfl (lv_at hl 2 rfl) ?_
                    refine tk_get hx hb hts inX5 hown hK hM hR.1 rfl 10 (by decide) (hts (.fieldLink RX5 42 "TicketForgeModel" "weeks" "[I") (by decide +kernel)) (fun _ h9 => h9) rfl dX5_note_172 ?_
                    refine lv_aload_n hx hb dX5_note_175 rfl (lv_at hl 2 rfl) ?_
                    refine tk_get hx hb hts inX5 hown hK hM hR.1 rfl 21 (by decide) (hts (.fieldLink RX5 76 "TicketForgeModel" "entries" "I") (by decide +kernel)) (fun _ h9 => h9) rfl dX5_note_176 ?_
                    rw [show (st (st M 9 (nE M) (nI t)) 10 (nE M) (nI q)) 0 21 = nI (nE M) from hW.e.1]
                    refine lv_iload_n hx hb dX5_note_179 rfl (lv_at hl 5 rfl) ?_
                    refine tk_iast hx hb hK hM hS 1 hR.a10 rfl (vp_in_nI (by omega) (by decide)) dX5_note_180 (fun H locs hM hS => ?_)
                    rw [show (nI (nE M)).toNatClampNeg = (nE M) from nI_clamp (by omega)] at hM
                    have hR := hR.p10 (i := (nE M)) (v := (nI w))
                    refine lv_aload_n hx hb dX5_note_181 rfl (lv_at hl 2 rfl) ?_
                    refine tk_get hx hb hts inX5 hown hK hM hR.1 rfl 11 (by decide) (hts (.fieldLink RX5 45 "TicketForgeModel" "hoursOf" "[I") (by decide +kernel)) (fun _ h9 => h9) rfl dX5_note_182 ?_
                    refine lv_aload_n hx hb dX5_note_185 rfl (lv_at hl 2 rfl) ?_
                    refine tk_get hx hb hts inX5 hown hK hM hR.1 rfl 21 (by decide) (hts (.fieldLink RX5 76 "TicketForgeModel" "entries" "I") (by decide +kernel)) (fun _ h9 => h9) rfl dX5_note_186 ?_
                    rw [show (st (st (st M 9 (nE M) (nI t)) 10 (nE M) (nI q)) 11 (nE M) (nI w)) 0 21 = nI (nE M) from hW.e.1]
                    refine lv_iload hx hb dX5_note_189 (lv_at hl 6 rfl) ?_
                    refine tk_iast hx hb hK hM hS 1 hR.a11 rfl (vp_in_nI (by omega) (by decide)) dX5_note_191 (fun H locs hM hS => ?_)
                    rw [show (nI (nE M)).toNatClampNeg = (nE M) from nI_clamp (by omega)] at hM
                    have hR := hR.p11 (i := (nE M)) (v := hv0)
                    refine lv_aload_n hx hb dX5_note_192 rfl (lv_at hl 2 rfl) ?_
                    refine tk_get hx hb hts inX5 hown hK hM hR.1 rfl 4 (by decide) (hts (.fieldLink RX5 23 "TicketForgeModel" "entryStates" "[C") (by decide +kernel)) (fun _ h9 => h9) rfl dX5_note_193 ?_
                    refine lv_aload_n hx hb dX5_note_196 rfl (lv_at hl 2 rfl) ?_
                    refine tk_get hx hb hts inX5 hown hK hM hR.1 rfl 21 (by decide) (hts (.fieldLink RX5 76 "TicketForgeModel" "entries" "I") (by decide +kernel)) (fun _ h9 => h9) rfl dX5_note_197 ?_
                    rw [show (st (st (st (st M 9 (nE M) (nI t)) 10 (nE M) (nI q)) 11 (nE M) (nI w)) 12 (nE M) hv0) 0 21 = nI (nE M) from hW.e.1]
                    refine lv_bipush (v := 110) hx hb dX5_note_200 (by decide) ?_
                    refine tk_cast hx hb hK hM hS 0 hR.a4 rfl (show vp_nar .char 110 = 110 from rfl) (vp_in_nI (by omega) (by decide)) dX5_note_202 (fun H locs hM hS => ?_)
                    rw [show (nI (nE M)).toNatClampNeg = (nE M) from nI_clamp (by omega)] at hM
                    have hR := hR.p4 (i := (nE M)) (v := 110)
                    refine lv_aload_n hx hb dX5_note_203 rfl (lv_at hl 2 rfl) ?_
                    refine lv_dup hx hb dX5_note_204 rfl ?_
                    refine tk_get hx hb hts inX5 hown hK hM hR.1 rfl 21 (by decide) (hts (.fieldLink RX5 76 "TicketForgeModel" "entries" "I") (by decide +kernel)) (fun _ h9 => h9) rfl dX5_note_205 ?_
                    rw [show (st (st (st (st (st M 9 (nE M) (nI t)) 10 (nE M) (nI q)) 11 (nE M) (nI w)) 12 (nE M) hv0) 5 (nE M) 110) 0 21 = nI (nE M) from hW.e.1]
                    refine lv_iconst (v := 1) hx hb dX5_note_208 (by decide) ?_
                    refine lv_iadd hx hb dX5_note_209 ?_
                    refine tk_put (ty := .int) hx hb hts inX5 tyX5 tyX5_ok nmX5 hown hK hM hS hR.1 rfl 21 (by decide) (hts (.fieldLink RX5 76 "TicketForgeModel" "entries" "I") (by decide +kernel)) (fun _ h9 => h9) rfl (by decide +kernel) rfl rfl (Nat.le_of_ble_eq_true rfl) dX5_note_210 (fun H locs hM hS => ?_)
                    have hR := hR.sc 21 (mF_21 _ _ _ ((nI (nE M)) + 1))
                    refine lv_aload_n hx hb dX5_note_213 rfl (lv_at hl 2 rfl) ?_
                    refine tk_get hx hb hts inX5 hown hK hM hR.1 rfl 21 (by decide) (hts (.fieldLink RX5 76 "TicketForgeModel" "entries" "I") (by decide +kernel)) (fun _ h9 => h9) rfl dX5_note_214 ?_
                    rw [show (st (st (st (st (st (st M 9 (nE M) (nI t)) 10 (nE M) (nI q)) 11 (nE M) (nI w)) 12 (nE M) hv0) 5 (nE M) 110) 0 21 ((nI (nE M)) + 1)) 0 21 = nI (nE M) + 1 from st_self _ _ _ _]
                    refine lv_iconst (v := 1) hx hb dX5_note_217 (by decide) ?_
                    refine lv_isub hx hb dX5_note_218 ?_
                    have eS : S_note M (nI t) (nI q) (nI w) hv0 = (0, (st (st (st (st (st (st M 9 (nE M) (nI t)) 10 (nE M) (nI q)) 11 (nE M) (nI w)) 12 (nE M) hv0) 5 (nE M) 110) 0 21 ((nI (nE M)) + 1)), nI (nE M)) := (by rw [S_note, show tn (nI t) = t from nI_clamp (show t < 2 ^ 31 by omega), show tn (nI w) = w from nI_clamp (show w < 2 ^ 31 by omega), if_neg (by rw [hok]; decide), if_neg (by rw [hok_p0, hok_w0, hr_7]; decide), if_neg (fun h => h c_9), if_pos ⟨Or.inl c_12, Or.inr (by rw [← hr_11]; exact Int32.not_lt.mp c_19), by rw [hW.e.1]; exact Int32.not_le.mp c_22⟩])
                    exact W.iret (v := ((nI (nE M) + 1) - 1)) hx hb hr (fun t9 h9 w9 => ⟨⟨((nI (nE M) + 1) - 1), _, rfl, by rw [eS]; exact ⟨hR, Int32.add_sub_cancel _ _⟩, (by show tkM A D _ _; rw [h9]; exact hM)⟩, hS.F h9⟩) hS.2.2 dX5_note_219
            · skip
              refine lv_aload_n hx hb dX5_note_88 rfl (lv_at hl 1 rfl) ?_
              refine tk_get hx hb hts inX5 hown hK hM hR.1 rfl 3 (by decide) (hts (.fieldLink RX5 19 "TicketForgeModel" "states" "[C") (by decide +kernel)) (fun _ h9 => h9) rfl dX5_note_89 ?_
              refine lv_iload_n hx hb dX5_note_92 rfl (lv_at hl 2 rfl) ?_
              refine tk_cald hx hb hK hM 0 hR.a3 rfl (vp_in_nI (by omega) (by decide)) dX5_note_93 ?_
              rw [show (nI t).toNatClampNeg = t from nI_clamp (by omega)]
              refine lv_bipush (v := 114) hx hb dX5_note_94 (by decide) ?_
              refine lv_icmp_ne (tgt := 125) hx hb dX5_note_96 (by decide) (fun c_27 => ?_) (fun c_27 => ?_)
              · skip
                refine lv_iconst (v := 0) hx hb dX5_note_125 (by decide) ?_
                refine lv_istore (lv' := [(6, .int 0), (5, .int r_11), (0, .ref m0), (1, .int (nI t)), (2, .int (nI q)), (3, .int (nI w)), (4, .int hv0)]) hx hb dX5_note_126 hl (by decide) rfl (fun ls hl => ?_)
                refine lv_aload_n hx hb dX5_note_128 rfl (lv_at hl 2 rfl) ?_
                refine lv_iload hx hb dX5_note_129 (lv_at hl 0 rfl) ?_
                refine lv_if_eq (tgt := 138) hx hb dX5_note_131 (by decide) (fun c_28 => ?_) (fun c_28 => absurd (by decide) c_28)
                refine lv_iconst (v := 4) hx hb dX5_note_138 (by decide) ?_
                refine tk_put (ty := .int) hx hb hts inX5 tyX5 tyX5_ok nmX5 hown hK hM hS hR.1 rfl 18 (by decide) (hts (.fieldLink RX5 66 "TicketForgeModel" "thrown" "I") (by decide +kernel)) (fun _ h9 => h9) rfl (by decide +kernel) rfl rfl (Nat.le_of_ble_eq_true rfl) dX5_note_139 (fun H locs hM hS => ?_)
                have hR := hR.th (v := 4)
                refine lv_aload_n hx hb dX5_note_142 rfl (lv_at hl 2 rfl) ?_
                refine tk_get hx hb hts inX5 hown hK hM hR.1 rfl 18 (by decide) (hts (.fieldLink RX5 66 "TicketForgeModel" "thrown" "I") (by decide +kernel)) (fun _ h9 => h9) rfl dX5_note_143 ?_
                refine lv_if_le (tgt := 151) hx hb dX5_note_146 (by decide) (fun c_29 => absurd c_29 (by decide)) (fun c_29 => ?_)
                refine lv_iconst (v := 0) hx hb dX5_note_149 (by decide) ?_
                have eS : S_note M (nI t) (nI q) (nI w) hv0 = (4, M, 0) := (by rw [S_note, show tn (nI t) = t from nI_clamp (show t < 2 ^ 31 by omega), show tn (nI w) = w from nI_clamp (show w < 2 ^ 31 by omega), if_neg (by rw [hok]; decide), if_neg (by rw [hok_p0, hok_w0, hr_7]; decide), if_neg (fun h => h c_9), if_neg (fun h => h.1.elim c_12 c_27)])
                exact W.iret (v := 0) hx hb hr (fun t9 h9 w9 => ⟨⟨0, _, rfl, by rw [eS]; exact ⟨hR, rfl⟩, (by show tkM A D _ _; rw [h9]; exact hM)⟩, hS.F h9⟩) hS.2.2 dX5_note_150
              · skip
                refine lv_iload hx hb dX5_note_99 (lv_at hl 0 rfl) ?_
                refine lv_iconst (v := (-1)) hx hb dX5_note_101 (by decide) ?_
                refine lv_icmp_eq (tgt := 112) hx hb dX5_note_102 (by decide) (fun c_30 => ?_) (fun c_30 => ?_)
                · skip
                  refine lv_aload_n hx hb dX5_note_112 rfl (lv_at hl 1 rfl) ?_
                  refine tk_get hx hb hts inX5 hown hK hM hR.1 rfl 21 (by decide) (hts (.fieldLink RX5 76 "TicketForgeModel" "entries" "I") (by decide +kernel)) (fun _ h9 => h9) rfl dX5_note_113 ?_
                  rw [hW.e.1]
                  refine lv_bipush (v := 60) hx hb dX5_note_116 (by decide) ?_
                  refine lv_icmp_ge (tgt := 125) hx hb dX5_note_118 (by decide) (fun c_31 => ?_) (fun c_31 => ?_)
                  · skip
                    refine lv_iconst (v := 0) hx hb dX5_note_125 (by decide) ?_
                    refine lv_istore (lv' := [(6, .int 0), (5, .int r_11), (0, .ref m0), (1, .int (nI t)), (2, .int (nI q)), (3, .int (nI w)), (4, .int hv0)]) hx hb dX5_note_126 hl (by decide) rfl (fun ls hl => ?_)
                    refine lv_aload_n hx hb dX5_note_128 rfl (lv_at hl 2 rfl) ?_
                    refine lv_iload hx hb dX5_note_129 (lv_at hl 0 rfl) ?_
                    refine lv_if_eq (tgt := 138) hx hb dX5_note_131 (by decide) (fun c_32 => ?_) (fun c_32 => absurd (by decide) c_32)
                    refine lv_iconst (v := 4) hx hb dX5_note_138 (by decide) ?_
                    refine tk_put (ty := .int) hx hb hts inX5 tyX5 tyX5_ok nmX5 hown hK hM hS hR.1 rfl 18 (by decide) (hts (.fieldLink RX5 66 "TicketForgeModel" "thrown" "I") (by decide +kernel)) (fun _ h9 => h9) rfl (by decide +kernel) rfl rfl (Nat.le_of_ble_eq_true rfl) dX5_note_139 (fun H locs hM hS => ?_)
                    have hR := hR.th (v := 4)
                    refine lv_aload_n hx hb dX5_note_142 rfl (lv_at hl 2 rfl) ?_
                    refine tk_get hx hb hts inX5 hown hK hM hR.1 rfl 18 (by decide) (hts (.fieldLink RX5 66 "TicketForgeModel" "thrown" "I") (by decide +kernel)) (fun _ h9 => h9) rfl dX5_note_143 ?_
                    refine lv_if_le (tgt := 151) hx hb dX5_note_146 (by decide) (fun c_33 => absurd c_33 (by decide)) (fun c_33 => ?_)
                    refine lv_iconst (v := 0) hx hb dX5_note_149 (by decide) ?_
                    have eS : S_note M (nI t) (nI q) (nI w) hv0 = (4, M, 0) := (by rw [S_note, show tn (nI t) = t from nI_clamp (show t < 2 ^ 31 by omega), show tn (nI w) = w from nI_clamp (show w < 2 ^ 31 by omega), if_neg (by rw [hok]; decide), if_neg (by rw [hok_p0, hok_w0, hr_7]; decide), if_neg (fun h => h c_9), if_neg (fun h => absurd h.2.2 (by rw [hW.e.1]; exact Int32.not_lt.mpr c_31))])
                    exact W.iret (v := 0) hx hb hr (fun t9 h9 w9 => ⟨⟨0, _, rfl, by rw [eS]; exact ⟨hR, rfl⟩, (by show tkM A D _ _; rw [h9]; exact hM)⟩, hS.F h9⟩) hS.2.2 dX5_note_150
                  · have hlt : nE M < 60 := tk_lt (b := nE M) (a := 60) (by decide) (by omega) c_31
                    refine lv_iconst (v := 1) hx hb dX5_note_121 (by decide) ?_
                    refine lv_goto (tgt := 126) hx hb dX5_note_122 (by decide) ?_
                    refine lv_istore (lv' := [(6, .int 1), (5, .int r_11), (0, .ref m0), (1, .int (nI t)), (2, .int (nI q)), (3, .int (nI w)), (4, .int hv0)]) hx hb dX5_note_126 hl (by decide) rfl (fun ls hl => ?_)
                    refine lv_aload_n hx hb dX5_note_128 rfl (lv_at hl 2 rfl) ?_
                    refine lv_iload hx hb dX5_note_129 (lv_at hl 0 rfl) ?_
                    refine lv_if_eq (tgt := 138) hx hb dX5_note_131 (by decide) (fun c_34 => absurd c_34 (by decide)) (fun c_34 => ?_)
                    refine lv_iconst (v := 0) hx hb dX5_note_134 (by decide) ?_
                    refine lv_goto (tgt := 139) hx hb dX5_note_135 (by decide) ?_
                    refine tk_put (ty := .int) hx hb hts inX5 tyX5 tyX5_ok nmX5 hown hK hM hS hR.1 rfl 18 (by decide) (hts (.fieldLink RX5 66 "TicketForgeModel" "thrown" "I") (by decide +kernel)) (fun _ h9 => h9) rfl (by decide +kernel) rfl rfl (Nat.le_of_ble_eq_true rfl) dX5_note_139 (fun H locs hM hS => ?_)
                    have hR := hR.th (v := 0)
                    refine lv_aload_n hx hb dX5_note_142 rfl (lv_at hl 2 rfl) ?_
                    refine tk_get hx hb hts inX5 hown hK hM hR.1 rfl 18 (by decide) (hts (.fieldLink RX5 66 "TicketForgeModel" "thrown" "I") (by decide +kernel)) (fun _ h9 => h9) rfl dX5_note_143 ?_
                    refine lv_if_le (tgt := 151) hx hb dX5_note_146 (by decide) (fun c_35 => ?_) (fun c_35 => absurd (by decide) c_35)
                    refine lv_aload_n hx hb dX5_note_151 rfl (lv_at hl 2 rfl) ?_
                    refine tk_get hx hb hts inX5 hown hK hM hR.1 rfl 8 (by decide) (hts (.fieldLink RX5 36 "TicketForgeModel" "tasksOf" "[I") (by decide +kernel)) (fun _ h9 => h9) rfl dX5_note_152 ?_
                    refine lv_aload_n hx hb dX5_note_155 rfl (lv_at hl 2 rfl) ?_
                    refine tk_get hx hb hts inX5 hown hK hM hR.1 rfl 21 (by decide) (hts (.fieldLink RX5 76 "TicketForgeModel" "entries" "I") (by decide +kernel)) (fun _ h9 => h9) rfl dX5_note_156 ?_
                    rw [hW.e.1]
                    refine lv_iload_n hx hb dX5_note_159 rfl (lv_at hl 3 rfl) ?_
                    refine tk_iast hx hb hK hM hS 1 hR.a8 rfl (vp_in_nI (by omega) (by decide)) dX5_note_160 (fun H locs hM hS => ?_)
                    rw [show (nI (nE M)).toNatClampNeg = (nE M) from nI_clamp (by omega)] at hM
                    have hR := hR.p8 (i := (nE M)) (v := (nI t))
                    refine lv_aload_n hx hb dX5_note_161 rfl (lv_at hl 2 rfl) ?_
                    refine tk_get hx hb hts inX5 hown hK hM hR.1 rfl 9 (by decide) (hts (.fieldLink RX5 39 "TicketForgeModel" "persons" "[I") (by decide +kernel)) (fun _ h9 => h9) rfl dX5_note_162 ?_
                    refine lv_aload_n hx hb dX5_note_165 rfl (lv_at hl 2 rfl) ?_
                    refine tk_get hx hb hts inX5 hown hK hM hR.1 rfl 21 (by decide) (hts (.fieldLink RX5 76 "TicketForgeModel" "entries" "I") (by decide +kernel)) (fun _ h9 => h9) rfl dX5_note_166 ?_
                    rw [show (st M 9 (nE M) (nI t)) 0 21 = nI (nE M) from hW.e.1]
                    refine lv_iload_n hx hb dX5_note_169 rfl (lv_at hl 4 rfl) ?_
                    refine tk_iast hx hb hK hM hS 1 hR.a9 rfl (vp_in_nI (by omega) (by decide)) dX5_note_170 (fun H locs hM hS => ?_)
                    rw [show (nI (nE M)).toNatClampNeg = (nE M) from nI_clamp (by omega)] at hM
                    have hR := hR.p9 (i := (nE M)) (v := (nI q))
                    refine lv_aload_n hx hb dX5_note_171 rfl (lv_at hl 2 rfl) ?_
                    refine tk_get hx hb hts inX5 hown hK hM hR.1 rfl 10 (by decide) (hts (.fieldLink RX5 42 "TicketForgeModel" "weeks" "[I") (by decide +kernel)) (fun _ h9 => h9) rfl dX5_note_172 ?_
                    refine lv_aload_n hx hb dX5_note_175 rfl (lv_at hl 2 rfl) ?_
                    refine tk_get hx hb hts inX5 hown hK hM hR.1 rfl 21 (by decide) (hts (.fieldLink RX5 76 "TicketForgeModel" "entries" "I") (by decide +kernel)) (fun _ h9 => h9) rfl dX5_note_176 ?_
                    rw [show (st (st M 9 (nE M) (nI t)) 10 (nE M) (nI q)) 0 21 = nI (nE M) from hW.e.1]
                    refine lv_iload_n hx hb dX5_note_179 rfl (lv_at hl 5 rfl) ?_
                    refine tk_iast hx hb hK hM hS 1 hR.a10 rfl (vp_in_nI (by omega) (by decide)) dX5_note_180 (fun H locs hM hS => ?_)
                    rw [show (nI (nE M)).toNatClampNeg = (nE M) from nI_clamp (by omega)] at hM
                    have hR := hR.p10 (i := (nE M)) (v := (nI w))
                    refine lv_aload_n hx hb dX5_note_181 rfl (lv_at hl 2 rfl) ?_
                    refine tk_get hx hb hts inX5 hown hK hM hR.1 rfl 11 (by decide) (hts (.fieldLink RX5 45 "TicketForgeModel" "hoursOf" "[I") (by decide +kernel)) (fun _ h9 => h9) rfl dX5_note_182 ?_
                    refine lv_aload_n hx hb dX5_note_185 rfl (lv_at hl 2 rfl) ?_
                    refine tk_get hx hb hts inX5 hown hK hM hR.1 rfl 21 (by decide) (hts (.fieldLink RX5 76 "TicketForgeModel" "entries" "I") (by decide +kernel)) (fun _ h9 => h9) rfl dX5_note_186 ?_
                    rw [show (st (st (st M 9 (nE M) (nI t)) 10 (nE M) (nI q)) 11 (nE M) (nI w)) 0 21 = nI (nE M) from hW.e.1]
                    refine lv_iload hx hb dX5_note_189 (lv_at hl 6 rfl) ?_
                    refine tk_iast hx hb hK hM hS 1 hR.a11 rfl (vp_in_nI (by omega) (by decide)) dX5_note_191 (fun H locs hM hS => ?_)
                    rw [show (nI (nE M)).toNatClampNeg = (nE M) from nI_clamp (by omega)] at hM
                    have hR := hR.p11 (i := (nE M)) (v := hv0)
                    refine lv_aload_n hx hb dX5_note_192 rfl (lv_at hl 2 rfl) ?_
                    refine tk_get hx hb hts inX5 hown hK hM hR.1 rfl 4 (by decide) (hts (.fieldLink RX5 23 "TicketForgeModel" "entryStates" "[C") (by decide +kernel)) (fun _ h9 => h9) rfl dX5_note_193 ?_
                    refine lv_aload_n hx hb dX5_note_196 rfl (lv_at hl 2 rfl) ?_
                    refine tk_get hx hb hts inX5 hown hK hM hR.1 rfl 21 (by decide) (hts (.fieldLink RX5 76 "TicketForgeModel" "entries" "I") (by decide +kernel)) (fun _ h9 => h9) rfl dX5_note_197 ?_
                    rw [show (st (st (st (st M 9 (nE M) (nI t)) 10 (nE M) (nI q)) 11 (nE M) (nI w)) 12 (nE M) hv0) 0 21 = nI (nE M) from hW.e.1]
                    refine lv_bipush (v := 110) hx hb dX5_note_200 (by decide) ?_
                    refine tk_cast hx hb hK hM hS 0 hR.a4 rfl (show vp_nar .char 110 = 110 from rfl) (vp_in_nI (by omega) (by decide)) dX5_note_202 (fun H locs hM hS => ?_)
                    rw [show (nI (nE M)).toNatClampNeg = (nE M) from nI_clamp (by omega)] at hM
                    have hR := hR.p4 (i := (nE M)) (v := 110)
                    refine lv_aload_n hx hb dX5_note_203 rfl (lv_at hl 2 rfl) ?_
                    refine lv_dup hx hb dX5_note_204 rfl ?_
                    refine tk_get hx hb hts inX5 hown hK hM hR.1 rfl 21 (by decide) (hts (.fieldLink RX5 76 "TicketForgeModel" "entries" "I") (by decide +kernel)) (fun _ h9 => h9) rfl dX5_note_205 ?_
                    rw [show (st (st (st (st (st M 9 (nE M) (nI t)) 10 (nE M) (nI q)) 11 (nE M) (nI w)) 12 (nE M) hv0) 5 (nE M) 110) 0 21 = nI (nE M) from hW.e.1]
                    refine lv_iconst (v := 1) hx hb dX5_note_208 (by decide) ?_
                    refine lv_iadd hx hb dX5_note_209 ?_
                    refine tk_put (ty := .int) hx hb hts inX5 tyX5 tyX5_ok nmX5 hown hK hM hS hR.1 rfl 21 (by decide) (hts (.fieldLink RX5 76 "TicketForgeModel" "entries" "I") (by decide +kernel)) (fun _ h9 => h9) rfl (by decide +kernel) rfl rfl (Nat.le_of_ble_eq_true rfl) dX5_note_210 (fun H locs hM hS => ?_)
                    have hR := hR.sc 21 (mF_21 _ _ _ ((nI (nE M)) + 1))
                    refine lv_aload_n hx hb dX5_note_213 rfl (lv_at hl 2 rfl) ?_
                    refine tk_get hx hb hts inX5 hown hK hM hR.1 rfl 21 (by decide) (hts (.fieldLink RX5 76 "TicketForgeModel" "entries" "I") (by decide +kernel)) (fun _ h9 => h9) rfl dX5_note_214 ?_
                    rw [show (st (st (st (st (st (st M 9 (nE M) (nI t)) 10 (nE M) (nI q)) 11 (nE M) (nI w)) 12 (nE M) hv0) 5 (nE M) 110) 0 21 ((nI (nE M)) + 1)) 0 21 = nI (nE M) + 1 from st_self _ _ _ _]
                    refine lv_iconst (v := 1) hx hb dX5_note_217 (by decide) ?_
                    refine lv_isub hx hb dX5_note_218 ?_
                    have eS : S_note M (nI t) (nI q) (nI w) hv0 = (0, (st (st (st (st (st (st M 9 (nE M) (nI t)) 10 (nE M) (nI q)) 11 (nE M) (nI w)) 12 (nE M) hv0) 5 (nE M) 110) 0 21 ((nI (nE M)) + 1)), nI (nE M)) := (by rw [S_note, show tn (nI t) = t from nI_clamp (show t < 2 ^ 31 by omega), show tn (nI w) = w from nI_clamp (show w < 2 ^ 31 by omega), if_neg (by rw [hok]; decide), if_neg (by rw [hok_p0, hok_w0, hr_7]; decide), if_neg (fun h => h c_9), if_pos ⟨Or.inr c_27, Or.inl (by rw [← hr_11]; exact c_30), by rw [hW.e.1]; exact Int32.not_le.mp c_31⟩])
                    exact W.iret (v := ((nI (nE M) + 1) - 1)) hx hb hr (fun t9 h9 w9 => ⟨⟨((nI (nE M) + 1) - 1), _, rfl, by rw [eS]; exact ⟨hR, Int32.add_sub_cancel _ _⟩, (by show tkM A D _ _; rw [h9]; exact hM)⟩, hS.F h9⟩) hS.2.2 dX5_note_219
                · skip
                  refine lv_iload hx hb dX5_note_105 (lv_at hl 5 rfl) ?_
                  refine lv_iload hx hb dX5_note_107 (lv_at hl 0 rfl) ?_
                  refine lv_icmp_gt (tgt := 125) hx hb dX5_note_109 (by decide) (fun c_36 => ?_) (fun c_36 => ?_)
                  · skip
                    refine lv_iconst (v := 0) hx hb dX5_note_125 (by decide) ?_
                    refine lv_istore (lv' := [(6, .int 0), (5, .int r_11), (0, .ref m0), (1, .int (nI t)), (2, .int (nI q)), (3, .int (nI w)), (4, .int hv0)]) hx hb dX5_note_126 hl (by decide) rfl (fun ls hl => ?_)
                    refine lv_aload_n hx hb dX5_note_128 rfl (lv_at hl 2 rfl) ?_
                    refine lv_iload hx hb dX5_note_129 (lv_at hl 0 rfl) ?_
                    refine lv_if_eq (tgt := 138) hx hb dX5_note_131 (by decide) (fun c_37 => ?_) (fun c_37 => absurd (by decide) c_37)
                    refine lv_iconst (v := 4) hx hb dX5_note_138 (by decide) ?_
                    refine tk_put (ty := .int) hx hb hts inX5 tyX5 tyX5_ok nmX5 hown hK hM hS hR.1 rfl 18 (by decide) (hts (.fieldLink RX5 66 "TicketForgeModel" "thrown" "I") (by decide +kernel)) (fun _ h9 => h9) rfl (by decide +kernel) rfl rfl (Nat.le_of_ble_eq_true rfl) dX5_note_139 (fun H locs hM hS => ?_)
                    have hR := hR.th (v := 4)
                    refine lv_aload_n hx hb dX5_note_142 rfl (lv_at hl 2 rfl) ?_
                    refine tk_get hx hb hts inX5 hown hK hM hR.1 rfl 18 (by decide) (hts (.fieldLink RX5 66 "TicketForgeModel" "thrown" "I") (by decide +kernel)) (fun _ h9 => h9) rfl dX5_note_143 ?_
                    refine lv_if_le (tgt := 151) hx hb dX5_note_146 (by decide) (fun c_38 => absurd c_38 (by decide)) (fun c_38 => ?_)
                    refine lv_iconst (v := 0) hx hb dX5_note_149 (by decide) ?_
                    have eS : S_note M (nI t) (nI q) (nI w) hv0 = (4, M, 0) := (by rw [S_note, show tn (nI t) = t from nI_clamp (show t < 2 ^ 31 by omega), show tn (nI w) = w from nI_clamp (show w < 2 ^ 31 by omega), if_neg (by rw [hok]; decide), if_neg (by rw [hok_p0, hok_w0, hr_7]; decide), if_neg (fun h => h c_9), if_neg (fun h => h.2.1.elim (fun q => c_30 (by rw [hr_11]; exact q)) (fun q => absurd (show hv0 ≤ r_11 by rw [hr_11]; exact q) (Int32.not_le.mpr c_36)))])
                    exact W.iret (v := 0) hx hb hr (fun t9 h9 w9 => ⟨⟨0, _, rfl, by rw [eS]; exact ⟨hR, rfl⟩, (by show tkM A D _ _; rw [h9]; exact hM)⟩, hS.F h9⟩) hS.2.2 dX5_note_150
                  · skip
                    refine lv_aload_n hx hb dX5_note_112 rfl (lv_at hl 1 rfl) ?_
                    refine tk_get hx hb hts inX5 hown hK hM hR.1 rfl 21 (by decide) (hts (.fieldLink RX5 76 "TicketForgeModel" "entries" "I") (by decide +kernel)) (fun _ h9 => h9) rfl dX5_note_113 ?_
                    rw [hW.e.1]
                    refine lv_bipush (v := 60) hx hb dX5_note_116 (by decide) ?_
                    refine lv_icmp_ge (tgt := 125) hx hb dX5_note_118 (by decide) (fun c_39 => ?_) (fun c_39 => ?_)
                    · skip
                      refine lv_iconst (v := 0) hx hb dX5_note_125 (by decide) ?_
                      refine lv_istore (lv' := [(6, .int 0), (5, .int r_11), (0, .ref m0), (1, .int (nI t)), (2, .int (nI q)), (3, .int (nI w)), (4, .int hv0)]) hx hb dX5_note_126 hl (by decide) rfl (fun ls hl => ?_)
                      refine lv_aload_n hx hb dX5_note_128 rfl (lv_at hl 2 rfl) ?_
                      refine lv_iload hx hb dX5_note_129 (lv_at hl 0 rfl) ?_
                      refine lv_if_eq (tgt := 138) hx hb dX5_note_131 (by decide) (fun c_40 => ?_) (fun c_40 => absurd (by decide) c_40)
                      refine lv_iconst (v := 4) hx hb dX5_note_138 (by decide) ?_
                      refine tk_put (ty := .int) hx hb hts inX5 tyX5 tyX5_ok nmX5 hown hK hM hS hR.1 rfl 18 (by decide) (hts (.fieldLink RX5 66 "TicketForgeModel" "thrown" "I") (by decide +kernel)) (fun _ h9 => h9) rfl (by decide +kernel) rfl rfl (Nat.le_of_ble_eq_true rfl) dX5_note_139 (fun H locs hM hS => ?_)
                      have hR := hR.th (v := 4)
                      refine lv_aload_n hx hb dX5_note_142 rfl (lv_at hl 2 rfl) ?_
                      refine tk_get hx hb hts inX5 hown hK hM hR.1 rfl 18 (by decide) (hts (.fieldLink RX5 66 "TicketForgeModel" "thrown" "I") (by decide +kernel)) (fun _ h9 => h9) rfl dX5_note_143 ?_
                      refine lv_if_le (tgt := 151) hx hb dX5_note_146 (by decide) (fun c_41 => absurd c_41 (by decide)) (fun c_41 => ?_)
                      refine lv_iconst (v := 0) hx hb dX5_note_149 (by decide) ?_
                      have eS : S_note M (nI t) (nI q) (nI w) hv0 = (4, M, 0) := (by rw [S_note, show tn (nI t) = t from nI_clamp (show t < 2 ^ 31 by omega), show tn (nI w) = w from nI_clamp (show w < 2 ^ 31 by omega), if_neg (by rw [hok]; decide), if_neg (by rw [hok_p0, hok_w0, hr_7]; decide), if_neg (fun h => h c_9), if_neg (fun h => absurd h.2.2 (by rw [hW.e.1]; exact Int32.not_lt.mpr c_39))])
                      exact W.iret (v := 0) hx hb hr (fun t9 h9 w9 => ⟨⟨0, _, rfl, by rw [eS]; exact ⟨hR, rfl⟩, (by show tkM A D _ _; rw [h9]; exact hM)⟩, hS.F h9⟩) hS.2.2 dX5_note_150
                    · have hlt : nE M < 60 := tk_lt (b := nE M) (a := 60) (by decide) (by omega) c_39
                      refine lv_iconst (v := 1) hx hb dX5_note_121 (by decide) ?_
                      refine lv_goto (tgt := 126) hx hb dX5_note_122 (by decide) ?_
                      refine lv_istore (lv' := [(6, .int 1), (5, .int r_11), (0, .ref m0), (1, .int (nI t)), (2, .int (nI q)), (3, .int (nI w)), (4, .int hv0)]) hx hb dX5_note_126 hl (by decide) rfl (fun ls hl => ?_)
                      refine lv_aload_n hx hb dX5_note_128 rfl (lv_at hl 2 rfl) ?_
                      refine lv_iload hx hb dX5_note_129 (lv_at hl 0 rfl) ?_
                      refine lv_if_eq (tgt := 138) hx hb dX5_note_131 (by decide) (fun c_42 => absurd c_42 (by decide)) (fun c_42 => ?_)
                      refine lv_iconst (v := 0) hx hb dX5_note_134 (by decide) ?_
                      refine lv_goto (tgt := 139) hx hb dX5_note_135 (by decide) ?_
                      refine tk_put (ty := .int) hx hb hts inX5 tyX5 tyX5_ok nmX5 hown hK hM hS hR.1 rfl 18 (by decide) (hts (.fieldLink RX5 66 "TicketForgeModel" "thrown" "I") (by decide +kernel)) (fun _ h9 => h9) rfl (by decide +kernel) rfl rfl (Nat.le_of_ble_eq_true rfl) dX5_note_139 (fun H locs hM hS => ?_)
                      have hR := hR.th (v := 0)
                      refine lv_aload_n hx hb dX5_note_142 rfl (lv_at hl 2 rfl) ?_
                      refine tk_get hx hb hts inX5 hown hK hM hR.1 rfl 18 (by decide) (hts (.fieldLink RX5 66 "TicketForgeModel" "thrown" "I") (by decide +kernel)) (fun _ h9 => h9) rfl dX5_note_143 ?_
                      refine lv_if_le (tgt := 151) hx hb dX5_note_146 (by decide) (fun c_43 => ?_) (fun c_43 => absurd (by decide) c_43)
                      refine lv_aload_n hx hb dX5_note_151 rfl (lv_at hl 2 rfl) ?_
                      refine tk_get hx hb hts inX5 hown hK hM hR.1 rfl 8 (by decide) (hts (.fieldLink RX5 36 "TicketForgeModel" "tasksOf" "[I") (by decide +kernel)) (fun _ h9 => h9) rfl dX5_note_152 ?_
                      refine lv_aload_n hx hb dX5_note_155 rfl (lv_at hl 2 rfl) ?_
                      refine tk_get hx hb hts inX5 hown hK hM hR.1 rfl 21 (by decide) (hts (.fieldLink RX5 76 "TicketForgeModel" "entries" "I") (by decide +kernel)) (fun _ h9 => h9) rfl dX5_note_156 ?_
                      rw [hW.e.1]
                      refine lv_iload_n hx hb dX5_note_159 rfl (lv_at hl 3 rfl) ?_
                      refine tk_iast hx hb hK hM hS 1 hR.a8 rfl (vp_in_nI (by omega) (by decide)) dX5_note_160 (fun H locs hM hS => ?_)
                      rw [show (nI (nE M)).toNatClampNeg = (nE M) from nI_clamp (by omega)] at hM
                      have hR := hR.p8 (i := (nE M)) (v := (nI t))
                      refine lv_aload_n hx hb dX5_note_161 rfl (lv_at hl 2 rfl) ?_
                      refine tk_get hx hb hts inX5 hown hK hM hR.1 rfl 9 (by decide) (hts (.fieldLink RX5 39 "TicketForgeModel" "persons" "[I") (by decide +kernel)) (fun _ h9 => h9) rfl dX5_note_162 ?_
                      refine lv_aload_n hx hb dX5_note_165 rfl (lv_at hl 2 rfl) ?_
                      refine tk_get hx hb hts inX5 hown hK hM hR.1 rfl 21 (by decide) (hts (.fieldLink RX5 76 "TicketForgeModel" "entries" "I") (by decide +kernel)) (fun _ h9 => h9) rfl dX5_note_166 ?_
                      rw [show (st M 9 (nE M) (nI t)) 0 21 = nI (nE M) from hW.e.1]
                      refine lv_iload_n hx hb dX5_note_169 rfl (lv_at hl 4 rfl) ?_
                      refine tk_iast hx hb hK hM hS 1 hR.a9 rfl (vp_in_nI (by omega) (by decide)) dX5_note_170 (fun H locs hM hS => ?_)
                      rw [show (nI (nE M)).toNatClampNeg = (nE M) from nI_clamp (by omega)] at hM
                      have hR := hR.p9 (i := (nE M)) (v := (nI q))
                      refine lv_aload_n hx hb dX5_note_171 rfl (lv_at hl 2 rfl) ?_
                      refine tk_get hx hb hts inX5 hown hK hM hR.1 rfl 10 (by decide) (hts (.fieldLink RX5 42 "TicketForgeModel" "weeks" "[I") (by decide +kernel)) (fun _ h9 => h9) rfl dX5_note_172 ?_
                      refine lv_aload_n hx hb dX5_note_175 rfl (lv_at hl 2 rfl) ?_
                      refine tk_get hx hb hts inX5 hown hK hM hR.1 rfl 21 (by decide) (hts (.fieldLink RX5 76 "TicketForgeModel" "entries" "I") (by decide +kernel)) (fun _ h9 => h9) rfl dX5_note_176 ?_
                      rw [show (st (st M 9 (nE M) (nI t)) 10 (nE M) (nI q)) 0 21 = nI (nE M) from hW.e.1]
                      refine lv_iload_n hx hb dX5_note_179 rfl (lv_at hl 5 rfl) ?_
                      refine tk_iast hx hb hK hM hS 1 hR.a10 rfl (vp_in_nI (by omega) (by decide)) dX5_note_180 (fun H locs hM hS => ?_)
                      rw [show (nI (nE M)).toNatClampNeg = (nE M) from nI_clamp (by omega)] at hM
                      have hR := hR.p10 (i := (nE M)) (v := (nI w))
                      refine lv_aload_n hx hb dX5_note_181 rfl (lv_at hl 2 rfl) ?_
                      refine tk_get hx hb hts inX5 hown hK hM hR.1 rfl 11 (by decide) (hts (.fieldLink RX5 45 "TicketForgeModel" "hoursOf" "[I") (by decide +kernel)) (fun _ h9 => h9) rfl dX5_note_182 ?_
                      refine lv_aload_n hx hb dX5_note_185 rfl (lv_at hl 2 rfl) ?_
                      refine tk_get hx hb hts inX5 hown hK hM hR.1 rfl 21 (by decide) (hts (.fieldLink RX5 76 "TicketForgeModel" "entries" "I") (by decide +kernel)) (fun _ h9 => h9) rfl dX5_note_186 ?_
                      rw [show (st (st (st M 9 (nE M) (nI t)) 10 (nE M) (nI q)) 11 (nE M) (nI w)) 0 21 = nI (nE M) from hW.e.1]
                      refine lv_iload hx hb dX5_note_189 (lv_at hl 6 rfl) ?_
                      refine tk_iast hx hb hK hM hS 1 hR.a11 rfl (vp_in_nI (by omega) (by decide)) dX5_note_191 (fun H locs hM hS => ?_)
                      rw [show (nI (nE M)).toNatClampNeg = (nE M) from nI_clamp (by omega)] at hM
                      have hR := hR.p11 (i := (nE M)) (v := hv0)
                      refine lv_aload_n hx hb dX5_note_192 rfl (lv_at hl 2 rfl) ?_
                      refine tk_get hx hb hts inX5 hown hK hM hR.1 rfl 4 (by decide) (hts (.fieldLink RX5 23 "TicketForgeModel" "entryStates" "[C") (by decide +kernel)) (fun _ h9 => h9) rfl dX5_note_193 ?_
                      refine lv_aload_n hx hb dX5_note_196 rfl (lv_at hl 2 rfl) ?_
                      refine tk_get hx hb hts inX5 hown hK hM hR.1 rfl 21 (by decide) (hts (.fieldLink RX5 76 "TicketForgeModel" "entries" "I") (by decide +kernel)) (fun _ h9 => h9) rfl dX5_note_197 ?_
                      rw [show (st (st (st (st M 9 (nE M) (nI t)) 10 (nE M) (nI q)) 11 (nE M) (nI w)) 12 (nE M) hv0) 0 21 = nI (nE M) from hW.e.1]
                      refine lv_bipush (v := 110) hx hb dX5_note_200 (by decide) ?_
                      refine tk_cast hx hb hK hM hS 0 hR.a4 rfl (show vp_nar .char 110 = 110 from rfl) (vp_in_nI (by omega) (by decide)) dX5_note_202 (fun H locs hM hS => ?_)
                      rw [show (nI (nE M)).toNatClampNeg = (nE M) from nI_clamp (by omega)] at hM
                      have hR := hR.p4 (i := (nE M)) (v := 110)
                      refine lv_aload_n hx hb dX5_note_203 rfl (lv_at hl 2 rfl) ?_
                      refine lv_dup hx hb dX5_note_204 rfl ?_
                      refine tk_get hx hb hts inX5 hown hK hM hR.1 rfl 21 (by decide) (hts (.fieldLink RX5 76 "TicketForgeModel" "entries" "I") (by decide +kernel)) (fun _ h9 => h9) rfl dX5_note_205 ?_
                      rw [show (st (st (st (st (st M 9 (nE M) (nI t)) 10 (nE M) (nI q)) 11 (nE M) (nI w)) 12 (nE M) hv0) 5 (nE M) 110) 0 21 = nI (nE M) from hW.e.1]
                      refine lv_iconst (v := 1) hx hb dX5_note_208 (by decide) ?_
                      refine lv_iadd hx hb dX5_note_209 ?_
                      refine tk_put (ty := .int) hx hb hts inX5 tyX5 tyX5_ok nmX5 hown hK hM hS hR.1 rfl 21 (by decide) (hts (.fieldLink RX5 76 "TicketForgeModel" "entries" "I") (by decide +kernel)) (fun _ h9 => h9) rfl (by decide +kernel) rfl rfl (Nat.le_of_ble_eq_true rfl) dX5_note_210 (fun H locs hM hS => ?_)
                      have hR := hR.sc 21 (mF_21 _ _ _ ((nI (nE M)) + 1))
                      refine lv_aload_n hx hb dX5_note_213 rfl (lv_at hl 2 rfl) ?_
                      refine tk_get hx hb hts inX5 hown hK hM hR.1 rfl 21 (by decide) (hts (.fieldLink RX5 76 "TicketForgeModel" "entries" "I") (by decide +kernel)) (fun _ h9 => h9) rfl dX5_note_214 ?_
                      rw [show (st (st (st (st (st (st M 9 (nE M) (nI t)) 10 (nE M) (nI q)) 11 (nE M) (nI w)) 12 (nE M) hv0) 5 (nE M) 110) 0 21 ((nI (nE M)) + 1)) 0 21 = nI (nE M) + 1 from st_self _ _ _ _]
                      refine lv_iconst (v := 1) hx hb dX5_note_217 (by decide) ?_
                      refine lv_isub hx hb dX5_note_218 ?_
                      have eS : S_note M (nI t) (nI q) (nI w) hv0 = (0, (st (st (st (st (st (st M 9 (nE M) (nI t)) 10 (nE M) (nI q)) 11 (nE M) (nI w)) 12 (nE M) hv0) 5 (nE M) 110) 0 21 ((nI (nE M)) + 1)), nI (nE M)) := (by rw [S_note, show tn (nI t) = t from nI_clamp (show t < 2 ^ 31 by omega), show tn (nI w) = w from nI_clamp (show w < 2 ^ 31 by omega), if_neg (by rw [hok]; decide), if_neg (by rw [hok_p0, hok_w0, hr_7]; decide), if_neg (fun h => h c_9), if_pos ⟨Or.inr c_27, Or.inr (by rw [← hr_11]; exact Int32.not_lt.mp c_36), by rw [hW.e.1]; exact Int32.not_le.mp c_39⟩])
                      exact W.iret (v := ((nI (nE M) + 1) - 1)) hx hb hr (fun t9 h9 w9 => ⟨⟨((nI (nE M) + 1) - 1), _, rfl, by rw [eS]; exact ⟨hR, Int32.add_sub_cancel _ _⟩, (by show tkM A D _ _; rw [h9]; exact hM)⟩, hS.F h9⟩) hS.2.2 dX5_note_219
          · skip
            refine lv_iconst (v := 3) hx hb dX5_note_53 (by decide) ?_
            refine lv_goto (tgt := 58) hx hb dX5_note_54 (by decide) ?_
            refine tk_put (ty := .int) hx hb hts inX5 tyX5 tyX5_ok nmX5 hown hK hM hS hR.1 rfl 18 (by decide) (hts (.fieldLink RX5 66 "TicketForgeModel" "thrown" "I") (by decide +kernel)) (fun _ h9 => h9) rfl (by decide +kernel) rfl rfl (Nat.le_of_ble_eq_true rfl) dX5_note_58 (fun H locs hM hS => ?_)
            have hR := hR.th (v := 3)
            refine lv_aload_n hx hb dX5_note_61 rfl (lv_at hl 0 rfl) ?_
            refine tk_get hx hb hts inX5 hown hK hM hR.1 rfl 18 (by decide) (hts (.fieldLink RX5 66 "TicketForgeModel" "thrown" "I") (by decide +kernel)) (fun _ h9 => h9) rfl dX5_note_62 ?_
            refine lv_if_le (tgt := 70) hx hb dX5_note_65 (by decide) (fun c_44 => absurd c_44 (by decide)) (fun c_44 => ?_)
            refine lv_iconst (v := 0) hx hb dX5_note_68 (by decide) ?_
            have eS : S_note M (nI t) (nI q) (nI w) hv0 = (3, M, 0) := (by rw [S_note, show tn (nI t) = t from nI_clamp (show t < 2 ^ 31 by omega), show tn (nI w) = w from nI_clamp (show w < 2 ^ 31 by omega), if_neg (by rw [hok]; decide), if_neg (by rw [hok_p0, hok_w0, hr_7]; decide), if_pos c_9])
            exact W.iret (v := 0) hx hb hr (fun t9 h9 w9 => ⟨⟨0, _, rfl, by rw [eS]; exact ⟨hR, rfl⟩, (by show tkM A D _ _; rw [h9]; exact hM)⟩, hS.F h9⟩) hS.2.2 dX5_note_69
        · skip
          refine lv_if_ne (tgt := 44) hx hb dX5_note_37 (by decide) (fun c_45 => absurd c_45 (by decide)) (fun c_45 => ?_)
          refine lv_iconst (v := 2) hx hb dX5_note_40 (by decide) ?_
          refine lv_goto (tgt := 58) hx hb dX5_note_41 (by decide) ?_
          refine tk_put (ty := .int) hx hb hts inX5 tyX5 tyX5_ok nmX5 hown hK hM hS hR.1 rfl 18 (by decide) (hts (.fieldLink RX5 66 "TicketForgeModel" "thrown" "I") (by decide +kernel)) (fun _ h9 => h9) rfl (by decide +kernel) rfl rfl (Nat.le_of_ble_eq_true rfl) dX5_note_58 (fun H locs hM hS => ?_)
          have hR := hR.th (v := 2)
          refine lv_aload_n hx hb dX5_note_61 rfl (lv_at hl 0 rfl) ?_
          refine tk_get hx hb hts inX5 hown hK hM hR.1 rfl 18 (by decide) (hts (.fieldLink RX5 66 "TicketForgeModel" "thrown" "I") (by decide +kernel)) (fun _ h9 => h9) rfl dX5_note_62 ?_
          refine lv_if_le (tgt := 70) hx hb dX5_note_65 (by decide) (fun c_46 => absurd c_46 (by decide)) (fun c_46 => ?_)
          refine lv_iconst (v := 0) hx hb dX5_note_68 (by decide) ?_
          have eS : S_note M (nI t) (nI q) (nI w) hv0 = (2, M, 0) := (by rw [S_note, show tn (nI t) = t from nI_clamp (show t < 2 ^ 31 by omega), show tn (nI w) = w from nI_clamp (show w < 2 ^ 31 by omega), if_neg (by rw [hok]; decide), if_pos (Or.inr (Or.inr (hr_7)))])
          exact W.iret (v := 0) hx hb hr (fun t9 h9 w9 => ⟨⟨0, _, rfl, by rw [eS]; exact ⟨hR, rfl⟩, (by show tkM A D _ _; rw [h9]; exact hM)⟩, hS.F h9⟩) hS.2.2 dX5_note_69
      · have hok_w0 : tkOk 30 w0 = false := by first | exact hr_5 | (rw [← tkIn_n (by decide)]; exact hr_5)
        refine lv_if_eq (tgt := 40) hx hb dX5_note_26 (by decide) (fun c_47 => ?_) (fun c_47 => absurd (by decide) c_47)
        refine lv_iconst (v := 2) hx hb dX5_note_40 (by decide) ?_
        refine lv_goto (tgt := 58) hx hb dX5_note_41 (by decide) ?_
        refine tk_put (ty := .int) hx hb hts inX5 tyX5 tyX5_ok nmX5 hown hK hM hS hR.1 rfl 18 (by decide) (hts (.fieldLink RX5 66 "TicketForgeModel" "thrown" "I") (by decide +kernel)) (fun _ h9 => h9) rfl (by decide +kernel) rfl rfl (Nat.le_of_ble_eq_true rfl) dX5_note_58 (fun H locs hM hS => ?_)
        have hR := hR.th (v := 2)
        refine lv_aload_n hx hb dX5_note_61 rfl (lv_at hl 0 rfl) ?_
        refine tk_get hx hb hts inX5 hown hK hM hR.1 rfl 18 (by decide) (hts (.fieldLink RX5 66 "TicketForgeModel" "thrown" "I") (by decide +kernel)) (fun _ h9 => h9) rfl dX5_note_62 ?_
        refine lv_if_le (tgt := 70) hx hb dX5_note_65 (by decide) (fun c_48 => absurd c_48 (by decide)) (fun c_48 => ?_)
        refine lv_iconst (v := 0) hx hb dX5_note_68 (by decide) ?_
        have eS : S_note M (nI t) (nI q) w0 hv0 = (2, M, 0) := (by rw [S_note, show tn (nI t) = t from nI_clamp (show t < 2 ^ 31 by omega), if_neg (by rw [hok]; decide), if_pos (Or.inr (Or.inl hok_w0))])
        exact W.iret (v := 0) hx hb hr (fun t9 h9 w9 => ⟨⟨0, _, rfl, by rw [eS]; exact ⟨hR, rfl⟩, (by show tkM A D _ _; rw [h9]; exact hM)⟩, hS.F h9⟩) hS.2.2 dX5_note_69
    · have hok_p0 : tkOk 4 p0 = false := by first | exact hr_3 | (rw [← tkIn_n (by decide)]; exact hr_3)
      refine lv_if_eq (tgt := 40) hx hb dX5_note_19 (by decide) (fun c_49 => ?_) (fun c_49 => absurd (by decide) c_49)
      refine lv_iconst (v := 2) hx hb dX5_note_40 (by decide) ?_
      refine lv_goto (tgt := 58) hx hb dX5_note_41 (by decide) ?_
      refine tk_put (ty := .int) hx hb hts inX5 tyX5 tyX5_ok nmX5 hown hK hM hS hR.1 rfl 18 (by decide) (hts (.fieldLink RX5 66 "TicketForgeModel" "thrown" "I") (by decide +kernel)) (fun _ h9 => h9) rfl (by decide +kernel) rfl rfl (Nat.le_of_ble_eq_true rfl) dX5_note_58 (fun H locs hM hS => ?_)
      have hR := hR.th (v := 2)
      refine lv_aload_n hx hb dX5_note_61 rfl (lv_at hl 0 rfl) ?_
      refine tk_get hx hb hts inX5 hown hK hM hR.1 rfl 18 (by decide) (hts (.fieldLink RX5 66 "TicketForgeModel" "thrown" "I") (by decide +kernel)) (fun _ h9 => h9) rfl dX5_note_62 ?_
      refine lv_if_le (tgt := 70) hx hb dX5_note_65 (by decide) (fun c_50 => absurd c_50 (by decide)) (fun c_50 => ?_)
      refine lv_iconst (v := 0) hx hb dX5_note_68 (by decide) ?_
      have eS : S_note M (nI t) p0 w0 hv0 = (2, M, 0) := (by rw [S_note, show tn (nI t) = t from nI_clamp (show t < 2 ^ 31 by omega), if_neg (by rw [hok]; decide), if_pos (Or.inl hok_p0)])
      exact W.iret (v := 0) hx hb hr (fun t9 h9 w9 => ⟨⟨0, _, rfl, by rw [eS]; exact ⟨hR, rfl⟩, (by show tkM A D _ _; rw [h9]; exact hM)⟩, hS.F h9⟩) hS.2.2 dX5_note_69
  · skip
    refine lv_if_ne (tgt := 13) hx hb dX5_note_6 (by decide) (fun c_51 => absurd c_51 (by decide)) (fun c_51 => ?_)
    refine lv_iconst (v := 1) hx hb dX5_note_9 (by decide) ?_
    refine lv_goto (tgt := 58) hx hb dX5_note_10 (by decide) ?_
    refine tk_put (ty := .int) hx hb hts inX5 tyX5 tyX5_ok nmX5 hown hK hM hS hR.1 rfl 18 (by decide) (hts (.fieldLink RX5 66 "TicketForgeModel" "thrown" "I") (by decide +kernel)) (fun _ h9 => h9) rfl (by decide +kernel) rfl rfl (Nat.le_of_ble_eq_true rfl) dX5_note_58 (fun H locs hM hS => ?_)
    have hR := hR.th (v := 1)
    refine lv_aload_n hx hb dX5_note_61 rfl (lv_at hl 0 rfl) ?_
    refine tk_get hx hb hts inX5 hown hK hM hR.1 rfl 18 (by decide) (hts (.fieldLink RX5 66 "TicketForgeModel" "thrown" "I") (by decide +kernel)) (fun _ h9 => h9) rfl dX5_note_62 ?_
    refine lv_if_le (tgt := 70) hx hb dX5_note_65 (by decide) (fun c_52 => absurd c_52 (by decide)) (fun c_52 => ?_)
    refine lv_iconst (v := 0) hx hb dX5_note_68 (by decide) ?_
    have eS : S_note M x p0 w0 hv0 = (1, M, 0) := (by rw [S_note, if_pos hr_1])
    exact W.iret (v := 0) hx hb hr (fun t9 h9 w9 => ⟨⟨0, _, rfl, by rw [eS]; exact ⟨hR, rfl⟩, (by show tkM A D _ _; rw [h9]; exact hM)⟩, hS.F h9⟩) hS.2.2 dX5_note_69
set_option maxHeartbeats 4000000 in
set_option maxRecDepth 100000 in
theorem c_X5_approve (l : Launch) (A : Nat → Prop) (D : va_G) (ac : Nat → ClassId) (G : TG) {m0 : Nat} {am : Nat → Nat} {th : Int32} {M : TS} (hR : PR ac m0 am th M G) (hW : W0 M) (x : Int32) : Met l yX5_approve wsX5_approve ({ frames := 3, cells := 0, slots := 0, locals := 180 } : Room) (va_Pc [.ref m0, .int x] (tkJ A D ac G)) (va_Qi (fun (z : Int32) (G9 : TG) => PR ac m0 am (S_approve M x).1 (S_approve M x).2.1 G9 ∧ z = (S_approve M x).2.2) (fun (G9 : TG) t => tkM A D G9 t.heap) A) 0 0 A := by
  refine Met.ofW (cc := cX5_approve) (maxL := 4) (ret := (some .int)) (by decide) rfl ?_
  intro p e s m args below meth c s₁ B hml hv
  obtain ⟨rfl, hM, hK⟩ := hv
  have hS : va_S A s.heap s.heap [] := va_S.rf
  have hx := B.exec
  have hb := B.bytes
  have hr := B.returns
  have hts := atoms_spec (ws := wsX5_approve) B.pre
  have hown : s.vm.findClass RX5 = some m.cls := findClass_of_methodNamed B.named
  have hlocks := B.notSynchronized
  have S0 : CallFix p m c cX5_approve 4 s ([.ref m0, .int x] : List Value).toArray wsX5_approve RX5 := ⟨hx, hb, hml, hown, hts⟩
  have inX5 : ∀ w ∈ wsX50, w ∈ wsX5_approve := by decide +kernel
  have hl := lv_entry ([.ref m0, .int x]) (n := 4) (Nat.le_of_ble_eq_true rfl)
  rw [lg_entry_eq]
  generalize (lg_sl ([.ref m0, .int x]) ++ List.replicate (4 - (lg_sl ([.ref m0, .int x])).length) Slot.unset).toArray = ls at hl ⊢
  have hl : lv_has ls 4 [(0, .ref m0), (1, .int x)] := hl
  have bT := hW.t.2
  have bE := hW.e.2
  have bV := hW.v.2
  refine lv_aload_n hx hb dX5_approve_0 rfl (lv_at hl 0 rfl) ?_
  refine lv_aload_n hx hb dX5_approve_1 rfl (lv_at hl 0 rfl) ?_
  refine lv_iload_n hx hb dX5_approve_2 rfl (lv_at hl 1 rfl) ?_
  refine tk_cVi (As := [.int x]) S0 (c_X5_isEntry l A D ac _ hR hW x) (cwV 1 hts gX5_approve_X5_isEntry rfl rfl rfl (by decide +kernel) ⟨Nat.le_of_ble_eq_true rfl, Nat.le_of_ble_eq_true rfl⟩) (tkJ.blind) (tkJ.at hM hK) (tk_recv hK hM hR.1 rfl) rfl hl.1 rfl (Nat.le_of_ble_eq_true rfl) dX5_approve_3 ⟨Nat.zero_le _, Nat.zero_le _⟩ (fun r_1 hr_1 => ?_)
  rcases hr_1 with ⟨rfl, hr_1⟩ | ⟨rfl, hr_1⟩
  · have hok := hr_1
    obtain ⟨k, hk, rfl⟩ := tkOk_ex (by omega) hr_1
    refine lv_if_ne (tgt := 13) hx hb dX5_approve_6 (by decide) (fun c_2 => ?_) (fun c_2 => absurd c_2 (by decide))
    refine lv_aload_n hx hb dX5_approve_13 rfl (lv_at hl 0 rfl) ?_
    refine tk_get hx hb hts inX5 hown hK hM hR.1 rfl 4 (by decide) (hts (.fieldLink RX5 23 "TicketForgeModel" "entryStates" "[C") (by decide +kernel)) (fun _ h9 => h9) rfl dX5_approve_14 ?_
    refine lv_iload_n hx hb dX5_approve_17 rfl (lv_at hl 1 rfl) ?_
    refine tk_cald hx hb hK hM 0 hR.a4 rfl (vp_in_nI (by omega) (by decide)) dX5_approve_18 ?_
    rw [show (nI k).toNatClampNeg = k from nI_clamp (by omega)]
    refine lv_bipush (v := 110) hx hb dX5_approve_19 (by decide) ?_
    refine lv_icmp_eq (tgt := 28) hx hb dX5_approve_21 (by decide) (fun c_3 => ?_) (fun c_3 => ?_)
    · skip
      refine lv_aload_n hx hb dX5_approve_28 rfl (lv_at hl 0 rfl) ?_
      refine tk_get hx hb hts inX5 hown hK hM hR.1 rfl 6 (by decide) (hts (.fieldLink RX5 30 "TicketForgeModel" "areLocked" "[Z") (by decide +kernel)) (fun _ h9 => h9) rfl dX5_approve_29 ?_
      refine lv_aload_n hx hb dX5_approve_32 rfl (lv_at hl 0 rfl) ?_
      refine tk_get hx hb hts inX5 hown hK hM hR.1 rfl 10 (by decide) (hts (.fieldLink RX5 42 "TicketForgeModel" "weeks" "[I") (by decide +kernel)) (fun _ h9 => h9) rfl dX5_approve_33 ?_
      refine lv_iload_n hx hb dX5_approve_36 rfl (lv_at hl 1 rfl) ?_
      refine tk_iald hx hb hK hM 1 hR.a10 rfl (vp_in_nI (by omega) (by decide)) dX5_approve_37 ?_
      rw [show (nI k).toNatClampNeg = k from nI_clamp (by omega)]
      obtain ⟨w, h_w, e_w⟩ := hW.ew hk
      rw [e_w]
      refine tk_zald hx hb hK hM 2 hR.a6 rfl (vp_in_nI (by omega) (by decide)) dX5_approve_38 ?_
      rw [show (nI w).toNatClampNeg = w from nI_clamp (by omega)]
      refine lv_if_eq (tgt := 46) hx hb dX5_approve_39 (by decide) (fun c_4 => ?_) (fun c_4 => ?_)
      · skip
        refine lv_iconst (v := 0) hx hb dX5_approve_46 (by decide) ?_
        refine tk_put (ty := .int) hx hb hts inX5 tyX5 tyX5_ok nmX5 hown hK hM hS hR.1 rfl 18 (by decide) (hts (.fieldLink RX5 66 "TicketForgeModel" "thrown" "I") (by decide +kernel)) (fun _ h9 => h9) rfl (by decide +kernel) rfl rfl (Nat.le_of_ble_eq_true rfl) dX5_approve_47 (fun H locs hM hS => ?_)
        have hR := hR.th (v := 0)
        refine lv_aload_n hx hb dX5_approve_50 rfl (lv_at hl 0 rfl) ?_
        refine tk_get hx hb hts inX5 hown hK hM hR.1 rfl 18 (by decide) (hts (.fieldLink RX5 66 "TicketForgeModel" "thrown" "I") (by decide +kernel)) (fun _ h9 => h9) rfl dX5_approve_51 ?_
        refine lv_if_le (tgt := 59) hx hb dX5_approve_54 (by decide) (fun c_5 => ?_) (fun c_5 => absurd (by decide) c_5)
        refine lv_aload_n hx hb dX5_approve_59 rfl (lv_at hl 0 rfl) ?_
        refine tk_get hx hb hts inX5 hown hK hM hR.1 rfl 4 (by decide) (hts (.fieldLink RX5 23 "TicketForgeModel" "entryStates" "[C") (by decide +kernel)) (fun _ h9 => h9) rfl dX5_approve_60 ?_
        refine lv_iload_n hx hb dX5_approve_63 rfl (lv_at hl 1 rfl) ?_
        refine lv_bipush (v := 97) hx hb dX5_approve_64 (by decide) ?_
        refine tk_cast hx hb hK hM hS 0 hR.a4 rfl (show vp_nar .char 97 = 97 from rfl) (vp_in_nI (by omega) (by decide)) dX5_approve_66 (fun H locs hM hS => ?_)
        rw [show (nI k).toNatClampNeg = k from nI_clamp (by omega)] at hM
        have hR := hR.p4 (i := k) (v := 97)
        refine lv_iconst (v := 0) hx hb dX5_approve_67 (by decide) ?_
        refine lv_istore_n (lv' := [(2, .int 0), (0, .ref m0), (1, .int (nI k))]) hx hb dX5_approve_68 rfl hl (by decide) rfl (fun ls hl => ?_)
        refine lv_iconst (v := 0) hx hb dX5_approve_69 (by decide) ?_
        refine lv_istore_n (lv' := [(3, .int 0), (2, .int 0), (0, .ref m0), (1, .int (nI k))]) hx hb dX5_approve_70 rfl hl (by decide) rfl (fun ls hl => ?_)
        refine tk_f1 (Wf := W p l e _ s m _ below meth c _ _ _ _ _) (nE M) (fun i acc ls => lv_has ls 4 [(0, .ref m0), (1, .int (nI k)), (3, .int (nI i)), (2, .int acc)] ∧ acc = sumI (fun j => if (st M 5 k 97) 11 j = (st M 5 k 97) 11 k ∧ (st M 5 k 97) 5 j = 97 then (st M 5 k 97) 12 j else 0) i) (fun i acc ls hi hinv ih => ?_) _ ls ⟨(lv_sub hl [2, 3, 0, 1] rfl), rfl⟩
        obtain ⟨hl, hinv⟩ := hinv
        refine lv_iload_n hx hb dX5_approve_71 rfl (lv_at hl 2 rfl) ?_
        refine lv_aload_n hx hb dX5_approve_72 rfl (lv_at hl 0 rfl) ?_
        refine tk_get hx hb hts inX5 hown hK hM hR.1 rfl 21 (by decide) (hts (.fieldLink RX5 76 "TicketForgeModel" "entries" "I") (by decide +kernel)) (fun _ h9 => h9) rfl dX5_approve_73 ?_
        rw [show (st M 5 k 97) 0 21 = nI (nE M) from hW.e.1]
        refine lv_icmp_ge (tgt := 124) hx hb dX5_approve_76 (by decide) (fun c_6 => ?_) (fun c_6 => ?_)
        · have hge := tk_ge (by omega) (by omega) c_6
          refine lv_iload_n hx hb dX5_approve_124 rfl (lv_at hl 3 rfl) ?_
          have eS : S_approve M (nI k) = (0, (st M 5 k 97), acc) := (by rw [S_approve, show tn (nI k) = k from nI_clamp (show k < 2 ^ 31 by omega), if_neg (by rw [hok]; decide), if_neg (fun h => h c_3), if_neg (fun h => h (by rw [e_w, show tn (nI w) = w from nI_clamp (show w < 2 ^ 31 by omega)]; exact c_4))]; exact Prod.ext rfl (Prod.ext rfl (sumI_e hinv hi hge).symm))
          exact W.iret (v := acc) hx hb hr (fun t9 h9 w9 => ⟨⟨acc, _, rfl, by rw [eS]; exact ⟨hR, rfl⟩, (by show tkM A D _ _; rw [h9]; exact hM)⟩, hS.F h9⟩) hS.2.2 dX5_approve_125
        · have hlt := tk_lt (by omega) (by omega) c_6
          refine lv_iload_n hx hb dX5_approve_79 rfl (lv_at hl 3 rfl) ?_
          refine lv_aload_n hx hb dX5_approve_80 rfl (lv_at hl 0 rfl) ?_
          refine tk_get hx hb hts inX5 hown hK hM hR.1 rfl 10 (by decide) (hts (.fieldLink RX5 42 "TicketForgeModel" "weeks" "[I") (by decide +kernel)) (fun _ h9 => h9) rfl dX5_approve_81 ?_
          refine lv_iload_n hx hb dX5_approve_84 rfl (lv_at hl 2 rfl) ?_
          refine tk_iald hx hb hK hM 1 hR.a10 rfl (vp_in_nI (by omega) (by decide)) dX5_approve_85 ?_
          rw [show (nI i).toNatClampNeg = i from nI_clamp (by omega)]
          refine lv_aload_n hx hb dX5_approve_86 rfl (lv_at hl 0 rfl) ?_
          refine tk_get hx hb hts inX5 hown hK hM hR.1 rfl 10 (by decide) (hts (.fieldLink RX5 42 "TicketForgeModel" "weeks" "[I") (by decide +kernel)) (fun _ h9 => h9) rfl dX5_approve_87 ?_
          refine lv_iload_n hx hb dX5_approve_90 rfl (lv_at hl 1 rfl) ?_
          refine tk_iald hx hb hK hM 1 hR.a10 rfl (vp_in_nI (by omega) (by decide)) dX5_approve_91 ?_
          rw [show (nI k).toNatClampNeg = k from nI_clamp (by omega)]
          refine lv_icmp_ne (tgt := 115) hx hb dX5_approve_92 (by decide) (fun c_7 => ?_) (fun c_7 => ?_)
          · skip
            refine lv_iconst (v := 0) hx hb dX5_approve_115 (by decide) ?_
            refine lv_iadd hx hb dX5_approve_116 ?_
            refine lv_istore_n (lv' := [(2, .int (acc + 0)), (0, .ref m0), (1, .int (nI k)), (3, .int (nI i))]) hx hb dX5_approve_117 rfl hl (by decide) rfl (fun ls hl => ?_)
            refine lv_iinc (v := (nI (i + 1))) (lv' := [(3, .int (nI (i + 1))), (2, .int (acc + 0)), (0, .ref m0), (1, .int (nI k))]) hx hb dX5_approve_118 hl (k := 3) rfl (nI_1 i) (by decide) rfl (fun ls hl => ?_)
            refine lv_goto (tgt := 71) hx hb dX5_approve_121 (by decide) ?_
            exact ih _ ls (by omega) ⟨(lv_sub hl [2, 3, 0, 1] rfl), sumI_z hinv (if_neg (fun h => c_7 h.1))⟩
          · skip
            refine lv_aload_n hx hb dX5_approve_95 rfl (lv_at hl 0 rfl) ?_
            refine tk_get hx hb hts inX5 hown hK hM hR.1 rfl 4 (by decide) (hts (.fieldLink RX5 23 "TicketForgeModel" "entryStates" "[C") (by decide +kernel)) (fun _ h9 => h9) rfl dX5_approve_96 ?_
            refine lv_iload_n hx hb dX5_approve_99 rfl (lv_at hl 2 rfl) ?_
            refine tk_cald hx hb hK hM 0 hR.a4 rfl (vp_in_nI (by omega) (by decide)) dX5_approve_100 ?_
            rw [show (nI i).toNatClampNeg = i from nI_clamp (by omega)]
            refine lv_bipush (v := 97) hx hb dX5_approve_101 (by decide) ?_
            refine lv_icmp_ne (tgt := 115) hx hb dX5_approve_103 (by decide) (fun c_8 => ?_) (fun c_8 => ?_)
            · skip
              refine lv_iconst (v := 0) hx hb dX5_approve_115 (by decide) ?_
              refine lv_iadd hx hb dX5_approve_116 ?_
              refine lv_istore_n (lv' := [(2, .int (acc + 0)), (0, .ref m0), (1, .int (nI k)), (3, .int (nI i))]) hx hb dX5_approve_117 rfl hl (by decide) rfl (fun ls hl => ?_)
              refine lv_iinc (v := (nI (i + 1))) (lv' := [(3, .int (nI (i + 1))), (2, .int (acc + 0)), (0, .ref m0), (1, .int (nI k))]) hx hb dX5_approve_118 hl (k := 3) rfl (nI_1 i) (by decide) rfl (fun ls hl => ?_)
              refine lv_goto (tgt := 71) hx hb dX5_approve_121 (by decide) ?_
              exact ih _ ls (by omega) ⟨(lv_sub hl [2, 3, 0, 1] rfl), sumI_z hinv (if_neg (fun h => c_8 h.2))⟩
            · skip
              refine lv_aload_n hx hb dX5_approve_106 rfl (lv_at hl 0 rfl) ?_
              refine tk_get hx hb hts inX5 hown hK hM hR.1 rfl 11 (by decide) (hts (.fieldLink RX5 45 "TicketForgeModel" "hoursOf" "[I") (by decide +kernel)) (fun _ h9 => h9) rfl dX5_approve_107 ?_
              refine lv_iload_n hx hb dX5_approve_110 rfl (lv_at hl 2 rfl) ?_
              refine tk_iald hx hb hK hM 1 hR.a11 rfl (vp_in_nI (by omega) (by decide)) dX5_approve_111 ?_
              rw [show (nI i).toNatClampNeg = i from nI_clamp (by omega)]
              refine lv_goto (tgt := 116) hx hb dX5_approve_112 (by decide) ?_
              refine lv_iadd hx hb dX5_approve_116 ?_
              refine lv_istore_n (lv' := [(2, .int (acc + (((st M 5 k 97) 12) i))), (0, .ref m0), (1, .int (nI k)), (3, .int (nI i))]) hx hb dX5_approve_117 rfl hl (by decide) rfl (fun ls hl => ?_)
              refine lv_iinc (v := (nI (i + 1))) (lv' := [(3, .int (nI (i + 1))), (2, .int (acc + (((st M 5 k 97) 12) i))), (0, .ref m0), (1, .int (nI k))]) hx hb dX5_approve_118 hl (k := 3) rfl (nI_1 i) (by decide) rfl (fun ls hl => ?_)
              refine lv_goto (tgt := 71) hx hb dX5_approve_121 (by decide) ?_
              exact ih _ ls (by omega) ⟨(lv_sub hl [2, 3, 0, 1] rfl), sumI_t hinv (if_pos ⟨c_7, c_8⟩)⟩
      · skip
        refine lv_iconst (v := 3) hx hb dX5_approve_42 (by decide) ?_
        refine lv_goto (tgt := 47) hx hb dX5_approve_43 (by decide) ?_
        refine tk_put (ty := .int) hx hb hts inX5 tyX5 tyX5_ok nmX5 hown hK hM hS hR.1 rfl 18 (by decide) (hts (.fieldLink RX5 66 "TicketForgeModel" "thrown" "I") (by decide +kernel)) (fun _ h9 => h9) rfl (by decide +kernel) rfl rfl (Nat.le_of_ble_eq_true rfl) dX5_approve_47 (fun H locs hM hS => ?_)
        have hR := hR.th (v := 3)
        refine lv_aload_n hx hb dX5_approve_50 rfl (lv_at hl 0 rfl) ?_
        refine tk_get hx hb hts inX5 hown hK hM hR.1 rfl 18 (by decide) (hts (.fieldLink RX5 66 "TicketForgeModel" "thrown" "I") (by decide +kernel)) (fun _ h9 => h9) rfl dX5_approve_51 ?_
        refine lv_if_le (tgt := 59) hx hb dX5_approve_54 (by decide) (fun c_9 => absurd c_9 (by decide)) (fun c_9 => ?_)
        refine lv_iconst (v := 0) hx hb dX5_approve_57 (by decide) ?_
        have eS : S_approve M (nI k) = (3, M, 0) := (by rw [S_approve, show tn (nI k) = k from nI_clamp (show k < 2 ^ 31 by omega), if_neg (by rw [hok]; decide), if_neg (fun h => h c_3), if_pos (by rw [e_w, show tn (nI w) = w from nI_clamp (show w < 2 ^ 31 by omega)]; exact c_4)])
        exact W.iret (v := 0) hx hb hr (fun t9 h9 w9 => ⟨⟨0, _, rfl, by rw [eS]; exact ⟨hR, rfl⟩, (by show tkM A D _ _; rw [h9]; exact hM)⟩, hS.F h9⟩) hS.2.2 dX5_approve_58
    · skip
      refine lv_iconst (v := 2) hx hb dX5_approve_24 (by decide) ?_
      refine lv_goto (tgt := 47) hx hb dX5_approve_25 (by decide) ?_
      refine tk_put (ty := .int) hx hb hts inX5 tyX5 tyX5_ok nmX5 hown hK hM hS hR.1 rfl 18 (by decide) (hts (.fieldLink RX5 66 "TicketForgeModel" "thrown" "I") (by decide +kernel)) (fun _ h9 => h9) rfl (by decide +kernel) rfl rfl (Nat.le_of_ble_eq_true rfl) dX5_approve_47 (fun H locs hM hS => ?_)
      have hR := hR.th (v := 2)
      refine lv_aload_n hx hb dX5_approve_50 rfl (lv_at hl 0 rfl) ?_
      refine tk_get hx hb hts inX5 hown hK hM hR.1 rfl 18 (by decide) (hts (.fieldLink RX5 66 "TicketForgeModel" "thrown" "I") (by decide +kernel)) (fun _ h9 => h9) rfl dX5_approve_51 ?_
      refine lv_if_le (tgt := 59) hx hb dX5_approve_54 (by decide) (fun c_10 => absurd c_10 (by decide)) (fun c_10 => ?_)
      refine lv_iconst (v := 0) hx hb dX5_approve_57 (by decide) ?_
      have eS : S_approve M (nI k) = (2, M, 0) := (by rw [S_approve, show tn (nI k) = k from nI_clamp (show k < 2 ^ 31 by omega), if_neg (by rw [hok]; decide), if_pos c_3])
      exact W.iret (v := 0) hx hb hr (fun t9 h9 w9 => ⟨⟨0, _, rfl, by rw [eS]; exact ⟨hR, rfl⟩, (by show tkM A D _ _; rw [h9]; exact hM)⟩, hS.F h9⟩) hS.2.2 dX5_approve_58
  · skip
    refine lv_if_ne (tgt := 13) hx hb dX5_approve_6 (by decide) (fun c_11 => absurd c_11 (by decide)) (fun c_11 => ?_)
    refine lv_iconst (v := 1) hx hb dX5_approve_9 (by decide) ?_
    refine lv_goto (tgt := 47) hx hb dX5_approve_10 (by decide) ?_
    refine tk_put (ty := .int) hx hb hts inX5 tyX5 tyX5_ok nmX5 hown hK hM hS hR.1 rfl 18 (by decide) (hts (.fieldLink RX5 66 "TicketForgeModel" "thrown" "I") (by decide +kernel)) (fun _ h9 => h9) rfl (by decide +kernel) rfl rfl (Nat.le_of_ble_eq_true rfl) dX5_approve_47 (fun H locs hM hS => ?_)
    have hR := hR.th (v := 1)
    refine lv_aload_n hx hb dX5_approve_50 rfl (lv_at hl 0 rfl) ?_
    refine tk_get hx hb hts inX5 hown hK hM hR.1 rfl 18 (by decide) (hts (.fieldLink RX5 66 "TicketForgeModel" "thrown" "I") (by decide +kernel)) (fun _ h9 => h9) rfl dX5_approve_51 ?_
    refine lv_if_le (tgt := 59) hx hb dX5_approve_54 (by decide) (fun c_12 => absurd c_12 (by decide)) (fun c_12 => ?_)
    refine lv_iconst (v := 0) hx hb dX5_approve_57 (by decide) ?_
    have eS : S_approve M x = (1, M, 0) := (by rw [S_approve, if_pos hr_1])
    exact W.iret (v := 0) hx hb hr (fun t9 h9 w9 => ⟨⟨0, _, rfl, by rw [eS]; exact ⟨hR, rfl⟩, (by show tkM A D _ _; rw [h9]; exact hM)⟩, hS.F h9⟩) hS.2.2 dX5_approve_58
set_option maxHeartbeats 4000000 in
set_option maxRecDepth 100000 in
theorem c_X5_lock (l : Launch) (A : Nat → Prop) (D : va_G) (ac : Nat → ClassId) (G : TG) {m0 : Nat} {am : Nat → Nat} {th : Int32} {M : TS} (hR : PR ac m0 am th M G) (hW : W0 M) (w0 : Int32) : Met l yX5_lock wsX5_lock ({ frames := 2, cells := 0, slots := 0, locals := 140 } : Room) (va_Pc [.ref m0, .int w0] (tkJ A D ac G)) (va_Qi (fun (z : Int32) (G9 : TG) => PR ac m0 am (S_lock M w0).1 (S_lock M w0).2.1 G9 ∧ z = (S_lock M w0).2.2) (fun (G9 : TG) t => tkM A D G9 t.heap) A) 0 0 A := by
  refine Met.ofW (cc := cX5_lock) (maxL := 4) (ret := (some .int)) (by decide) rfl ?_
  intro p e s m args below meth c s₁ B hml hv
  obtain ⟨rfl, hM, hK⟩ := hv
  have hS : va_S A s.heap s.heap [] := va_S.rf
  have hx := B.exec
  have hb := B.bytes
  have hr := B.returns
  have hts := atoms_spec (ws := wsX5_lock) B.pre
  have hown : s.vm.findClass RX5 = some m.cls := findClass_of_methodNamed B.named
  have hlocks := B.notSynchronized
  have S0 : CallFix p m c cX5_lock 4 s ([.ref m0, .int w0] : List Value).toArray wsX5_lock RX5 := ⟨hx, hb, hml, hown, hts⟩
  have inX5 : ∀ w ∈ wsX50, w ∈ wsX5_lock := by decide +kernel
  have hl := lv_entry ([.ref m0, .int w0]) (n := 4) (Nat.le_of_ble_eq_true rfl)
  rw [lg_entry_eq]
  generalize (lg_sl ([.ref m0, .int w0]) ++ List.replicate (4 - (lg_sl ([.ref m0, .int w0])).length) Slot.unset).toArray = ls at hl ⊢
  have hl : lv_has ls 4 [(0, .ref m0), (1, .int w0)] := hl
  have bT := hW.t.2
  have bE := hW.e.2
  have bV := hW.v.2
  refine lv_aload_n hx hb dX5_lock_0 rfl (lv_at hl 0 rfl) ?_
  refine lv_iload_n hx hb dX5_lock_1 rfl (lv_at hl 1 rfl) ?_
  refine tk_cSi (As := [.int w0]) S0 (c_X5_isWeek l A D ac _ w0) (va_cwS 1 hts gX5_lock_X5_isWeek rfl rfl rfl (by decide +kernel) ⟨Nat.le_of_ble_eq_true rfl, Nat.le_of_ble_eq_true rfl⟩) (tkJ.blind) (tkJ.at hM hK) rfl hl.1 rfl (Nat.le_of_ble_eq_true rfl) dX5_lock_2 ⟨Nat.zero_le _, Nat.zero_le _⟩ (fun r_1 hr_1 => ?_)
  rcases hr_1 with ⟨rfl, hr_1⟩ | ⟨rfl, hr_1⟩
  · have hok_w0 : tkOk 30 w0 = true := by first | exact hr_1 | (rw [← tkIn_n (by decide)]; exact hr_1)
    obtain ⟨w, hw, rfl⟩ := tkOk_ex (by decide) hok_w0
    refine lv_if_ne (tgt := 12) hx hb dX5_lock_5 (by decide) (fun c_2 => ?_) (fun c_2 => absurd c_2 (by decide))
    refine lv_aload_n hx hb dX5_lock_12 rfl (lv_at hl 0 rfl) ?_
    refine tk_get hx hb hts inX5 hown hK hM hR.1 rfl 6 (by decide) (hts (.fieldLink RX5 30 "TicketForgeModel" "areLocked" "[Z") (by decide +kernel)) (fun _ h9 => h9) rfl dX5_lock_13 ?_
    refine lv_iload_n hx hb dX5_lock_16 rfl (lv_at hl 1 rfl) ?_
    refine tk_zald hx hb hK hM 2 hR.a6 rfl (vp_in_nI (by omega) (by decide)) dX5_lock_17 ?_
    rw [show (nI w).toNatClampNeg = w from nI_clamp (by omega)]
    refine lv_if_eq (tgt := 25) hx hb dX5_lock_18 (by decide) (fun c_3 => ?_) (fun c_3 => ?_)
    · skip
      refine lv_iconst (v := 0) hx hb dX5_lock_25 (by decide) ?_
      refine tk_put (ty := .int) hx hb hts inX5 tyX5 tyX5_ok nmX5 hown hK hM hS hR.1 rfl 18 (by decide) (hts (.fieldLink RX5 66 "TicketForgeModel" "thrown" "I") (by decide +kernel)) (fun _ h9 => h9) rfl (by decide +kernel) rfl rfl (Nat.le_of_ble_eq_true rfl) dX5_lock_26 (fun H locs hM hS => ?_)
      have hR := hR.th (v := 0)
      refine lv_aload_n hx hb dX5_lock_29 rfl (lv_at hl 0 rfl) ?_
      refine tk_get hx hb hts inX5 hown hK hM hR.1 rfl 18 (by decide) (hts (.fieldLink RX5 66 "TicketForgeModel" "thrown" "I") (by decide +kernel)) (fun _ h9 => h9) rfl dX5_lock_30 ?_
      refine lv_if_le (tgt := 38) hx hb dX5_lock_33 (by decide) (fun c_4 => ?_) (fun c_4 => absurd (by decide) c_4)
      refine lv_aload_n hx hb dX5_lock_38 rfl (lv_at hl 0 rfl) ?_
      refine tk_get hx hb hts inX5 hown hK hM hR.1 rfl 6 (by decide) (hts (.fieldLink RX5 30 "TicketForgeModel" "areLocked" "[Z") (by decide +kernel)) (fun _ h9 => h9) rfl dX5_lock_39 ?_
      refine lv_iload_n hx hb dX5_lock_42 rfl (lv_at hl 1 rfl) ?_
      refine lv_iconst (v := 1) hx hb dX5_lock_43 (by decide) ?_
      refine tk_zast hx hb hK hM hS 2 hR.a6 rfl (show vp_nar .boolean 1 = 1 from rfl) (vp_in_nI (by omega) (by decide)) dX5_lock_44 (fun H locs hM hS => ?_)
      rw [show (nI w).toNatClampNeg = w from nI_clamp (by omega)] at hM
      have hR := hR.p6 (i := w) (v := 1)
      have hR : PR ac m0 am 0 (nLock M w) _ := hR.c27 (v := M 0 27 ||| ((1 : Int32) <<< (nI w &&& 31)))
      refine lv_iconst (v := 0) hx hb dX5_lock_45 (by decide) ?_
      refine lv_istore_n (lv' := [(2, .int 0), (0, .ref m0), (1, .int (nI w))]) hx hb dX5_lock_46 rfl hl (by decide) rfl (fun ls hl => ?_)
      refine lv_iconst (v := 0) hx hb dX5_lock_47 (by decide) ?_
      refine lv_istore_n (lv' := [(3, .int 0), (2, .int 0), (0, .ref m0), (1, .int (nI w))]) hx hb dX5_lock_48 rfl hl (by decide) rfl (fun ls hl => ?_)
      refine tk_g1 (Wf := fun H locs g => W p l e _ s m _ below meth c H locs _ _ _ g) (nE M) (fun i (acc : Int32) H locs ls => lv_has ls 4 [(0, .ref m0), (1, .int (nI w)), (3, .int (nI i)), (2, .int acc)] ∧ acc = (dropS (nLock M w) (nI w) i).2 ∧ ∃ G : TG, PR ac m0 am 0 ((dropS (nLock M w) (nI w) i).1) G ∧ tkM A D G H ∧ va_S A s.heap H locs) (fun i acc H locs ls hi hinv ih => ?_) _ _ _ ls ⟨(lv_sub hl [2, 3, 0, 1] rfl), rfl, _, hR, hM, hS⟩
      obtain ⟨hl, hacc, G, hR, hM, hS⟩ := hinv
      refine lv_iload_n hx hb dX5_lock_49 rfl (lv_at hl 2 rfl) ?_
      refine lv_aload_n hx hb dX5_lock_50 rfl (lv_at hl 0 rfl) ?_
      refine tk_get hx hb hts inX5 hown hK hM hR.1 rfl 21 (by decide) (hts (.fieldLink RX5 76 "TicketForgeModel" "entries" "I") (by decide +kernel)) (fun _ h9 => h9) rfl dX5_lock_51 ?_
      rw [show ((dropS (nLock M w) (nI w) i).1) 0 21 = nI (nE M) from ((congrFun (dropS_f (by decide) i) 21).trans hW.e.1)]
      refine lv_icmp_ge (tgt := 98) hx hb dX5_lock_54 (by decide) (fun c_5 => ?_) (fun c_5 => ?_)
      · have hge := tk_ge (by omega) (by omega) c_5
        refine lv_iload_n hx hb dX5_lock_98 rfl (lv_at hl 3 rfl) ?_
        have eS : S_lock M (nI w) = (0, ((dropS (nLock M w) (nI w) i).1), acc) := (by rw [S_lock, show tn (nI w) = w from nI_clamp (show w < 2 ^ 31 by omega), if_neg (by rw [hok_w0]; decide), if_neg (fun h => h c_3), hacc, Nat.le_antisymm hi hge])
        exact W.iret (v := acc) hx hb hr (fun t9 h9 w9 => ⟨⟨acc, _, rfl, by rw [eS]; exact ⟨hR, rfl⟩, (by show tkM A D _ _; rw [h9]; exact hM)⟩, hS.F h9⟩) hS.2.2 dX5_lock_99
      · have hlt := tk_lt (by omega) (by omega) c_5
        refine lv_aload_n hx hb dX5_lock_57 rfl (lv_at hl 0 rfl) ?_
        refine tk_get hx hb hts inX5 hown hK hM hR.1 rfl 10 (by decide) (hts (.fieldLink RX5 42 "TicketForgeModel" "weeks" "[I") (by decide +kernel)) (fun _ h9 => h9) rfl dX5_lock_58 ?_
        refine lv_iload_n hx hb dX5_lock_61 rfl (lv_at hl 2 rfl) ?_
        refine tk_iald hx hb hK hM 1 hR.a10 rfl (vp_in_nI (by omega) (by decide)) dX5_lock_62 ?_
        rw [show (nI i).toNatClampNeg = i from nI_clamp (by omega)]
        rw [dropS_f (f := 11) (by decide)]
        refine lv_iload_n hx hb dX5_lock_63 rfl (lv_at hl 1 rfl) ?_
        refine lv_icmp_ne (tgt := 92) hx hb dX5_lock_64 (by decide) (fun c_6 => ?_) (fun c_6 => ?_)
        · skip
          refine lv_iinc (v := (nI (i + 1))) (lv' := [(3, .int (nI (i + 1))), (0, .ref m0), (1, .int (nI w)), (2, .int acc)]) hx hb dX5_lock_92 hl (k := 2) rfl (nI_1 i) (by decide) rfl (fun ls hl => ?_)
          refine lv_goto (tgt := 49) hx hb dX5_lock_95 (by decide) ?_
          exact ih _ _ _ ls (by omega) ⟨(lv_sub hl [1, 2, 0, 3] rfl), (by rw [dropS, if_neg (fun h => c_6 h.1), hacc]), _, (by rw [dropS, if_neg (fun h => c_6 h.1)]; exact hR), hM, hS⟩
        · skip
          refine lv_aload_n hx hb dX5_lock_67 rfl (lv_at hl 0 rfl) ?_
          refine tk_get hx hb hts inX5 hown hK hM hR.1 rfl 4 (by decide) (hts (.fieldLink RX5 23 "TicketForgeModel" "entryStates" "[C") (by decide +kernel)) (fun _ h9 => h9) rfl dX5_lock_68 ?_
          refine lv_iload_n hx hb dX5_lock_71 rfl (lv_at hl 2 rfl) ?_
          refine tk_cald hx hb hK hM 0 hR.a4 rfl (vp_in_nI (by omega) (by decide)) dX5_lock_72 ?_
          rw [show (nI i).toNatClampNeg = i from nI_clamp (by omega)]
          rw [dropS_5 i (Nat.le_refl i)]
          refine lv_bipush (v := 110) hx hb dX5_lock_73 (by decide) ?_
          refine lv_icmp_eq (tgt := 81) hx hb dX5_lock_75 (by decide) (fun c_7 => ?_) (fun c_7 => ?_)
          · skip
            refine lv_aload_n hx hb dX5_lock_81 rfl (lv_at hl 0 rfl) ?_
            refine tk_get hx hb hts inX5 hown hK hM hR.1 rfl 4 (by decide) (hts (.fieldLink RX5 23 "TicketForgeModel" "entryStates" "[C") (by decide +kernel)) (fun _ h9 => h9) rfl dX5_lock_82 ?_
            refine lv_iload_n hx hb dX5_lock_85 rfl (lv_at hl 2 rfl) ?_
            refine lv_bipush (v := 120) hx hb dX5_lock_86 (by decide) ?_
            refine tk_cast hx hb hK hM hS 0 hR.a4 rfl (show vp_nar .char 120 = 120 from rfl) (vp_in_nI (by omega) (by decide)) dX5_lock_88 (fun H locs hM hS => ?_)
            rw [show (nI i).toNatClampNeg = i from nI_clamp (by omega)] at hM
            have hR := hR.p4 (i := i) (v := 120)
            refine lv_iinc (v := (acc + 1)) (lv' := [(2, .int (acc + 1)), (0, .ref m0), (1, .int (nI w)), (3, .int (nI i))]) hx hb dX5_lock_89 hl (k := 3) rfl rfl (by decide) rfl (fun ls hl => ?_)
            refine lv_iinc (v := (nI (i + 1))) (lv' := [(3, .int (nI (i + 1))), (2, .int (acc + 1)), (0, .ref m0), (1, .int (nI w))]) hx hb dX5_lock_92 hl (k := 3) rfl (nI_1 i) (by decide) rfl (fun ls hl => ?_)
            refine lv_goto (tgt := 49) hx hb dX5_lock_95 (by decide) ?_
            exact ih _ _ _ ls (by omega) ⟨(lv_sub hl [2, 3, 0, 1] rfl), (by rw [dropS, if_pos ⟨c_6, c_7⟩, hacc]), _, (by rw [dropS, if_pos ⟨c_6, c_7⟩]; exact hR), hM, hS⟩
          · skip
            refine lv_goto (tgt := 92) hx hb dX5_lock_78 (by decide) ?_
            refine lv_iinc (v := (nI (i + 1))) (lv' := [(3, .int (nI (i + 1))), (0, .ref m0), (1, .int (nI w)), (2, .int acc)]) hx hb dX5_lock_92 hl (k := 2) rfl (nI_1 i) (by decide) rfl (fun ls hl => ?_)
            refine lv_goto (tgt := 49) hx hb dX5_lock_95 (by decide) ?_
            exact ih _ _ _ ls (by omega) ⟨(lv_sub hl [1, 2, 0, 3] rfl), (by rw [dropS, if_neg (fun h => c_7 h.2), hacc]), _, (by rw [dropS, if_neg (fun h => c_7 h.2)]; exact hR), hM, hS⟩
    · skip
      refine lv_iconst (v := 2) hx hb dX5_lock_21 (by decide) ?_
      refine lv_goto (tgt := 26) hx hb dX5_lock_22 (by decide) ?_
      refine tk_put (ty := .int) hx hb hts inX5 tyX5 tyX5_ok nmX5 hown hK hM hS hR.1 rfl 18 (by decide) (hts (.fieldLink RX5 66 "TicketForgeModel" "thrown" "I") (by decide +kernel)) (fun _ h9 => h9) rfl (by decide +kernel) rfl rfl (Nat.le_of_ble_eq_true rfl) dX5_lock_26 (fun H locs hM hS => ?_)
      have hR := hR.th (v := 2)
      refine lv_aload_n hx hb dX5_lock_29 rfl (lv_at hl 0 rfl) ?_
      refine tk_get hx hb hts inX5 hown hK hM hR.1 rfl 18 (by decide) (hts (.fieldLink RX5 66 "TicketForgeModel" "thrown" "I") (by decide +kernel)) (fun _ h9 => h9) rfl dX5_lock_30 ?_
      refine lv_if_le (tgt := 38) hx hb dX5_lock_33 (by decide) (fun c_8 => absurd c_8 (by decide)) (fun c_8 => ?_)
      refine lv_iconst (v := 0) hx hb dX5_lock_36 (by decide) ?_
      have eS : S_lock M (nI w) = (2, M, 0) := (by rw [S_lock, show tn (nI w) = w from nI_clamp (show w < 2 ^ 31 by omega), if_neg (by rw [hok_w0]; decide), if_pos c_3])
      exact W.iret (v := 0) hx hb hr (fun t9 h9 w9 => ⟨⟨0, _, rfl, by rw [eS]; exact ⟨hR, rfl⟩, (by show tkM A D _ _; rw [h9]; exact hM)⟩, hS.F h9⟩) hS.2.2 dX5_lock_37
  · have hok_w0 : tkOk 30 w0 = false := by first | exact hr_1 | (rw [← tkIn_n (by decide)]; exact hr_1)
    refine lv_if_ne (tgt := 12) hx hb dX5_lock_5 (by decide) (fun c_9 => absurd c_9 (by decide)) (fun c_9 => ?_)
    refine lv_iconst (v := 1) hx hb dX5_lock_8 (by decide) ?_
    refine lv_goto (tgt := 26) hx hb dX5_lock_9 (by decide) ?_
    refine tk_put (ty := .int) hx hb hts inX5 tyX5 tyX5_ok nmX5 hown hK hM hS hR.1 rfl 18 (by decide) (hts (.fieldLink RX5 66 "TicketForgeModel" "thrown" "I") (by decide +kernel)) (fun _ h9 => h9) rfl (by decide +kernel) rfl rfl (Nat.le_of_ble_eq_true rfl) dX5_lock_26 (fun H locs hM hS => ?_)
    have hR := hR.th (v := 1)
    refine lv_aload_n hx hb dX5_lock_29 rfl (lv_at hl 0 rfl) ?_
    refine tk_get hx hb hts inX5 hown hK hM hR.1 rfl 18 (by decide) (hts (.fieldLink RX5 66 "TicketForgeModel" "thrown" "I") (by decide +kernel)) (fun _ h9 => h9) rfl dX5_lock_30 ?_
    refine lv_if_le (tgt := 38) hx hb dX5_lock_33 (by decide) (fun c_10 => absurd c_10 (by decide)) (fun c_10 => ?_)
    refine lv_iconst (v := 0) hx hb dX5_lock_36 (by decide) ?_
    have eS : S_lock M w0 = (1, M, 0) := (by rw [S_lock, if_pos hok_w0])
    exact W.iret (v := 0) hx hb hr (fun t9 h9 w9 => ⟨⟨0, _, rfl, by rw [eS]; exact ⟨hR, rfl⟩, (by show tkM A D _ _; rw [h9]; exact hM)⟩, hS.F h9⟩) hS.2.2 dX5_lock_37
set_option maxHeartbeats 4000000 in
set_option maxRecDepth 100000 in
theorem c_X5_pace (l : Launch) (A : Nat → Prop) (D : va_G) (ac : Nat → ClassId) (G : TG) {m0 : Nat} {am : Nat → Nat} {th : Int32} {M : TS} (hR : PR ac m0 am th M G) (hW : W0 M) (w0 : Int32) : Met l yX5_pace wsX5_pace ({ frames := 3, cells := 0, slots := 0, locals := 180 } : Room) (va_Pc [.ref m0, .int w0] (tkJ A D ac G)) (va_Qf (fun (z : UInt32) (G9 : TG) => PR ac m0 am (S_pace M w0).1 (S_pace M w0).2.1 G9 ∧ z = (S_pace M w0).2.2) (fun (G9 : TG) t => tkM A D G9 t.heap) A) 0 0 A := by
  refine Met.ofW (cc := cX5_pace) (maxL := 2) (ret := (some .float)) (by decide) rfl ?_
  intro p e s m args below meth c s₁ B hml hv
  obtain ⟨rfl, hM, hK⟩ := hv
  have hS : va_S A s.heap s.heap [] := va_S.rf
  have hx := B.exec
  have hb := B.bytes
  have hr := B.returns
  have hts := atoms_spec (ws := wsX5_pace) B.pre
  have hown : s.vm.findClass RX5 = some m.cls := findClass_of_methodNamed B.named
  have hlocks := B.notSynchronized
  have S0 : CallFix p m c cX5_pace 2 s ([.ref m0, .int w0] : List Value).toArray wsX5_pace RX5 := ⟨hx, hb, hml, hown, hts⟩
  have inX5 : ∀ w ∈ wsX50, w ∈ wsX5_pace := by decide +kernel
  have hl := lv_entry ([.ref m0, .int w0]) (n := 2) (Nat.le_of_ble_eq_true rfl)
  rw [lg_entry_eq]
  generalize (lg_sl ([.ref m0, .int w0]) ++ List.replicate (2 - (lg_sl ([.ref m0, .int w0])).length) Slot.unset).toArray = ls at hl ⊢
  have hl : lv_has ls 2 [(0, .ref m0), (1, .int w0)] := hl
  have bT := hW.t.2
  have bE := hW.e.2
  have bV := hW.v.2
  refine lv_aload_n hx hb dX5_pace_0 rfl (lv_at hl 0 rfl) ?_
  refine lv_iload_n hx hb dX5_pace_1 rfl (lv_at hl 1 rfl) ?_
  refine tk_cSi (As := [.int w0]) S0 (c_X5_isWeek l A D ac _ w0) (va_cwS 1 hts gX5_pace_X5_isWeek rfl rfl rfl (by decide +kernel) ⟨Nat.le_of_ble_eq_true rfl, Nat.le_of_ble_eq_true rfl⟩) (tkJ.blind) (tkJ.at hM hK) rfl hl.1 rfl (Nat.le_of_ble_eq_true rfl) dX5_pace_2 ⟨Nat.zero_le _, Nat.zero_le _⟩ (fun r_1 hr_1 => ?_)
  rcases hr_1 with ⟨rfl, hr_1⟩ | ⟨rfl, hr_1⟩
  · have hok := hr_1
    refine tk_mVi (As := [.int 1]) S0 (c_X5_checked_t l A D ac _ hR) (cwV 1 hts gX5_pace_X5_checked rfl rfl rfl (by decide +kernel) ⟨Nat.le_of_ble_eq_true rfl, Nat.le_of_ble_eq_true rfl⟩) (tkJ.blind) (tkJ.at hM hK) (tk_recv hK hM hR.1 rfl) rfl hl.1 rfl (Nat.le_of_ble_eq_true rfl) dX5_pace_5 ⟨Nat.zero_le _, Nat.zero_le _⟩ hS (fun r_2 G H locs hp hM hS => ?_)
    obtain ⟨hR, hr_2⟩ := hp
    subst hr_2
    refine lv_if_le (tgt := 15) hx hb dX5_pace_8 (by decide) (fun c_3 => ?_) (fun c_3 => absurd (by decide) c_3)
    refine lv_aload_n hx hb dX5_pace_15 rfl (lv_at hl 0 rfl) ?_
    refine lv_iload_n hx hb dX5_pace_16 rfl (lv_at hl 1 rfl) ?_
    refine tk_cVi (As := [.int w0]) S0 (c_X5_lately l A D ac _ hR hW w0) (cwV 1 hts gX5_pace_X5_lately rfl rfl rfl (by decide +kernel) ⟨Nat.le_of_ble_eq_true rfl, Nat.le_of_ble_eq_true rfl⟩) (tkJ.blind) (tkJ.at hM hK) (tk_recv hK hM hR.1 rfl) rfl hl.1 rfl (Nat.le_of_ble_eq_true rfl) dX5_pace_17 ⟨Nat.zero_le _, Nat.zero_le _⟩ (fun r_4 hr_4 => ?_)
    refine lv_i2f hx hb dX5_pace_20 ?_
    refine lv_ldcf hx hb hown (hts (.constantFloat RX5 164 1077936128) (by decide +kernel)) dX5_pace_21 ?_
    refine lv_fdiv hx hb dX5_pace_23 (fl_pace _) ?_
    have eS : S_pace M w0 = (0, M, (FP.fdiv (FP.i2f r_4) 1077936128)) := (by rw [S_pace, if_neg (by rw [hok]; decide), hr_4])
    exact W.fret (v := (FP.fdiv (FP.i2f r_4) 1077936128)) hx hb hr (fun t9 h9 w9 => ⟨⟨(FP.fdiv (FP.i2f r_4) 1077936128), _, rfl, by rw [eS]; exact ⟨hR, rfl⟩, (by show tkM A D _ _; rw [h9]; exact hM)⟩, hS.F h9⟩) hS.2.2 dX5_pace_24
  · have hok := hr_1
    refine tk_mVi (As := [.int 0]) S0 (c_X5_checked_f l A D ac _ hR) (cwV 1 hts gX5_pace_X5_checked rfl rfl rfl (by decide +kernel) ⟨Nat.le_of_ble_eq_true rfl, Nat.le_of_ble_eq_true rfl⟩) (tkJ.blind) (tkJ.at hM hK) (tk_recv hK hM hR.1 rfl) rfl hl.1 rfl (Nat.le_of_ble_eq_true rfl) dX5_pace_5 ⟨Nat.zero_le _, Nat.zero_le _⟩ hS (fun r_5 G H locs hp hM hS => ?_)
    obtain ⟨hR, hr_5⟩ := hp
    subst hr_5
    refine lv_if_le (tgt := 15) hx hb dX5_pace_8 (by decide) (fun c_6 => absurd c_6 (by decide)) (fun c_6 => ?_)
    refine lv_fconst0 hx hb dX5_pace_11 ?_
    refine lv_goto (tgt := 24) hx hb dX5_pace_12 (by decide) ?_
    have eS : S_pace M w0 = (1, M, 0) := (by rw [S_pace, if_pos hr_1])
    exact W.fret (v := FP.fconst0) hx hb hr (fun t9 h9 w9 => ⟨⟨FP.fconst0, _, rfl, by rw [eS]; exact ⟨hR, rfl⟩, (by show tkM A D _ _; rw [h9]; exact hM)⟩, hS.F h9⟩) hS.2.2 dX5_pace_24
set_option maxHeartbeats 4000000 in
set_option maxRecDepth 100000 in
theorem c_X5_forecast (l : Launch) (A : Nat → Prop) (D : va_G) (ac : Nat → ClassId) (G : TG) {m0 : Nat} {am : Nat → Nat} {th : Int32} {M : TS} (hR : PR ac m0 am th M G) (hW : W0 M) (x : Int32) (w0 : Int32) : Met l yX5_forecast wsX5_forecast ({ frames := 3, cells := 0, slots := 0, locals := 180 } : Room) (va_Pc [.ref m0, .int x, .int w0] (tkJ A D ac G)) (va_Qi (fun (z : Int32) (G9 : TG) => PR ac m0 am (S_forecast M x w0).1 (S_forecast M x w0).2.1 G9 ∧ z = (S_forecast M x w0).2.2) (fun (G9 : TG) t => tkM A D G9 t.heap) A) 0 0 A := by
  refine Met.ofW (cc := cX5_forecast) (maxL := 3) (ret := (some .int)) (by decide) rfl ?_
  intro p e s m args below meth c s₁ B hml hv
  obtain ⟨rfl, hM, hK⟩ := hv
  have hS : va_S A s.heap s.heap [] := va_S.rf
  have hx := B.exec
  have hb := B.bytes
  have hr := B.returns
  have hts := atoms_spec (ws := wsX5_forecast) B.pre
  have hown : s.vm.findClass RX5 = some m.cls := findClass_of_methodNamed B.named
  have hlocks := B.notSynchronized
  have S0 : CallFix p m c cX5_forecast 3 s ([.ref m0, .int x, .int w0] : List Value).toArray wsX5_forecast RX5 := ⟨hx, hb, hml, hown, hts⟩
  have inX5 : ∀ w ∈ wsX50, w ∈ wsX5_forecast := by decide +kernel
  have hl := lv_entry ([.ref m0, .int x, .int w0]) (n := 3) (Nat.le_of_ble_eq_true rfl)
  rw [lg_entry_eq]
  generalize (lg_sl ([.ref m0, .int x, .int w0]) ++ List.replicate (3 - (lg_sl ([.ref m0, .int x, .int w0])).length) Slot.unset).toArray = ls at hl ⊢
  have hl : lv_has ls 3 [(0, .ref m0), (1, .int x), (2, .int w0)] := hl
  have bT := hW.t.2
  have bE := hW.e.2
  have bV := hW.v.2
  refine lv_aload_n hx hb dX5_forecast_0 rfl (lv_at hl 0 rfl) ?_
  refine lv_aload_n hx hb dX5_forecast_1 rfl (lv_at hl 0 rfl) ?_
  refine lv_iload_n hx hb dX5_forecast_2 rfl (lv_at hl 1 rfl) ?_
  refine tk_cVi (As := [.int x]) S0 (c_X5_isTask l A D ac _ hR hW x) (cwV 1 hts gX5_forecast_X5_isTask rfl rfl rfl (by decide +kernel) ⟨Nat.le_of_ble_eq_true rfl, Nat.le_of_ble_eq_true rfl⟩) (tkJ.blind) (tkJ.at hM hK) (tk_recv hK hM hR.1 rfl) rfl hl.1 rfl (Nat.le_of_ble_eq_true rfl) dX5_forecast_3 ⟨Nat.zero_le _, Nat.zero_le _⟩ (fun r_1 hr_1 => ?_)
  rcases hr_1 with ⟨rfl, hr_1⟩ | ⟨rfl, hr_1⟩
  · have hok := hr_1
    obtain ⟨t, ht, rfl⟩ := tkOk_ex (by omega) hr_1
    refine lv_if_ne (tgt := 13) hx hb dX5_forecast_6 (by decide) (fun c_2 => ?_) (fun c_2 => absurd c_2 (by decide))
    refine lv_iload_n hx hb dX5_forecast_13 rfl (lv_at hl 2 rfl) ?_
    refine tk_cSi (As := [.int w0]) S0 (c_X5_isWeek l A D ac _ w0) (va_cwS 1 hts gX5_forecast_X5_isWeek rfl rfl rfl (by decide +kernel) ⟨Nat.le_of_ble_eq_true rfl, Nat.le_of_ble_eq_true rfl⟩) (tkJ.blind) (tkJ.at hM hK) rfl hl.1 rfl (Nat.le_of_ble_eq_true rfl) dX5_forecast_14 ⟨Nat.zero_le _, Nat.zero_le _⟩ (fun r_3 hr_3 => ?_)
    rcases hr_3 with ⟨rfl, hr_3⟩ | ⟨rfl, hr_3⟩
    · have hokw := hr_3
      refine lv_if_ne (tgt := 24) hx hb dX5_forecast_17 (by decide) (fun c_4 => ?_) (fun c_4 => absurd c_4 (by decide))
      refine lv_aload_n hx hb dX5_forecast_24 rfl (lv_at hl 0 rfl) ?_
      refine lv_iload_n hx hb dX5_forecast_25 rfl (lv_at hl 2 rfl) ?_
      refine tk_cVi (As := [.int w0]) S0 (c_X5_lately l A D ac _ hR hW w0) (cwV 1 hts gX5_forecast_X5_lately rfl rfl rfl (by decide +kernel) ⟨Nat.le_of_ble_eq_true rfl, Nat.le_of_ble_eq_true rfl⟩) (tkJ.blind) (tkJ.at hM hK) (tk_recv hK hM hR.1 rfl) rfl hl.1 rfl (Nat.le_of_ble_eq_true rfl) dX5_forecast_26 ⟨Nat.zero_le _, Nat.zero_le _⟩ (fun r_5 hr_5 => ?_)
      skip
      refine lv_if_ne (tgt := 36) hx hb dX5_forecast_29 (by decide) (fun c_6 => ?_) (fun c_6 => ?_)
      · skip
        refine lv_iconst (v := 0) hx hb dX5_forecast_36 (by decide) ?_
        refine tk_put (ty := .int) hx hb hts inX5 tyX5 tyX5_ok nmX5 hown hK hM hS hR.1 rfl 18 (by decide) (hts (.fieldLink RX5 66 "TicketForgeModel" "thrown" "I") (by decide +kernel)) (fun _ h9 => h9) rfl (by decide +kernel) rfl rfl (Nat.le_of_ble_eq_true rfl) dX5_forecast_37 (fun H locs hM hS => ?_)
        have hR := hR.th (v := 0)
        refine lv_aload_n hx hb dX5_forecast_40 rfl (lv_at hl 0 rfl) ?_
        refine tk_get hx hb hts inX5 hown hK hM hR.1 rfl 18 (by decide) (hts (.fieldLink RX5 66 "TicketForgeModel" "thrown" "I") (by decide +kernel)) (fun _ h9 => h9) rfl dX5_forecast_41 ?_
        refine lv_if_le (tgt := 51) hx hb dX5_forecast_44 (by decide) (fun c_7 => ?_) (fun c_7 => absurd (by decide) c_7)
        refine lv_iconst (v := 3) hx hb dX5_forecast_51 (by decide) ?_
        refine lv_aload_n hx hb dX5_forecast_52 rfl (lv_at hl 0 rfl) ?_
        refine lv_iload_n hx hb dX5_forecast_53 rfl (lv_at hl 1 rfl) ?_
        refine tk_cVi (As := [.int (nI t)]) S0 (c_X5_leftOf l A D ac _ hR hW t (by omega) ) (cwV 1 hts gX5_forecast_X5_leftOf rfl rfl rfl (by decide +kernel) ⟨Nat.le_of_ble_eq_true rfl, Nat.le_of_ble_eq_true rfl⟩) (tkJ.blind) (tkJ.at hM hK) (tk_recv hK hM hR.1 rfl) rfl hl.1 rfl (Nat.le_of_ble_eq_true rfl) dX5_forecast_54 ⟨Nat.zero_le _, Nat.zero_le _⟩ (fun r_8 hr_8 => ?_)
        refine lv_imul hx hb dX5_forecast_57 ?_
        refine lv_aload_n hx hb dX5_forecast_58 rfl (lv_at hl 0 rfl) ?_
        refine lv_iload_n hx hb dX5_forecast_59 rfl (lv_at hl 2 rfl) ?_
        refine tk_cVi (As := [.int w0]) S0 (c_X5_lately l A D ac _ hR hW w0) (cwV 1 hts gX5_forecast_X5_lately rfl rfl rfl (by decide +kernel) ⟨Nat.le_of_ble_eq_true rfl, Nat.le_of_ble_eq_true rfl⟩) (tkJ.blind) (tkJ.at hM hK) (tk_recv hK hM hR.1 rfl) rfl hl.1 rfl (Nat.le_of_ble_eq_true rfl) dX5_forecast_60 ⟨Nat.zero_le _, Nat.zero_le _⟩ (fun r_9 hr_9 => ?_)
        refine lv_iadd hx hb dX5_forecast_63 ?_
        refine lv_iconst (v := 1) hx hb dX5_forecast_64 (by decide) ?_
        refine lv_isub hx hb dX5_forecast_65 ?_
        refine lv_aload_n hx hb dX5_forecast_66 rfl (lv_at hl 0 rfl) ?_
        refine lv_iload_n hx hb dX5_forecast_67 rfl (lv_at hl 2 rfl) ?_
        refine tk_cVi (As := [.int w0]) S0 (c_X5_lately l A D ac _ hR hW w0) (cwV 1 hts gX5_forecast_X5_lately rfl rfl rfl (by decide +kernel) ⟨Nat.le_of_ble_eq_true rfl, Nat.le_of_ble_eq_true rfl⟩) (tkJ.blind) (tkJ.at hM hK) (tk_recv hK hM hR.1 rfl) rfl hl.1 rfl (Nat.le_of_ble_eq_true rfl) dX5_forecast_68 ⟨Nat.zero_le _, Nat.zero_le _⟩ (fun r_10 hr_10 => ?_)
        refine lv_idiv hx hb dX5_forecast_71 (by rw [hr_10, ← hr_5]; exact c_6) ?_
        have eS : S_forecast M (nI t) w0 = (0, M, ((((3 * r_8) + r_9) - 1) / r_10)) := (by rw [S_forecast, show tn (nI t) = t from nI_clamp (show t < 2 ^ 31 by omega), if_neg (by rw [hok]; decide), if_neg (by rw [hokw]; decide), if_neg (by rw [← hr_5]; exact c_6), hr_8, hr_9, hr_10])
        exact W.iret (v := ((((3 * r_8) + r_9) - 1) / r_10)) hx hb hr (fun t9 h9 w9 => ⟨⟨((((3 * r_8) + r_9) - 1) / r_10), _, rfl, by rw [eS]; exact ⟨hR, rfl⟩, (by show tkM A D _ _; rw [h9]; exact hM)⟩, hS.F h9⟩) hS.2.2 dX5_forecast_72
      · skip
        refine lv_iconst (v := 3) hx hb dX5_forecast_32 (by decide) ?_
        refine lv_goto (tgt := 37) hx hb dX5_forecast_33 (by decide) ?_
        refine tk_put (ty := .int) hx hb hts inX5 tyX5 tyX5_ok nmX5 hown hK hM hS hR.1 rfl 18 (by decide) (hts (.fieldLink RX5 66 "TicketForgeModel" "thrown" "I") (by decide +kernel)) (fun _ h9 => h9) rfl (by decide +kernel) rfl rfl (Nat.le_of_ble_eq_true rfl) dX5_forecast_37 (fun H locs hM hS => ?_)
        have hR := hR.th (v := 3)
        refine lv_aload_n hx hb dX5_forecast_40 rfl (lv_at hl 0 rfl) ?_
        refine tk_get hx hb hts inX5 hown hK hM hR.1 rfl 18 (by decide) (hts (.fieldLink RX5 66 "TicketForgeModel" "thrown" "I") (by decide +kernel)) (fun _ h9 => h9) rfl dX5_forecast_41 ?_
        refine lv_if_le (tgt := 51) hx hb dX5_forecast_44 (by decide) (fun c_11 => absurd c_11 (by decide)) (fun c_11 => ?_)
        refine lv_iconst (v := 0) hx hb dX5_forecast_47 (by decide) ?_
        refine lv_goto (tgt := 72) hx hb dX5_forecast_48 (by decide) ?_
        have eS : S_forecast M (nI t) w0 = (3, M, 0) := (by rw [S_forecast, show tn (nI t) = t from nI_clamp (show t < 2 ^ 31 by omega), if_neg (by rw [hok]; decide), if_neg (by rw [hokw]; decide), if_pos (by rw [← hr_5]; exact c_6)])
        exact W.iret (v := 0) hx hb hr (fun t9 h9 w9 => ⟨⟨0, _, rfl, by rw [eS]; exact ⟨hR, rfl⟩, (by show tkM A D _ _; rw [h9]; exact hM)⟩, hS.F h9⟩) hS.2.2 dX5_forecast_72
    · have hokw := hr_3
      refine lv_if_ne (tgt := 24) hx hb dX5_forecast_17 (by decide) (fun c_12 => absurd c_12 (by decide)) (fun c_12 => ?_)
      refine lv_iconst (v := 2) hx hb dX5_forecast_20 (by decide) ?_
      refine lv_goto (tgt := 37) hx hb dX5_forecast_21 (by decide) ?_
      refine tk_put (ty := .int) hx hb hts inX5 tyX5 tyX5_ok nmX5 hown hK hM hS hR.1 rfl 18 (by decide) (hts (.fieldLink RX5 66 "TicketForgeModel" "thrown" "I") (by decide +kernel)) (fun _ h9 => h9) rfl (by decide +kernel) rfl rfl (Nat.le_of_ble_eq_true rfl) dX5_forecast_37 (fun H locs hM hS => ?_)
      have hR := hR.th (v := 2)
      refine lv_aload_n hx hb dX5_forecast_40 rfl (lv_at hl 0 rfl) ?_
      refine tk_get hx hb hts inX5 hown hK hM hR.1 rfl 18 (by decide) (hts (.fieldLink RX5 66 "TicketForgeModel" "thrown" "I") (by decide +kernel)) (fun _ h9 => h9) rfl dX5_forecast_41 ?_
      refine lv_if_le (tgt := 51) hx hb dX5_forecast_44 (by decide) (fun c_13 => absurd c_13 (by decide)) (fun c_13 => ?_)
      refine lv_iconst (v := 0) hx hb dX5_forecast_47 (by decide) ?_
      refine lv_goto (tgt := 72) hx hb dX5_forecast_48 (by decide) ?_
      have eS : S_forecast M (nI t) w0 = (2, M, 0) := (by rw [S_forecast, show tn (nI t) = t from nI_clamp (show t < 2 ^ 31 by omega), if_neg (by rw [hok]; decide), if_pos hokw])
      exact W.iret (v := 0) hx hb hr (fun t9 h9 w9 => ⟨⟨0, _, rfl, by rw [eS]; exact ⟨hR, rfl⟩, (by show tkM A D _ _; rw [h9]; exact hM)⟩, hS.F h9⟩) hS.2.2 dX5_forecast_72
  · skip
    refine lv_if_ne (tgt := 13) hx hb dX5_forecast_6 (by decide) (fun c_14 => absurd c_14 (by decide)) (fun c_14 => ?_)
    refine lv_iconst (v := 1) hx hb dX5_forecast_9 (by decide) ?_
    refine lv_goto (tgt := 37) hx hb dX5_forecast_10 (by decide) ?_
    refine tk_put (ty := .int) hx hb hts inX5 tyX5 tyX5_ok nmX5 hown hK hM hS hR.1 rfl 18 (by decide) (hts (.fieldLink RX5 66 "TicketForgeModel" "thrown" "I") (by decide +kernel)) (fun _ h9 => h9) rfl (by decide +kernel) rfl rfl (Nat.le_of_ble_eq_true rfl) dX5_forecast_37 (fun H locs hM hS => ?_)
    have hR := hR.th (v := 1)
    refine lv_aload_n hx hb dX5_forecast_40 rfl (lv_at hl 0 rfl) ?_
    refine tk_get hx hb hts inX5 hown hK hM hR.1 rfl 18 (by decide) (hts (.fieldLink RX5 66 "TicketForgeModel" "thrown" "I") (by decide +kernel)) (fun _ h9 => h9) rfl dX5_forecast_41 ?_
    refine lv_if_le (tgt := 51) hx hb dX5_forecast_44 (by decide) (fun c_15 => absurd c_15 (by decide)) (fun c_15 => ?_)
    refine lv_iconst (v := 0) hx hb dX5_forecast_47 (by decide) ?_
    refine lv_goto (tgt := 72) hx hb dX5_forecast_48 (by decide) ?_
    have eS : S_forecast M x w0 = (1, M, 0) := (by rw [S_forecast, if_pos hr_1])
    exact W.iret (v := 0) hx hb hr (fun t9 h9 w9 => ⟨⟨0, _, rfl, by rw [eS]; exact ⟨hR, rfl⟩, (by show tkM A D _ _; rw [h9]; exact hM)⟩, hS.F h9⟩) hS.2.2 dX5_forecast_72
set_option maxHeartbeats 4000000 in
set_option maxRecDepth 100000 in
theorem c_X5_due (l : Launch) (A : Nat → Prop) (D : va_G) (ac : Nat → ClassId) (G : TG) {m0 : Nat} {am : Nat → Nat} {th : Int32} {M : TS} (hR : PR ac m0 am th M G) (hW : W0 M) : Met l yX5_due wsX5_due ({ frames := 0, cells := 0, slots := 0, locals := 60 } : Room) (va_Pc [.ref m0] (tkJ A D ac G)) (va_Ql (fun (z : Int64) (G9 : TG) => PR ac m0 am 0 M G9 ∧ z = dueS M (nV M)) (fun (G9 : TG) t => tkM A D G9 t.heap) A) 0 0 A := by
  refine Met.ofW (cc := cX5_due) (maxL := 4) (ret := (some .long)) (by decide) rfl ?_
  intro p e s m args below meth c s₁ B hml hv
  obtain ⟨rfl, hM, hK⟩ := hv
  have hS : va_S A s.heap s.heap [] := va_S.rf
  have hx := B.exec
  have hb := B.bytes
  have hr := B.returns
  have hts := atoms_spec (ws := wsX5_due) B.pre
  have hown : s.vm.findClass RX5 = some m.cls := findClass_of_methodNamed B.named
  have hlocks := B.notSynchronized
  have S0 : CallFix p m c cX5_due 4 s ([.ref m0] : List Value).toArray wsX5_due RX5 := ⟨hx, hb, hml, hown, hts⟩
  have inX5 : ∀ w ∈ wsX50, w ∈ wsX5_due := by decide +kernel
  have hl := lv_entry ([.ref m0]) (n := 4) (Nat.le_of_ble_eq_true rfl)
  rw [lg_entry_eq]
  generalize (lg_sl ([.ref m0]) ++ List.replicate (4 - (lg_sl ([.ref m0])).length) Slot.unset).toArray = ls at hl ⊢
  have hl : lv_has ls 4 [(0, .ref m0)] := hl
  have bT := hW.t.2
  have bE := hW.e.2
  have bV := hW.v.2
  refine lv_aload_n hx hb dX5_due_0 rfl (lv_at hl 0 rfl) ?_
  refine lv_iconst (v := 0) hx hb dX5_due_1 (by decide) ?_
  refine tk_put (ty := .int) hx hb hts inX5 tyX5 tyX5_ok nmX5 hown hK hM hS hR.1 rfl 18 (by decide) (hts (.fieldLink RX5 66 "TicketForgeModel" "thrown" "I") (by decide +kernel)) (fun _ h9 => h9) rfl (by decide +kernel) rfl rfl (Nat.le_of_ble_eq_true rfl) dX5_due_2 (fun H locs hM hS => ?_)
  have hR := hR.th (v := 0)
  refine lv_lconst (v := 0) hx hb dX5_due_5 (by decide) ?_
  refine lv_lstore_n (lv' := [(1, .long 0), (0, .ref m0)]) hx hb dX5_due_6 rfl hl (by decide) rfl (fun ls hl => ?_)
  refine lv_iconst (v := 0) hx hb dX5_due_7 (by decide) ?_
  refine lv_istore_n (lv' := [(3, .int 0), (1, .long 0), (0, .ref m0)]) hx hb dX5_due_8 rfl hl (by decide) rfl (fun ls hl => ?_)
  refine tk_f1 (Wf := W p l e _ s m _ below meth c _ _ _ _ _) (nV M) (fun i acc ls => lv_has ls 4 [(0, .ref m0), (3, .int (nI i)), (1, .long acc)] ∧ acc = dueS M i) (fun i acc ls hi hinv ih => ?_) _ ls ⟨(lv_sub hl [2, 0, 1] rfl), rfl⟩
  obtain ⟨hl, hinv⟩ := hinv
  refine lv_iload_n hx hb dX5_due_9 rfl (lv_at hl 1 rfl) ?_
  refine lv_aload_n hx hb dX5_due_10 rfl (lv_at hl 0 rfl) ?_
  refine tk_get hx hb hts inX5 hown hK hM hR.1 rfl 22 (by decide) (hts (.fieldLink RX5 79 "TicketForgeModel" "invoices" "I") (by decide +kernel)) (fun _ h9 => h9) rfl dX5_due_11 ?_
  rw [hW.v.1]
  refine lv_icmp_ge (tgt := 40) hx hb dX5_due_14 (by decide) (fun c_1 => ?_) (fun c_1 => ?_)
  · have hge := tk_ge (by omega) (by omega) c_1
    refine lv_lload_n hx hb dX5_due_40 rfl (lv_at hl 2 rfl) ?_
    exact W.lret (v := acc) hx hb hr (fun t9 h9 w9 => ⟨⟨acc, _, rfl, ⟨hR, by rw [hinv, Nat.le_antisymm hi hge]⟩, (by show tkM A D _ _; rw [h9]; exact hM)⟩, hS.F h9⟩) hS.2.2 dX5_due_41
  · have hlt := tk_lt (by omega) (by omega) c_1
    refine lv_lload_n hx hb dX5_due_17 rfl (lv_at hl 2 rfl) ?_
    refine lv_aload_n hx hb dX5_due_18 rfl (lv_at hl 0 rfl) ?_
    refine tk_get hx hb hts inX5 hown hK hM hR.1 rfl 15 (by decide) (hts (.fieldLink RX5 57 "TicketForgeModel" "totals" "[I") (by decide +kernel)) (fun _ h9 => h9) rfl dX5_due_19 ?_
    refine lv_iload_n hx hb dX5_due_22 rfl (lv_at hl 1 rfl) ?_
    refine tk_iald hx hb hK hM 1 hR.a15 rfl (vp_in_nI (by omega) (by decide)) dX5_due_23 ?_
    rw [show (nI i).toNatClampNeg = i from nI_clamp (by omega)]
    refine lv_aload_n hx hb dX5_due_24 rfl (lv_at hl 0 rfl) ?_
    refine tk_get hx hb hts inX5 hown hK hM hR.1 rfl 16 (by decide) (hts (.fieldLink RX5 60 "TicketForgeModel" "credits" "[I") (by decide +kernel)) (fun _ h9 => h9) rfl dX5_due_25 ?_
    refine lv_iload_n hx hb dX5_due_28 rfl (lv_at hl 1 rfl) ?_
    refine tk_iald hx hb hK hM 1 hR.a16 rfl (vp_in_nI (by omega) (by decide)) dX5_due_29 ?_
    rw [show (nI i).toNatClampNeg = i from nI_clamp (by omega)]
    refine lv_isub hx hb dX5_due_30 ?_
    refine lv_i2l hx hb dX5_due_31 rfl ?_
    refine lv_ladd hx hb dX5_due_32 ?_
    refine lv_lstore_n (lv' := [(1, .long (acc + ((((M 16) i) - ((M 17) i))).toInt64)), (0, .ref m0), (3, .int (nI i))]) hx hb dX5_due_33 rfl hl (by decide) rfl (fun ls hl => ?_)
    refine lv_iinc (v := (nI (i + 1))) (lv' := [(3, .int (nI (i + 1))), (1, .long (acc + ((((M 16) i) - ((M 17) i))).toInt64)), (0, .ref m0)]) hx hb dX5_due_34 hl (k := 2) rfl (nI_1 i) (by decide) rfl (fun ls hl => ?_)
    refine lv_goto (tgt := 9) hx hb dX5_due_37 (by decide) ?_
    exact ih _ ls (by omega) ⟨(lv_sub hl [2, 0, 1] rfl), (by rw [dueS, hinv])⟩
set_option maxHeartbeats 4000000 in
set_option maxRecDepth 100000 in
theorem c_X5_meanPrice (l : Launch) (A : Nat → Prop) (D : va_G) (ac : Nat → ClassId) (G : TG) {m0 : Nat} {am : Nat → Nat} {th : Int32} {M : TS} (hR : PR ac m0 am th M G) (hW : W0 M) : Met l yX5_meanPrice wsX5_meanPrice ({ frames := 2, cells := 0, slots := 0, locals := 140 } : Room) (va_Pc [.ref m0] (tkJ A D ac G)) (va_Qd (fun (z : UInt64) (G9 : TG) => PR ac m0 am (S_meanPrice M).1 (S_meanPrice M).2.1 G9 ∧ z = (S_meanPrice M).2.2) (fun (G9 : TG) t => tkM A D G9 t.heap) A) 0 0 A := by
  refine Met.ofW (cc := cX5_meanPrice) (maxL := 4) (ret := (some .double)) (by decide) rfl ?_
  intro p e s m args below meth c s₁ B hml hv
  obtain ⟨rfl, hM, hK⟩ := hv
  have hS : va_S A s.heap s.heap [] := va_S.rf
  have hx := B.exec
  have hb := B.bytes
  have hr := B.returns
  have hts := atoms_spec (ws := wsX5_meanPrice) B.pre
  have hown : s.vm.findClass RX5 = some m.cls := findClass_of_methodNamed B.named
  have hlocks := B.notSynchronized
  have S0 : CallFix p m c cX5_meanPrice 4 s ([.ref m0] : List Value).toArray wsX5_meanPrice RX5 := ⟨hx, hb, hml, hown, hts⟩
  have inX5 : ∀ w ∈ wsX50, w ∈ wsX5_meanPrice := by decide +kernel
  have hl := lv_entry ([.ref m0]) (n := 4) (Nat.le_of_ble_eq_true rfl)
  rw [lg_entry_eq]
  generalize (lg_sl ([.ref m0]) ++ List.replicate (4 - (lg_sl ([.ref m0])).length) Slot.unset).toArray = ls at hl ⊢
  have hl : lv_has ls 4 [(0, .ref m0)] := hl
  have bT := hW.t.2
  have bE := hW.e.2
  have bV := hW.v.2
  refine lv_iconst (v := 0) hx hb dX5_meanPrice_0 (by decide) ?_
  refine lv_istore_n (lv' := [(1, .int 0), (0, .ref m0)]) hx hb dX5_meanPrice_1 rfl hl (by decide) rfl (fun ls hl => ?_)
  refine lv_iconst (v := 0) hx hb dX5_meanPrice_2 (by decide) ?_
  refine lv_istore_n (lv' := [(2, .int 0), (1, .int 0), (0, .ref m0)]) hx hb dX5_meanPrice_3 rfl hl (by decide) rfl (fun ls hl => ?_)
  refine lv_iconst (v := 0) hx hb dX5_meanPrice_4 (by decide) ?_
  refine lv_istore_n (lv' := [(3, .int 0), (2, .int 0), (1, .int 0), (0, .ref m0)]) hx hb dX5_meanPrice_5 rfl hl (by decide) rfl (fun ls hl => ?_)
  refine tk_f2 (Wf := W p l e _ s m _ below meth c _ _ _ _ _) (nE M) (fun i acc1 acc2 ls => lv_has ls 4 [(0, .ref m0), (3, .int (nI i)), (1, .int acc1), (2, .int acc2)] ∧ (acc1 = sumI (fun k => if M 5 k = 98 then M 13 k else 0) i ∧ acc2 = sumI (fun k => if M 5 k = 98 then M 12 k else 0) i)) (fun i acc1 acc2 ls hi hinv ih => ?_) _ _ ls ⟨(lv_sub hl [3, 0, 2, 1] rfl), ⟨rfl, rfl⟩⟩
  obtain ⟨hl, hinv⟩ := hinv
  refine lv_iload_n hx hb dX5_meanPrice_6 rfl (lv_at hl 1 rfl) ?_
  refine lv_aload_n hx hb dX5_meanPrice_7 rfl (lv_at hl 0 rfl) ?_
  refine tk_get hx hb hts inX5 hown hK hM hR.1 rfl 21 (by decide) (hts (.fieldLink RX5 76 "TicketForgeModel" "entries" "I") (by decide +kernel)) (fun _ h9 => h9) rfl dX5_meanPrice_8 ?_
  rw [hW.e.1]
  refine lv_icmp_ge (tgt := 52) hx hb dX5_meanPrice_11 (by decide) (fun c_1 => ?_) (fun c_1 => ?_)
  · have hge := tk_ge (by omega) (by omega) c_1
    refine lv_aload_n hx hb dX5_meanPrice_52 rfl (lv_at hl 0 rfl) ?_
    refine lv_iload_n hx hb dX5_meanPrice_53 rfl (lv_at hl 3 rfl) ?_
    refine lv_if_le (tgt := 61) hx hb dX5_meanPrice_54 (by decide) (fun c_2 => ?_) (fun c_2 => ?_)
    · skip
      refine lv_iconst (v := 0) hx hb dX5_meanPrice_61 (by decide) ?_
      refine tk_mVi (As := [.int 0]) S0 (c_X5_checked_f l A D ac _ hR) (cwV 1 hts gX5_meanPrice_X5_checked rfl rfl rfl (by decide +kernel) ⟨Nat.le_of_ble_eq_true rfl, Nat.le_of_ble_eq_true rfl⟩) (tkJ.blind) (tkJ.at hM hK) (tk_recv hK hM hR.1 rfl) rfl hl.1 rfl (Nat.le_of_ble_eq_true rfl) dX5_meanPrice_62 ⟨Nat.zero_le _, Nat.zero_le _⟩ hS (fun r_3 G H locs hp hM hS => ?_)
      obtain ⟨hR, hr_3⟩ := hp
      subst hr_3
      refine lv_if_le (tgt := 72) hx hb dX5_meanPrice_65 (by decide) (fun c_4 => absurd c_4 (by decide)) (fun c_4 => ?_)
      refine lv_dconst0 hx hb dX5_meanPrice_68 ?_
      refine lv_goto (tgt := 77) hx hb dX5_meanPrice_69 (by decide) ?_
      have eS : S_meanPrice M = (1, M, 0) := (by rw [S_meanPrice, show sumH M (nE M) = acc2 from (sumI_e hinv.2 hi hge).symm, if_neg (Int32.not_lt.mpr c_2)])
      exact W.dret (v := FP.dconst0) hx hb hr (fun t9 h9 w9 => ⟨⟨FP.dconst0, _, rfl, by rw [eS]; exact ⟨hR, rfl⟩, (by show tkM A D _ _; rw [h9]; exact hM)⟩, hS.F h9⟩) hS.2.2 dX5_meanPrice_77
    · skip
      refine lv_iconst (v := 1) hx hb dX5_meanPrice_57 (by decide) ?_
      refine lv_goto (tgt := 62) hx hb dX5_meanPrice_58 (by decide) ?_
      refine tk_mVi (As := [.int 1]) S0 (c_X5_checked_t l A D ac _ hR) (cwV 1 hts gX5_meanPrice_X5_checked rfl rfl rfl (by decide +kernel) ⟨Nat.le_of_ble_eq_true rfl, Nat.le_of_ble_eq_true rfl⟩) (tkJ.blind) (tkJ.at hM hK) (tk_recv hK hM hR.1 rfl) rfl hl.1 rfl (Nat.le_of_ble_eq_true rfl) dX5_meanPrice_62 ⟨Nat.zero_le _, Nat.zero_le _⟩ hS (fun r_5 G H locs hp hM hS => ?_)
      obtain ⟨hR, hr_5⟩ := hp
      subst hr_5
      refine lv_if_le (tgt := 72) hx hb dX5_meanPrice_65 (by decide) (fun c_6 => ?_) (fun c_6 => absurd (by decide) c_6)
      refine lv_iload_n hx hb dX5_meanPrice_72 rfl (lv_at hl 2 rfl) ?_
      refine lv_i2d hx hb dX5_meanPrice_73 ?_
      refine lv_iload_n hx hb dX5_meanPrice_74 rfl (lv_at hl 3 rfl) ?_
      refine lv_i2d hx hb dX5_meanPrice_75 ?_
      refine lv_ddiv hx hb dX5_meanPrice_76 (fl_mean _ _ (fun h => absurd (Int32.not_le.mp c_2) (by rw [h]; decide))) ?_
      have eS : S_meanPrice M = (0, M, (FP.ddiv (FP.i2d acc1) (FP.i2d acc2))) := (by rw [S_meanPrice, show sumH M (nE M) = acc2 from (sumI_e hinv.2 hi hge).symm, if_pos (Int32.not_le.mp c_2), show sumP M (nE M) = acc1 from (sumI_e hinv.1 hi hge).symm])
      exact W.dret (v := (FP.ddiv (FP.i2d acc1) (FP.i2d acc2))) hx hb hr (fun t9 h9 w9 => ⟨⟨(FP.ddiv (FP.i2d acc1) (FP.i2d acc2)), _, rfl, by rw [eS]; exact ⟨hR, rfl⟩, (by show tkM A D _ _; rw [h9]; exact hM)⟩, hS.F h9⟩) hS.2.2 dX5_meanPrice_77
  · have hlt := tk_lt (by omega) (by omega) c_1
    refine lv_aload_n hx hb dX5_meanPrice_14 rfl (lv_at hl 0 rfl) ?_
    refine tk_get hx hb hts inX5 hown hK hM hR.1 rfl 4 (by decide) (hts (.fieldLink RX5 23 "TicketForgeModel" "entryStates" "[C") (by decide +kernel)) (fun _ h9 => h9) rfl dX5_meanPrice_15 ?_
    refine lv_iload_n hx hb dX5_meanPrice_18 rfl (lv_at hl 1 rfl) ?_
    refine tk_cald hx hb hK hM 0 hR.a4 rfl (vp_in_nI (by omega) (by decide)) dX5_meanPrice_19 ?_
    rw [show (nI i).toNatClampNeg = i from nI_clamp (by omega)]
    refine lv_bipush (v := 98) hx hb dX5_meanPrice_20 (by decide) ?_
    refine lv_icmp_eq (tgt := 28) hx hb dX5_meanPrice_22 (by decide) (fun c_7 => ?_) (fun c_7 => ?_)
    · skip
      refine lv_iload_n hx hb dX5_meanPrice_28 rfl (lv_at hl 2 rfl) ?_
      refine lv_aload_n hx hb dX5_meanPrice_29 rfl (lv_at hl 0 rfl) ?_
      refine tk_get hx hb hts inX5 hown hK hM hR.1 rfl 12 (by decide) (hts (.fieldLink RX5 48 "TicketForgeModel" "prices" "[I") (by decide +kernel)) (fun _ h9 => h9) rfl dX5_meanPrice_30 ?_
      refine lv_iload_n hx hb dX5_meanPrice_33 rfl (lv_at hl 1 rfl) ?_
      refine tk_iald hx hb hK hM 1 hR.a12 rfl (vp_in_nI (by omega) (by decide)) dX5_meanPrice_34 ?_
      rw [show (nI i).toNatClampNeg = i from nI_clamp (by omega)]
      refine lv_iadd hx hb dX5_meanPrice_35 ?_
      refine lv_istore_n (lv' := [(1, .int (acc1 + ((M 13) i))), (0, .ref m0), (3, .int (nI i)), (2, .int acc2)]) hx hb dX5_meanPrice_36 rfl hl (by decide) rfl (fun ls hl => ?_)
      refine lv_iload_n hx hb dX5_meanPrice_37 rfl (lv_at hl 3 rfl) ?_
      refine lv_aload_n hx hb dX5_meanPrice_38 rfl (lv_at hl 1 rfl) ?_
      refine tk_get hx hb hts inX5 hown hK hM hR.1 rfl 11 (by decide) (hts (.fieldLink RX5 45 "TicketForgeModel" "hoursOf" "[I") (by decide +kernel)) (fun _ h9 => h9) rfl dX5_meanPrice_39 ?_
      refine lv_iload_n hx hb dX5_meanPrice_42 rfl (lv_at hl 2 rfl) ?_
      refine tk_iald hx hb hK hM 1 hR.a11 rfl (vp_in_nI (by omega) (by decide)) dX5_meanPrice_43 ?_
      rw [show (nI i).toNatClampNeg = i from nI_clamp (by omega)]
      refine lv_iadd hx hb dX5_meanPrice_44 ?_
      refine lv_istore_n (lv' := [(2, .int (acc2 + ((M 12) i))), (1, .int (acc1 + ((M 13) i))), (0, .ref m0), (3, .int (nI i))]) hx hb dX5_meanPrice_45 rfl hl (by decide) rfl (fun ls hl => ?_)
      refine lv_iinc (v := (nI (i + 1))) (lv' := [(3, .int (nI (i + 1))), (2, .int (acc2 + ((M 12) i))), (1, .int (acc1 + ((M 13) i))), (0, .ref m0)]) hx hb dX5_meanPrice_46 hl (k := 3) rfl (nI_1 i) (by decide) rfl (fun ls hl => ?_)
      refine lv_goto (tgt := 6) hx hb dX5_meanPrice_49 (by decide) ?_
      exact ih _ _ ls (by omega) ⟨(lv_sub hl [3, 0, 2, 1] rfl), ⟨sumI_t hinv.1 (if_pos c_7), sumI_t hinv.2 (if_pos c_7)⟩⟩
    · skip
      refine lv_goto (tgt := 46) hx hb dX5_meanPrice_25 (by decide) ?_
      refine lv_iinc (v := (nI (i + 1))) (lv' := [(3, .int (nI (i + 1))), (0, .ref m0), (1, .int acc1), (2, .int acc2)]) hx hb dX5_meanPrice_46 hl (k := 1) rfl (nI_1 i) (by decide) rfl (fun ls hl => ?_)
      refine lv_goto (tgt := 6) hx hb dX5_meanPrice_49 (by decide) ?_
      exact ih _ _ ls (by omega) ⟨(lv_sub hl [1, 0, 2, 3] rfl), ⟨sumI_f hinv.1 (if_neg c_7), sumI_f hinv.2 (if_neg c_7)⟩⟩
