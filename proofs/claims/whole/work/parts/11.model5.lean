/-! the model: reopen, invoice -/
set_option maxHeartbeats 4000000 in
set_option maxRecDepth 100000 in
theorem c_X5_reopen (l : Launch) (A : Nat → Prop) (D : va_G) (ac : Nat → ClassId) (G : TG) {m0 : Nat} {am : Nat → Nat} {th : Int32} {M : TS} (hR : PR ac m0 am th M G) (hW : W0 M) (h1 : W1 M) (x : Int32) : Met l yX5_reopen wsX5_reopen ({ frames := 2, cells := 0, slots := 0, locals := 140 } : Room) (va_Pc [.ref m0, .int x] (tkJ A D ac G)) (va_Qi (fun (z : Int32) (G9 : TG) => PR ac m0 am (S_reopen M x).1 (S_reopen M x).2.1 G9 ∧ z = (S_reopen M x).2.2) (fun (G9 : TG) t => tkM A D G9 t.heap) A) 0 0 A := by
  refine Met.ofW (cc := cX5_reopen) (maxL := 4) (ret := (some .int)) (by decide) rfl ?_
  intro p e s m args below meth c s₁ B hml hv
  obtain ⟨rfl, hM, hK⟩ := hv
  have hS : va_S A s.heap s.heap [] := va_S.rf
  have hx := B.exec
  have hb := B.bytes
  have hr := B.returns
  have hts := atoms_spec (ws := wsX5_reopen) B.pre
  have hown : s.vm.findClass RX5 = some m.cls := findClass_of_methodNamed B.named
  have hlocks := B.notSynchronized
  have S0 : CallFix p m c cX5_reopen 4 s ([.ref m0, .int x] : List Value).toArray wsX5_reopen RX5 := ⟨hx, hb, hml, hown, hts⟩
  have inX5 : ∀ w ∈ wsX50, w ∈ wsX5_reopen := by decide +kernel
  have hl := lv_entry ([.ref m0, .int x]) (n := 4) (Nat.le_of_ble_eq_true rfl)
  rw [lg_entry_eq]
  generalize (lg_sl ([.ref m0, .int x]) ++ List.replicate (4 - (lg_sl ([.ref m0, .int x])).length) Slot.unset).toArray = ls at hl ⊢
  have hl : lv_has ls 4 [(0, .ref m0), (1, .int x)] := hl
  have bT := hW.t.2
  have bE := hW.e.2
  have bV := hW.v.2
  refine lv_aload_n hx hb dX5_reopen_0 rfl (lv_at hl 0 rfl) ?_
  refine lv_aload_n hx hb dX5_reopen_1 rfl (lv_at hl 0 rfl) ?_
  refine lv_iload_n hx hb dX5_reopen_2 rfl (lv_at hl 1 rfl) ?_
  refine tk_cVi (As := [.int x]) S0 (c_X5_isTask l A D ac _ hR hW x) (cwV 1 hts gX5_reopen_X5_isTask rfl rfl rfl (by decide +kernel) ⟨Nat.le_of_ble_eq_true rfl, Nat.le_of_ble_eq_true rfl⟩) (tkJ.blind) (tkJ.at hM hK) (tk_recv hK hM hR.1 rfl) rfl hl.1 rfl (Nat.le_of_ble_eq_true rfl) dX5_reopen_3 ⟨Nat.zero_le _, Nat.zero_le _⟩ (fun r_1 hr_1 => ?_)
  rcases hr_1 with ⟨rfl, hr_1⟩ | ⟨rfl, hr_1⟩
  · have hok := hr_1
    obtain ⟨t, ht, rfl⟩ := tkOk_ex (by omega) hr_1
    refine lv_if_ne (tgt := 13) hx hb dX5_reopen_6 (by decide) (fun c_2 => ?_) (fun c_2 => absurd c_2 (by decide))
    refine lv_aload_n hx hb dX5_reopen_13 rfl (lv_at hl 0 rfl) ?_
    refine tk_get hx hb hts inX5 hown hK hM hR.1 rfl 3 (by decide) (hts (.fieldLink RX5 19 "TicketForgeModel" "states" "[C") (by decide +kernel)) (fun _ h9 => h9) rfl dX5_reopen_14 ?_
    refine lv_iload_n hx hb dX5_reopen_17 rfl (lv_at hl 1 rfl) ?_
    refine tk_cald hx hb hK hM 0 hR.a3 rfl (vp_in_nI (by omega) (by decide)) dX5_reopen_18 ?_
    rw [show (nI t).toNatClampNeg = t from nI_clamp (by omega)]
    refine lv_bipush (v := 100) hx hb dX5_reopen_19 (by decide) ?_
    refine lv_icmp_eq (tgt := 28) hx hb dX5_reopen_21 (by decide) (fun c_3 => ?_) (fun c_3 => ?_)
    · skip
      refine lv_aload_n hx hb dX5_reopen_28 rfl (lv_at hl 0 rfl) ?_
      refine tk_get hx hb hts inX5 hown hK hM hR.1 rfl 0 (by decide) (hts (.fieldLink RX5 7 "TicketForgeModel" "parents" "[I") (by decide +kernel)) (fun _ h9 => h9) rfl dX5_reopen_29 ?_
      refine lv_iload_n hx hb dX5_reopen_32 rfl (lv_at hl 1 rfl) ?_
      refine tk_iald hx hb hK hM 1 hR.a0 rfl (vp_in_nI (by omega) (by decide)) dX5_reopen_33 ?_
      rw [show (nI t).toNatClampNeg = t from nI_clamp (by omega)]
      refine lv_if_lt (tgt := 57) hx hb dX5_reopen_34 (by decide) (fun c_4 => ?_) (fun c_4 => ?_)
      · skip
        refine lv_iconst (v := 0) hx hb dX5_reopen_57 (by decide) ?_
        refine tk_put (ty := .int) hx hb hts inX5 tyX5 tyX5_ok nmX5 hown hK hM hS hR.1 rfl 18 (by decide) (hts (.fieldLink RX5 66 "TicketForgeModel" "thrown" "I") (by decide +kernel)) (fun _ h9 => h9) rfl (by decide +kernel) rfl rfl (Nat.le_of_ble_eq_true rfl) dX5_reopen_58 (fun H locs hM hS => ?_)
        have hR := hR.th (v := 0)
        refine lv_aload_n hx hb dX5_reopen_61 rfl (lv_at hl 0 rfl) ?_
        refine tk_get hx hb hts inX5 hown hK hM hR.1 rfl 18 (by decide) (hts (.fieldLink RX5 66 "TicketForgeModel" "thrown" "I") (by decide +kernel)) (fun _ h9 => h9) rfl dX5_reopen_62 ?_
        refine lv_if_le (tgt := 70) hx hb dX5_reopen_65 (by decide) (fun c_5 => ?_) (fun c_5 => absurd (by decide) c_5)
        refine lv_aload_n hx hb dX5_reopen_70 rfl (lv_at hl 0 rfl) ?_
        refine tk_get hx hb hts inX5 hown hK hM hR.1 rfl 3 (by decide) (hts (.fieldLink RX5 19 "TicketForgeModel" "states" "[C") (by decide +kernel)) (fun _ h9 => h9) rfl dX5_reopen_71 ?_
        refine lv_iload_n hx hb dX5_reopen_74 rfl (lv_at hl 1 rfl) ?_
        refine lv_bipush (v := 119) hx hb dX5_reopen_75 (by decide) ?_
        refine tk_cast hx hb hK hM hS 0 hR.a3 rfl (show vp_nar .char 119 = 119 from rfl) (vp_in_nI (by omega) (by decide)) dX5_reopen_77 (fun H locs hM hS => ?_)
        rw [show (nI t).toNatClampNeg = t from nI_clamp (by omega)] at hM
        have hR := hR.p3 (i := t) (v := 119)
        refine lv_iconst (v := 0) hx hb dX5_reopen_78 (by decide) ?_
        refine lv_istore_n (lv' := [(2, .int 0), (0, .ref m0), (1, .int (nI t))]) hx hb dX5_reopen_79 rfl hl (by decide) rfl (fun ls hl => ?_)
        refine lv_iconst (v := 0) hx hb dX5_reopen_80 (by decide) ?_
        refine lv_istore_n (lv' := [(3, .int 0), (2, .int 0), (0, .ref m0), (1, .int (nI t))]) hx hb dX5_reopen_81 rfl hl (by decide) rfl (fun ls hl => ?_)
        refine tk_g1 (Wf := fun H locs g => W p l e _ s m _ below meth c H locs _ _ _ g) (nE M) (fun i (acc : Int32) H locs ls => lv_has ls 4 [(0, .ref m0), (1, .int (nI t)), (3, .int (nI i)), (2, .int acc)] ∧ acc = (crS (st M 4 t 119) t i).2 ∧ ∃ G : TG, PR ac m0 am 0 ((crS (st M 4 t 119) t i).1) G ∧ tkM A D G H ∧ va_S A s.heap H locs) (fun i acc H locs ls hi hinv ih => ?_) _ _ _ ls ⟨(lv_sub hl [2, 3, 0, 1] rfl), rfl, _, hR, hM, hS⟩
        obtain ⟨hl, hacc, G, hR, hM, hS⟩ := hinv
        refine lv_iload_n hx hb dX5_reopen_82 rfl (lv_at hl 2 rfl) ?_
        refine lv_aload_n hx hb dX5_reopen_83 rfl (lv_at hl 0 rfl) ?_
        refine tk_get hx hb hts inX5 hown hK hM hR.1 rfl 21 (by decide) (hts (.fieldLink RX5 76 "TicketForgeModel" "entries" "I") (by decide +kernel)) (fun _ h9 => h9) rfl dX5_reopen_84 ?_
        rw [show ((crS (st M 4 t 119) t i).1) 0 21 = nI (nE M) from ((congrFun (crS_f (M := (st M 4 t 119)) (t := t) (by decide) (by decide) i) 21).trans hW.e.1)]
        refine lv_icmp_ge (tgt := 157) hx hb dX5_reopen_87 (by decide) (fun c_6 => ?_) (fun c_6 => ?_)
        · have hge := tk_ge (by omega) (by omega) c_6
          refine lv_iload_n hx hb dX5_reopen_157 rfl (lv_at hl 3 rfl) ?_
          have eS : S_reopen M (nI t) = (0, ((crS (st M 4 t 119) t i).1), acc) := (by rw [S_reopen, show tn (nI t) = t from nI_clamp (show t < 2 ^ 31 by omega), if_neg (by rw [hok]; decide), if_neg (fun h => h c_3), if_neg (fun h => absurd c_4 (Int32.not_lt.mpr h.1)), hacc, Nat.le_antisymm hi hge])
          exact W.iret (v := acc) hx hb hr (fun t9 h9 w9 => ⟨⟨acc, _, rfl, by rw [eS]; exact ⟨hR, rfl⟩, (by show tkM A D _ _; rw [h9]; exact hM)⟩, hS.F h9⟩) hS.2.2 dX5_reopen_158
        · have hlt := tk_lt (by omega) (by omega) c_6
          refine lv_aload_n hx hb dX5_reopen_90 rfl (lv_at hl 0 rfl) ?_
          refine tk_get hx hb hts inX5 hown hK hM hR.1 rfl 8 (by decide) (hts (.fieldLink RX5 36 "TicketForgeModel" "tasksOf" "[I") (by decide +kernel)) (fun _ h9 => h9) rfl dX5_reopen_91 ?_
          refine lv_iload_n hx hb dX5_reopen_94 rfl (lv_at hl 2 rfl) ?_
          refine tk_iald hx hb hK hM 1 hR.a8 rfl (vp_in_nI (by omega) (by decide)) dX5_reopen_95 ?_
          rw [show (nI i).toNatClampNeg = i from nI_clamp (by omega)]
          rw [show (crS (st M 4 t 119) t i).1 9 i = M 9 i from congrFun (crS_f (M := (st M 4 t 119)) (t := t) (f := 9) (by decide) (by decide) i) i]
          refine lv_iload_n hx hb dX5_reopen_96 rfl (lv_at hl 1 rfl) ?_
          refine lv_icmp_ne (tgt := 151) hx hb dX5_reopen_97 (by decide) (fun c_7 => ?_) (fun c_7 => ?_)
          · skip
            refine lv_iinc (v := (nI (i + 1))) (lv' := [(3, .int (nI (i + 1))), (0, .ref m0), (1, .int (nI t)), (2, .int acc)]) hx hb dX5_reopen_151 hl (k := 2) rfl (nI_1 i) (by decide) rfl (fun ls hl => ?_)
            refine lv_goto (tgt := 82) hx hb dX5_reopen_154 (by decide) ?_
            exact ih _ _ _ ls (by omega) ⟨(lv_sub hl [1, 2, 0, 3] rfl), (by rw [crS, if_neg (fun h => c_7 h.1), hacc]), _, (by rw [crS, if_neg (fun h => c_7 h.1)]; exact hR), hM, hS⟩
          · skip
            refine lv_aload_n hx hb dX5_reopen_100 rfl (lv_at hl 0 rfl) ?_
            refine tk_get hx hb hts inX5 hown hK hM hR.1 rfl 4 (by decide) (hts (.fieldLink RX5 23 "TicketForgeModel" "entryStates" "[C") (by decide +kernel)) (fun _ h9 => h9) rfl dX5_reopen_101 ?_
            refine lv_iload_n hx hb dX5_reopen_104 rfl (lv_at hl 2 rfl) ?_
            refine tk_cald hx hb hK hM 0 hR.a4 rfl (vp_in_nI (by omega) (by decide)) dX5_reopen_105 ?_
            rw [show (nI i).toNatClampNeg = i from nI_clamp (by omega)]
            rw [show (crS (st M 4 t 119) t i).1 5 i = M 5 i from crS_5 (M := (st M 4 t 119)) (t := t) i (Nat.le_refl i)]
            refine lv_bipush (v := 98) hx hb dX5_reopen_106 (by decide) ?_
            refine lv_icmp_eq (tgt := 114) hx hb dX5_reopen_108 (by decide) (fun c_8 => ?_) (fun c_8 => ?_)
            · obtain ⟨v, hv, e_v⟩ := h1.iv hlt (by simp [billed]; exact Or.inl c_8)
              refine lv_aload_n hx hb dX5_reopen_114 rfl (lv_at hl 0 rfl) ?_
              refine tk_get hx hb hts inX5 hown hK hM hR.1 rfl 4 (by decide) (hts (.fieldLink RX5 23 "TicketForgeModel" "entryStates" "[C") (by decide +kernel)) (fun _ h9 => h9) rfl dX5_reopen_115 ?_
              refine lv_iload_n hx hb dX5_reopen_118 rfl (lv_at hl 2 rfl) ?_
              refine lv_bipush (v := 99) hx hb dX5_reopen_119 (by decide) ?_
              refine tk_cast hx hb hK hM hS 0 hR.a4 rfl (show vp_nar .char 99 = 99 from rfl) (vp_in_nI (by omega) (by decide)) dX5_reopen_121 (fun H locs hM hS => ?_)
              rw [show (nI i).toNatClampNeg = i from nI_clamp (by omega)] at hM
              have hR := hR.p4 (i := i) (v := 99)
              refine lv_aload_n hx hb dX5_reopen_122 rfl (lv_at hl 0 rfl) ?_
              refine tk_get hx hb hts inX5 hown hK hM hR.1 rfl 16 (by decide) (hts (.fieldLink RX5 60 "TicketForgeModel" "credits" "[I") (by decide +kernel)) (fun _ h9 => h9) rfl dX5_reopen_123 ?_
              refine lv_aload_n hx hb dX5_reopen_126 rfl (lv_at hl 0 rfl) ?_
              refine tk_get hx hb hts inX5 hown hK hM hR.1 rfl 13 (by decide) (hts (.fieldLink RX5 51 "TicketForgeModel" "invoicesOf" "[I") (by decide +kernel)) (fun _ h9 => h9) rfl dX5_reopen_127 ?_
              refine lv_iload_n hx hb dX5_reopen_130 rfl (lv_at hl 2 rfl) ?_
              refine tk_iald hx hb hK hM 1 hR.a13 rfl (vp_in_nI (by omega) (by decide)) dX5_reopen_131 ?_
              rw [show (nI i).toNatClampNeg = i from nI_clamp (by omega)]
              rw [show ((((st ((crS (st M 4 t 119) t i).1) 5 i 99) 14) i)) = M 14 i from congrFun (crS_f (M := (st M 4 t 119)) (t := t) (f := 14) (by decide) (by decide) i) i, e_v]
              refine lv_dup2_11 hx hb dX5_reopen_132 rfl rfl ?_
              refine tk_iald hx hb hK hM 1 hR.a16 rfl (vp_in_nI (by omega) (by decide)) dX5_reopen_133 ?_
              rw [show (nI v).toNatClampNeg = v from nI_clamp (by omega)]
              refine lv_aload_n hx hb dX5_reopen_134 rfl (lv_at hl 0 rfl) ?_
              refine tk_get hx hb hts inX5 hown hK hM hR.1 rfl 12 (by decide) (hts (.fieldLink RX5 48 "TicketForgeModel" "prices" "[I") (by decide +kernel)) (fun _ h9 => h9) rfl dX5_reopen_135 ?_
              refine lv_iload_n hx hb dX5_reopen_138 rfl (lv_at hl 2 rfl) ?_
              refine tk_iald hx hb hK hM 1 hR.a12 rfl (vp_in_nI (by omega) (by decide)) dX5_reopen_139 ?_
              rw [show (nI i).toNatClampNeg = i from nI_clamp (by omega)]
              rw [show (((st ((crS (st M 4 t 119) t i).1) 5 i 99) 13) i) = M 13 i from congrFun (crS_f (M := (st M 4 t 119)) (t := t) (f := 13) (by decide) (by decide) i) i]
              refine lv_iadd hx hb dX5_reopen_140 ?_
              refine tk_iast hx hb hK hM hS 1 hR.a16 rfl (vp_in_nI (by omega) (by decide)) dX5_reopen_141 (fun H locs hM hS => ?_)
              rw [show (nI v).toNatClampNeg = v from nI_clamp (by omega)] at hM
              have hR := hR.p16 (i := v) (v := ((((st ((crS (st M 4 t 119) t i).1) 5 i 99) 17) v) + (M 13 i)))
              refine lv_iload_n hx hb dX5_reopen_142 rfl (lv_at hl 3 rfl) ?_
              refine lv_aload_n hx hb dX5_reopen_143 rfl (lv_at hl 0 rfl) ?_
              refine tk_get hx hb hts inX5 hown hK hM hR.1 rfl 12 (by decide) (hts (.fieldLink RX5 48 "TicketForgeModel" "prices" "[I") (by decide +kernel)) (fun _ h9 => h9) rfl dX5_reopen_144 ?_
              refine lv_iload_n hx hb dX5_reopen_147 rfl (lv_at hl 2 rfl) ?_
              refine tk_iald hx hb hK hM 1 hR.a12 rfl (vp_in_nI (by omega) (by decide)) dX5_reopen_148 ?_
              rw [show (nI i).toNatClampNeg = i from nI_clamp (by omega)]
              rw [show (((st (st ((crS (st M 4 t 119) t i).1) 5 i 99) 17 v ((((st ((crS (st M 4 t 119) t i).1) 5 i 99) 17) v) + (M 13 i))) 13) i) = M 13 i from congrFun (crS_f (M := (st M 4 t 119)) (t := t) (f := 13) (by decide) (by decide) i) i]
              refine lv_iadd hx hb dX5_reopen_149 ?_
              refine lv_istore_n (lv' := [(2, .int (acc + (M 13 i))), (0, .ref m0), (1, .int (nI t)), (3, .int (nI i))]) hx hb dX5_reopen_150 rfl hl (by decide) rfl (fun ls hl => ?_)
              refine lv_iinc (v := (nI (i + 1))) (lv' := [(3, .int (nI (i + 1))), (2, .int (acc + (M 13 i))), (0, .ref m0), (1, .int (nI t))]) hx hb dX5_reopen_151 hl (k := 3) rfl (nI_1 i) (by decide) rfl (fun ls hl => ?_)
              refine lv_goto (tgt := 82) hx hb dX5_reopen_154 (by decide) ?_
              exact ih _ _ _ ls (by omega) ⟨(lv_sub hl [2, 3, 0, 1] rfl), (by rw [crS, if_pos ⟨c_7, c_8⟩, hacc]; rfl), _, (by rw [crS, if_pos ⟨c_7, c_8⟩, show tn ((st M 4 t 119) 14 i) = v from by rw [show (st M 4 t 119) 14 i = M 14 i from rfl, e_v]; exact nI_clamp (by omega)]; exact hR), hM, hS⟩
            · skip
              refine lv_goto (tgt := 151) hx hb dX5_reopen_111 (by decide) ?_
              refine lv_iinc (v := (nI (i + 1))) (lv' := [(3, .int (nI (i + 1))), (0, .ref m0), (1, .int (nI t)), (2, .int acc)]) hx hb dX5_reopen_151 hl (k := 2) rfl (nI_1 i) (by decide) rfl (fun ls hl => ?_)
              refine lv_goto (tgt := 82) hx hb dX5_reopen_154 (by decide) ?_
              exact ih _ _ _ ls (by omega) ⟨(lv_sub hl [1, 2, 0, 3] rfl), (by rw [crS, if_neg (fun h => c_8 h.2), hacc]), _, (by rw [crS, if_neg (fun h => c_8 h.2)]; exact hR), hM, hS⟩
      · obtain ⟨q, hq, e_q⟩ := (hW.p t ht).resolve_left c_4
        refine lv_aload_n hx hb dX5_reopen_37 rfl (lv_at hl 0 rfl) ?_
        refine tk_get hx hb hts inX5 hown hK hM hR.1 rfl 3 (by decide) (hts (.fieldLink RX5 19 "TicketForgeModel" "states" "[C") (by decide +kernel)) (fun _ h9 => h9) rfl dX5_reopen_38 ?_
        refine lv_aload_n hx hb dX5_reopen_41 rfl (lv_at hl 0 rfl) ?_
        refine tk_get hx hb hts inX5 hown hK hM hR.1 rfl 0 (by decide) (hts (.fieldLink RX5 7 "TicketForgeModel" "parents" "[I") (by decide +kernel)) (fun _ h9 => h9) rfl dX5_reopen_42 ?_
        refine lv_iload_n hx hb dX5_reopen_45 rfl (lv_at hl 1 rfl) ?_
        refine tk_iald hx hb hK hM 1 hR.a0 rfl (vp_in_nI (by omega) (by decide)) dX5_reopen_46 ?_
        rw [show (nI t).toNatClampNeg = t from nI_clamp (by omega)]
        rw [e_q]
        refine tk_cald hx hb hK hM 0 hR.a3 rfl (vp_in_nI (by omega) (by decide)) dX5_reopen_47 ?_
        rw [show (nI q).toNatClampNeg = q from nI_clamp (by omega)]
        refine lv_bipush (v := 100) hx hb dX5_reopen_48 (by decide) ?_
        refine lv_icmp_ne (tgt := 57) hx hb dX5_reopen_50 (by decide) (fun c_9 => ?_) (fun c_9 => ?_)
        · skip
          refine lv_iconst (v := 0) hx hb dX5_reopen_57 (by decide) ?_
          refine tk_put (ty := .int) hx hb hts inX5 tyX5 tyX5_ok nmX5 hown hK hM hS hR.1 rfl 18 (by decide) (hts (.fieldLink RX5 66 "TicketForgeModel" "thrown" "I") (by decide +kernel)) (fun _ h9 => h9) rfl (by decide +kernel) rfl rfl (Nat.le_of_ble_eq_true rfl) dX5_reopen_58 (fun H locs hM hS => ?_)
          have hR := hR.th (v := 0)
          refine lv_aload_n hx hb dX5_reopen_61 rfl (lv_at hl 0 rfl) ?_
          refine tk_get hx hb hts inX5 hown hK hM hR.1 rfl 18 (by decide) (hts (.fieldLink RX5 66 "TicketForgeModel" "thrown" "I") (by decide +kernel)) (fun _ h9 => h9) rfl dX5_reopen_62 ?_
          refine lv_if_le (tgt := 70) hx hb dX5_reopen_65 (by decide) (fun c_10 => ?_) (fun c_10 => absurd (by decide) c_10)
          refine lv_aload_n hx hb dX5_reopen_70 rfl (lv_at hl 0 rfl) ?_
          refine tk_get hx hb hts inX5 hown hK hM hR.1 rfl 3 (by decide) (hts (.fieldLink RX5 19 "TicketForgeModel" "states" "[C") (by decide +kernel)) (fun _ h9 => h9) rfl dX5_reopen_71 ?_
          refine lv_iload_n hx hb dX5_reopen_74 rfl (lv_at hl 1 rfl) ?_
          refine lv_bipush (v := 119) hx hb dX5_reopen_75 (by decide) ?_
          refine tk_cast hx hb hK hM hS 0 hR.a3 rfl (show vp_nar .char 119 = 119 from rfl) (vp_in_nI (by omega) (by decide)) dX5_reopen_77 (fun H locs hM hS => ?_)
          rw [show (nI t).toNatClampNeg = t from nI_clamp (by omega)] at hM
          have hR := hR.p3 (i := t) (v := 119)
          refine lv_iconst (v := 0) hx hb dX5_reopen_78 (by decide) ?_
          refine lv_istore_n (lv' := [(2, .int 0), (0, .ref m0), (1, .int (nI t))]) hx hb dX5_reopen_79 rfl hl (by decide) rfl (fun ls hl => ?_)
          refine lv_iconst (v := 0) hx hb dX5_reopen_80 (by decide) ?_
          refine lv_istore_n (lv' := [(3, .int 0), (2, .int 0), (0, .ref m0), (1, .int (nI t))]) hx hb dX5_reopen_81 rfl hl (by decide) rfl (fun ls hl => ?_)
          refine tk_g1 (Wf := fun H locs g => W p l e _ s m _ below meth c H locs _ _ _ g) (nE M) (fun i (acc : Int32) H locs ls => lv_has ls 4 [(0, .ref m0), (1, .int (nI t)), (3, .int (nI i)), (2, .int acc)] ∧ acc = (crS (st M 4 t 119) t i).2 ∧ ∃ G : TG, PR ac m0 am 0 ((crS (st M 4 t 119) t i).1) G ∧ tkM A D G H ∧ va_S A s.heap H locs) (fun i acc H locs ls hi hinv ih => ?_) _ _ _ ls ⟨(lv_sub hl [2, 3, 0, 1] rfl), rfl, _, hR, hM, hS⟩
          obtain ⟨hl, hacc, G, hR, hM, hS⟩ := hinv
          refine lv_iload_n hx hb dX5_reopen_82 rfl (lv_at hl 2 rfl) ?_
          refine lv_aload_n hx hb dX5_reopen_83 rfl (lv_at hl 0 rfl) ?_
          refine tk_get hx hb hts inX5 hown hK hM hR.1 rfl 21 (by decide) (hts (.fieldLink RX5 76 "TicketForgeModel" "entries" "I") (by decide +kernel)) (fun _ h9 => h9) rfl dX5_reopen_84 ?_
          rw [show ((crS (st M 4 t 119) t i).1) 0 21 = nI (nE M) from ((congrFun (crS_f (M := (st M 4 t 119)) (t := t) (by decide) (by decide) i) 21).trans hW.e.1)]
          refine lv_icmp_ge (tgt := 157) hx hb dX5_reopen_87 (by decide) (fun c_11 => ?_) (fun c_11 => ?_)
          · have hge := tk_ge (by omega) (by omega) c_11
            refine lv_iload_n hx hb dX5_reopen_157 rfl (lv_at hl 3 rfl) ?_
            have eS : S_reopen M (nI t) = (0, ((crS (st M 4 t 119) t i).1), acc) := (by rw [S_reopen, show tn (nI t) = t from nI_clamp (show t < 2 ^ 31 by omega), if_neg (by rw [hok]; decide), if_neg (fun h => h c_3), if_neg (fun h => c_9 (by have h2 := h.2; rw [e_q, show tn (nI q) = q from nI_clamp (show q < 2 ^ 31 by omega)] at h2; exact h2)), hacc, Nat.le_antisymm hi hge])
            exact W.iret (v := acc) hx hb hr (fun t9 h9 w9 => ⟨⟨acc, _, rfl, by rw [eS]; exact ⟨hR, rfl⟩, (by show tkM A D _ _; rw [h9]; exact hM)⟩, hS.F h9⟩) hS.2.2 dX5_reopen_158
          · have hlt := tk_lt (by omega) (by omega) c_11
            refine lv_aload_n hx hb dX5_reopen_90 rfl (lv_at hl 0 rfl) ?_
            refine tk_get hx hb hts inX5 hown hK hM hR.1 rfl 8 (by decide) (hts (.fieldLink RX5 36 "TicketForgeModel" "tasksOf" "[I") (by decide +kernel)) (fun _ h9 => h9) rfl dX5_reopen_91 ?_
            refine lv_iload_n hx hb dX5_reopen_94 rfl (lv_at hl 2 rfl) ?_
            refine tk_iald hx hb hK hM 1 hR.a8 rfl (vp_in_nI (by omega) (by decide)) dX5_reopen_95 ?_
            rw [show (nI i).toNatClampNeg = i from nI_clamp (by omega)]
            rw [show (crS (st M 4 t 119) t i).1 9 i = M 9 i from congrFun (crS_f (M := (st M 4 t 119)) (t := t) (f := 9) (by decide) (by decide) i) i]
            refine lv_iload_n hx hb dX5_reopen_96 rfl (lv_at hl 1 rfl) ?_
            refine lv_icmp_ne (tgt := 151) hx hb dX5_reopen_97 (by decide) (fun c_12 => ?_) (fun c_12 => ?_)
            · skip
              refine lv_iinc (v := (nI (i + 1))) (lv' := [(3, .int (nI (i + 1))), (0, .ref m0), (1, .int (nI t)), (2, .int acc)]) hx hb dX5_reopen_151 hl (k := 2) rfl (nI_1 i) (by decide) rfl (fun ls hl => ?_)
              refine lv_goto (tgt := 82) hx hb dX5_reopen_154 (by decide) ?_
              exact ih _ _ _ ls (by omega) ⟨(lv_sub hl [1, 2, 0, 3] rfl), (by rw [crS, if_neg (fun h => c_12 h.1), hacc]), _, (by rw [crS, if_neg (fun h => c_12 h.1)]; exact hR), hM, hS⟩
            · skip
              refine lv_aload_n hx hb dX5_reopen_100 rfl (lv_at hl 0 rfl) ?_
              refine tk_get hx hb hts inX5 hown hK hM hR.1 rfl 4 (by decide) (hts (.fieldLink RX5 23 "TicketForgeModel" "entryStates" "[C") (by decide +kernel)) (fun _ h9 => h9) rfl dX5_reopen_101 ?_
              refine lv_iload_n hx hb dX5_reopen_104 rfl (lv_at hl 2 rfl) ?_
              refine tk_cald hx hb hK hM 0 hR.a4 rfl (vp_in_nI (by omega) (by decide)) dX5_reopen_105 ?_
              rw [show (nI i).toNatClampNeg = i from nI_clamp (by omega)]
              rw [show (crS (st M 4 t 119) t i).1 5 i = M 5 i from crS_5 (M := (st M 4 t 119)) (t := t) i (Nat.le_refl i)]
              refine lv_bipush (v := 98) hx hb dX5_reopen_106 (by decide) ?_
              refine lv_icmp_eq (tgt := 114) hx hb dX5_reopen_108 (by decide) (fun c_13 => ?_) (fun c_13 => ?_)
              · obtain ⟨v, hv, e_v⟩ := h1.iv hlt (by simp [billed]; exact Or.inl c_13)
                refine lv_aload_n hx hb dX5_reopen_114 rfl (lv_at hl 0 rfl) ?_
                refine tk_get hx hb hts inX5 hown hK hM hR.1 rfl 4 (by decide) (hts (.fieldLink RX5 23 "TicketForgeModel" "entryStates" "[C") (by decide +kernel)) (fun _ h9 => h9) rfl dX5_reopen_115 ?_
                refine lv_iload_n hx hb dX5_reopen_118 rfl (lv_at hl 2 rfl) ?_
                refine lv_bipush (v := 99) hx hb dX5_reopen_119 (by decide) ?_
                refine tk_cast hx hb hK hM hS 0 hR.a4 rfl (show vp_nar .char 99 = 99 from rfl) (vp_in_nI (by omega) (by decide)) dX5_reopen_121 (fun H locs hM hS => ?_)
                rw [show (nI i).toNatClampNeg = i from nI_clamp (by omega)] at hM
                have hR := hR.p4 (i := i) (v := 99)
                refine lv_aload_n hx hb dX5_reopen_122 rfl (lv_at hl 0 rfl) ?_
                refine tk_get hx hb hts inX5 hown hK hM hR.1 rfl 16 (by decide) (hts (.fieldLink RX5 60 "TicketForgeModel" "credits" "[I") (by decide +kernel)) (fun _ h9 => h9) rfl dX5_reopen_123 ?_
                refine lv_aload_n hx hb dX5_reopen_126 rfl (lv_at hl 0 rfl) ?_
                refine tk_get hx hb hts inX5 hown hK hM hR.1 rfl 13 (by decide) (hts (.fieldLink RX5 51 "TicketForgeModel" "invoicesOf" "[I") (by decide +kernel)) (fun _ h9 => h9) rfl dX5_reopen_127 ?_
                refine lv_iload_n hx hb dX5_reopen_130 rfl (lv_at hl 2 rfl) ?_
                refine tk_iald hx hb hK hM 1 hR.a13 rfl (vp_in_nI (by omega) (by decide)) dX5_reopen_131 ?_
                rw [show (nI i).toNatClampNeg = i from nI_clamp (by omega)]
                rw [show ((((st ((crS (st M 4 t 119) t i).1) 5 i 99) 14) i)) = M 14 i from congrFun (crS_f (M := (st M 4 t 119)) (t := t) (f := 14) (by decide) (by decide) i) i, e_v]
                refine lv_dup2_11 hx hb dX5_reopen_132 rfl rfl ?_
                refine tk_iald hx hb hK hM 1 hR.a16 rfl (vp_in_nI (by omega) (by decide)) dX5_reopen_133 ?_
                rw [show (nI v).toNatClampNeg = v from nI_clamp (by omega)]
                refine lv_aload_n hx hb dX5_reopen_134 rfl (lv_at hl 0 rfl) ?_
                refine tk_get hx hb hts inX5 hown hK hM hR.1 rfl 12 (by decide) (hts (.fieldLink RX5 48 "TicketForgeModel" "prices" "[I") (by decide +kernel)) (fun _ h9 => h9) rfl dX5_reopen_135 ?_
                refine lv_iload_n hx hb dX5_reopen_138 rfl (lv_at hl 2 rfl) ?_
                refine tk_iald hx hb hK hM 1 hR.a12 rfl (vp_in_nI (by omega) (by decide)) dX5_reopen_139 ?_
                rw [show (nI i).toNatClampNeg = i from nI_clamp (by omega)]
                rw [show (((st ((crS (st M 4 t 119) t i).1) 5 i 99) 13) i) = M 13 i from congrFun (crS_f (M := (st M 4 t 119)) (t := t) (f := 13) (by decide) (by decide) i) i]
                refine lv_iadd hx hb dX5_reopen_140 ?_
                refine tk_iast hx hb hK hM hS 1 hR.a16 rfl (vp_in_nI (by omega) (by decide)) dX5_reopen_141 (fun H locs hM hS => ?_)
                rw [show (nI v).toNatClampNeg = v from nI_clamp (by omega)] at hM
                have hR := hR.p16 (i := v) (v := ((((st ((crS (st M 4 t 119) t i).1) 5 i 99) 17) v) + (M 13 i)))
                refine lv_iload_n hx hb dX5_reopen_142 rfl (lv_at hl 3 rfl) ?_
                refine lv_aload_n hx hb dX5_reopen_143 rfl (lv_at hl 0 rfl) ?_
                refine tk_get hx hb hts inX5 hown hK hM hR.1 rfl 12 (by decide) (hts (.fieldLink RX5 48 "TicketForgeModel" "prices" "[I") (by decide +kernel)) (fun _ h9 => h9) rfl dX5_reopen_144 ?_
                refine lv_iload_n hx hb dX5_reopen_147 rfl (lv_at hl 2 rfl) ?_
                refine tk_iald hx hb hK hM 1 hR.a12 rfl (vp_in_nI (by omega) (by decide)) dX5_reopen_148 ?_
                rw [show (nI i).toNatClampNeg = i from nI_clamp (by omega)]
                rw [show (((st (st ((crS (st M 4 t 119) t i).1) 5 i 99) 17 v ((((st ((crS (st M 4 t 119) t i).1) 5 i 99) 17) v) + (M 13 i))) 13) i) = M 13 i from congrFun (crS_f (M := (st M 4 t 119)) (t := t) (f := 13) (by decide) (by decide) i) i]
                refine lv_iadd hx hb dX5_reopen_149 ?_
                refine lv_istore_n (lv' := [(2, .int (acc + (M 13 i))), (0, .ref m0), (1, .int (nI t)), (3, .int (nI i))]) hx hb dX5_reopen_150 rfl hl (by decide) rfl (fun ls hl => ?_)
                refine lv_iinc (v := (nI (i + 1))) (lv' := [(3, .int (nI (i + 1))), (2, .int (acc + (M 13 i))), (0, .ref m0), (1, .int (nI t))]) hx hb dX5_reopen_151 hl (k := 3) rfl (nI_1 i) (by decide) rfl (fun ls hl => ?_)
                refine lv_goto (tgt := 82) hx hb dX5_reopen_154 (by decide) ?_
                exact ih _ _ _ ls (by omega) ⟨(lv_sub hl [2, 3, 0, 1] rfl), (by rw [crS, if_pos ⟨c_12, c_13⟩, hacc]; rfl), _, (by rw [crS, if_pos ⟨c_12, c_13⟩, show tn ((st M 4 t 119) 14 i) = v from by rw [show (st M 4 t 119) 14 i = M 14 i from rfl, e_v]; exact nI_clamp (by omega)]; exact hR), hM, hS⟩
              · skip
                refine lv_goto (tgt := 151) hx hb dX5_reopen_111 (by decide) ?_
                refine lv_iinc (v := (nI (i + 1))) (lv' := [(3, .int (nI (i + 1))), (0, .ref m0), (1, .int (nI t)), (2, .int acc)]) hx hb dX5_reopen_151 hl (k := 2) rfl (nI_1 i) (by decide) rfl (fun ls hl => ?_)
                refine lv_goto (tgt := 82) hx hb dX5_reopen_154 (by decide) ?_
                exact ih _ _ _ ls (by omega) ⟨(lv_sub hl [1, 2, 0, 3] rfl), (by rw [crS, if_neg (fun h => c_13 h.2), hacc]), _, (by rw [crS, if_neg (fun h => c_13 h.2)]; exact hR), hM, hS⟩
        · skip
          refine lv_iconst (v := 3) hx hb dX5_reopen_53 (by decide) ?_
          refine lv_goto (tgt := 58) hx hb dX5_reopen_54 (by decide) ?_
          refine tk_put (ty := .int) hx hb hts inX5 tyX5 tyX5_ok nmX5 hown hK hM hS hR.1 rfl 18 (by decide) (hts (.fieldLink RX5 66 "TicketForgeModel" "thrown" "I") (by decide +kernel)) (fun _ h9 => h9) rfl (by decide +kernel) rfl rfl (Nat.le_of_ble_eq_true rfl) dX5_reopen_58 (fun H locs hM hS => ?_)
          have hR := hR.th (v := 3)
          refine lv_aload_n hx hb dX5_reopen_61 rfl (lv_at hl 0 rfl) ?_
          refine tk_get hx hb hts inX5 hown hK hM hR.1 rfl 18 (by decide) (hts (.fieldLink RX5 66 "TicketForgeModel" "thrown" "I") (by decide +kernel)) (fun _ h9 => h9) rfl dX5_reopen_62 ?_
          refine lv_if_le (tgt := 70) hx hb dX5_reopen_65 (by decide) (fun c_14 => absurd c_14 (by decide)) (fun c_14 => ?_)
          refine lv_iconst (v := 0) hx hb dX5_reopen_68 (by decide) ?_
          have eS : S_reopen M (nI t) = (3, M, 0) := (by rw [S_reopen, show tn (nI t) = t from nI_clamp (show t < 2 ^ 31 by omega), if_neg (by rw [hok]; decide), if_neg (fun h => h c_3), if_pos ⟨Int32.not_lt.mp c_4, by rw [e_q, show tn (nI q) = q from nI_clamp (show q < 2 ^ 31 by omega)]; exact c_9⟩])
          exact W.iret (v := 0) hx hb hr (fun t9 h9 w9 => ⟨⟨0, _, rfl, by rw [eS]; exact ⟨hR, rfl⟩, (by show tkM A D _ _; rw [h9]; exact hM)⟩, hS.F h9⟩) hS.2.2 dX5_reopen_69
    · skip
      refine lv_iconst (v := 2) hx hb dX5_reopen_24 (by decide) ?_
      refine lv_goto (tgt := 58) hx hb dX5_reopen_25 (by decide) ?_
      refine tk_put (ty := .int) hx hb hts inX5 tyX5 tyX5_ok nmX5 hown hK hM hS hR.1 rfl 18 (by decide) (hts (.fieldLink RX5 66 "TicketForgeModel" "thrown" "I") (by decide +kernel)) (fun _ h9 => h9) rfl (by decide +kernel) rfl rfl (Nat.le_of_ble_eq_true rfl) dX5_reopen_58 (fun H locs hM hS => ?_)
      have hR := hR.th (v := 2)
      refine lv_aload_n hx hb dX5_reopen_61 rfl (lv_at hl 0 rfl) ?_
      refine tk_get hx hb hts inX5 hown hK hM hR.1 rfl 18 (by decide) (hts (.fieldLink RX5 66 "TicketForgeModel" "thrown" "I") (by decide +kernel)) (fun _ h9 => h9) rfl dX5_reopen_62 ?_
      refine lv_if_le (tgt := 70) hx hb dX5_reopen_65 (by decide) (fun c_15 => absurd c_15 (by decide)) (fun c_15 => ?_)
      refine lv_iconst (v := 0) hx hb dX5_reopen_68 (by decide) ?_
      have eS : S_reopen M (nI t) = (2, M, 0) := (by rw [S_reopen, show tn (nI t) = t from nI_clamp (show t < 2 ^ 31 by omega), if_neg (by rw [hok]; decide), if_pos c_3])
      exact W.iret (v := 0) hx hb hr (fun t9 h9 w9 => ⟨⟨0, _, rfl, by rw [eS]; exact ⟨hR, rfl⟩, (by show tkM A D _ _; rw [h9]; exact hM)⟩, hS.F h9⟩) hS.2.2 dX5_reopen_69
  · skip
    refine lv_if_ne (tgt := 13) hx hb dX5_reopen_6 (by decide) (fun c_16 => absurd c_16 (by decide)) (fun c_16 => ?_)
    refine lv_iconst (v := 1) hx hb dX5_reopen_9 (by decide) ?_
    refine lv_goto (tgt := 58) hx hb dX5_reopen_10 (by decide) ?_
    refine tk_put (ty := .int) hx hb hts inX5 tyX5 tyX5_ok nmX5 hown hK hM hS hR.1 rfl 18 (by decide) (hts (.fieldLink RX5 66 "TicketForgeModel" "thrown" "I") (by decide +kernel)) (fun _ h9 => h9) rfl (by decide +kernel) rfl rfl (Nat.le_of_ble_eq_true rfl) dX5_reopen_58 (fun H locs hM hS => ?_)
    have hR := hR.th (v := 1)
    refine lv_aload_n hx hb dX5_reopen_61 rfl (lv_at hl 0 rfl) ?_
    refine tk_get hx hb hts inX5 hown hK hM hR.1 rfl 18 (by decide) (hts (.fieldLink RX5 66 "TicketForgeModel" "thrown" "I") (by decide +kernel)) (fun _ h9 => h9) rfl dX5_reopen_62 ?_
    refine lv_if_le (tgt := 70) hx hb dX5_reopen_65 (by decide) (fun c_17 => absurd c_17 (by decide)) (fun c_17 => ?_)
    refine lv_iconst (v := 0) hx hb dX5_reopen_68 (by decide) ?_
    have eS : S_reopen M x = (1, M, 0) := (by rw [S_reopen, if_pos hr_1])
    exact W.iret (v := 0) hx hb hr (fun t9 h9 w9 => ⟨⟨0, _, rfl, by rw [eS]; exact ⟨hR, rfl⟩, (by show tkM A D _ _; rw [h9]; exact hM)⟩, hS.F h9⟩) hS.2.2 dX5_reopen_69
set_option maxHeartbeats 4000000 in
set_option maxRecDepth 100000 in
theorem c_X5_invoice (l : Launch) (A : Nat → Prop) (D : va_G) (ac : Nat → ClassId) (G : TG) {m0 : Nat} {am : Nat → Nat} {th : Int32} {M : TS} (hR : PR ac m0 am th M G) (hW : W0 M) (h1 : W1 M) (x : Int32) (w0 : Int32) : Met l yX5_invoice wsX5_invoice ({ frames := 3, cells := 0, slots := 0, locals := 180 } : Room) (va_Pc [.ref m0, .int x, .int w0] (tkJ A D ac G)) (va_Qi (fun (z : Int32) (G9 : TG) => PR ac m0 am (S_invoice M x w0).1 (S_invoice M x w0).2.1 G9 ∧ z = (S_invoice M x w0).2.2) (fun (G9 : TG) t => tkM A D G9 t.heap) A) 0 0 A := by
  refine Met.ofW (cc := cX5_invoice) (maxL := 7) (ret := (some .int)) (by decide) rfl ?_
  intro p e s m args below meth c s₁ B hml hv
  obtain ⟨rfl, hM, hK⟩ := hv
  have hS : va_S A s.heap s.heap [] := va_S.rf
  have hx := B.exec
  have hb := B.bytes
  have hr := B.returns
  have hts := atoms_spec (ws := wsX5_invoice) B.pre
  have hown : s.vm.findClass RX5 = some m.cls := findClass_of_methodNamed B.named
  have hlocks := B.notSynchronized
  have S0 : CallFix p m c cX5_invoice 7 s ([.ref m0, .int x, .int w0] : List Value).toArray wsX5_invoice RX5 := ⟨hx, hb, hml, hown, hts⟩
  have inX5 : ∀ w ∈ wsX50, w ∈ wsX5_invoice := by decide +kernel
  have hl := lv_entry ([.ref m0, .int x, .int w0]) (n := 7) (Nat.le_of_ble_eq_true rfl)
  rw [lg_entry_eq]
  generalize (lg_sl ([.ref m0, .int x, .int w0]) ++ List.replicate (7 - (lg_sl ([.ref m0, .int x, .int w0])).length) Slot.unset).toArray = ls at hl ⊢
  have hl : lv_has ls 7 [(0, .ref m0), (1, .int x), (2, .int w0)] := hl
  have bT := hW.t.2
  have bE := hW.e.2
  have bV := hW.v.2
  refine lv_aload_n hx hb dX5_invoice_0 rfl (lv_at hl 0 rfl) ?_
  refine lv_aload_n hx hb dX5_invoice_1 rfl (lv_at hl 0 rfl) ?_
  refine lv_iload_n hx hb dX5_invoice_2 rfl (lv_at hl 1 rfl) ?_
  refine tk_cVi (As := [.int x]) S0 (c_X5_isTask l A D ac _ hR hW x) (cwV 1 hts gX5_invoice_X5_isTask rfl rfl rfl (by decide +kernel) ⟨Nat.le_of_ble_eq_true rfl, Nat.le_of_ble_eq_true rfl⟩) (tkJ.blind) (tkJ.at hM hK) (tk_recv hK hM hR.1 rfl) rfl hl.1 rfl (Nat.le_of_ble_eq_true rfl) dX5_invoice_3 ⟨Nat.zero_le _, Nat.zero_le _⟩ (fun r_1 hr_1 => ?_)
  rcases hr_1 with ⟨rfl, hr_1⟩ | ⟨rfl, hr_1⟩
  · have hok := hr_1
    obtain ⟨t, ht, rfl⟩ := tkOk_ex (by omega) hr_1
    refine lv_if_ne (tgt := 13) hx hb dX5_invoice_6 (by decide) (fun c_2 => ?_) (fun c_2 => absurd c_2 (by decide))
    refine lv_iload_n hx hb dX5_invoice_13 rfl (lv_at hl 2 rfl) ?_
    refine tk_cSi (As := [.int w0]) S0 (c_X5_isWeek l A D ac _ w0) (va_cwS 1 hts gX5_invoice_X5_isWeek rfl rfl rfl (by decide +kernel) ⟨Nat.le_of_ble_eq_true rfl, Nat.le_of_ble_eq_true rfl⟩) (tkJ.blind) (tkJ.at hM hK) rfl hl.1 rfl (Nat.le_of_ble_eq_true rfl) dX5_invoice_14 ⟨Nat.zero_le _, Nat.zero_le _⟩ (fun r_3 hr_3 => ?_)
    rcases hr_3 with ⟨rfl, hr_3⟩ | ⟨rfl, hr_3⟩
    · have hok_w0 : tkOk 30 w0 = true := by first | exact hr_3 | (rw [← tkIn_n (by decide)]; exact hr_3)
      obtain ⟨w, hw, rfl⟩ := tkOk_ex (by decide) hok_w0
      refine lv_if_ne (tgt := 24) hx hb dX5_invoice_17 (by decide) (fun c_4 => ?_) (fun c_4 => absurd c_4 (by decide))
      refine lv_aload_n hx hb dX5_invoice_24 rfl (lv_at hl 0 rfl) ?_
      refine tk_get hx hb hts inX5 hown hK hM hR.1 rfl 0 (by decide) (hts (.fieldLink RX5 7 "TicketForgeModel" "parents" "[I") (by decide +kernel)) (fun _ h9 => h9) rfl dX5_invoice_25 ?_
      refine lv_iload_n hx hb dX5_invoice_28 rfl (lv_at hl 1 rfl) ?_
      refine tk_iald hx hb hK hM 1 hR.a0 rfl (vp_in_nI (by omega) (by decide)) dX5_invoice_29 ?_
      rw [show (nI t).toNatClampNeg = t from nI_clamp (by omega)]
      refine lv_if_lt (tgt := 37) hx hb dX5_invoice_30 (by decide) (fun c_5 => ?_) (fun c_5 => ?_)
      · skip
        refine lv_iconst (v := 0) hx hb dX5_invoice_37 (by decide) ?_
        refine tk_put (ty := .int) hx hb hts inX5 tyX5 tyX5_ok nmX5 hown hK hM hS hR.1 rfl 18 (by decide) (hts (.fieldLink RX5 66 "TicketForgeModel" "thrown" "I") (by decide +kernel)) (fun _ h9 => h9) rfl (by decide +kernel) rfl rfl (Nat.le_of_ble_eq_true rfl) dX5_invoice_38 (fun H locs hM hS => ?_)
        have hR := hR.th (v := 0)
        refine lv_aload_n hx hb dX5_invoice_41 rfl (lv_at hl 0 rfl) ?_
        refine tk_get hx hb hts inX5 hown hK hM hR.1 rfl 18 (by decide) (hts (.fieldLink RX5 66 "TicketForgeModel" "thrown" "I") (by decide +kernel)) (fun _ h9 => h9) rfl dX5_invoice_42 ?_
        refine lv_if_le (tgt := 50) hx hb dX5_invoice_45 (by decide) (fun c_6 => ?_) (fun c_6 => absurd (by decide) c_6)
        refine lv_iconst (v := 0) hx hb dX5_invoice_50 (by decide) ?_
        refine lv_istore_n (lv' := [(3, .int 0), (0, .ref m0), (1, .int (nI t)), (2, .int (nI w))]) hx hb dX5_invoice_51 rfl hl (by decide) rfl (fun ls hl => ?_)
        refine lv_iconst (v := 0) hx hb dX5_invoice_52 (by decide) ?_
        refine lv_istore (lv' := [(4, .int 0), (3, .int 0), (0, .ref m0), (1, .int (nI t)), (2, .int (nI w))]) hx hb dX5_invoice_53 hl (by decide) rfl (fun ls hl => ?_)
        refine tk_f1 (Wf := W p l e _ s m _ below meth c _ _ _ _ _) (nE M) (fun i looked ls => lv_has ls 7 [(0, .ref m0), (1, .int (nI t)), (2, .int (nI w)), (4, .int (nI i)), (3, .int looked)] ∧ looked = sumI (fun k => if lookedAt M t (nI w) k = true then 1 else 0) i) (fun i looked ls hi hinv ih => ?_) _ ls ⟨(lv_sub hl [2, 3, 4, 0, 1] rfl), rfl⟩
        obtain ⟨hl, hinv⟩ := hinv
        refine lv_iload hx hb dX5_invoice_55 (lv_at hl 3 rfl) ?_
        refine lv_aload_n hx hb dX5_invoice_57 rfl (lv_at hl 0 rfl) ?_
        refine tk_get hx hb hts inX5 hown hK hM hR.1 rfl 21 (by decide) (hts (.fieldLink RX5 76 "TicketForgeModel" "entries" "I") (by decide +kernel)) (fun _ h9 => h9) rfl dX5_invoice_58 ?_
        rw [hW.e.1]
        refine lv_icmp_ge (tgt := 89) hx hb dX5_invoice_61 (by decide) (fun c_7 => ?_) (fun c_7 => ?_)
        · have hge := tk_ge (by omega) (by omega) c_7
          have hlk0 : looked = 0 ↔ anyB (lookedAt M t (nI w)) (nE M) = false := by rw [sumI_e hinv hi hge]; exact cnt0 (by omega)
          refine lv_aload_n hx hb dX5_invoice_89 rfl (lv_at hl 0 rfl) ?_
          refine lv_iload_n hx hb dX5_invoice_90 rfl (lv_at hl 4 rfl) ?_
          refine lv_if_eq (tgt := 103) hx hb dX5_invoice_91 (by decide) (fun c_8 => ?_) (fun c_8 => ?_)
          · skip
            refine lv_iconst (v := 4) hx hb dX5_invoice_103 (by decide) ?_
            refine lv_goto (tgt := 108) hx hb dX5_invoice_104 (by decide) ?_
            refine tk_put (ty := .int) hx hb hts inX5 tyX5 tyX5_ok nmX5 hown hK hM hS hR.1 rfl 18 (by decide) (hts (.fieldLink RX5 66 "TicketForgeModel" "thrown" "I") (by decide +kernel)) (fun _ h9 => h9) rfl (by decide +kernel) rfl rfl (Nat.le_of_ble_eq_true rfl) dX5_invoice_108 (fun H locs hM hS => ?_)
            have hR := hR.th (v := 4)
            refine lv_aload_n hx hb dX5_invoice_111 rfl (lv_at hl 0 rfl) ?_
            refine tk_get hx hb hts inX5 hown hK hM hR.1 rfl 18 (by decide) (hts (.fieldLink RX5 66 "TicketForgeModel" "thrown" "I") (by decide +kernel)) (fun _ h9 => h9) rfl dX5_invoice_112 ?_
            refine lv_if_le (tgt := 120) hx hb dX5_invoice_115 (by decide) (fun c_9 => absurd c_9 (by decide)) (fun c_9 => ?_)
            refine lv_iconst (v := 0) hx hb dX5_invoice_118 (by decide) ?_
            have eS : S_invoice M (nI t) (nI w) = (4, M, 0) := (by rw [S_invoice, show tn (nI t) = t from nI_clamp (show t < 2 ^ 31 by omega), if_neg (by rw [hok]; decide), if_neg (by rw [hok_w0]; decide), if_neg (fun h => absurd c_5 (Int32.not_lt.mpr h)), if_pos (Or.inl (hlk0.mp c_8))])
            exact W.iret (v := 0) hx hb hr (fun t9 h9 w9 => ⟨⟨0, _, rfl, by rw [eS]; exact ⟨hR, rfl⟩, (by show tkM A D _ _; rw [h9]; exact hM)⟩, hS.F h9⟩) hS.2.2 dX5_invoice_119
          · skip
            refine lv_aload_n hx hb dX5_invoice_94 rfl (lv_at hl 0 rfl) ?_
            refine tk_get hx hb hts inX5 hown hK hM hR.1 rfl 22 (by decide) (hts (.fieldLink RX5 79 "TicketForgeModel" "invoices" "I") (by decide +kernel)) (fun _ h9 => h9) rfl dX5_invoice_95 ?_
            rw [hW.v.1]
            refine lv_bipush (v := 20) hx hb dX5_invoice_98 (by decide) ?_
            refine lv_icmp_ne (tgt := 107) hx hb dX5_invoice_100 (by decide) (fun c_10 => ?_) (fun c_10 => ?_)
            · have hv20 : nV M < 20 := Nat.lt_of_le_of_ne bV (fun h => c_10 (by rw [h]; rfl))
              refine lv_iconst (v := 0) hx hb dX5_invoice_107 (by decide) ?_
              refine tk_put (ty := .int) hx hb hts inX5 tyX5 tyX5_ok nmX5 hown hK hM hS hR.1 rfl 18 (by decide) (hts (.fieldLink RX5 66 "TicketForgeModel" "thrown" "I") (by decide +kernel)) (fun _ h9 => h9) rfl (by decide +kernel) rfl rfl (Nat.le_of_ble_eq_true rfl) dX5_invoice_108 (fun H locs hM hS => ?_)
              have hR := hR.th (v := 0)
              refine lv_aload_n hx hb dX5_invoice_111 rfl (lv_at hl 0 rfl) ?_
              refine tk_get hx hb hts inX5 hown hK hM hR.1 rfl 18 (by decide) (hts (.fieldLink RX5 66 "TicketForgeModel" "thrown" "I") (by decide +kernel)) (fun _ h9 => h9) rfl dX5_invoice_112 ?_
              refine lv_if_le (tgt := 120) hx hb dX5_invoice_115 (by decide) (fun c_11 => ?_) (fun c_11 => absurd (by decide) c_11)
              refine lv_iconst (v := 0) hx hb dX5_invoice_120 (by decide) ?_
              refine lv_istore (lv' := [(4, .int 0), (0, .ref m0), (1, .int (nI t)), (2, .int (nI w)), (3, .int looked)]) hx hb dX5_invoice_121 hl (by decide) rfl (fun ls hl => ?_)
              refine lv_iconst (v := 0) hx hb dX5_invoice_123 (by decide) ?_
              have hR : PR ac m0 am 0 (ruleS M (nV M)) _ := (((hR.cu 21 (by decide)).cu 22 (by decide)).cu 23 (by decide)).cu 20 (by decide)
              refine lv_istore (lv' := [(5, .int 0), (4, .int 0), (0, .ref m0), (1, .int (nI t)), (2, .int (nI w)), (3, .int looked)]) hx hb dX5_invoice_124 hl (by decide) rfl (fun ls hl => ?_)
              refine tk_g1 (Wf := fun H locs g => W p l e _ s m _ below meth c H locs _ _ _ g) (nE M) (fun i (acc : Int32) H locs ls => lv_has ls 7 [(0, .ref m0), (1, .int (nI t)), (2, .int (nI w)), (5, .int (nI i)), (4, .int acc)] ∧ acc = (billS (ruleS M (nV M)) t (nI w) (nV M) i).2 ∧ ∃ G : TG, PR ac m0 am 0 ((billS (ruleS M (nV M)) t (nI w) (nV M) i).1) G ∧ tkM A D G H ∧ va_S A s.heap H locs) (fun i acc H locs ls hi hinv ih => ?_) _ _ _ ls ⟨(lv_sub hl [2, 3, 4, 0, 1] rfl), rfl, _, hR, hM, hS⟩
              obtain ⟨hl, hacc, G, hR, hM, hS⟩ := hinv
              refine lv_iload hx hb dX5_invoice_126 (lv_at hl 3 rfl) ?_
              refine lv_aload_n hx hb dX5_invoice_128 rfl (lv_at hl 0 rfl) ?_
              refine tk_get hx hb hts inX5 hown hK hM hR.1 rfl 21 (by decide) (hts (.fieldLink RX5 76 "TicketForgeModel" "entries" "I") (by decide +kernel)) (fun _ h9 => h9) rfl dX5_invoice_129 ?_
              rw [show ((billS (ruleS M (nV M)) t (nI w) (nV M) i).1) 0 21 = nI (nE M) from (congrFun (bill0 (M := (ruleS M (nV M))) (r := t) (v := nV M) (w := nI w) (n := i)) 21).trans hW.e.1]
              refine lv_icmp_ge (tgt := 285) hx hb dX5_invoice_132 (by decide) (fun c_12 => ?_) (fun c_12 => ?_)
              · have hge := tk_ge (by omega) (by omega) c_12
                obtain rfl : i = nE M := Nat.le_antisymm hi hge
                subst hacc
                refine lv_iconst (v := 0) hx hb dX5_invoice_285 (by decide) ?_
                refine lv_istore (lv' := [(5, .int 0), (0, .ref m0), (1, .int (nI t)), (2, .int (nI w)), (4, .int ((billS (ruleS M (nV M)) t (nI w) (nV M) (nE M)).2))]) hx hb dX5_invoice_286 hl (by decide) rfl (fun ls hl => ?_)
                refine tk_g1 (Wf := fun H locs g => W p l e _ s m _ below meth c H locs _ _ _ g) (nE M) (fun i (u9 : Unit) H locs ls => lv_has ls 7 [(0, .ref m0), (1, .int (nI t)), (2, .int (nI w)), (4, .int ((billS (ruleS M (nV M)) t (nI w) (nV M) (nE M)).2)), (5, .int (nI i))] ∧ ∃ G : TG, PR ac m0 am 0 ((discS (billS (ruleS M (nV M)) t (nI w) (nV M) (nE M)).1 (nV M) (billS (ruleS M (nV M)) t (nI w) (nV M) (nE M)).2 i)) G ∧ tkM A D G H ∧ va_S A s.heap H locs) (fun i u9 H locs ls hi hinv ih => ?_) () _ _ ls ⟨(lv_sub hl [1, 2, 3, 4, 0] rfl), _, hR, hM, hS⟩
                obtain ⟨hl, G, hR, hM, hS⟩ := hinv
                refine lv_iload hx hb dX5_invoice_288 (lv_at hl 4 rfl) ?_
                refine lv_aload_n hx hb dX5_invoice_290 rfl (lv_at hl 0 rfl) ?_
                refine tk_get hx hb hts inX5 hown hK hM hR.1 rfl 21 (by decide) (hts (.fieldLink RX5 76 "TicketForgeModel" "entries" "I") (by decide +kernel)) (fun _ h9 => h9) rfl dX5_invoice_291 ?_
                rw [show ((discS (billS (ruleS M (nV M)) t (nI w) (nV M) (nE M)).1 (nV M) (billS (ruleS M (nV M)) t (nI w) (nV M) (nE M)).2 i)) 0 21 = nI (nE M) from ((congrFun (disc0 (M := (billS (ruleS M (nV M)) t (nI w) (nV M) (nE M)).1) (v := nV M) (n := i) (s := (billS (ruleS M (nV M)) t (nI w) (nV M) (nE M)).2)) 21).trans (congrFun bill0 21)).trans hW.e.1]
                refine lv_icmp_ge (tgt := 382) hx hb dX5_invoice_294 (by decide) (fun c_13 => ?_) (fun c_13 => ?_)
                · have hge := tk_ge (by omega) (by omega) c_13
                  obtain rfl : i = nE M := Nat.le_antisymm hi hge
                  refine lv_aload_n hx hb dX5_invoice_382 rfl (lv_at hl 0 rfl) ?_
                  refine lv_dup hx hb dX5_invoice_383 rfl ?_
                  refine tk_get hx hb hts inX5 hown hK hM hR.1 rfl 22 (by decide) (hts (.fieldLink RX5 79 "TicketForgeModel" "invoices" "I") (by decide +kernel)) (fun _ h9 => h9) rfl dX5_invoice_384 ?_
                  rw [show (discS (billS (ruleS M (nV M)) t (nI w) (nV M) (nE M)).1 (nV M) (billS (ruleS M (nV M)) t (nI w) (nV M) (nE M)).2 (nE M)) 0 22 = nI (nV M) from ((congrFun (disc0 (M := (billS (ruleS M (nV M)) t (nI w) (nV M) (nE M)).1) (v := nV M) (n := nE M) (s := (billS (ruleS M (nV M)) t (nI w) (nV M) (nE M)).2)) 22).trans (congrFun bill0 22)).trans hW.v.1]
                  refine lv_iconst (v := 1) hx hb dX5_invoice_387 (by decide) ?_
                  refine lv_iadd hx hb dX5_invoice_388 ?_
                  refine tk_put (ty := .int) hx hb hts inX5 tyX5 tyX5_ok nmX5 hown hK hM hS hR.1 rfl 22 (by decide) (hts (.fieldLink RX5 79 "TicketForgeModel" "invoices" "I") (by decide +kernel)) (fun _ h9 => h9) rfl (by decide +kernel) rfl rfl (Nat.le_of_ble_eq_true rfl) dX5_invoice_389 (fun H locs hM hS => ?_)
                  have hR := hR.sc 22 (mF_22 _ _ _ ((nI (nV M)) + 1))
                  refine lv_aload_n hx hb dX5_invoice_392 rfl (lv_at hl 0 rfl) ?_
                  refine tk_get hx hb hts inX5 hown hK hM hR.1 rfl 22 (by decide) (hts (.fieldLink RX5 79 "TicketForgeModel" "invoices" "I") (by decide +kernel)) (fun _ h9 => h9) rfl dX5_invoice_393 ?_
                  rw [show (st (discS (billS (ruleS M (nV M)) t (nI w) (nV M) (nE M)).1 (nV M) (billS (ruleS M (nV M)) t (nI w) (nV M) (nE M)).2 (nE M)) 0 22 ((nI (nV M)) + 1)) 0 22 = nI (nV M) + 1 from st_self _ _ _ _]
                  refine lv_iconst (v := 1) hx hb dX5_invoice_396 (by decide) ?_
                  refine lv_isub hx hb dX5_invoice_397 ?_
                  have eS : S_invoice M (nI t) (nI w) = (0, (st (discS (billS (ruleS M (nV M)) t (nI w) (nV M) (nE M)).1 (nV M) (billS (ruleS M (nV M)) t (nI w) (nV M) (nE M)).2 (nE M)) 0 22 ((nI (nV M)) + 1)), nI (nV M)) := (by rw [S_invoice, show tn (nI t) = t from nI_clamp (show t < 2 ^ 31 by omega), if_neg (by rw [hok]; decide), if_neg (by rw [hok_w0]; decide), if_neg (fun h => absurd c_5 (Int32.not_lt.mpr h)), if_neg (fun h => h.elim (fun q => c_8 (hlk0.mpr q)) (fun q => c_10 (by rw [← hW.v.1]; exact q))), nInv])
                  exact W.iret (v := ((nI (nV M) + 1) - 1)) hx hb hr (fun t9 h9 w9 => ⟨⟨((nI (nV M) + 1) - 1), _, rfl, by rw [eS]; exact ⟨hR, Int32.add_sub_cancel _ _⟩, (by show tkM A D _ _; rw [h9]; exact hM)⟩, hS.F h9⟩) hS.2.2 dX5_invoice_398
                · have hlt := tk_lt (by omega) (by omega) c_13
                  refine lv_aload_n hx hb dX5_invoice_297 rfl (lv_at hl 0 rfl) ?_
                  refine lv_iload hx hb dX5_invoice_298 (lv_at hl 4 rfl) ?_
                  refine tk_cVi (As := [.int (nI i)]) S0 (c_X5_wasBilled l A D ac _ hR (((hW.rule (nV M)).bill t (nV M) (nE M) (nI w)).disc (nV M) i (billS (ruleS M (nV M)) t (nI w) (nV M) (nE M)).2) i (by rw [nE_f disc0, nE_f bill0]; exact hlt) ) (cwV 1 hts gX5_invoice_X5_wasBilled rfl rfl rfl (by decide +kernel) ⟨Nat.le_of_ble_eq_true rfl, Nat.le_of_ble_eq_true rfl⟩) (tkJ.blind) (tkJ.at hM hK) (tk_recv hK hM hR.1 rfl) rfl hl.1 rfl (Nat.le_of_ble_eq_true rfl) dX5_invoice_300 ⟨Nat.zero_le _, Nat.zero_le _⟩ (fun r_14 hr_14 => ?_)
                  rcases hr_14 with ⟨rfl, hr_14⟩ | ⟨rfl, hr_14⟩
                  · have hbl : billed (billS (ruleS M (nV M)) t (nI w) (nV M) (nE M)).1 i = true := by rw [← hr_14]; simp only [billed]; rw [discS_f (f := 5) (by decide) (by decide) i]
                    refine lv_if_eq (tgt := 376) hx hb dX5_invoice_303 (by decide) (fun c_15 => absurd c_15 (by decide)) (fun c_15 => ?_)
                    refine lv_aload_n hx hb dX5_invoice_306 rfl (lv_at hl 0 rfl) ?_
                    refine tk_get hx hb hts inX5 hown hK hM hR.1 rfl 13 (by decide) (hts (.fieldLink RX5 51 "TicketForgeModel" "invoicesOf" "[I") (by decide +kernel)) (fun _ h9 => h9) rfl dX5_invoice_307 ?_
                    refine lv_iload hx hb dX5_invoice_310 (lv_at hl 4 rfl) ?_
                    refine tk_iald hx hb hK hM 1 hR.a13 rfl (vp_in_nI (by omega) (by decide)) dX5_invoice_312 ?_
                    rw [show (nI i).toNatClampNeg = i from nI_clamp (by omega)]
                    rw [show ((((discS (billS (ruleS M (nV M)) t (nI w) (nV M) (nE M)).1 (nV M) (billS (ruleS M (nV M)) t (nI w) (nV M) (nE M)).2 i)) 14) i) = (billS (ruleS M (nV M)) t (nI w) (nV M) (nE M)).1 14 i from congrFun (discS_f (M := (billS (ruleS M (nV M)) t (nI w) (nV M) (nE M)).1) (v := nV M) (s := (billS (ruleS M (nV M)) t (nI w) (nV M) (nE M)).2) (f := 14) (by decide) (by decide) i) i]
                    refine lv_aload_n hx hb dX5_invoice_313 rfl (lv_at hl 0 rfl) ?_
                    refine tk_get hx hb hts inX5 hown hK hM hR.1 rfl 22 (by decide) (hts (.fieldLink RX5 79 "TicketForgeModel" "invoices" "I") (by decide +kernel)) (fun _ h9 => h9) rfl dX5_invoice_314 ?_
                    rw [show ((discS (billS (ruleS M (nV M)) t (nI w) (nV M) (nE M)).1 (nV M) (billS (ruleS M (nV M)) t (nI w) (nV M) (nE M)).2 i)) 0 22 = nI (nV M) from ((congrFun (disc0 (M := (billS (ruleS M (nV M)) t (nI w) (nV M) (nE M)).1) (v := nV M) (n := i) (s := (billS (ruleS M (nV M)) t (nI w) (nV M) (nE M)).2)) 22).trans (congrFun bill0 22)).trans hW.v.1]
                    refine lv_icmp_eq (tgt := 323) hx hb dX5_invoice_317 (by decide) (fun c_16 => ?_) (fun c_16 => ?_)
                    · skip
                      refine lv_iload hx hb dX5_invoice_323 (lv_at hl 3 rfl) ?_
                      refine lv_aload_n hx hb dX5_invoice_325 rfl (lv_at hl 0 rfl) ?_
                      refine tk_get hx hb hts inX5 hown hK hM hR.1 rfl 24 (by decide) (hts (.fieldLink RX5 85 "TicketForgeModel" "discountFrom" "I") (by decide +kernel)) (fun _ h9 => h9) rfl dX5_invoice_326 ?_
                      rw [show ((discS (billS (ruleS M (nV M)) t (nI w) (nV M) (nE M)).1 (nV M) (billS (ruleS M (nV M)) t (nI w) (nV M) (nE M)).2 i)) 0 24 = M 0 24 from (congrFun disc0 24).trans (congrFun bill0 24)]
                      refine lv_icmp_lt (tgt := 357) hx hb dX5_invoice_329 (by decide) (fun c_17 => ?_) (fun c_17 => ?_)
                      · skip
                        refine lv_aload_n hx hb dX5_invoice_357 rfl (lv_at hl 0 rfl) ?_
                        refine tk_get hx hb hts inX5 hown hK hM hR.1 rfl 15 (by decide) (hts (.fieldLink RX5 57 "TicketForgeModel" "totals" "[I") (by decide +kernel)) (fun _ h9 => h9) rfl dX5_invoice_358 ?_
                        refine lv_aload_n hx hb dX5_invoice_361 rfl (lv_at hl 0 rfl) ?_
                        refine tk_get hx hb hts inX5 hown hK hM hR.1 rfl 22 (by decide) (hts (.fieldLink RX5 79 "TicketForgeModel" "invoices" "I") (by decide +kernel)) (fun _ h9 => h9) rfl dX5_invoice_362 ?_
                        rw [show ((discS (billS (ruleS M (nV M)) t (nI w) (nV M) (nE M)).1 (nV M) (billS (ruleS M (nV M)) t (nI w) (nV M) (nE M)).2 i)) 0 22 = nI (nV M) from ((congrFun (disc0 (M := (billS (ruleS M (nV M)) t (nI w) (nV M) (nE M)).1) (v := nV M) (n := i) (s := (billS (ruleS M (nV M)) t (nI w) (nV M) (nE M)).2)) 22).trans (congrFun bill0 22)).trans hW.v.1]
                        refine lv_dup2_11 hx hb dX5_invoice_365 rfl rfl ?_
                        refine tk_iald hx hb hK hM 1 hR.a15 rfl (vp_in_nI (by omega) (by decide)) dX5_invoice_366 ?_
                        rw [show (nI (nV M)).toNatClampNeg = (nV M) from nI_clamp (by omega)]
                        rw [show ((((discS (billS (ruleS M (nV M)) t (nI w) (nV M) (nE M)).1 (nV M) (billS (ruleS M (nV M)) t (nI w) (nV M) (nE M)).2 i)) 16) (nV M)) = (discS (billS (ruleS M (nV M)) t (nI w) (nV M) (nE M)).1 (nV M) (billS (ruleS M (nV M)) t (nI w) (nV M) (nE M)).2 i) 16 (nV M) from rfl]
                        refine lv_aload_n hx hb dX5_invoice_367 rfl (lv_at hl 0 rfl) ?_
                        refine tk_get hx hb hts inX5 hown hK hM hR.1 rfl 12 (by decide) (hts (.fieldLink RX5 48 "TicketForgeModel" "prices" "[I") (by decide +kernel)) (fun _ h9 => h9) rfl dX5_invoice_368 ?_
                        refine lv_iload hx hb dX5_invoice_371 (lv_at hl 4 rfl) ?_
                        refine tk_iald hx hb hK hM 1 hR.a12 rfl (vp_in_nI (by omega) (by decide)) dX5_invoice_373 ?_
                        rw [show (nI i).toNatClampNeg = i from nI_clamp (by omega)]
                        rw [show ((((discS (billS (ruleS M (nV M)) t (nI w) (nV M) (nE M)).1 (nV M) (billS (ruleS M (nV M)) t (nI w) (nV M) (nE M)).2 i)) 13) i) = (billS (ruleS M (nV M)) t (nI w) (nV M) (nE M)).1 13 i from discS_13 (M := (billS (ruleS M (nV M)) t (nI w) (nV M) (nE M)).1) (v := nV M) (s := (billS (ruleS M (nV M)) t (nI w) (nV M) (nE M)).2) i (Nat.le_refl i)]
                        refine lv_iadd hx hb dX5_invoice_374 ?_
                        refine tk_iast hx hb hK hM hS 1 hR.a15 rfl (vp_in_nI (by omega) (by decide)) dX5_invoice_375 (fun H locs hM hS => ?_)
                        rw [show (nI (nV M)).toNatClampNeg = (nV M) from nI_clamp (by omega)] at hM
                        have hR := hR.p15 (i := (nV M)) (v := (((discS (billS (ruleS M (nV M)) t (nI w) (nV M) (nE M)).1 (nV M) (billS (ruleS M (nV M)) t (nI w) (nV M) (nE M)).2 i) 16 (nV M)) + ((billS (ruleS M (nV M)) t (nI w) (nV M) (nE M)).1 13 i)))
                        refine lv_iinc (v := (nI (i + 1))) (lv' := [(5, .int (nI (i + 1))), (0, .ref m0), (1, .int (nI t)), (2, .int (nI w)), (4, .int ((billS (ruleS M (nV M)) t (nI w) (nV M) (nE M)).2))]) hx hb dX5_invoice_376 hl (k := 4) rfl (nI_1 i) (by decide) rfl (fun ls hl => ?_)
                        refine lv_goto (tgt := 288) hx hb dX5_invoice_379 (by decide) ?_
                        exact ih () _ _ ls (by omega) ⟨(lv_sub hl [1, 2, 3, 4, 0] rfl), _, (by rw [discS, if_pos ⟨hbl, c_16⟩, if_neg (show ¬ (billS (ruleS M (nV M)) t (nI w) (nV M) (nE M)).1 0 24 ≤ (billS (ruleS M (nV M)) t (nI w) (nV M) (nE M)).2 from by rw [bill0]; exact Int32.not_le.mpr c_17)]; exact hR), hM, hS⟩
                      · skip
                        refine lv_aload_n hx hb dX5_invoice_332 rfl (lv_at hl 0 rfl) ?_
                        refine tk_get hx hb hts inX5 hown hK hM hR.1 rfl 12 (by decide) (hts (.fieldLink RX5 48 "TicketForgeModel" "prices" "[I") (by decide +kernel)) (fun _ h9 => h9) rfl dX5_invoice_333 ?_
                        refine lv_iload hx hb dX5_invoice_336 (lv_at hl 4 rfl) ?_
                        refine lv_aload_n hx hb dX5_invoice_338 rfl (lv_at hl 0 rfl) ?_
                        refine tk_get hx hb hts inX5 hown hK hM hR.1 rfl 12 (by decide) (hts (.fieldLink RX5 48 "TicketForgeModel" "prices" "[I") (by decide +kernel)) (fun _ h9 => h9) rfl dX5_invoice_339 ?_
                        refine lv_iload hx hb dX5_invoice_342 (lv_at hl 4 rfl) ?_
                        refine tk_iald hx hb hK hM 1 hR.a12 rfl (vp_in_nI (by omega) (by decide)) dX5_invoice_344 ?_
                        rw [show (nI i).toNatClampNeg = i from nI_clamp (by omega)]
                        rw [show ((((discS (billS (ruleS M (nV M)) t (nI w) (nV M) (nE M)).1 (nV M) (billS (ruleS M (nV M)) t (nI w) (nV M) (nE M)).2 i)) 13) i) = (billS (ruleS M (nV M)) t (nI w) (nV M) (nE M)).1 13 i from discS_13 (M := (billS (ruleS M (nV M)) t (nI w) (nV M) (nE M)).1) (v := nV M) (s := (billS (ruleS M (nV M)) t (nI w) (nV M) (nE M)).2) i (Nat.le_refl i)]
                        refine lv_bipush (v := 100) hx hb dX5_invoice_345 (by decide) ?_
                        refine lv_aload_n hx hb dX5_invoice_347 rfl (lv_at hl 0 rfl) ?_
                        refine tk_get hx hb hts inX5 hown hK hM hR.1 rfl 25 (by decide) (hts (.fieldLink RX5 88 "TicketForgeModel" "discount" "I") (by decide +kernel)) (fun _ h9 => h9) rfl dX5_invoice_348 ?_
                        rw [show ((discS (billS (ruleS M (nV M)) t (nI w) (nV M) (nE M)).1 (nV M) (billS (ruleS M (nV M)) t (nI w) (nV M) (nE M)).2 i)) 0 25 = M 0 25 from (congrFun disc0 25).trans (congrFun bill0 25)]
                        refine lv_isub hx hb dX5_invoice_351 ?_
                        refine lv_imul hx hb dX5_invoice_352 ?_
                        refine lv_bipush (v := 100) hx hb dX5_invoice_353 (by decide) ?_
                        refine lv_idiv hx hb dX5_invoice_355 (by decide) ?_
                        refine tk_iast hx hb hK hM hS 1 hR.a12 rfl (vp_in_nI (by omega) (by decide)) dX5_invoice_356 (fun H locs hM hS => ?_)
                        rw [show (nI i).toNatClampNeg = i from nI_clamp (by omega)] at hM
                        have hR := hR.p12 (i := i) (v := ((((billS (ruleS M (nV M)) t (nI w) (nV M) (nE M)).1 13 i) * (100 - (M 0 25))) / 100))
                        refine lv_aload_n hx hb dX5_invoice_357 rfl (lv_at hl 0 rfl) ?_
                        refine tk_get hx hb hts inX5 hown hK hM hR.1 rfl 15 (by decide) (hts (.fieldLink RX5 57 "TicketForgeModel" "totals" "[I") (by decide +kernel)) (fun _ h9 => h9) rfl dX5_invoice_358 ?_
                        refine lv_aload_n hx hb dX5_invoice_361 rfl (lv_at hl 0 rfl) ?_
                        refine tk_get hx hb hts inX5 hown hK hM hR.1 rfl 22 (by decide) (hts (.fieldLink RX5 79 "TicketForgeModel" "invoices" "I") (by decide +kernel)) (fun _ h9 => h9) rfl dX5_invoice_362 ?_
                        rw [show (st ((discS (billS (ruleS M (nV M)) t (nI w) (nV M) (nE M)).1 (nV M) (billS (ruleS M (nV M)) t (nI w) (nV M) (nE M)).2 i)) 13 i ((((billS (ruleS M (nV M)) t (nI w) (nV M) (nE M)).1 13 i) * (100 - (M 0 25))) / 100)) 0 22 = nI (nV M) from ((congrFun (disc0 (M := (billS (ruleS M (nV M)) t (nI w) (nV M) (nE M)).1) (v := nV M) (n := i) (s := (billS (ruleS M (nV M)) t (nI w) (nV M) (nE M)).2)) 22).trans (congrFun bill0 22)).trans hW.v.1]
                        refine lv_dup2_11 hx hb dX5_invoice_365 rfl rfl ?_
                        refine tk_iald hx hb hK hM 1 hR.a15 rfl (vp_in_nI (by omega) (by decide)) dX5_invoice_366 ?_
                        rw [show (nI (nV M)).toNatClampNeg = (nV M) from nI_clamp (by omega)]
                        rw [show (((st ((discS (billS (ruleS M (nV M)) t (nI w) (nV M) (nE M)).1 (nV M) (billS (ruleS M (nV M)) t (nI w) (nV M) (nE M)).2 i)) 13 i ((((billS (ruleS M (nV M)) t (nI w) (nV M) (nE M)).1 13 i) * (100 - (M 0 25))) / 100)) 16) (nV M)) = (discS (billS (ruleS M (nV M)) t (nI w) (nV M) (nE M)).1 (nV M) (billS (ruleS M (nV M)) t (nI w) (nV M) (nE M)).2 i) 16 (nV M) from rfl]
                        refine lv_aload_n hx hb dX5_invoice_367 rfl (lv_at hl 0 rfl) ?_
                        refine tk_get hx hb hts inX5 hown hK hM hR.1 rfl 12 (by decide) (hts (.fieldLink RX5 48 "TicketForgeModel" "prices" "[I") (by decide +kernel)) (fun _ h9 => h9) rfl dX5_invoice_368 ?_
                        refine lv_iload hx hb dX5_invoice_371 (lv_at hl 4 rfl) ?_
                        refine tk_iald hx hb hK hM 1 hR.a12 rfl (vp_in_nI (by omega) (by decide)) dX5_invoice_373 ?_
                        rw [show (nI i).toNatClampNeg = i from nI_clamp (by omega)]
                        rw [show (((st ((discS (billS (ruleS M (nV M)) t (nI w) (nV M) (nE M)).1 (nV M) (billS (ruleS M (nV M)) t (nI w) (nV M) (nE M)).2 i)) 13 i ((((billS (ruleS M (nV M)) t (nI w) (nV M) (nE M)).1 13 i) * (100 - (M 0 25))) / 100)) 13) i) = ((billS (ruleS M (nV M)) t (nI w) (nV M) (nE M)).1 13 i * (100 - M 0 25) / 100) from st_self _ _ _ _]
                        refine lv_iadd hx hb dX5_invoice_374 ?_
                        refine tk_iast hx hb hK hM hS 1 hR.a15 rfl (vp_in_nI (by omega) (by decide)) dX5_invoice_375 (fun H locs hM hS => ?_)
                        rw [show (nI (nV M)).toNatClampNeg = (nV M) from nI_clamp (by omega)] at hM
                        have hR := hR.p15 (i := (nV M)) (v := (((discS (billS (ruleS M (nV M)) t (nI w) (nV M) (nE M)).1 (nV M) (billS (ruleS M (nV M)) t (nI w) (nV M) (nE M)).2 i) 16 (nV M)) + ((billS (ruleS M (nV M)) t (nI w) (nV M) (nE M)).1 13 i * (100 - M 0 25) / 100)))
                        refine lv_iinc (v := (nI (i + 1))) (lv' := [(5, .int (nI (i + 1))), (0, .ref m0), (1, .int (nI t)), (2, .int (nI w)), (4, .int ((billS (ruleS M (nV M)) t (nI w) (nV M) (nE M)).2))]) hx hb dX5_invoice_376 hl (k := 4) rfl (nI_1 i) (by decide) rfl (fun ls hl => ?_)
                        refine lv_goto (tgt := 288) hx hb dX5_invoice_379 (by decide) ?_
                        exact ih () _ _ ls (by omega) ⟨(lv_sub hl [1, 2, 3, 4, 0] rfl), _, (by rw [discS, if_pos ⟨hbl, c_16⟩, if_pos (show (billS (ruleS M (nV M)) t (nI w) (nV M) (nE M)).1 0 24 ≤ (billS (ruleS M (nV M)) t (nI w) (nV M) (nE M)).2 from by rw [bill0]; exact Int32.not_lt.mp c_17), show (billS (ruleS M (nV M)) t (nI w) (nV M) (nE M)).1 0 25 = M 0 25 from congrFun bill0 25]; exact hR), hM, hS⟩
                    · skip
                      refine lv_goto (tgt := 376) hx hb dX5_invoice_320 (by decide) ?_
                      refine lv_iinc (v := (nI (i + 1))) (lv' := [(5, .int (nI (i + 1))), (0, .ref m0), (1, .int (nI t)), (2, .int (nI w)), (4, .int ((billS (ruleS M (nV M)) t (nI w) (nV M) (nE M)).2))]) hx hb dX5_invoice_376 hl (k := 4) rfl (nI_1 i) (by decide) rfl (fun ls hl => ?_)
                      refine lv_goto (tgt := 288) hx hb dX5_invoice_379 (by decide) ?_
                      exact ih () _ _ ls (by omega) ⟨(lv_sub hl [1, 2, 3, 4, 0] rfl), _, (by rw [discS, if_neg (fun h => c_16 h.2)]; exact hR), hM, hS⟩
                  · have hbl : billed (billS (ruleS M (nV M)) t (nI w) (nV M) (nE M)).1 i = false := by rw [← hr_14]; simp only [billed]; rw [discS_f (f := 5) (by decide) (by decide) i]
                    refine lv_if_eq (tgt := 376) hx hb dX5_invoice_303 (by decide) (fun c_18 => ?_) (fun c_18 => absurd (by decide) c_18)
                    refine lv_iinc (v := (nI (i + 1))) (lv' := [(5, .int (nI (i + 1))), (0, .ref m0), (1, .int (nI t)), (2, .int (nI w)), (4, .int ((billS (ruleS M (nV M)) t (nI w) (nV M) (nE M)).2))]) hx hb dX5_invoice_376 hl (k := 4) rfl (nI_1 i) (by decide) rfl (fun ls hl => ?_)
                    refine lv_goto (tgt := 288) hx hb dX5_invoice_379 (by decide) ?_
                    exact ih () _ _ ls (by omega) ⟨(lv_sub hl [1, 2, 3, 4, 0] rfl), _, (by rw [discS, if_neg (fun h => by rw [hbl] at h; exact absurd h.1 (by decide))]; exact hR), hM, hS⟩
              · have hlt := tk_lt (by omega) (by omega) c_12
                refine lv_aload_n hx hb dX5_invoice_135 rfl (lv_at hl 0 rfl) ?_
                refine lv_iload hx hb dX5_invoice_136 (lv_at hl 3 rfl) ?_
                refine lv_iload_n hx hb dX5_invoice_138 rfl (lv_at hl 1 rfl) ?_
                refine lv_iload_n hx hb dX5_invoice_139 rfl (lv_at hl 2 rfl) ?_
                refine tk_cVi (As := [.int (nI i), .int (nI t), .int (nI w)]) S0 (c_X5_isLookedAt l A D ac _ hR ((hW.rule (nV M)).bill t (nV M) i (nI w)) i t (by rw [nE_f bill0]; exact hlt) (by rw [nT_f bill0]; exact ht) (nI w)) (cwV 3 hts gX5_invoice_X5_isLookedAt rfl rfl rfl (by decide +kernel) ⟨Nat.le_of_ble_eq_true rfl, Nat.le_of_ble_eq_true rfl⟩) (tkJ.blind) (tkJ.at hM hK) (tk_recv hK hM hR.1 rfl) rfl hl.1 rfl (Nat.le_of_ble_eq_true rfl) dX5_invoice_140 ⟨Nat.zero_le _, Nat.zero_le _⟩ (fun r_19 hr_19 => ?_)
                rcases hr_19 with ⟨rfl, hr_19⟩ | ⟨rfl, hr_19⟩
                · skip
                  refine lv_if_ne (tgt := 149) hx hb dX5_invoice_143 (by decide) (fun c_20 => ?_) (fun c_20 => absurd c_20 (by decide))
                  refine lv_aload_n hx hb dX5_invoice_149 rfl (lv_at hl 0 rfl) ?_
                  refine lv_aload_n hx hb dX5_invoice_150 rfl (lv_at hl 0 rfl) ?_
                  refine tk_get hx hb hts inX5 hown hK hM hR.1 rfl 9 (by decide) (hts (.fieldLink RX5 39 "TicketForgeModel" "persons" "[I") (by decide +kernel)) (fun _ h9 => h9) rfl dX5_invoice_151 ?_
                  refine lv_iload hx hb dX5_invoice_154 (lv_at hl 3 rfl) ?_
                  refine tk_iald hx hb hK hM 1 hR.a9 rfl (vp_in_nI (by omega) (by decide)) dX5_invoice_156 ?_
                  rw [show (nI i).toNatClampNeg = i from nI_clamp (by omega)]
                  rw [show ((((billS (ruleS M (nV M)) t (nI w) (nV M) i).1) 10) i) = M 10 i from congrFun (billS_f (M := (ruleS M (nV M))) (r := t) (v := nV M) (w := nI w) (f := 10) (by decide) (by decide) (by decide) (by decide) i) i]
                  refine lv_aload_n hx hb dX5_invoice_157 rfl (lv_at hl 0 rfl) ?_
                  refine tk_get hx hb hts inX5 hown hK hM hR.1 rfl 10 (by decide) (hts (.fieldLink RX5 42 "TicketForgeModel" "weeks" "[I") (by decide +kernel)) (fun _ h9 => h9) rfl dX5_invoice_158 ?_
                  refine lv_iload hx hb dX5_invoice_161 (lv_at hl 3 rfl) ?_
                  refine tk_iald hx hb hK hM 1 hR.a10 rfl (vp_in_nI (by omega) (by decide)) dX5_invoice_163 ?_
                  rw [show (nI i).toNatClampNeg = i from nI_clamp (by omega)]
                  rw [show ((((billS (ruleS M (nV M)) t (nI w) (nV M) i).1) 11) i) = M 11 i from congrFun (billS_f (M := (ruleS M (nV M))) (r := t) (v := nV M) (w := nI w) (f := 11) (by decide) (by decide) (by decide) (by decide) i) i]
                  refine tk_cVi (As := [.int (M 10 i), .int (M 11 i)]) S0 (c_X5_billedHours l A D ac _ hR ((hW.rule (nV M)).bill t (nV M) i (nI w)) (M 10 i) (M 11 i)) (cwV 2 hts gX5_invoice_X5_billedHours rfl rfl rfl (by decide +kernel) ⟨Nat.le_of_ble_eq_true rfl, Nat.le_of_ble_eq_true rfl⟩) (tkJ.blind) (tkJ.at hM hK) (tk_recv hK hM hR.1 rfl) rfl hl.1 rfl (Nat.le_of_ble_eq_true rfl) dX5_invoice_164 ⟨Nat.zero_le _, Nat.zero_le _⟩ (fun r_21 hr_21 => ?_)
                  skip
                  refine lv_aload_n hx hb dX5_invoice_167 rfl (lv_at hl 0 rfl) ?_
                  refine tk_get hx hb hts inX5 hown hK hM hR.1 rfl 11 (by decide) (hts (.fieldLink RX5 45 "TicketForgeModel" "hoursOf" "[I") (by decide +kernel)) (fun _ h9 => h9) rfl dX5_invoice_168 ?_
                  refine lv_iload hx hb dX5_invoice_171 (lv_at hl 3 rfl) ?_
                  refine tk_iald hx hb hK hM 1 hR.a11 rfl (vp_in_nI (by omega) (by decide)) dX5_invoice_173 ?_
                  rw [show (nI i).toNatClampNeg = i from nI_clamp (by omega)]
                  rw [show ((((billS (ruleS M (nV M)) t (nI w) (nV M) i).1) 12) i) = M 12 i from congrFun (billS_f (M := (ruleS M (nV M))) (r := t) (v := nV M) (w := nI w) (f := 12) (by decide) (by decide) (by decide) (by decide) i) i]
                  refine lv_iadd hx hb dX5_invoice_174 ?_
                  refine lv_aload_n hx hb dX5_invoice_175 rfl (lv_at hl 0 rfl) ?_
                  refine tk_get hx hb hts inX5 hown hK hM hR.1 rfl 23 (by decide) (hts (.fieldLink RX5 82 "TicketForgeModel" "cap" "I") (by decide +kernel)) (fun _ h9 => h9) rfl dX5_invoice_176 ?_
                  rw [show ((billS (ruleS M (nV M)) t (nI w) (nV M) i).1) 0 23 = M 0 23 from congrFun bill0 23]
                  refine lv_icmp_le (tgt := 186) hx hb dX5_invoice_179 (by decide) (fun c_22 => ?_) (fun c_22 => ?_)
                  · skip
                    refine lv_iconst (v := 0) hx hb dX5_invoice_186 (by decide) ?_
                    refine lv_istore (lv' := [(6, .int 0), (0, .ref m0), (1, .int (nI t)), (2, .int (nI w)), (5, .int (nI i)), (4, .int acc)]) hx hb dX5_invoice_187 hl (by decide) rfl (fun ls hl => ?_)
                    refine lv_aload_n hx hb dX5_invoice_189 rfl (lv_at hl 1 rfl) ?_
                    refine tk_get hx hb hts inX5 hown hK hM hR.1 rfl 4 (by decide) (hts (.fieldLink RX5 23 "TicketForgeModel" "entryStates" "[C") (by decide +kernel)) (fun _ h9 => h9) rfl dX5_invoice_190 ?_
                    refine lv_iload hx hb dX5_invoice_193 (lv_at hl 4 rfl) ?_
                    refine lv_iload hx hb dX5_invoice_195 (lv_at hl 0 rfl) ?_
                    refine lv_if_eq (tgt := 205) hx hb dX5_invoice_197 (by decide) (fun c_23 => ?_) (fun c_23 => absurd (by decide) c_23)
                    refine lv_bipush (v := 98) hx hb dX5_invoice_205 (by decide) ?_
                    refine tk_cast hx hb hK hM hS 0 hR.a4 rfl (show vp_nar .char 98 = 98 from rfl) (vp_in_nI (by omega) (by decide)) dX5_invoice_207 (fun H locs hM hS => ?_)
                    rw [show (nI i).toNatClampNeg = i from nI_clamp (by omega)] at hM
                    have hR := hR.p4 (i := i) (v := 98)
                    refine lv_iload hx hb dX5_invoice_208 (lv_at hl 0 rfl) ?_
                    refine lv_if_eq (tgt := 216) hx hb dX5_invoice_210 (by decide) (fun c_24 => ?_) (fun c_24 => absurd (by decide) c_24)
                    refine lv_aload_n hx hb dX5_invoice_216 rfl (lv_at hl 1 rfl) ?_
                    refine tk_get hx hb hts inX5 hown hK hM hR.1 rfl 12 (by decide) (hts (.fieldLink RX5 48 "TicketForgeModel" "prices" "[I") (by decide +kernel)) (fun _ h9 => h9) rfl dX5_invoice_217 ?_
                    refine lv_iload hx hb dX5_invoice_220 (lv_at hl 4 rfl) ?_
                    refine lv_aload_n hx hb dX5_invoice_222 rfl (lv_at hl 1 rfl) ?_
                    refine tk_get hx hb hts inX5 hown hK hM hR.1 rfl 11 (by decide) (hts (.fieldLink RX5 45 "TicketForgeModel" "hoursOf" "[I") (by decide +kernel)) (fun _ h9 => h9) rfl dX5_invoice_223 ?_
                    refine lv_iload hx hb dX5_invoice_226 (lv_at hl 4 rfl) ?_
                    refine tk_iald hx hb hK hM 1 hR.a11 rfl (vp_in_nI (by omega) (by decide)) dX5_invoice_228 ?_
                    rw [show (nI i).toNatClampNeg = i from nI_clamp (by omega)]
                    rw [show (((st ((billS (ruleS M (nV M)) t (nI w) (nV M) i).1) 5 i 98) 12) i) = M 12 i from congrFun (billS_f (M := (ruleS M (nV M))) (r := t) (v := nV M) (w := nI w) (f := 12) (by decide) (by decide) (by decide) (by decide) i) i]
                    refine lv_aload_n hx hb dX5_invoice_229 rfl (lv_at hl 1 rfl) ?_
                    refine tk_get hx hb hts inX5 hown hK hM hR.1 rfl 14 (by decide) (hts (.fieldLink RX5 54 "TicketForgeModel" "rates" "[I") (by decide +kernel)) (fun _ h9 => h9) rfl dX5_invoice_230 ?_
                    refine lv_aload_n hx hb dX5_invoice_233 rfl (lv_at hl 1 rfl) ?_
                    refine tk_get hx hb hts inX5 hown hK hM hR.1 rfl 9 (by decide) (hts (.fieldLink RX5 39 "TicketForgeModel" "persons" "[I") (by decide +kernel)) (fun _ h9 => h9) rfl dX5_invoice_234 ?_
                    refine lv_iload hx hb dX5_invoice_237 (lv_at hl 4 rfl) ?_
                    refine tk_iald hx hb hK hM 1 hR.a9 rfl (vp_in_nI (by omega) (by decide)) dX5_invoice_239 ?_
                    rw [show (nI i).toNatClampNeg = i from nI_clamp (by omega)]
                    obtain ⟨p4, hp4, e_p⟩ := hW.ep hlt
                    rw [show (((st ((billS (ruleS M (nV M)) t (nI w) (nV M) i).1) 5 i 98) 10) i) = M 10 i from congrFun (billS_f (M := (ruleS M (nV M))) (r := t) (v := nV M) (w := nI w) (f := 10) (by decide) (by decide) (by decide) (by decide) i) i, e_p]
                    refine tk_iald hx hb hK hM 1 hR.a14 rfl (vp_in_nI (by omega) (by decide)) dX5_invoice_240 ?_
                    rw [show (nI p4).toNatClampNeg = p4 from nI_clamp (by omega)]
                    rw [show (((st ((billS (ruleS M (nV M)) t (nI w) (nV M) i).1) 5 i 98) 15) p4) = M 15 p4 from congrFun (billS_f (M := (ruleS M (nV M))) (r := t) (v := nV M) (w := nI w) (f := 15) (by decide) (by decide) (by decide) (by decide) i) p4]
                    refine lv_imul hx hb dX5_invoice_241 ?_
                    refine tk_iast hx hb hK hM hS 1 hR.a12 rfl (vp_in_nI (by omega) (by decide)) dX5_invoice_242 (fun H locs hM hS => ?_)
                    rw [show (nI i).toNatClampNeg = i from nI_clamp (by omega)] at hM
                    have hR := hR.p12 (i := i) (v := ((M 12 i) * (M 15 p4)))
                    refine lv_aload_n hx hb dX5_invoice_243 rfl (lv_at hl 1 rfl) ?_
                    refine tk_get hx hb hts inX5 hown hK hM hR.1 rfl 13 (by decide) (hts (.fieldLink RX5 51 "TicketForgeModel" "invoicesOf" "[I") (by decide +kernel)) (fun _ h9 => h9) rfl dX5_invoice_244 ?_
                    refine lv_iload hx hb dX5_invoice_247 (lv_at hl 4 rfl) ?_
                    refine lv_aload_n hx hb dX5_invoice_249 rfl (lv_at hl 1 rfl) ?_
                    refine tk_get hx hb hts inX5 hown hK hM hR.1 rfl 22 (by decide) (hts (.fieldLink RX5 79 "TicketForgeModel" "invoices" "I") (by decide +kernel)) (fun _ h9 => h9) rfl dX5_invoice_250 ?_
                    rw [show (st (st ((billS (ruleS M (nV M)) t (nI w) (nV M) i).1) 5 i 98) 13 i ((M 12 i) * (M 15 p4))) 0 22 = nI (nV M) from (congrFun (bill0 (M := (ruleS M (nV M))) (r := t) (v := nV M) (w := nI w) (n := i)) 22).trans hW.v.1]
                    refine tk_iast hx hb hK hM hS 1 hR.a13 rfl (vp_in_nI (by omega) (by decide)) dX5_invoice_253 (fun H locs hM hS => ?_)
                    rw [show (nI i).toNatClampNeg = i from nI_clamp (by omega)] at hM
                    have hR := hR.p13 (i := i) (v := (nI (nV M)))
                    refine lv_aload_n hx hb dX5_invoice_254 rfl (lv_at hl 1 rfl) ?_
                    refine tk_get hx hb hts inX5 hown hK hM hR.1 rfl 17 (by decide) (hts (.fieldLink RX5 63 "TicketForgeModel" "items" "[I") (by decide +kernel)) (fun _ h9 => h9) rfl dX5_invoice_255 ?_
                    refine lv_aload_n hx hb dX5_invoice_258 rfl (lv_at hl 1 rfl) ?_
                    refine tk_get hx hb hts inX5 hown hK hM hR.1 rfl 22 (by decide) (hts (.fieldLink RX5 79 "TicketForgeModel" "invoices" "I") (by decide +kernel)) (fun _ h9 => h9) rfl dX5_invoice_259 ?_
                    rw [show (st (st (st ((billS (ruleS M (nV M)) t (nI w) (nV M) i).1) 5 i 98) 13 i ((M 12 i) * (M 15 p4))) 14 i (nI (nV M))) 0 22 = nI (nV M) from (congrFun (bill0 (M := (ruleS M (nV M))) (r := t) (v := nV M) (w := nI w) (n := i)) 22).trans hW.v.1]
                    refine lv_dup2_11 hx hb dX5_invoice_262 rfl rfl ?_
                    refine tk_iald hx hb hK hM 1 hR.a17 rfl (vp_in_nI (by omega) (by decide)) dX5_invoice_263 ?_
                    rw [show (nI (nV M)).toNatClampNeg = (nV M) from nI_clamp (by omega)]
                    rw [show (((st (st (st ((billS (ruleS M (nV M)) t (nI w) (nV M) i).1) 5 i 98) 13 i ((M 12 i) * (M 15 p4))) 14 i (nI (nV M))) 18) (nV M)) = (billS (ruleS M (nV M)) t (nI w) (nV M) i).1 18 (nV M) from rfl]
                    refine lv_iconst (v := 1) hx hb dX5_invoice_264 (by decide) ?_
                    refine lv_iadd hx hb dX5_invoice_265 ?_
                    refine tk_iast hx hb hK hM hS 1 hR.a17 rfl (vp_in_nI (by omega) (by decide)) dX5_invoice_266 (fun H locs hM hS => ?_)
                    rw [show (nI (nV M)).toNatClampNeg = (nV M) from nI_clamp (by omega)] at hM
                    have hR := hR.p17 (i := (nV M)) (v := (((billS (ruleS M (nV M)) t (nI w) (nV M) i).1 18 (nV M)) + 1))
                    refine lv_iload hx hb dX5_invoice_267 (lv_at hl 5 rfl) ?_
                    refine lv_aload_n hx hb dX5_invoice_269 rfl (lv_at hl 1 rfl) ?_
                    refine tk_get hx hb hts inX5 hown hK hM hR.1 rfl 12 (by decide) (hts (.fieldLink RX5 48 "TicketForgeModel" "prices" "[I") (by decide +kernel)) (fun _ h9 => h9) rfl dX5_invoice_270 ?_
                    refine lv_iload hx hb dX5_invoice_273 (lv_at hl 4 rfl) ?_
                    refine tk_iald hx hb hK hM 1 hR.a12 rfl (vp_in_nI (by omega) (by decide)) dX5_invoice_275 ?_
                    rw [show (nI i).toNatClampNeg = i from nI_clamp (by omega)]
                    rw [show (((st (st (st (st ((billS (ruleS M (nV M)) t (nI w) (nV M) i).1) 5 i 98) 13 i ((M 12 i) * (M 15 p4))) 14 i (nI (nV M))) 18 (nV M) (((billS (ruleS M (nV M)) t (nI w) (nV M) i).1 18 (nV M)) + 1)) 13) i) = M 12 i * M 15 p4 from by rw [st_ne _ _ _ (show 13 ≠ 18 by decide), st_ne _ _ _ (show 13 ≠ 14 by decide), st_self]]
                    refine lv_iadd hx hb dX5_invoice_276 ?_
                    refine lv_istore (lv' := [(4, .int (acc + (M 12 i * M 15 p4))), (6, .int 0), (0, .ref m0), (1, .int (nI t)), (2, .int (nI w)), (5, .int (nI i))]) hx hb dX5_invoice_277 hl (by decide) rfl (fun ls hl => ?_)
                    refine lv_iinc (v := (nI (i + 1))) (lv' := [(5, .int (nI (i + 1))), (4, .int (acc + (M 12 i * M 15 p4))), (6, .int 0), (0, .ref m0), (1, .int (nI t)), (2, .int (nI w))]) hx hb dX5_invoice_279 hl (k := 5) rfl (nI_1 i) (by decide) rfl (fun ls hl => ?_)
                    refine lv_goto (tgt := 126) hx hb dX5_invoice_282 (by decide) ?_
                    exact ih _ _ _ ls (by omega) ⟨(lv_sub hl [3, 4, 5, 0, 1] rfl), (by rw [billS, if_pos hr_19, if_neg (show ¬ (ruleS M (nV M)) 0 23 < charged (billS (ruleS M (nV M)) t (nI w) (nV M) i).1 ((ruleS M (nV M)) 10 i) ((ruleS M (nV M)) 11 i) + (ruleS M (nV M)) 12 i from by rw [show charged (billS (ruleS M (nV M)) t (nI w) (nV M) i).1 ((ruleS M (nV M)) 10 i) ((ruleS M (nV M)) 11 i) = _ from hr_21.symm]; exact Int32.not_lt.mpr c_22), show tn ((ruleS M (nV M)) 10 i) = p4 from by rw [show (ruleS M (nV M)) 10 i = M 10 i from rfl, e_p]; exact nI_clamp (by omega), hacc]; rfl), _, (by rw [billS, if_pos hr_19, if_neg (show ¬ (ruleS M (nV M)) 0 23 < charged (billS (ruleS M (nV M)) t (nI w) (nV M) i).1 ((ruleS M (nV M)) 10 i) ((ruleS M (nV M)) 11 i) + (ruleS M (nV M)) 12 i from by rw [show charged (billS (ruleS M (nV M)) t (nI w) (nV M) i).1 ((ruleS M (nV M)) 10 i) ((ruleS M (nV M)) 11 i) = _ from hr_21.symm]; exact Int32.not_lt.mpr c_22), show tn ((ruleS M (nV M)) 10 i) = p4 from by rw [show (ruleS M (nV M)) 10 i = M 10 i from rfl, e_p]; exact nI_clamp (by omega)]; exact hR), hM, hS⟩
                  · skip
                    refine lv_iconst (v := 1) hx hb dX5_invoice_182 (by decide) ?_
                    refine lv_goto (tgt := 187) hx hb dX5_invoice_183 (by decide) ?_
                    refine lv_istore (lv' := [(6, .int 1), (0, .ref m0), (1, .int (nI t)), (2, .int (nI w)), (5, .int (nI i)), (4, .int acc)]) hx hb dX5_invoice_187 hl (by decide) rfl (fun ls hl => ?_)
                    refine lv_aload_n hx hb dX5_invoice_189 rfl (lv_at hl 1 rfl) ?_
                    refine tk_get hx hb hts inX5 hown hK hM hR.1 rfl 4 (by decide) (hts (.fieldLink RX5 23 "TicketForgeModel" "entryStates" "[C") (by decide +kernel)) (fun _ h9 => h9) rfl dX5_invoice_190 ?_
                    refine lv_iload hx hb dX5_invoice_193 (lv_at hl 4 rfl) ?_
                    refine lv_iload hx hb dX5_invoice_195 (lv_at hl 0 rfl) ?_
                    refine lv_if_eq (tgt := 205) hx hb dX5_invoice_197 (by decide) (fun c_25 => absurd c_25 (by decide)) (fun c_25 => ?_)
                    refine lv_bipush (v := 120) hx hb dX5_invoice_200 (by decide) ?_
                    refine lv_goto (tgt := 207) hx hb dX5_invoice_202 (by decide) ?_
                    refine tk_cast hx hb hK hM hS 0 hR.a4 rfl (show vp_nar .char 120 = 120 from rfl) (vp_in_nI (by omega) (by decide)) dX5_invoice_207 (fun H locs hM hS => ?_)
                    rw [show (nI i).toNatClampNeg = i from nI_clamp (by omega)] at hM
                    have hR := hR.p4 (i := i) (v := 120)
                    refine lv_iload hx hb dX5_invoice_208 (lv_at hl 0 rfl) ?_
                    refine lv_if_eq (tgt := 216) hx hb dX5_invoice_210 (by decide) (fun c_26 => absurd c_26 (by decide)) (fun c_26 => ?_)
                    refine lv_goto (tgt := 279) hx hb dX5_invoice_213 (by decide) ?_
                    refine lv_iinc (v := (nI (i + 1))) (lv' := [(5, .int (nI (i + 1))), (6, .int 1), (0, .ref m0), (1, .int (nI t)), (2, .int (nI w)), (4, .int acc)]) hx hb dX5_invoice_279 hl (k := 4) rfl (nI_1 i) (by decide) rfl (fun ls hl => ?_)
                    refine lv_goto (tgt := 126) hx hb dX5_invoice_282 (by decide) ?_
                    exact ih _ _ _ ls (by omega) ⟨(lv_sub hl [2, 3, 4, 0, 5] rfl), (by rw [billS, if_pos hr_19, if_pos (show (ruleS M (nV M)) 0 23 < charged (billS (ruleS M (nV M)) t (nI w) (nV M) i).1 ((ruleS M (nV M)) 10 i) ((ruleS M (nV M)) 11 i) + (ruleS M (nV M)) 12 i from by rw [show charged (billS (ruleS M (nV M)) t (nI w) (nV M) i).1 ((ruleS M (nV M)) 10 i) ((ruleS M (nV M)) 11 i) = _ from hr_21.symm]; exact Int32.not_le.mp c_22), hacc]), _, (by rw [billS, if_pos hr_19, if_pos (show (ruleS M (nV M)) 0 23 < charged (billS (ruleS M (nV M)) t (nI w) (nV M) i).1 ((ruleS M (nV M)) 10 i) ((ruleS M (nV M)) 11 i) + (ruleS M (nV M)) 12 i from by rw [show charged (billS (ruleS M (nV M)) t (nI w) (nV M) i).1 ((ruleS M (nV M)) 10 i) ((ruleS M (nV M)) 11 i) = _ from hr_21.symm]; exact Int32.not_le.mp c_22)]; exact hR), hM, hS⟩
                · skip
                  refine lv_if_ne (tgt := 149) hx hb dX5_invoice_143 (by decide) (fun c_27 => absurd c_27 (by decide)) (fun c_27 => ?_)
                  refine lv_goto (tgt := 279) hx hb dX5_invoice_146 (by decide) ?_
                  refine lv_iinc (v := (nI (i + 1))) (lv' := [(5, .int (nI (i + 1))), (0, .ref m0), (1, .int (nI t)), (2, .int (nI w)), (4, .int acc)]) hx hb dX5_invoice_279 hl (k := 3) rfl (nI_1 i) (by decide) rfl (fun ls hl => ?_)
                  refine lv_goto (tgt := 126) hx hb dX5_invoice_282 (by decide) ?_
                  exact ih _ _ _ ls (by omega) ⟨(lv_sub hl [1, 2, 3, 0, 4] rfl), (by rw [billS, if_neg (by rw [hr_19]; decide), hacc]), _, (by rw [billS, if_neg (by rw [hr_19]; decide)]; exact hR), hM, hS⟩
            · skip
              refine lv_iconst (v := 4) hx hb dX5_invoice_103 (by decide) ?_
              refine lv_goto (tgt := 108) hx hb dX5_invoice_104 (by decide) ?_
              refine tk_put (ty := .int) hx hb hts inX5 tyX5 tyX5_ok nmX5 hown hK hM hS hR.1 rfl 18 (by decide) (hts (.fieldLink RX5 66 "TicketForgeModel" "thrown" "I") (by decide +kernel)) (fun _ h9 => h9) rfl (by decide +kernel) rfl rfl (Nat.le_of_ble_eq_true rfl) dX5_invoice_108 (fun H locs hM hS => ?_)
              have hR := hR.th (v := 4)
              refine lv_aload_n hx hb dX5_invoice_111 rfl (lv_at hl 0 rfl) ?_
              refine tk_get hx hb hts inX5 hown hK hM hR.1 rfl 18 (by decide) (hts (.fieldLink RX5 66 "TicketForgeModel" "thrown" "I") (by decide +kernel)) (fun _ h9 => h9) rfl dX5_invoice_112 ?_
              refine lv_if_le (tgt := 120) hx hb dX5_invoice_115 (by decide) (fun c_28 => absurd c_28 (by decide)) (fun c_28 => ?_)
              refine lv_iconst (v := 0) hx hb dX5_invoice_118 (by decide) ?_
              have eS : S_invoice M (nI t) (nI w) = (4, M, 0) := (by rw [S_invoice, show tn (nI t) = t from nI_clamp (show t < 2 ^ 31 by omega), if_neg (by rw [hok]; decide), if_neg (by rw [hok_w0]; decide), if_neg (fun h => absurd c_5 (Int32.not_lt.mpr h)), if_pos (Or.inr (by rw [hW.v.1]; exact c_10))])
              exact W.iret (v := 0) hx hb hr (fun t9 h9 w9 => ⟨⟨0, _, rfl, by rw [eS]; exact ⟨hR, rfl⟩, (by show tkM A D _ _; rw [h9]; exact hM)⟩, hS.F h9⟩) hS.2.2 dX5_invoice_119
        · have hlt := tk_lt (by omega) (by omega) c_7
          refine lv_iload_n hx hb dX5_invoice_64 rfl (lv_at hl 4 rfl) ?_
          refine lv_aload_n hx hb dX5_invoice_65 rfl (lv_at hl 0 rfl) ?_
          refine lv_iload hx hb dX5_invoice_66 (lv_at hl 3 rfl) ?_
          refine lv_iload_n hx hb dX5_invoice_68 rfl (lv_at hl 1 rfl) ?_
          refine lv_iload_n hx hb dX5_invoice_69 rfl (lv_at hl 2 rfl) ?_
          refine tk_cVi (As := [.int (nI i), .int (nI t), .int (nI w)]) S0 (c_X5_isLookedAt l A D ac _ hR hW i t (by omega) (by omega) (nI w)) (cwV 3 hts gX5_invoice_X5_isLookedAt rfl rfl rfl (by decide +kernel) ⟨Nat.le_of_ble_eq_true rfl, Nat.le_of_ble_eq_true rfl⟩) (tkJ.blind) (tkJ.at hM hK) (tk_recv hK hM hR.1 rfl) rfl hl.1 rfl (Nat.le_of_ble_eq_true rfl) dX5_invoice_70 ⟨Nat.zero_le _, Nat.zero_le _⟩ (fun r_29 hr_29 => ?_)
          rcases hr_29 with ⟨rfl, hr_29⟩ | ⟨rfl, hr_29⟩
          · skip
            refine lv_if_eq (tgt := 80) hx hb dX5_invoice_73 (by decide) (fun c_30 => absurd c_30 (by decide)) (fun c_30 => ?_)
            refine lv_iconst (v := 1) hx hb dX5_invoice_76 (by decide) ?_
            refine lv_goto (tgt := 81) hx hb dX5_invoice_77 (by decide) ?_
            refine lv_iadd hx hb dX5_invoice_81 ?_
            refine lv_istore_n (lv' := [(3, .int (looked + 1)), (0, .ref m0), (1, .int (nI t)), (2, .int (nI w)), (4, .int (nI i))]) hx hb dX5_invoice_82 rfl hl (by decide) rfl (fun ls hl => ?_)
            refine lv_iinc (v := (nI (i + 1))) (lv' := [(4, .int (nI (i + 1))), (3, .int (looked + 1)), (0, .ref m0), (1, .int (nI t)), (2, .int (nI w))]) hx hb dX5_invoice_83 hl (k := 4) rfl (nI_1 i) (by decide) rfl (fun ls hl => ?_)
            refine lv_goto (tgt := 55) hx hb dX5_invoice_86 (by decide) ?_
            exact ih _ ls (by omega) ⟨(lv_sub hl [2, 3, 4, 0, 1] rfl), sumI_t hinv (if_pos hr_29)⟩
          · skip
            refine lv_if_eq (tgt := 80) hx hb dX5_invoice_73 (by decide) (fun c_31 => ?_) (fun c_31 => absurd (by decide) c_31)
            refine lv_iconst (v := 0) hx hb dX5_invoice_80 (by decide) ?_
            refine lv_iadd hx hb dX5_invoice_81 ?_
            refine lv_istore_n (lv' := [(3, .int (looked + 0)), (0, .ref m0), (1, .int (nI t)), (2, .int (nI w)), (4, .int (nI i))]) hx hb dX5_invoice_82 rfl hl (by decide) rfl (fun ls hl => ?_)
            refine lv_iinc (v := (nI (i + 1))) (lv' := [(4, .int (nI (i + 1))), (3, .int (looked + 0)), (0, .ref m0), (1, .int (nI t)), (2, .int (nI w))]) hx hb dX5_invoice_83 hl (k := 4) rfl (nI_1 i) (by decide) rfl (fun ls hl => ?_)
            refine lv_goto (tgt := 55) hx hb dX5_invoice_86 (by decide) ?_
            exact ih _ ls (by omega) ⟨(lv_sub hl [2, 3, 4, 0, 1] rfl), sumI_z hinv (if_neg (by rw [hr_29]; decide))⟩
      · skip
        refine lv_iconst (v := 3) hx hb dX5_invoice_33 (by decide) ?_
        refine lv_goto (tgt := 38) hx hb dX5_invoice_34 (by decide) ?_
        refine tk_put (ty := .int) hx hb hts inX5 tyX5 tyX5_ok nmX5 hown hK hM hS hR.1 rfl 18 (by decide) (hts (.fieldLink RX5 66 "TicketForgeModel" "thrown" "I") (by decide +kernel)) (fun _ h9 => h9) rfl (by decide +kernel) rfl rfl (Nat.le_of_ble_eq_true rfl) dX5_invoice_38 (fun H locs hM hS => ?_)
        have hR := hR.th (v := 3)
        refine lv_aload_n hx hb dX5_invoice_41 rfl (lv_at hl 0 rfl) ?_
        refine tk_get hx hb hts inX5 hown hK hM hR.1 rfl 18 (by decide) (hts (.fieldLink RX5 66 "TicketForgeModel" "thrown" "I") (by decide +kernel)) (fun _ h9 => h9) rfl dX5_invoice_42 ?_
        refine lv_if_le (tgt := 50) hx hb dX5_invoice_45 (by decide) (fun c_32 => absurd c_32 (by decide)) (fun c_32 => ?_)
        refine lv_iconst (v := 0) hx hb dX5_invoice_48 (by decide) ?_
        have eS : S_invoice M (nI t) (nI w) = (3, M, 0) := (by rw [S_invoice, show tn (nI t) = t from nI_clamp (show t < 2 ^ 31 by omega), if_neg (by rw [hok]; decide), if_neg (by rw [hok_w0]; decide), if_pos (Int32.not_lt.mp c_5)])
        exact W.iret (v := 0) hx hb hr (fun t9 h9 w9 => ⟨⟨0, _, rfl, by rw [eS]; exact ⟨hR, rfl⟩, (by show tkM A D _ _; rw [h9]; exact hM)⟩, hS.F h9⟩) hS.2.2 dX5_invoice_49
    · have hok_w0 : tkOk 30 w0 = false := by first | exact hr_3 | (rw [← tkIn_n (by decide)]; exact hr_3)
      refine lv_if_ne (tgt := 24) hx hb dX5_invoice_17 (by decide) (fun c_33 => absurd c_33 (by decide)) (fun c_33 => ?_)
      refine lv_iconst (v := 2) hx hb dX5_invoice_20 (by decide) ?_
      refine lv_goto (tgt := 38) hx hb dX5_invoice_21 (by decide) ?_
      refine tk_put (ty := .int) hx hb hts inX5 tyX5 tyX5_ok nmX5 hown hK hM hS hR.1 rfl 18 (by decide) (hts (.fieldLink RX5 66 "TicketForgeModel" "thrown" "I") (by decide +kernel)) (fun _ h9 => h9) rfl (by decide +kernel) rfl rfl (Nat.le_of_ble_eq_true rfl) dX5_invoice_38 (fun H locs hM hS => ?_)
      have hR := hR.th (v := 2)
      refine lv_aload_n hx hb dX5_invoice_41 rfl (lv_at hl 0 rfl) ?_
      refine tk_get hx hb hts inX5 hown hK hM hR.1 rfl 18 (by decide) (hts (.fieldLink RX5 66 "TicketForgeModel" "thrown" "I") (by decide +kernel)) (fun _ h9 => h9) rfl dX5_invoice_42 ?_
      refine lv_if_le (tgt := 50) hx hb dX5_invoice_45 (by decide) (fun c_34 => absurd c_34 (by decide)) (fun c_34 => ?_)
      refine lv_iconst (v := 0) hx hb dX5_invoice_48 (by decide) ?_
      have eS : S_invoice M (nI t) w0 = (2, M, 0) := (by rw [S_invoice, show tn (nI t) = t from nI_clamp (show t < 2 ^ 31 by omega), if_neg (by rw [hok]; decide), if_pos hok_w0])
      exact W.iret (v := 0) hx hb hr (fun t9 h9 w9 => ⟨⟨0, _, rfl, by rw [eS]; exact ⟨hR, rfl⟩, (by show tkM A D _ _; rw [h9]; exact hM)⟩, hS.F h9⟩) hS.2.2 dX5_invoice_49
  · skip
    refine lv_if_ne (tgt := 13) hx hb dX5_invoice_6 (by decide) (fun c_35 => absurd c_35 (by decide)) (fun c_35 => ?_)
    refine lv_iconst (v := 1) hx hb dX5_invoice_9 (by decide) ?_
    refine lv_goto (tgt := 38) hx hb dX5_invoice_10 (by decide) ?_
    refine tk_put (ty := .int) hx hb hts inX5 tyX5 tyX5_ok nmX5 hown hK hM hS hR.1 rfl 18 (by decide) (hts (.fieldLink RX5 66 "TicketForgeModel" "thrown" "I") (by decide +kernel)) (fun _ h9 => h9) rfl (by decide +kernel) rfl rfl (Nat.le_of_ble_eq_true rfl) dX5_invoice_38 (fun H locs hM hS => ?_)
    have hR := hR.th (v := 1)
    refine lv_aload_n hx hb dX5_invoice_41 rfl (lv_at hl 0 rfl) ?_
    refine tk_get hx hb hts inX5 hown hK hM hR.1 rfl 18 (by decide) (hts (.fieldLink RX5 66 "TicketForgeModel" "thrown" "I") (by decide +kernel)) (fun _ h9 => h9) rfl dX5_invoice_42 ?_
    refine lv_if_le (tgt := 50) hx hb dX5_invoice_45 (by decide) (fun c_36 => absurd c_36 (by decide)) (fun c_36 => ?_)
    refine lv_iconst (v := 0) hx hb dX5_invoice_48 (by decide) ?_
    have eS : S_invoice M x w0 = (1, M, 0) := (by rw [S_invoice, if_pos hr_1])
    exact W.iret (v := 0) hx hb hr (fun t9 h9 w9 => ⟨⟨0, _, rfl, by rw [eS]; exact ⟨hR, rfl⟩, (by show tkM A D _ _; rw [h9]; exact hM)⟩, hS.F h9⟩) hS.2.2 dX5_invoice_49
