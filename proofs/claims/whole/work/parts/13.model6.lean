/-! the model: leads, block -/
set_option maxHeartbeats 4000000 in
set_option maxRecDepth 100000 in
theorem c_X5_leads (l : Launch) (A : Nat → Prop) (D : va_G) (ac : Nat → ClassId) (G : TG) {m0 : Nat} {am : Nat → Nat} {th : Int32} {M : TS} (hR : PR ac m0 am th M G) (hW : W0 M) (a b : Nat) (ha : a < nT M) (hb0 : b < nT M) : Met l yX5_leads wsX5_leads ({ frames := 1, cells := 0, slots := 0, locals := 100 } : Room) (va_Pc [.ref m0, .int (nI a), .int (nI b)] (tkJ A D ac G)) (va_Qi (fun (z : Int32) (G9 : TG) => (∃ ar : Nat → Int32, PR ac m0 am th (va_up M 8 ar) G9) ∧ tkB z (leads M a b)) (fun (G9 : TG) t => tkM A D G9 t.heap) A) 0 0 A := by
  refine Met.ofW (cc := cX5_leads) (maxL := 6) (ret := (some .boolean)) (by decide) rfl ?_
  intro p e s m args below meth c s₁ B hml hv
  obtain ⟨rfl, hM, hK⟩ := hv
  have hS : va_S A s.heap s.heap [] := va_S.rf
  have hx := B.exec
  have hb := B.bytes
  have hr := B.returns
  have hts := atoms_spec (ws := wsX5_leads) B.pre
  have hown : s.vm.findClass RX5 = some m.cls := findClass_of_methodNamed B.named
  have hlocks := B.notSynchronized
  have S0 : CallFix p m c cX5_leads 6 s ([.ref m0, .int (nI a), .int (nI b)] : List Value).toArray wsX5_leads RX5 := ⟨hx, hb, hml, hown, hts⟩
  have inX5 : ∀ w ∈ wsX50, w ∈ wsX5_leads := by decide +kernel
  have hl := lv_entry ([.ref m0, .int (nI a), .int (nI b)]) (n := 6) (Nat.le_of_ble_eq_true rfl)
  rw [lg_entry_eq]
  generalize (lg_sl ([.ref m0, .int (nI a), .int (nI b)]) ++ List.replicate (6 - (lg_sl ([.ref m0, .int (nI a), .int (nI b)])).length) Slot.unset).toArray = ls at hl ⊢
  have hl : lv_has ls 6 [(0, .ref m0), (1, .int (nI a)), (2, .int (nI b))] := hl
  have bT := hW.t.2
  have bE := hW.e.2
  have bV := hW.v.2
  have hR := hR.v8
  refine lv_iconst (v := 0) hx hb dX5_leads_0 (by decide) ?_
  refine lv_istore_n (lv' := [(3, .int 0), (0, .ref m0), (1, .int (nI a)), (2, .int (nI b))]) hx hb dX5_leads_1 rfl hl (by decide) rfl (fun ls hl => ?_)
  refine tk_g1 (Wf := fun H locs g => W p l e _ s m _ below meth c H locs _ _ _ g) 16 (fun i (ar : Nat → Int32) H locs ls => lv_has ls 6 [(0, .ref m0), (1, .int (nI a)), (2, .int (nI b)), (3, .int (nI i))] ∧ (∀ k, k < i → ar k = if k = a then 1 else 0) ∧ ∃ G : TG, PR ac m0 am th (va_up M 8 ar) G ∧ tkM A D G H ∧ va_S A s.heap H locs) (fun i ar H locs ls hii hinv ihi => ?_) _ _ _ ls ⟨(lv_sub hl [1, 2, 3, 0] rfl), fun k hk => absurd hk (Nat.not_lt_zero k), _, hR, hM, hS⟩
  obtain ⟨hl, hvi, G, hR, hM, hS⟩ := hinv
  refine lv_iload_n hx hb dX5_leads_2 rfl (lv_at hl 3 rfl) ?_
  refine lv_bipush (v := 16) hx hb dX5_leads_3 (by decide) ?_
  refine lv_icmp_ge (tgt := 30) hx hb dX5_leads_5 (by decide) (fun c_1 => ?_) (fun c_1 => ?_)
  · have hge := tk_ge (a := 16) (by decide) (by omega) c_1
    obtain rfl : i = 16 := Nat.le_antisymm hii hge
    refine lv_iconst (v := 0) hx hb dX5_leads_30 (by decide) ?_
    refine lv_istore_n (lv' := [(3, .int 0), (0, .ref m0), (1, .int (nI a)), (2, .int (nI b))]) hx hb dX5_leads_31 rfl hl (by decide) rfl (fun ls hl => ?_)
    refine tk_g1 (Wf := fun H locs g => W p l e _ s m _ below meth c H locs _ _ _ g) 16 (fun r (ar : Nat → Int32) H locs ls => lv_has ls 6 [(0, .ref m0), (1, .int (nI a)), (2, .int (nI b)), (3, .int (nI r))] ∧ (lI M a r ar) ∧ ∃ G : TG, PR ac m0 am th (va_up M 8 ar) G ∧ tkM A D G H ∧ va_S A s.heap H locs) (fun r ar H locs ls hir hinv ihr => ?_) _ _ _ ls ⟨(lv_sub hl [1, 2, 3, 0] rfl), lI_0 bT hvi, _, hR, hM, hS⟩
    obtain ⟨hl, hvr, G, hR, hM, hS⟩ := hinv
    refine lv_iload_n hx hb dX5_leads_32 rfl (lv_at hl 3 rfl) ?_
    refine lv_bipush (v := 16) hx hb dX5_leads_33 (by decide) ?_
    refine lv_icmp_ge (tgt := 109) hx hb dX5_leads_35 (by decide) (fun c_2 => ?_) (fun c_2 => ?_)
    · have hge := tk_ge (a := 16) (by decide) (by omega) c_2
      obtain rfl : r = 16 := Nat.le_antisymm hir hge
      refine lv_aload_n hx hb dX5_leads_109 rfl (lv_at hl 0 rfl) ?_
      refine tk_get hx hb hts inX5 hown hK hM hR.1 rfl 7 (by decide) (hts (.fieldLink RX5 33 "TicketForgeModel" "areReached" "[Z") (by decide +kernel)) (fun _ h9 => h9) rfl dX5_leads_110 ?_
      refine lv_iload_n hx hb dX5_leads_113 rfl (lv_at hl 2 rfl) ?_
      refine tk_zald hx hb hK hM 2 hR.a7 rfl (vp_in_nI (by omega) (by decide)) dX5_leads_114 ?_
      rw [show (nI b).toNatClampNeg = b from nI_clamp (by omega)]
      rw [show (((va_up M 8 ar) 8) b) = ar b from rfl]
      have hfin := lI_e bT ha hb0 hvr
      exact W.zret (v := (ar b)) hx hb hr (tkB_nar hfin) (fun t9 h9 w9 => ⟨⟨_, _, rfl, ⟨⟨_, hR⟩, hfin⟩, (by show tkM A D _ _; rw [h9]; exact hM)⟩, hS.F h9⟩) hS.2.2 dX5_leads_115
    · have hltr := tk_lt (b := r) (a := 16) (by omega) (by omega) c_2
      refine lv_iconst (v := 0) hx hb dX5_leads_38 (by decide) ?_
      refine lv_istore (lv' := [(4, .int 0), (0, .ref m0), (1, .int (nI a)), (2, .int (nI b)), (3, .int (nI r))]) hx hb dX5_leads_39 hl (by decide) rfl (fun ls hl => ?_)
      refine tk_g1 (Wf := fun H locs g => W p l e _ s m _ below meth c H locs _ _ _ g) (nT M) (fun k (ar : Nat → Int32) H locs ls => lv_has ls 6 [(0, .ref m0), (1, .int (nI a)), (2, .int (nI b)), (3, .int (nI r)), (4, .int (nI k))] ∧ (lK M a r k ar) ∧ ∃ G : TG, PR ac m0 am th (va_up M 8 ar) G ∧ tkM A D G H ∧ va_S A s.heap H locs) (fun k ar H locs ls hik hinv ihk => ?_) _ _ _ ls ⟨(lv_sub hl [1, 2, 3, 4, 0] rfl), lK_0 hvr, _, hR, hM, hS⟩
      obtain ⟨hl, hvk, G, hR, hM, hS⟩ := hinv
      refine lv_iload hx hb dX5_leads_41 (lv_at hl 4 rfl) ?_
      refine lv_aload_n hx hb dX5_leads_43 rfl (lv_at hl 0 rfl) ?_
      refine tk_get hx hb hts inX5 hown hK hM hR.1 rfl 19 (by decide) (hts (.fieldLink RX5 70 "TicketForgeModel" "tasks" "I") (by decide +kernel)) (fun _ h9 => h9) rfl dX5_leads_44 ?_
      rw [show (va_up M 8 ar) 0 19 = nI (nT M) from hW.t.1]
      refine lv_icmp_ge (tgt := 103) hx hb dX5_leads_47 (by decide) (fun c_3 => ?_) (fun c_3 => ?_)
      · have hge := tk_ge (a := (nT M)) (by omega) (by omega) c_3
        obtain rfl : k = (nT M) := Nat.le_antisymm hik hge
        refine lv_iinc (v := (nI (r + 1))) (lv' := [(3, .int (nI (r + 1))), (0, .ref m0), (1, .int (nI a)), (2, .int (nI b)), (4, .int (nI (nT M)))]) hx hb dX5_leads_103 hl (k := 3) rfl (nI_1 r) (by decide) rfl (fun ls hl => ?_)
        refine lv_goto (tgt := 32) hx hb dX5_leads_106 (by decide) ?_
        exact ihr _ _ _ ls (by omega) ⟨(lv_sub hl [1, 2, 3, 0] rfl), lI_s hvk, _, hR, hM, hS⟩
      · have hltk := tk_lt (b := k) (a := (nT M)) (by omega) (by omega) c_3
        refine lv_iconst (v := 0) hx hb dX5_leads_50 (by decide) ?_
        refine lv_istore (lv' := [(5, .int 0), (0, .ref m0), (1, .int (nI a)), (2, .int (nI b)), (3, .int (nI r)), (4, .int (nI k))]) hx hb dX5_leads_51 hl (by decide) rfl (fun ls hl => ?_)
        refine tk_g1 (Wf := fun H locs g => W p l e _ s m _ below meth c H locs _ _ _ g) (nT M) (fun j (ar : Nat → Int32) H locs ls => lv_has ls 6 [(0, .ref m0), (1, .int (nI a)), (2, .int (nI b)), (3, .int (nI r)), (4, .int (nI k)), (5, .int (nI j))] ∧ (lJ M a r k j ar) ∧ ∃ G : TG, PR ac m0 am th (va_up M 8 ar) G ∧ tkM A D G H ∧ va_S A s.heap H locs) (fun j ar H locs ls hij hinv ihj => ?_) _ _ _ ls ⟨(lv_sub hl [1, 2, 3, 4, 5, 0] rfl), lJ_0 hvk, _, hR, hM, hS⟩
        obtain ⟨hl, hvj, G, hR, hM, hS⟩ := hinv
        refine lv_iload hx hb dX5_leads_53 (lv_at hl 5 rfl) ?_
        refine lv_aload_n hx hb dX5_leads_55 rfl (lv_at hl 0 rfl) ?_
        refine tk_get hx hb hts inX5 hown hK hM hR.1 rfl 19 (by decide) (hts (.fieldLink RX5 70 "TicketForgeModel" "tasks" "I") (by decide +kernel)) (fun _ h9 => h9) rfl dX5_leads_56 ?_
        rw [show (va_up M 8 ar) 0 19 = nI (nT M) from hW.t.1]
        refine lv_icmp_ge (tgt := 97) hx hb dX5_leads_59 (by decide) (fun c_4 => ?_) (fun c_4 => ?_)
        · have hge := tk_ge (a := (nT M)) (by omega) (by omega) c_4
          obtain rfl : j = (nT M) := Nat.le_antisymm hij hge
          refine lv_iinc (v := (nI (k + 1))) (lv' := [(4, .int (nI (k + 1))), (0, .ref m0), (1, .int (nI a)), (2, .int (nI b)), (3, .int (nI r)), (5, .int (nI (nT M)))]) hx hb dX5_leads_97 hl (k := 4) rfl (nI_1 k) (by decide) rfl (fun ls hl => ?_)
          refine lv_goto (tgt := 41) hx hb dX5_leads_100 (by decide) ?_
          exact ihk _ _ _ ls (by omega) ⟨(lv_sub hl [1, 2, 3, 4, 0] rfl), lK_s hvj, _, hR, hM, hS⟩
        · have hltj := tk_lt (b := j) (a := (nT M)) (by omega) (by omega) c_4
          refine lv_aload_n hx hb dX5_leads_62 rfl (lv_at hl 0 rfl) ?_
          refine tk_get hx hb hts inX5 hown hK hM hR.1 rfl 7 (by decide) (hts (.fieldLink RX5 33 "TicketForgeModel" "areReached" "[Z") (by decide +kernel)) (fun _ h9 => h9) rfl dX5_leads_63 ?_
          refine lv_iload hx hb dX5_leads_66 (lv_at hl 4 rfl) ?_
          refine tk_zald hx hb hK hM 2 hR.a7 rfl (vp_in_nI (by omega) (by decide)) dX5_leads_68 ?_
          rw [show (nI k).toNatClampNeg = k from nI_clamp (by omega)]
          rw [show (((va_up M 8 ar) 8) k) = ar k from rfl]
          refine lv_if_eq (tgt := 91) hx hb dX5_leads_69 (by decide) (fun c_5 => ?_) (fun c_5 => ?_)
          · skip
            refine lv_iinc (v := (nI (j + 1))) (lv' := [(5, .int (nI (j + 1))), (0, .ref m0), (1, .int (nI a)), (2, .int (nI b)), (3, .int (nI r)), (4, .int (nI k))]) hx hb dX5_leads_91 hl (k := 5) rfl (nI_1 j) (by decide) rfl (fun ls hl => ?_)
            refine lv_goto (tgt := 53) hx hb dX5_leads_94 (by decide) ?_
            exact ihj _ _ _ ls (by omega) ⟨(lv_sub hl [1, 2, 3, 4, 5, 0] rfl), (lJ_s hltk hvj (Or.inl c_5)), _, hR, hM, hS⟩
          · skip
            refine lv_aload_n hx hb dX5_leads_72 rfl (lv_at hl 0 rfl) ?_
            refine lv_iload hx hb dX5_leads_73 (lv_at hl 4 rfl) ?_
            refine lv_iload hx hb dX5_leads_75 (lv_at hl 5 rfl) ?_
            refine tk_cVi (As := [.int (nI k), .int (nI j)]) S0 (c_X5_blocks l A D ac _ hR (hW.v8 _) k j (by omega) (by omega) ) (cwV 2 hts gX5_leads_X5_blocks rfl rfl rfl (by decide +kernel) ⟨Nat.le_of_ble_eq_true rfl, Nat.le_of_ble_eq_true rfl⟩) (tkJ.blind) (tkJ.at hM hK) (tk_recv hK hM hR.1 rfl) rfl hl.1 rfl (Nat.le_of_ble_eq_true rfl) dX5_leads_77 ⟨Nat.zero_le _, Nat.zero_le _⟩ (fun r_6 hr_6 => ?_)
            skip
            refine lv_if_eq (tgt := 91) hx hb dX5_leads_80 (by decide) (fun c_7 => ?_) (fun c_7 => ?_)
            · skip
              refine lv_iinc (v := (nI (j + 1))) (lv' := [(5, .int (nI (j + 1))), (0, .ref m0), (1, .int (nI a)), (2, .int (nI b)), (3, .int (nI r)), (4, .int (nI k))]) hx hb dX5_leads_91 hl (k := 5) rfl (nI_1 j) (by decide) rfl (fun ls hl => ?_)
              refine lv_goto (tgt := 53) hx hb dX5_leads_94 (by decide) ?_
              exact ihj _ _ _ ls (by omega) ⟨(lv_sub hl [1, 2, 3, 4, 5, 0] rfl), (lJ_s hltk hvj (Or.inr (by rw [← show _ = M 6 (16 * k + j) from hr_6]; exact c_7))), _, hR, hM, hS⟩
            · skip
              refine lv_aload_n hx hb dX5_leads_83 rfl (lv_at hl 0 rfl) ?_
              refine tk_get hx hb hts inX5 hown hK hM hR.1 rfl 7 (by decide) (hts (.fieldLink RX5 33 "TicketForgeModel" "areReached" "[Z") (by decide +kernel)) (fun _ h9 => h9) rfl dX5_leads_84 ?_
              refine lv_iload hx hb dX5_leads_87 (lv_at hl 5 rfl) ?_
              refine lv_iconst (v := 1) hx hb dX5_leads_89 (by decide) ?_
              refine tk_zast hx hb hK hM hS 2 hR.a7 rfl (show vp_nar .boolean 1 = 1 from rfl) (vp_in_nI (by omega) (by decide)) dX5_leads_90 (fun H locs hM hS => ?_)
              rw [show (nI j).toNatClampNeg = j from nI_clamp (by omega)] at hM
              have hR := hR.p7 (i := j) (v := 1)
              rw [st8] at hR
              refine lv_iinc (v := (nI (j + 1))) (lv' := [(5, .int (nI (j + 1))), (0, .ref m0), (1, .int (nI a)), (2, .int (nI b)), (3, .int (nI r)), (4, .int (nI k))]) hx hb dX5_leads_91 hl (k := 5) rfl (nI_1 j) (by decide) rfl (fun ls hl => ?_)
              refine lv_goto (tgt := 53) hx hb dX5_leads_94 (by decide) ?_
              exact ihj _ _ _ ls (by omega) ⟨(lv_sub hl [1, 2, 3, 4, 5, 0] rfl), (lJ_w bT hltk hvj c_5 (by rw [← show _ = M 6 (16 * k + j) from hr_6]; exact c_7)), _, hR, hM, hS⟩
  · have hlti := tk_lt (b := i) (a := 16) (by omega) (by omega) c_1
    refine lv_aload_n hx hb dX5_leads_8 rfl (lv_at hl 0 rfl) ?_
    refine tk_get hx hb hts inX5 hown hK hM hR.1 rfl 7 (by decide) (hts (.fieldLink RX5 33 "TicketForgeModel" "areReached" "[Z") (by decide +kernel)) (fun _ h9 => h9) rfl dX5_leads_9 ?_
    refine lv_iload_n hx hb dX5_leads_12 rfl (lv_at hl 3 rfl) ?_
    refine lv_iload_n hx hb dX5_leads_13 rfl (lv_at hl 3 rfl) ?_
    refine lv_iload_n hx hb dX5_leads_14 rfl (lv_at hl 1 rfl) ?_
    refine lv_icmp_ne (tgt := 22) hx hb dX5_leads_15 (by decide) (fun c_8 => ?_) (fun c_8 => ?_)
    · skip
      refine lv_iconst (v := 0) hx hb dX5_leads_22 (by decide) ?_
      refine tk_zast hx hb hK hM hS 2 hR.a7 rfl (show vp_nar .boolean 0 = 0 from rfl) (vp_in_nI (by omega) (by decide)) dX5_leads_23 (fun H locs hM hS => ?_)
      rw [show (nI i).toNatClampNeg = i from nI_clamp (by omega)] at hM
      have hR := hR.p7 (i := i) (v := 0)
      rw [st8] at hR
      refine lv_iinc (v := (nI (i + 1))) (lv' := [(3, .int (nI (i + 1))), (0, .ref m0), (1, .int (nI a)), (2, .int (nI b))]) hx hb dX5_leads_24 hl (k := 3) rfl (nI_1 i) (by decide) rfl (fun ls hl => ?_)
      refine lv_goto (tgt := 2) hx hb dX5_leads_27 (by decide) ?_
      exact ihi _ _ _ ls (by omega) ⟨(lv_sub hl [1, 2, 3, 0] rfl), (fun k hk => by rcases Nat.lt_or_ge k i with q | q; (rw [show upd ar i 0 k = ar k from by simp [upd, Nat.ne_of_lt q]]; exact hvi k q); (rw [show k = i by omega]; simp [upd, tk_ni (by omega) (by omega) c_8])), _, hR, hM, hS⟩
    · skip
      refine lv_iconst (v := 1) hx hb dX5_leads_18 (by decide) ?_
      refine lv_goto (tgt := 23) hx hb dX5_leads_19 (by decide) ?_
      refine tk_zast hx hb hK hM hS 2 hR.a7 rfl (show vp_nar .boolean 1 = 1 from rfl) (vp_in_nI (by omega) (by decide)) dX5_leads_23 (fun H locs hM hS => ?_)
      rw [show (nI i).toNatClampNeg = i from nI_clamp (by omega)] at hM
      have hR := hR.p7 (i := i) (v := 1)
      rw [st8] at hR
      refine lv_iinc (v := (nI (i + 1))) (lv' := [(3, .int (nI (i + 1))), (0, .ref m0), (1, .int (nI a)), (2, .int (nI b))]) hx hb dX5_leads_24 hl (k := 3) rfl (nI_1 i) (by decide) rfl (fun ls hl => ?_)
      refine lv_goto (tgt := 2) hx hb dX5_leads_27 (by decide) ?_
      exact ihi _ _ _ ls (by omega) ⟨(lv_sub hl [1, 2, 3, 0] rfl), (fun k hk => by rcases Nat.lt_or_ge k i with q | q; (rw [show upd ar i 1 k = ar k from by simp [upd, Nat.ne_of_lt q]]; exact hvi k q); (rw [show k = i by omega]; simp [upd, tk_ei (by omega) (by omega) c_8])), _, hR, hM, hS⟩
set_option maxHeartbeats 4000000 in
set_option maxRecDepth 100000 in
theorem c_X5_block (l : Launch) (A : Nat → Prop) (D : va_G) (ac : Nat → ClassId) (G : TG) {m0 : Nat} {am : Nat → Nat} {th : Int32} {M : TS} (hR : PR ac m0 am th M G) (hW : W0 M) (x y : Int32) : Met l yX5_block wsX5_block ({ frames := 3, cells := 0, slots := 0, locals := 180 } : Room) (va_Pc [.ref m0, .int x, .int y] (tkJ A D ac G)) (va_Qi (fun (z : Int32) (G9 : TG) => (∃ ar : Nat → Int32, PR ac m0 am (S_block M x y).1 (va_up (S_block M x y).2.1 8 ar) G9) ∧ z = (S_block M x y).2.2) (fun (G9 : TG) t => tkM A D G9 t.heap) A) 0 0 A := by
  refine Met.ofW (cc := cX5_block) (maxL := 5) (ret := (some .int)) (by decide) rfl ?_
  intro p e s m args below meth c s₁ B hml hv
  obtain ⟨rfl, hM, hK⟩ := hv
  have hS : va_S A s.heap s.heap [] := va_S.rf
  have hx := B.exec
  have hb := B.bytes
  have hr := B.returns
  have hts := atoms_spec (ws := wsX5_block) B.pre
  have hown : s.vm.findClass RX5 = some m.cls := findClass_of_methodNamed B.named
  have hlocks := B.notSynchronized
  have S0 : CallFix p m c cX5_block 5 s ([.ref m0, .int x, .int y] : List Value).toArray wsX5_block RX5 := ⟨hx, hb, hml, hown, hts⟩
  have inX5 : ∀ w ∈ wsX50, w ∈ wsX5_block := by decide +kernel
  have hl := lv_entry ([.ref m0, .int x, .int y]) (n := 5) (Nat.le_of_ble_eq_true rfl)
  rw [lg_entry_eq]
  generalize (lg_sl ([.ref m0, .int x, .int y]) ++ List.replicate (5 - (lg_sl ([.ref m0, .int x, .int y])).length) Slot.unset).toArray = ls at hl ⊢
  have hl : lv_has ls 5 [(0, .ref m0), (1, .int x), (2, .int y)] := hl
  have bT := hW.t.2
  have bE := hW.e.2
  have bV := hW.v.2
  refine lv_aload_n hx hb dX5_block_0 rfl (lv_at hl 0 rfl) ?_
  refine lv_aload_n hx hb dX5_block_1 rfl (lv_at hl 0 rfl) ?_
  refine lv_iload_n hx hb dX5_block_2 rfl (lv_at hl 1 rfl) ?_
  refine tk_cVi (As := [.int x]) S0 (c_X5_isTask l A D ac _ hR hW x) (cwV 1 hts gX5_block_X5_isTask rfl rfl rfl (by decide +kernel) ⟨Nat.le_of_ble_eq_true rfl, Nat.le_of_ble_eq_true rfl⟩) (tkJ.blind) (tkJ.at hM hK) (tk_recv hK hM hR.1 rfl) rfl hl.1 rfl (Nat.le_of_ble_eq_true rfl) dX5_block_3 ⟨Nat.zero_le _, Nat.zero_le _⟩ (fun r_1 hr_1 => ?_)
  rcases hr_1 with ⟨rfl, hr_1⟩ | ⟨rfl, hr_1⟩
  · have hok_x := hr_1
    obtain ⟨t, ht, rfl⟩ := tkOk_ex (by omega) hr_1
    refine lv_if_eq (tgt := 17) hx hb dX5_block_6 (by decide) (fun c_2 => absurd c_2 (by decide)) (fun c_2 => ?_)
    refine lv_aload_n hx hb dX5_block_9 rfl (lv_at hl 0 rfl) ?_
    refine lv_iload_n hx hb dX5_block_10 rfl (lv_at hl 2 rfl) ?_
    refine tk_cVi (As := [.int y]) S0 (c_X5_isTask l A D ac _ hR hW y) (cwV 1 hts gX5_block_X5_isTask rfl rfl rfl (by decide +kernel) ⟨Nat.le_of_ble_eq_true rfl, Nat.le_of_ble_eq_true rfl⟩) (tkJ.blind) (tkJ.at hM hK) (tk_recv hK hM hR.1 rfl) rfl hl.1 rfl (Nat.le_of_ble_eq_true rfl) dX5_block_11 ⟨Nat.zero_le _, Nat.zero_le _⟩ (fun r_3 hr_3 => ?_)
    rcases hr_3 with ⟨rfl, hr_3⟩ | ⟨rfl, hr_3⟩
    · have hok_y := hr_3
      obtain ⟨u, hu, rfl⟩ := tkOk_ex (by omega) hr_3
      refine lv_if_ne (tgt := 21) hx hb dX5_block_14 (by decide) (fun c_4 => ?_) (fun c_4 => absurd c_4 (by decide))
      refine lv_iload_n hx hb dX5_block_21 rfl (lv_at hl 1 rfl) ?_
      refine lv_iload_n hx hb dX5_block_22 rfl (lv_at hl 2 rfl) ?_
      refine lv_icmp_ne (tgt := 30) hx hb dX5_block_23 (by decide) (fun c_5 => ?_) (fun c_5 => ?_)
      · skip
        refine lv_aload_n hx hb dX5_block_30 rfl (lv_at hl 0 rfl) ?_
        refine lv_iload_n hx hb dX5_block_31 rfl (lv_at hl 1 rfl) ?_
        refine lv_iload_n hx hb dX5_block_32 rfl (lv_at hl 2 rfl) ?_
        refine tk_cVi (As := [.int (nI t), .int (nI u)]) S0 (c_X5_blocks l A D ac _ hR hW t u (by omega) (by omega) ) (cwV 2 hts gX5_block_X5_blocks rfl rfl rfl (by decide +kernel) ⟨Nat.le_of_ble_eq_true rfl, Nat.le_of_ble_eq_true rfl⟩) (tkJ.blind) (tkJ.at hM hK) (tk_recv hK hM hR.1 rfl) rfl hl.1 rfl (Nat.le_of_ble_eq_true rfl) dX5_block_33 ⟨Nat.zero_le _, Nat.zero_le _⟩ (fun r_6 hr_6 => ?_)
        skip
        refine lv_if_ne (tgt := 48) hx hb dX5_block_36 (by decide) (fun c_7 => ?_) (fun c_7 => ?_)
        · skip
          refine lv_iconst (v := 3) hx hb dX5_block_48 (by decide) ?_
          refine lv_goto (tgt := 66) hx hb dX5_block_49 (by decide) ?_
          refine tk_put (ty := .int) hx hb hts inX5 tyX5 tyX5_ok nmX5 hown hK hM hS hR.1 rfl 18 (by decide) (hts (.fieldLink RX5 66 "TicketForgeModel" "thrown" "I") (by decide +kernel)) (fun _ h9 => h9) rfl (by decide +kernel) rfl rfl (Nat.le_of_ble_eq_true rfl) dX5_block_66 (fun H locs hM hS => ?_)
          have hR := hR.th (v := 3)
          refine lv_aload_n hx hb dX5_block_69 rfl (lv_at hl 0 rfl) ?_
          refine tk_get hx hb hts inX5 hown hK hM hR.1 rfl 18 (by decide) (hts (.fieldLink RX5 66 "TicketForgeModel" "thrown" "I") (by decide +kernel)) (fun _ h9 => h9) rfl dX5_block_70 ?_
          refine lv_if_le (tgt := 78) hx hb dX5_block_73 (by decide) (fun c_8 => absurd c_8 (by decide)) (fun c_8 => ?_)
          refine lv_iconst (v := 0) hx hb dX5_block_76 (by decide) ?_
          have eS : S_block M (nI t) (nI u) = (3, M, 0) := (by rw [S_block, show tn (nI t) = t from nI_clamp (show t < 2 ^ 31 by omega), show tn (nI u) = u from nI_clamp (show u < 2 ^ 31 by omega), if_neg (by rw [hok_x, hok_y]; decide), if_neg c_5, if_pos (Or.inl (by rw [← hr_6]; exact c_7))])
          exact W.iret (v := 0) hx hb hr (fun t9 h9 w9 => ⟨⟨0, _, rfl, by rw [eS]; exact ⟨⟨_, hR.v8⟩, rfl⟩, (by show tkM A D _ _; rw [h9]; exact hM)⟩, hS.F h9⟩) hS.2.2 dX5_block_77
        · skip
          refine lv_aload_n hx hb dX5_block_39 rfl (lv_at hl 0 rfl) ?_
          refine tk_get hx hb hts inX5 hown hK hM hR.1 rfl 20 (by decide) (hts (.fieldLink RX5 73 "TicketForgeModel" "blockCount" "I") (by decide +kernel)) (fun _ h9 => h9) rfl dX5_block_40 ?_
          refine lv_bipush (v := 20) hx hb dX5_block_43 (by decide) ?_
          refine lv_icmp_ne (tgt := 52) hx hb dX5_block_45 (by decide) (fun c_9 => ?_) (fun c_9 => ?_)
          · skip
            refine lv_aload_n hx hb dX5_block_52 rfl (lv_at hl 0 rfl) ?_
            refine lv_iload_n hx hb dX5_block_53 rfl (lv_at hl 2 rfl) ?_
            refine lv_iload_n hx hb dX5_block_54 rfl (lv_at hl 1 rfl) ?_
            refine tk_mVi (As := [.int (nI u), .int (nI t)]) S0 (c_X5_leads l A D ac _ hR hW u t hu ht) (cwV 2 hts gX5_block_X5_leads rfl rfl rfl (by decide +kernel) ⟨Nat.le_of_ble_eq_true rfl, Nat.le_of_ble_eq_true rfl⟩) (tkJ.blind) (tkJ.at hM hK) (tk_recv hK hM hR.1 rfl) rfl hl.1 rfl (Nat.le_of_ble_eq_true rfl) dX5_block_55 ⟨Nat.zero_le _, Nat.zero_le _⟩ hS (fun rl G H locs hp hM hS => ?_)
            obtain ⟨⟨ar, hR⟩, hld⟩ := hp
            rcases hld with ⟨rfl, hld⟩ | ⟨rfl, hld⟩
            · skip
              refine lv_if_eq (tgt := 65) hx hb dX5_block_58 (by decide) (fun c_10 => absurd c_10 (by decide)) (fun c_10 => ?_)
              refine lv_iconst (v := 4) hx hb dX5_block_61 (by decide) ?_
              refine lv_goto (tgt := 66) hx hb dX5_block_62 (by decide) ?_
              refine tk_put (ty := .int) hx hb hts inX5 tyX5 tyX5_ok nmX5 hown hK hM hS hR.1 rfl 18 (by decide) (hts (.fieldLink RX5 66 "TicketForgeModel" "thrown" "I") (by decide +kernel)) (fun _ h9 => h9) rfl (by decide +kernel) rfl rfl (Nat.le_of_ble_eq_true rfl) dX5_block_66 (fun H locs hM hS => ?_)
              have hR := hR.th (v := 4)
              refine lv_aload_n hx hb dX5_block_69 rfl (lv_at hl 0 rfl) ?_
              refine tk_get hx hb hts inX5 hown hK hM hR.1 rfl 18 (by decide) (hts (.fieldLink RX5 66 "TicketForgeModel" "thrown" "I") (by decide +kernel)) (fun _ h9 => h9) rfl dX5_block_70 ?_
              refine lv_if_le (tgt := 78) hx hb dX5_block_73 (by decide) (fun c_11 => absurd c_11 (by decide)) (fun c_11 => ?_)
              refine lv_iconst (v := 0) hx hb dX5_block_76 (by decide) ?_
              have eS : S_block M (nI t) (nI u) = (4, M, 0) := (by rw [S_block, show tn (nI t) = t from nI_clamp (show t < 2 ^ 31 by omega), show tn (nI u) = u from nI_clamp (show u < 2 ^ 31 by omega), if_neg (by rw [hok_x, hok_y]; decide), if_neg c_5, if_neg (fun h => h.elim (fun q => q (by rw [← hr_6]; exact c_7)) (fun q => c_9 q)), if_pos hld])
              exact W.iret (v := 0) hx hb hr (fun t9 h9 w9 => ⟨⟨0, _, rfl, by rw [eS]; exact ⟨⟨_, hR⟩, rfl⟩, (by show tkM A D _ _; rw [h9]; exact hM)⟩, hS.F h9⟩) hS.2.2 dX5_block_77
            · skip
              refine lv_if_eq (tgt := 65) hx hb dX5_block_58 (by decide) (fun c_12 => ?_) (fun c_12 => absurd (by decide) c_12)
              refine lv_iconst (v := 0) hx hb dX5_block_65 (by decide) ?_
              refine tk_put (ty := .int) hx hb hts inX5 tyX5 tyX5_ok nmX5 hown hK hM hS hR.1 rfl 18 (by decide) (hts (.fieldLink RX5 66 "TicketForgeModel" "thrown" "I") (by decide +kernel)) (fun _ h9 => h9) rfl (by decide +kernel) rfl rfl (Nat.le_of_ble_eq_true rfl) dX5_block_66 (fun H locs hM hS => ?_)
              have hR := hR.th (v := 0)
              refine lv_aload_n hx hb dX5_block_69 rfl (lv_at hl 0 rfl) ?_
              refine tk_get hx hb hts inX5 hown hK hM hR.1 rfl 18 (by decide) (hts (.fieldLink RX5 66 "TicketForgeModel" "thrown" "I") (by decide +kernel)) (fun _ h9 => h9) rfl dX5_block_70 ?_
              refine lv_if_le (tgt := 78) hx hb dX5_block_73 (by decide) (fun c_13 => ?_) (fun c_13 => absurd (by decide) c_13)
              refine lv_aload_n hx hb dX5_block_78 rfl (lv_at hl 0 rfl) ?_
              refine tk_get hx hb hts inX5 hown hK hM hR.1 rfl 5 (by decide) (hts (.fieldLink RX5 26 "TicketForgeModel" "blocks" "[Z") (by decide +kernel)) (fun _ h9 => h9) rfl dX5_block_79 ?_
              refine lv_bipush (v := 16) hx hb dX5_block_82 (by decide) ?_
              refine lv_iload_n hx hb dX5_block_84 rfl (lv_at hl 1 rfl) ?_
              refine lv_imul hx hb dX5_block_85 ?_
              refine lv_iload_n hx hb dX5_block_86 rfl (lv_at hl 2 rfl) ?_
              refine lv_iadd hx hb dX5_block_87 ?_
              refine lv_iconst (v := 1) hx hb dX5_block_88 (by decide) ?_
              refine tk_zast hx hb hK hM hS 2 hR.a5 rfl (show vp_nar .boolean 1 = 1 from rfl) (by rw [show (16 : Int32) = nI 16 from rfl, pk_mul, nI_add]; exact vp_in_nI (by omega) (by decide)) dX5_block_89 (fun H locs hM hS => ?_)
              rw [show ((16 : Int32) * nI t + nI u).toNatClampNeg = 16 * t + u from by rw [show (16 : Int32) = nI 16 from rfl, pk_mul, nI_add]; exact nI_clamp (by omega)] at hM
              have hR := hR.p5 (i := 16 * t + u) (v := 1)
              refine lv_aload_n hx hb dX5_block_90 rfl (lv_at hl 0 rfl) ?_
              refine lv_dup hx hb dX5_block_91 rfl ?_
              refine tk_get hx hb hts inX5 hown hK hM hR.1 rfl 20 (by decide) (hts (.fieldLink RX5 73 "TicketForgeModel" "blockCount" "I") (by decide +kernel)) (fun _ h9 => h9) rfl dX5_block_92 ?_
              refine lv_iconst (v := 1) hx hb dX5_block_95 (by decide) ?_
              refine lv_iadd hx hb dX5_block_96 ?_
              refine tk_put (ty := .int) hx hb hts inX5 tyX5 tyX5_ok nmX5 hown hK hM hS hR.1 rfl 20 (by decide) (hts (.fieldLink RX5 73 "TicketForgeModel" "blockCount" "I") (by decide +kernel)) (fun _ h9 => h9) rfl (by decide +kernel) rfl rfl (Nat.le_of_ble_eq_true rfl) dX5_block_97 (fun H locs hM hS => ?_)
              have hR := hR.sc 20 (mF_20 _ _ _ (((st (va_up M 8 ar) 6 (16 * t + u) 1) 0 20) + 1))
              have hR : PR ac m0 am 0 (st (st (va_up M 8 ar) 6 (16 * t + u) 1) 0 20 (M 0 20 + 1)) _ := hR
              refine lv_iconst (v := 0) hx hb dX5_block_100 (by decide) ?_
              refine lv_istore_n (lv' := [(3, .int 0), (0, .ref m0), (1, .int (nI t)), (2, .int (nI u))]) hx hb dX5_block_101 rfl hl (by decide) rfl (fun ls hl => ?_)
              refine lv_iconst (v := 0) hx hb dX5_block_102 (by decide) ?_
              refine lv_istore (lv' := [(4, .int 0), (3, .int 0), (0, .ref m0), (1, .int (nI t)), (2, .int (nI u))]) hx hb dX5_block_103 hl (by decide) rfl (fun ls hl => ?_)
              refine tk_f1 (Wf := W p l e _ s m _ below meth c _ _ _ _ _) (nT M) (fun i acc ls => lv_has ls 5 [(0, .ref m0), (1, .int (nI t)), (2, .int (nI u)), (4, .int (nI i)), (3, .int acc)] ∧ acc = sumI (fun k => if ¬ (st (st (va_up M 8 ar) 6 (16 * t + u) 1) 0 20 (M 0 20 + 1)) 6 (16 * k + u) = 0 then 1 else 0) i) (fun i acc ls hi hinv ih => ?_) _ ls ⟨(lv_sub hl [2, 3, 4, 0, 1] rfl), rfl⟩
              obtain ⟨hl, hinv⟩ := hinv
              refine lv_iload hx hb dX5_block_105 (lv_at hl 3 rfl) ?_
              refine lv_aload_n hx hb dX5_block_107 rfl (lv_at hl 0 rfl) ?_
              refine tk_get hx hb hts inX5 hown hK hM hR.1 rfl 19 (by decide) (hts (.fieldLink RX5 70 "TicketForgeModel" "tasks" "I") (by decide +kernel)) (fun _ h9 => h9) rfl dX5_block_108 ?_
              rw [show (st (st (va_up M 8 ar) 6 (16 * t + u) 1) 0 20 (M 0 20 + 1)) 0 19 = nI (nT M) from hW.t.1]
              refine lv_icmp_ge (tgt := 138) hx hb dX5_block_111 (by decide) (fun c_14 => ?_) (fun c_14 => ?_)
              · have hge := tk_ge (by omega) (by omega) c_14
                refine lv_iload_n hx hb dX5_block_138 rfl (lv_at hl 4 rfl) ?_
                have eS : S_block M (nI t) (nI u) = (0, nBlock M t u, acc) := (by rw [S_block, show tn (nI t) = t from nI_clamp (show t < 2 ^ 31 by omega), show tn (nI u) = u from nI_clamp (show u < 2 ^ 31 by omega), if_neg (by rw [hok_x, hok_y]; decide), if_neg c_5, if_neg (fun h => h.elim (fun q => q (by rw [← hr_6]; exact c_7)) (fun q => c_9 q)), if_neg (by rw [hld]; decide)]; exact Prod.ext rfl (Prod.ext rfl (sumI_e hinv hi hge).symm))
                exact W.iret (v := acc) hx hb hr (fun t9 h9 w9 => ⟨⟨acc, _, rfl, by rw [eS]; exact ⟨⟨_, hR.blk⟩, rfl⟩, (by show tkM A D _ _; rw [h9]; exact hM)⟩, hS.F h9⟩) hS.2.2 dX5_block_139
              · have hlt := tk_lt (by omega) (by omega) c_14
                refine lv_iload_n hx hb dX5_block_114 rfl (lv_at hl 4 rfl) ?_
                refine lv_aload_n hx hb dX5_block_115 rfl (lv_at hl 0 rfl) ?_
                refine lv_iload hx hb dX5_block_116 (lv_at hl 3 rfl) ?_
                refine lv_iload_n hx hb dX5_block_118 rfl (lv_at hl 2 rfl) ?_
                refine tk_cVi (As := [.int (nI i), .int (nI u)]) S0 (c_X5_blocks l A D ac _ hR (hW.blk _ _ _) i u (by omega) (by omega) ) (cwV 2 hts gX5_block_X5_blocks rfl rfl rfl (by decide +kernel) ⟨Nat.le_of_ble_eq_true rfl, Nat.le_of_ble_eq_true rfl⟩) (tkJ.blind) (tkJ.at hM hK) (tk_recv hK hM hR.1 rfl) rfl hl.1 rfl (Nat.le_of_ble_eq_true rfl) dX5_block_119 ⟨Nat.zero_le _, Nat.zero_le _⟩ (fun r_15 hr_15 => ?_)
                skip
                refine lv_if_eq (tgt := 129) hx hb dX5_block_122 (by decide) (fun c_16 => ?_) (fun c_16 => ?_)
                · skip
                  refine lv_iconst (v := 0) hx hb dX5_block_129 (by decide) ?_
                  refine lv_iadd hx hb dX5_block_130 ?_
                  refine lv_istore_n (lv' := [(3, .int (acc + 0)), (0, .ref m0), (1, .int (nI t)), (2, .int (nI u)), (4, .int (nI i))]) hx hb dX5_block_131 rfl hl (by decide) rfl (fun ls hl => ?_)
                  refine lv_iinc (v := (nI (i + 1))) (lv' := [(4, .int (nI (i + 1))), (3, .int (acc + 0)), (0, .ref m0), (1, .int (nI t)), (2, .int (nI u))]) hx hb dX5_block_132 hl (k := 4) rfl (nI_1 i) (by decide) rfl (fun ls hl => ?_)
                  refine lv_goto (tgt := 105) hx hb dX5_block_135 (by decide) ?_
                  exact ih _ ls (by omega) ⟨(lv_sub hl [2, 3, 4, 0, 1] rfl), sumI_z hinv (if_neg (fun h => h (by rw [← hr_15]; exact c_16)))⟩
                · skip
                  refine lv_iconst (v := 1) hx hb dX5_block_125 (by decide) ?_
                  refine lv_goto (tgt := 130) hx hb dX5_block_126 (by decide) ?_
                  refine lv_iadd hx hb dX5_block_130 ?_
                  refine lv_istore_n (lv' := [(3, .int (acc + 1)), (0, .ref m0), (1, .int (nI t)), (2, .int (nI u)), (4, .int (nI i))]) hx hb dX5_block_131 rfl hl (by decide) rfl (fun ls hl => ?_)
                  refine lv_iinc (v := (nI (i + 1))) (lv' := [(4, .int (nI (i + 1))), (3, .int (acc + 1)), (0, .ref m0), (1, .int (nI t)), (2, .int (nI u))]) hx hb dX5_block_132 hl (k := 4) rfl (nI_1 i) (by decide) rfl (fun ls hl => ?_)
                  refine lv_goto (tgt := 105) hx hb dX5_block_135 (by decide) ?_
                  exact ih _ ls (by omega) ⟨(lv_sub hl [2, 3, 4, 0, 1] rfl), sumI_t hinv (if_pos (by rw [← hr_15]; exact c_16))⟩
          · skip
            refine lv_iconst (v := 3) hx hb dX5_block_48 (by decide) ?_
            refine lv_goto (tgt := 66) hx hb dX5_block_49 (by decide) ?_
            refine tk_put (ty := .int) hx hb hts inX5 tyX5 tyX5_ok nmX5 hown hK hM hS hR.1 rfl 18 (by decide) (hts (.fieldLink RX5 66 "TicketForgeModel" "thrown" "I") (by decide +kernel)) (fun _ h9 => h9) rfl (by decide +kernel) rfl rfl (Nat.le_of_ble_eq_true rfl) dX5_block_66 (fun H locs hM hS => ?_)
            have hR := hR.th (v := 3)
            refine lv_aload_n hx hb dX5_block_69 rfl (lv_at hl 0 rfl) ?_
            refine tk_get hx hb hts inX5 hown hK hM hR.1 rfl 18 (by decide) (hts (.fieldLink RX5 66 "TicketForgeModel" "thrown" "I") (by decide +kernel)) (fun _ h9 => h9) rfl dX5_block_70 ?_
            refine lv_if_le (tgt := 78) hx hb dX5_block_73 (by decide) (fun c_17 => absurd c_17 (by decide)) (fun c_17 => ?_)
            refine lv_iconst (v := 0) hx hb dX5_block_76 (by decide) ?_
            have eS : S_block M (nI t) (nI u) = (3, M, 0) := (by rw [S_block, show tn (nI t) = t from nI_clamp (show t < 2 ^ 31 by omega), show tn (nI u) = u from nI_clamp (show u < 2 ^ 31 by omega), if_neg (by rw [hok_x, hok_y]; decide), if_neg c_5, if_pos (Or.inr c_9)])
            exact W.iret (v := 0) hx hb hr (fun t9 h9 w9 => ⟨⟨0, _, rfl, by rw [eS]; exact ⟨⟨_, hR.v8⟩, rfl⟩, (by show tkM A D _ _; rw [h9]; exact hM)⟩, hS.F h9⟩) hS.2.2 dX5_block_77
      · skip
        refine lv_iconst (v := 2) hx hb dX5_block_26 (by decide) ?_
        refine lv_goto (tgt := 66) hx hb dX5_block_27 (by decide) ?_
        refine tk_put (ty := .int) hx hb hts inX5 tyX5 tyX5_ok nmX5 hown hK hM hS hR.1 rfl 18 (by decide) (hts (.fieldLink RX5 66 "TicketForgeModel" "thrown" "I") (by decide +kernel)) (fun _ h9 => h9) rfl (by decide +kernel) rfl rfl (Nat.le_of_ble_eq_true rfl) dX5_block_66 (fun H locs hM hS => ?_)
        have hR := hR.th (v := 2)
        refine lv_aload_n hx hb dX5_block_69 rfl (lv_at hl 0 rfl) ?_
        refine tk_get hx hb hts inX5 hown hK hM hR.1 rfl 18 (by decide) (hts (.fieldLink RX5 66 "TicketForgeModel" "thrown" "I") (by decide +kernel)) (fun _ h9 => h9) rfl dX5_block_70 ?_
        refine lv_if_le (tgt := 78) hx hb dX5_block_73 (by decide) (fun c_18 => absurd c_18 (by decide)) (fun c_18 => ?_)
        refine lv_iconst (v := 0) hx hb dX5_block_76 (by decide) ?_
        have eS : S_block M (nI t) (nI u) = (2, M, 0) := (by rw [S_block, show tn (nI t) = t from nI_clamp (show t < 2 ^ 31 by omega), show tn (nI u) = u from nI_clamp (show u < 2 ^ 31 by omega), if_neg (by rw [hok_x, hok_y]; decide), if_pos (by rw [c_5])])
        exact W.iret (v := 0) hx hb hr (fun t9 h9 w9 => ⟨⟨0, _, rfl, by rw [eS]; exact ⟨⟨_, hR.v8⟩, rfl⟩, (by show tkM A D _ _; rw [h9]; exact hM)⟩, hS.F h9⟩) hS.2.2 dX5_block_77
    · skip
      refine lv_if_ne (tgt := 21) hx hb dX5_block_14 (by decide) (fun c_19 => absurd c_19 (by decide)) (fun c_19 => ?_)
      refine lv_iconst (v := 1) hx hb dX5_block_17 (by decide) ?_
      refine lv_goto (tgt := 66) hx hb dX5_block_18 (by decide) ?_
      refine tk_put (ty := .int) hx hb hts inX5 tyX5 tyX5_ok nmX5 hown hK hM hS hR.1 rfl 18 (by decide) (hts (.fieldLink RX5 66 "TicketForgeModel" "thrown" "I") (by decide +kernel)) (fun _ h9 => h9) rfl (by decide +kernel) rfl rfl (Nat.le_of_ble_eq_true rfl) dX5_block_66 (fun H locs hM hS => ?_)
      have hR := hR.th (v := 1)
      refine lv_aload_n hx hb dX5_block_69 rfl (lv_at hl 0 rfl) ?_
      refine tk_get hx hb hts inX5 hown hK hM hR.1 rfl 18 (by decide) (hts (.fieldLink RX5 66 "TicketForgeModel" "thrown" "I") (by decide +kernel)) (fun _ h9 => h9) rfl dX5_block_70 ?_
      refine lv_if_le (tgt := 78) hx hb dX5_block_73 (by decide) (fun c_20 => absurd c_20 (by decide)) (fun c_20 => ?_)
      refine lv_iconst (v := 0) hx hb dX5_block_76 (by decide) ?_
      have eS : S_block M (nI t) y = (1, M, 0) := (by rw [S_block, if_pos (Or.inr (hr_3))])
      exact W.iret (v := 0) hx hb hr (fun t9 h9 w9 => ⟨⟨0, _, rfl, by rw [eS]; exact ⟨⟨_, hR.v8⟩, rfl⟩, (by show tkM A D _ _; rw [h9]; exact hM)⟩, hS.F h9⟩) hS.2.2 dX5_block_77
  · skip
    refine lv_if_eq (tgt := 17) hx hb dX5_block_6 (by decide) (fun c_21 => ?_) (fun c_21 => absurd (by decide) c_21)
    refine lv_iconst (v := 1) hx hb dX5_block_17 (by decide) ?_
    refine lv_goto (tgt := 66) hx hb dX5_block_18 (by decide) ?_
    refine tk_put (ty := .int) hx hb hts inX5 tyX5 tyX5_ok nmX5 hown hK hM hS hR.1 rfl 18 (by decide) (hts (.fieldLink RX5 66 "TicketForgeModel" "thrown" "I") (by decide +kernel)) (fun _ h9 => h9) rfl (by decide +kernel) rfl rfl (Nat.le_of_ble_eq_true rfl) dX5_block_66 (fun H locs hM hS => ?_)
    have hR := hR.th (v := 1)
    refine lv_aload_n hx hb dX5_block_69 rfl (lv_at hl 0 rfl) ?_
    refine tk_get hx hb hts inX5 hown hK hM hR.1 rfl 18 (by decide) (hts (.fieldLink RX5 66 "TicketForgeModel" "thrown" "I") (by decide +kernel)) (fun _ h9 => h9) rfl dX5_block_70 ?_
    refine lv_if_le (tgt := 78) hx hb dX5_block_73 (by decide) (fun c_22 => absurd c_22 (by decide)) (fun c_22 => ?_)
    refine lv_iconst (v := 0) hx hb dX5_block_76 (by decide) ?_
    have eS : S_block M x y = (1, M, 0) := (by rw [S_block, if_pos (Or.inl hr_1)])
    exact W.iret (v := 0) hx hb hr (fun t9 h9 w9 => ⟨⟨0, _, rfl, by rw [eS]; exact ⟨⟨_, hR.v8⟩, rfl⟩, (by show tkM A D _ _; rw [h9]; exact hM)⟩, hS.F h9⟩) hS.2.2 dX5_block_77
