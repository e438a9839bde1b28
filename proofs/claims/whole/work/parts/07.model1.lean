/-! the model: what reads alone -/
set_option maxHeartbeats 4000000 in
set_option maxRecDepth 100000 in
theorem c_X5_in (l : Launch) (A : Nat → Prop) (D : va_G) (ac : Nat → ClassId) (G : TG) (v : Int32) (a : Int32) (b : Int32) : Met l yX5_in wsX5_in ({ frames := 0, cells := 0, slots := 0, locals := 60 } : Room) (va_Pc [.int v, .int a, .int b] (tkJ A D ac G)) (vp_Si (fun z => tkB z (tkIn v a b))) 0 0 (fun _ => False) := by
  refine Met.ofW (cc := cX5_in) (maxL := 3) (ret := (some .boolean)) (by decide) rfl ?_
  intro p e s m args below meth c s₁ B hml hv
  obtain ⟨rfl, hM, hK⟩ := hv
  have hx := B.exec
  have hb := B.bytes
  have hr := B.returns
  have hts := atoms_spec (ws := wsX5_in) B.pre
  have hown : s.vm.findClass RX5 = some m.cls := findClass_of_methodNamed B.named
  have hlocks := B.notSynchronized
  have S0 : CallFix p m c cX5_in 3 s ([.int v, .int a, .int b] : List Value).toArray wsX5_in RX5 := ⟨hx, hb, hml, hown, hts⟩
  have hl := lv_entry ([.int v, .int a, .int b]) (n := 3) (Nat.le_of_ble_eq_true rfl)
  rw [lg_entry_eq]
  generalize (lg_sl ([.int v, .int a, .int b]) ++ List.replicate (3 - (lg_sl ([.int v, .int a, .int b])).length) Slot.unset).toArray = ls at hl ⊢
  have hl : lv_has ls 3 [(0, .int v), (1, .int a), (2, .int b)] := hl
  refine lv_iload_n hx hb dX5_in_0 rfl (lv_at hl 0 rfl) ?_
  refine lv_iload_n hx hb dX5_in_1 rfl (lv_at hl 1 rfl) ?_
  refine lv_icmp_lt (tgt := 14) hx hb dX5_in_2 (by decide) (fun c_1 => ?_) (fun c_1 => ?_)
  · skip
    refine lv_iconst (v := 0) hx hb dX5_in_14 (by decide) ?_
    exact W.zret (v := 0) hx hb hr rfl (fun t9 h9 w9 => ⟨0, rfl, (tkB_0 (tkIn_f1 (Int32.not_le.mpr c_1))), h9⟩) (fun q hq => absurd hq List.not_mem_nil) dX5_in_15
  · skip
    refine lv_iload_n hx hb dX5_in_5 rfl (lv_at hl 0 rfl) ?_
    refine lv_iload_n hx hb dX5_in_6 rfl (lv_at hl 2 rfl) ?_
    refine lv_icmp_gt (tgt := 14) hx hb dX5_in_7 (by decide) (fun c_2 => ?_) (fun c_2 => ?_)
    · skip
      refine lv_iconst (v := 0) hx hb dX5_in_14 (by decide) ?_
      exact W.zret (v := 0) hx hb hr rfl (fun t9 h9 w9 => ⟨0, rfl, (tkB_0 (tkIn_f2 (Int32.not_le.mpr c_2))), h9⟩) (fun q hq => absurd hq List.not_mem_nil) dX5_in_15
    · skip
      refine lv_iconst (v := 1) hx hb dX5_in_10 (by decide) ?_
      refine lv_goto (tgt := 15) hx hb dX5_in_11 (by decide) ?_
      exact W.zret (v := 1) hx hb hr rfl (fun t9 h9 w9 => ⟨1, rfl, (tkB_1 (tkIn_t (Int32.not_lt.mp c_1) (Int32.not_lt.mp c_2))), h9⟩) (fun q hq => absurd hq List.not_mem_nil) dX5_in_15
set_option maxHeartbeats 4000000 in
set_option maxRecDepth 100000 in
theorem c_X5_isWeek (l : Launch) (A : Nat → Prop) (D : va_G) (ac : Nat → ClassId) (G : TG) (w : Int32) : Met l yX5_isWeek wsX5_isWeek ({ frames := 1, cells := 0, slots := 0, locals := 100 } : Room) (va_Pc [.int w] (tkJ A D ac G)) (vp_Si (fun z => tkB z (tkOk 30 w))) 0 0 (fun _ => False) := by
  refine Met.ofW (cc := cX5_isWeek) (maxL := 1) (ret := (some .boolean)) (by decide) rfl ?_
  intro p e s m args below meth c s₁ B hml hv
  obtain ⟨rfl, hM, hK⟩ := hv
  have hx := B.exec
  have hb := B.bytes
  have hr := B.returns
  have hts := atoms_spec (ws := wsX5_isWeek) B.pre
  have hown : s.vm.findClass RX5 = some m.cls := findClass_of_methodNamed B.named
  have hlocks := B.notSynchronized
  have S0 : CallFix p m c cX5_isWeek 1 s ([.int w] : List Value).toArray wsX5_isWeek RX5 := ⟨hx, hb, hml, hown, hts⟩
  have hl := lv_entry ([.int w]) (n := 1) (Nat.le_of_ble_eq_true rfl)
  rw [lg_entry_eq]
  generalize (lg_sl ([.int w]) ++ List.replicate (1 - (lg_sl ([.int w])).length) Slot.unset).toArray = ls at hl ⊢
  have hl : lv_has ls 1 [(0, .int w)] := hl
  refine lv_iload_n hx hb dX5_isWeek_0 rfl (lv_at hl 0 rfl) ?_
  refine lv_iconst (v := 0) hx hb dX5_isWeek_1 (by decide) ?_
  refine lv_bipush (v := 29) hx hb dX5_isWeek_2 (by decide) ?_
  refine tk_cSi (As := [.int w, .int 0, .int 29]) S0 (c_X5_in l A D ac _ w 0 29) (va_cwS 3 hts gX5_isWeek_X5_in rfl rfl rfl (by decide +kernel) ⟨Nat.le_of_ble_eq_true rfl, Nat.le_of_ble_eq_true rfl⟩) (tkJ.blind) (tkJ.at hM hK) rfl hl.1 rfl (Nat.le_of_ble_eq_true rfl) dX5_isWeek_4 ⟨Nat.zero_le _, Nat.zero_le _⟩ (fun r_1 hr_1 => ?_)
  exact W.zret (v := r_1) hx hb hr (tkB_nar hr_1) (fun t9 h9 w9 => ⟨r_1, rfl, (by rw [← tkIn_n (by decide)]; exact hr_1), h9⟩) (fun q hq => absurd hq List.not_mem_nil) dX5_isWeek_7
set_option maxHeartbeats 4000000 in
set_option maxRecDepth 100000 in
theorem c_X5_isTask (l : Launch) (A : Nat → Prop) (D : va_G) (ac : Nat → ClassId) (G : TG) {m0 : Nat} {am : Nat → Nat} {th : Int32} {M : TS} (hR : PR ac m0 am th M G) (hW : W0 M) (x : Int32) : Met l yX5_isTask wsX5_isTask ({ frames := 1, cells := 0, slots := 0, locals := 100 } : Room) (va_Pc [.ref m0, .int x] (tkJ A D ac G)) (vp_Si (fun z => tkB z (tkOk (nT M) x))) 0 0 (fun _ => False) := by
  refine Met.ofW (cc := cX5_isTask) (maxL := 2) (ret := (some .boolean)) (by decide) rfl ?_
  intro p e s m args below meth c s₁ B hml hv
  obtain ⟨rfl, hM, hK⟩ := hv
  have hx := B.exec
  have hb := B.bytes
  have hr := B.returns
  have hts := atoms_spec (ws := wsX5_isTask) B.pre
  have hown : s.vm.findClass RX5 = some m.cls := findClass_of_methodNamed B.named
  have hlocks := B.notSynchronized
  have S0 : CallFix p m c cX5_isTask 2 s ([.ref m0, .int x] : List Value).toArray wsX5_isTask RX5 := ⟨hx, hb, hml, hown, hts⟩
  have inX5 : ∀ w ∈ wsX50, w ∈ wsX5_isTask := by decide +kernel
  have hl := lv_entry ([.ref m0, .int x]) (n := 2) (Nat.le_of_ble_eq_true rfl)
  rw [lg_entry_eq]
  generalize (lg_sl ([.ref m0, .int x]) ++ List.replicate (2 - (lg_sl ([.ref m0, .int x])).length) Slot.unset).toArray = ls at hl ⊢
  have hl : lv_has ls 2 [(0, .ref m0), (1, .int x)] := hl
  have bT := hW.t.2
  have bE := hW.e.2
  have bV := hW.v.2
  refine lv_iload_n hx hb dX5_isTask_0 rfl (lv_at hl 1 rfl) ?_
  refine lv_iconst (v := 0) hx hb dX5_isTask_1 (by decide) ?_
  refine lv_aload_n hx hb dX5_isTask_2 rfl (lv_at hl 0 rfl) ?_
  refine tk_get hx hb hts inX5 hown hK hM hR.1 rfl 19 (by decide) (hts (.fieldLink RX5 70 "TicketForgeModel" "tasks" "I") (by decide +kernel)) (fun _ h9 => h9) rfl dX5_isTask_3 ?_
  rw [hW.t.1]
  refine lv_iconst (v := 1) hx hb dX5_isTask_6 (by decide) ?_
  refine lv_isub hx hb dX5_isTask_7 ?_
  refine tk_cSi (As := [.int x, .int 0, .int ((nI (nT M)) - 1)]) S0 (c_X5_in l A D ac _ x 0 ((nI (nT M)) - 1)) (va_cwS 3 hts gX5_isTask_X5_in rfl rfl rfl (by decide +kernel) ⟨Nat.le_of_ble_eq_true rfl, Nat.le_of_ble_eq_true rfl⟩) (tkJ.blind) (tkJ.at hM hK) rfl hl.1 rfl (Nat.le_of_ble_eq_true rfl) dX5_isTask_8 ⟨Nat.zero_le _, Nat.zero_le _⟩ (fun r_1 hr_1 => ?_)
  exact W.zret (v := r_1) hx hb hr (tkB_nar hr_1) (fun t9 h9 w9 => ⟨r_1, rfl, (by rw [← tkIn_n (by omega)]; exact hr_1), h9⟩) (fun q hq => absurd hq List.not_mem_nil) dX5_isTask_11
set_option maxHeartbeats 4000000 in
set_option maxRecDepth 100000 in
theorem c_X5_isEntry (l : Launch) (A : Nat → Prop) (D : va_G) (ac : Nat → ClassId) (G : TG) {m0 : Nat} {am : Nat → Nat} {th : Int32} {M : TS} (hR : PR ac m0 am th M G) (hW : W0 M) (x : Int32) : Met l yX5_isEntry wsX5_isEntry ({ frames := 1, cells := 0, slots := 0, locals := 100 } : Room) (va_Pc [.ref m0, .int x] (tkJ A D ac G)) (vp_Si (fun z => tkB z (tkOk (nE M) x))) 0 0 (fun _ => False) := by
  refine Met.ofW (cc := cX5_isEntry) (maxL := 2) (ret := (some .boolean)) (by decide) rfl ?_
  intro p e s m args below meth c s₁ B hml hv
  obtain ⟨rfl, hM, hK⟩ := hv
  have hx := B.exec
  have hb := B.bytes
  have hr := B.returns
  have hts := atoms_spec (ws := wsX5_isEntry) B.pre
  have hown : s.vm.findClass RX5 = some m.cls := findClass_of_methodNamed B.named
  have hlocks := B.notSynchronized
  have S0 : CallFix p m c cX5_isEntry 2 s ([.ref m0, .int x] : List Value).toArray wsX5_isEntry RX5 := ⟨hx, hb, hml, hown, hts⟩
  have inX5 : ∀ w ∈ wsX50, w ∈ wsX5_isEntry := by decide +kernel
  have hl := lv_entry ([.ref m0, .int x]) (n := 2) (Nat.le_of_ble_eq_true rfl)
  rw [lg_entry_eq]
  generalize (lg_sl ([.ref m0, .int x]) ++ List.replicate (2 - (lg_sl ([.ref m0, .int x])).length) Slot.unset).toArray = ls at hl ⊢
  have hl : lv_has ls 2 [(0, .ref m0), (1, .int x)] := hl
  have bT := hW.t.2
  have bE := hW.e.2
  have bV := hW.v.2
  refine lv_iload_n hx hb dX5_isEntry_0 rfl (lv_at hl 1 rfl) ?_
  refine lv_iconst (v := 0) hx hb dX5_isEntry_1 (by decide) ?_
  refine lv_aload_n hx hb dX5_isEntry_2 rfl (lv_at hl 0 rfl) ?_
  refine tk_get hx hb hts inX5 hown hK hM hR.1 rfl 21 (by decide) (hts (.fieldLink RX5 76 "TicketForgeModel" "entries" "I") (by decide +kernel)) (fun _ h9 => h9) rfl dX5_isEntry_3 ?_
  rw [hW.e.1]
  refine lv_iconst (v := 1) hx hb dX5_isEntry_6 (by decide) ?_
  refine lv_isub hx hb dX5_isEntry_7 ?_
  refine tk_cSi (As := [.int x, .int 0, .int ((nI (nE M)) - 1)]) S0 (c_X5_in l A D ac _ x 0 ((nI (nE M)) - 1)) (va_cwS 3 hts gX5_isEntry_X5_in rfl rfl rfl (by decide +kernel) ⟨Nat.le_of_ble_eq_true rfl, Nat.le_of_ble_eq_true rfl⟩) (tkJ.blind) (tkJ.at hM hK) rfl hl.1 rfl (Nat.le_of_ble_eq_true rfl) dX5_isEntry_8 ⟨Nat.zero_le _, Nat.zero_le _⟩ (fun r_1 hr_1 => ?_)
  exact W.zret (v := r_1) hx hb hr (tkB_nar hr_1) (fun t9 h9 w9 => ⟨r_1, rfl, (by rw [← tkIn_n (by omega)]; exact hr_1), h9⟩) (fun q hq => absurd hq List.not_mem_nil) dX5_isEntry_11
set_option maxHeartbeats 4000000 in
set_option maxRecDepth 100000 in
theorem c_X5_isInvoice (l : Launch) (A : Nat → Prop) (D : va_G) (ac : Nat → ClassId) (G : TG) {m0 : Nat} {am : Nat → Nat} {th : Int32} {M : TS} (hR : PR ac m0 am th M G) (hW : W0 M) (x : Int32) : Met l yX5_isInvoice wsX5_isInvoice ({ frames := 1, cells := 0, slots := 0, locals := 100 } : Room) (va_Pc [.ref m0, .int x] (tkJ A D ac G)) (vp_Si (fun z => tkB z (tkOk (nV M) x))) 0 0 (fun _ => False) := by
  refine Met.ofW (cc := cX5_isInvoice) (maxL := 2) (ret := (some .boolean)) (by decide) rfl ?_
  intro p e s m args below meth c s₁ B hml hv
  obtain ⟨rfl, hM, hK⟩ := hv
  have hx := B.exec
  have hb := B.bytes
  have hr := B.returns
  have hts := atoms_spec (ws := wsX5_isInvoice) B.pre
  have hown : s.vm.findClass RX5 = some m.cls := findClass_of_methodNamed B.named
  have hlocks := B.notSynchronized
  have S0 : CallFix p m c cX5_isInvoice 2 s ([.ref m0, .int x] : List Value).toArray wsX5_isInvoice RX5 := ⟨hx, hb, hml, hown, hts⟩
  have inX5 : ∀ w ∈ wsX50, w ∈ wsX5_isInvoice := by decide +kernel
  have hl := lv_entry ([.ref m0, .int x]) (n := 2) (Nat.le_of_ble_eq_true rfl)
  rw [lg_entry_eq]
  generalize (lg_sl ([.ref m0, .int x]) ++ List.replicate (2 - (lg_sl ([.ref m0, .int x])).length) Slot.unset).toArray = ls at hl ⊢
  have hl : lv_has ls 2 [(0, .ref m0), (1, .int x)] := hl
  have bT := hW.t.2
  have bE := hW.e.2
  have bV := hW.v.2
  refine lv_iload_n hx hb dX5_isInvoice_0 rfl (lv_at hl 1 rfl) ?_
  refine lv_iconst (v := 0) hx hb dX5_isInvoice_1 (by decide) ?_
  refine lv_aload_n hx hb dX5_isInvoice_2 rfl (lv_at hl 0 rfl) ?_
  refine tk_get hx hb hts inX5 hown hK hM hR.1 rfl 22 (by decide) (hts (.fieldLink RX5 79 "TicketForgeModel" "invoices" "I") (by decide +kernel)) (fun _ h9 => h9) rfl dX5_isInvoice_3 ?_
  rw [hW.v.1]
  refine lv_iconst (v := 1) hx hb dX5_isInvoice_6 (by decide) ?_
  refine lv_isub hx hb dX5_isInvoice_7 ?_
  refine tk_cSi (As := [.int x, .int 0, .int ((nI (nV M)) - 1)]) S0 (c_X5_in l A D ac _ x 0 ((nI (nV M)) - 1)) (va_cwS 3 hts gX5_isInvoice_X5_in rfl rfl rfl (by decide +kernel) ⟨Nat.le_of_ble_eq_true rfl, Nat.le_of_ble_eq_true rfl⟩) (tkJ.blind) (tkJ.at hM hK) rfl hl.1 rfl (Nat.le_of_ble_eq_true rfl) dX5_isInvoice_8 ⟨Nat.zero_le _, Nat.zero_le _⟩ (fun r_1 hr_1 => ?_)
  exact W.zret (v := r_1) hx hb hr (tkB_nar hr_1) (fun t9 h9 w9 => ⟨r_1, rfl, (by rw [← tkIn_n (by omega)]; exact hr_1), h9⟩) (fun q hq => absurd hq List.not_mem_nil) dX5_isInvoice_11
set_option maxHeartbeats 4000000 in
set_option maxRecDepth 100000 in
theorem c_X5_manyIn (l : Launch) (A : Nat → Prop) (D : va_G) (ac : Nat → ClassId) (G : TG) {m0 : Nat} {am : Nat → Nat} {th : Int32} {M : TS} (hR : PR ac m0 am th M G) (hW : W0 M) (x : Int32) : Met l yX5_manyIn wsX5_manyIn ({ frames := 0, cells := 0, slots := 0, locals := 60 } : Room) (va_Pc [.ref m0, .int x] (tkJ A D ac G)) (vp_Si (fun z => z = manyIn M x)) 0 0 (fun _ => False) := by
  refine Met.ofW (cc := cX5_manyIn) (maxL := 4) (ret := (some .int)) (by decide) rfl ?_
  intro p e s m args below meth c s₁ B hml hv
  obtain ⟨rfl, hM, hK⟩ := hv
  have hx := B.exec
  have hb := B.bytes
  have hr := B.returns
  have hts := atoms_spec (ws := wsX5_manyIn) B.pre
  have hown : s.vm.findClass RX5 = some m.cls := findClass_of_methodNamed B.named
  have hlocks := B.notSynchronized
  have S0 : CallFix p m c cX5_manyIn 4 s ([.ref m0, .int x] : List Value).toArray wsX5_manyIn RX5 := ⟨hx, hb, hml, hown, hts⟩
  have inX5 : ∀ w ∈ wsX50, w ∈ wsX5_manyIn := by decide +kernel
  have hl := lv_entry ([.ref m0, .int x]) (n := 4) (Nat.le_of_ble_eq_true rfl)
  rw [lg_entry_eq]
  generalize (lg_sl ([.ref m0, .int x]) ++ List.replicate (4 - (lg_sl ([.ref m0, .int x])).length) Slot.unset).toArray = ls at hl ⊢
  have hl : lv_has ls 4 [(0, .ref m0), (1, .int x)] := hl
  have bT := hW.t.2
  have bE := hW.e.2
  have bV := hW.v.2
  refine lv_iconst (v := 0) hx hb dX5_manyIn_0 (by decide) ?_
  refine lv_istore_n (lv' := [(2, .int 0), (0, .ref m0), (1, .int x)]) hx hb dX5_manyIn_1 rfl hl (by decide) rfl (fun ls hl => ?_)
  refine lv_iconst (v := 0) hx hb dX5_manyIn_2 (by decide) ?_
  refine lv_istore_n (lv' := [(3, .int 0), (2, .int 0), (0, .ref m0), (1, .int x)]) hx hb dX5_manyIn_3 rfl hl (by decide) rfl (fun ls hl => ?_)
  refine tk_f1 (Wf := W p l e _ s m _ below meth c _ _ _ _ _) (nT M) (fun i acc ls => lv_has ls 4 [(0, .ref m0), (1, .int x), (3, .int (nI i)), (2, .int acc)] ∧ acc = sumI (fun k => if M 4 k = x then 1 else 0) i) (fun i acc ls hi hinv ih => ?_) _ ls ⟨(lv_sub hl [2, 3, 0, 1] rfl), rfl⟩
  obtain ⟨hl, hinv⟩ := hinv
  refine lv_iload_n hx hb dX5_manyIn_4 rfl (lv_at hl 2 rfl) ?_
  refine lv_aload_n hx hb dX5_manyIn_5 rfl (lv_at hl 0 rfl) ?_
  refine tk_get hx hb hts inX5 hown hK hM hR.1 rfl 19 (by decide) (hts (.fieldLink RX5 70 "TicketForgeModel" "tasks" "I") (by decide +kernel)) (fun _ h9 => h9) rfl dX5_manyIn_6 ?_
  rw [hW.t.1]
  refine lv_icmp_ge (tgt := 36) hx hb dX5_manyIn_9 (by decide) (fun c_1 => ?_) (fun c_1 => ?_)
  · have hge := tk_ge (by omega) (by omega) c_1
    refine lv_iload_n hx hb dX5_manyIn_36 rfl (lv_at hl 3 rfl) ?_
    exact W.iret (v := acc) hx hb hr (fun t9 h9 w9 => ⟨acc, rfl, sumI_e hinv hi hge, h9⟩) (fun q hq => absurd hq List.not_mem_nil) dX5_manyIn_37
  · have hlt := tk_lt (by omega) (by omega) c_1
    refine lv_iload_n hx hb dX5_manyIn_12 rfl (lv_at hl 3 rfl) ?_
    refine lv_aload_n hx hb dX5_manyIn_13 rfl (lv_at hl 0 rfl) ?_
    refine tk_get hx hb hts inX5 hown hK hM hR.1 rfl 3 (by decide) (hts (.fieldLink RX5 19 "TicketForgeModel" "states" "[C") (by decide +kernel)) (fun _ h9 => h9) rfl dX5_manyIn_14 ?_
    refine lv_iload_n hx hb dX5_manyIn_17 rfl (lv_at hl 2 rfl) ?_
    refine tk_cald hx hb hK hM 0 hR.a3 rfl (vp_in_nI (by omega) (by decide)) dX5_manyIn_18 ?_
    rw [show (nI i).toNatClampNeg = i from nI_clamp (by omega)]
    refine lv_iload_n hx hb dX5_manyIn_19 rfl (lv_at hl 1 rfl) ?_
    refine lv_icmp_ne (tgt := 27) hx hb dX5_manyIn_20 (by decide) (fun c_2 => ?_) (fun c_2 => ?_)
    · skip
      refine lv_iconst (v := 0) hx hb dX5_manyIn_27 (by decide) ?_
      refine lv_iadd hx hb dX5_manyIn_28 ?_
      refine lv_istore_n (lv' := [(2, .int (acc + 0)), (0, .ref m0), (1, .int x), (3, .int (nI i))]) hx hb dX5_manyIn_29 rfl hl (by decide) rfl (fun ls hl => ?_)
      refine lv_iinc (v := (nI (i + 1))) (lv' := [(3, .int (nI (i + 1))), (2, .int (acc + 0)), (0, .ref m0), (1, .int x)]) hx hb dX5_manyIn_30 hl (k := 3) rfl (nI_1 i) (by decide) rfl (fun ls hl => ?_)
      refine lv_goto (tgt := 4) hx hb dX5_manyIn_33 (by decide) ?_
      exact ih _ ls (by omega) ⟨(lv_sub hl [2, 3, 0, 1] rfl), sumI_z hinv (if_neg c_2)⟩
    · skip
      refine lv_iconst (v := 1) hx hb dX5_manyIn_23 (by decide) ?_
      refine lv_goto (tgt := 28) hx hb dX5_manyIn_24 (by decide) ?_
      refine lv_iadd hx hb dX5_manyIn_28 ?_
      refine lv_istore_n (lv' := [(2, .int (acc + 1)), (0, .ref m0), (1, .int x), (3, .int (nI i))]) hx hb dX5_manyIn_29 rfl hl (by decide) rfl (fun ls hl => ?_)
      refine lv_iinc (v := (nI (i + 1))) (lv' := [(3, .int (nI (i + 1))), (2, .int (acc + 1)), (0, .ref m0), (1, .int x)]) hx hb dX5_manyIn_30 hl (k := 3) rfl (nI_1 i) (by decide) rfl (fun ls hl => ?_)
      refine lv_goto (tgt := 4) hx hb dX5_manyIn_33 (by decide) ?_
      exact ih _ ls (by omega) ⟨(lv_sub hl [2, 3, 0, 1] rfl), sumI_t hinv (if_pos c_2)⟩
set_option maxHeartbeats 4000000 in
set_option maxRecDepth 100000 in
theorem c_X5_blocks (l : Launch) (A : Nat → Prop) (D : va_G) (ac : Nat → ClassId) (G : TG) {m0 : Nat} {am : Nat → Nat} {th : Int32} {M : TS} (hR : PR ac m0 am th M G) (hW : W0 M) (i t : Nat) (hi : i < 16) (ht : t < 16) : Met l yX5_blocks wsX5_blocks ({ frames := 0, cells := 0, slots := 0, locals := 60 } : Room) (va_Pc [.ref m0, .int (nI i), .int (nI t)] (tkJ A D ac G)) (vp_Si (fun z => z = M 6 (16 * i + t))) 0 0 (fun _ => False) := by
  refine Met.ofW (cc := cX5_blocks) (maxL := 3) (ret := (some .boolean)) (by decide) rfl ?_
  intro p e s m args below meth c s₁ B hml hv
  obtain ⟨rfl, hM, hK⟩ := hv
  have hx := B.exec
  have hb := B.bytes
  have hr := B.returns
  have hts := atoms_spec (ws := wsX5_blocks) B.pre
  have hown : s.vm.findClass RX5 = some m.cls := findClass_of_methodNamed B.named
  have hlocks := B.notSynchronized
  have S0 : CallFix p m c cX5_blocks 3 s ([.ref m0, .int (nI i), .int (nI t)] : List Value).toArray wsX5_blocks RX5 := ⟨hx, hb, hml, hown, hts⟩
  have inX5 : ∀ w ∈ wsX50, w ∈ wsX5_blocks := by decide +kernel
  have hl := lv_entry ([.ref m0, .int (nI i), .int (nI t)]) (n := 3) (Nat.le_of_ble_eq_true rfl)
  rw [lg_entry_eq]
  generalize (lg_sl ([.ref m0, .int (nI i), .int (nI t)]) ++ List.replicate (3 - (lg_sl ([.ref m0, .int (nI i), .int (nI t)])).length) Slot.unset).toArray = ls at hl ⊢
  have hl : lv_has ls 3 [(0, .ref m0), (1, .int (nI i)), (2, .int (nI t))] := hl
  refine lv_aload_n hx hb dX5_blocks_0 rfl (lv_at hl 0 rfl) ?_
  refine tk_get hx hb hts inX5 hown hK hM hR.1 rfl 5 (by decide) (hts (.fieldLink RX5 26 "TicketForgeModel" "blocks" "[Z") (by decide +kernel)) (fun _ h9 => h9) rfl dX5_blocks_1 ?_
  refine lv_bipush (v := 16) hx hb dX5_blocks_4 (by decide) ?_
  refine lv_iload_n hx hb dX5_blocks_6 rfl (lv_at hl 1 rfl) ?_
  refine lv_imul hx hb dX5_blocks_7 ?_
  refine lv_iload_n hx hb dX5_blocks_8 rfl (lv_at hl 2 rfl) ?_
  refine lv_iadd hx hb dX5_blocks_9 ?_
  refine tk_zald hx hb hK hM 2 hR.a5 rfl (by rw [show (16 : Int32) * nI i + nI t = nI (16 * i + t) from by rw [show (16 : Int32) = nI 16 from rfl, pk_mul, nI_add]]; exact vp_in_nI (by omega) (by decide)) dX5_blocks_10 ?_
  rw [show ((16 : Int32) * nI i + nI t).toNatClampNeg = 16 * i + t from by rw [show (16 : Int32) = nI 16 from rfl, pk_mul, nI_add, nI_clamp (by omega)]]
  exact W.zret (v := (M 6 (16 * i + t))) hx hb hr (bool_nar (hW.b _)) (fun t9 h9 w9 => ⟨(M 6 (16 * i + t)), rfl, rfl, h9⟩) (fun q hq => absurd hq List.not_mem_nil) dX5_blocks_11
set_option maxHeartbeats 4000000 in
set_option maxRecDepth 100000 in
theorem c_X5_isFree (l : Launch) (A : Nat → Prop) (D : va_G) (ac : Nat → ClassId) (G : TG) {m0 : Nat} {am : Nat → Nat} {th : Int32} {M : TS} (hR : PR ac m0 am th M G) (hW : W0 M) (t : Nat) (ht : t < nT M) : Met l yX5_isFree wsX5_isFree ({ frames := 1, cells := 0, slots := 0, locals := 100 } : Room) (va_Pc [.ref m0, .int (nI t)] (tkJ A D ac G)) (vp_Si (fun z => tkB z (isFree M t))) 0 0 (fun _ => False) := by
  refine Met.ofW (cc := cX5_isFree) (maxL := 3) (ret := (some .boolean)) (by decide) rfl ?_
  intro p e s m args below meth c s₁ B hml hv
  obtain ⟨rfl, hM, hK⟩ := hv
  have hx := B.exec
  have hb := B.bytes
  have hr := B.returns
  have hts := atoms_spec (ws := wsX5_isFree) B.pre
  have hown : s.vm.findClass RX5 = some m.cls := findClass_of_methodNamed B.named
  have hlocks := B.notSynchronized
  have S0 : CallFix p m c cX5_isFree 3 s ([.ref m0, .int (nI t)] : List Value).toArray wsX5_isFree RX5 := ⟨hx, hb, hml, hown, hts⟩
  have inX5 : ∀ w ∈ wsX50, w ∈ wsX5_isFree := by decide +kernel
  have hl := lv_entry ([.ref m0, .int (nI t)]) (n := 3) (Nat.le_of_ble_eq_true rfl)
  rw [lg_entry_eq]
  generalize (lg_sl ([.ref m0, .int (nI t)]) ++ List.replicate (3 - (lg_sl ([.ref m0, .int (nI t)])).length) Slot.unset).toArray = ls at hl ⊢
  have hl : lv_has ls 3 [(0, .ref m0), (1, .int (nI t))] := hl
  have bT := hW.t.2
  have bE := hW.e.2
  have bV := hW.v.2
  refine lv_iconst (v := 0) hx hb dX5_isFree_0 (by decide) ?_
  refine lv_istore_n (lv' := [(2, .int 0), (0, .ref m0), (1, .int (nI t))]) hx hb dX5_isFree_1 rfl hl (by decide) rfl (fun ls hl => ?_)
  refine tk_f0 (Wf := W p l e _ s m _ below meth c _ _ _ _ _) (nT M) (fun i ls => lv_has ls 3 [(0, .ref m0), (1, .int (nI t)), (2, .int (nI i))] ∧ allB (fun k => decide (M 6 (16 * k + t) = 0) || decide (M 4 k = 100)) i = true) (fun i ls hi hinv ih => ?_)  ls ⟨(lv_sub hl [1, 2, 0] rfl), rfl⟩
  obtain ⟨hl, hinv⟩ := hinv
  refine lv_iload_n hx hb dX5_isFree_2 rfl (lv_at hl 2 rfl) ?_
  refine lv_aload_n hx hb dX5_isFree_3 rfl (lv_at hl 0 rfl) ?_
  refine tk_get hx hb hts inX5 hown hK hM hR.1 rfl 19 (by decide) (hts (.fieldLink RX5 70 "TicketForgeModel" "tasks" "I") (by decide +kernel)) (fun _ h9 => h9) rfl dX5_isFree_4 ?_
  rw [hW.t.1]
  refine lv_icmp_ge (tgt := 38) hx hb dX5_isFree_7 (by decide) (fun c_1 => ?_) (fun c_1 => ?_)
  · have hge := tk_ge (by omega) (by omega) c_1
    refine lv_iconst (v := 1) hx hb dX5_isFree_38 (by decide) ?_
    exact W.zret (v := 1) hx hb hr rfl (fun t9 h9 w9 => ⟨1, rfl, (tkB_1 (allB_e hinv hi hge)), h9⟩) (fun q hq => absurd hq List.not_mem_nil) dX5_isFree_39
  · have hlt := tk_lt (by omega) (by omega) c_1
    refine lv_aload_n hx hb dX5_isFree_10 rfl (lv_at hl 0 rfl) ?_
    refine lv_iload_n hx hb dX5_isFree_11 rfl (lv_at hl 2 rfl) ?_
    refine lv_iload_n hx hb dX5_isFree_12 rfl (lv_at hl 1 rfl) ?_
    refine tk_cVi (As := [.int (nI i), .int (nI t)]) S0 (c_X5_blocks l A D ac _ hR hW i t (by omega) (by omega) ) (cwV 2 hts gX5_isFree_X5_blocks rfl rfl rfl (by decide +kernel) ⟨Nat.le_of_ble_eq_true rfl, Nat.le_of_ble_eq_true rfl⟩) (tkJ.blind) (tkJ.at hM hK) (tk_recv hK hM hR.1 rfl) rfl hl.1 rfl (Nat.le_of_ble_eq_true rfl) dX5_isFree_13 ⟨Nat.zero_le _, Nat.zero_le _⟩ (fun r_2 hr_2 => ?_)
    refine lv_if_eq (tgt := 32) hx hb dX5_isFree_16 (by decide) (fun c_3 => ?_) (fun c_3 => ?_)
    · skip
      refine lv_iinc (v := (nI (i + 1))) (lv' := [(2, .int (nI (i + 1))), (0, .ref m0), (1, .int (nI t))]) hx hb dX5_isFree_32 hl (k := 2) rfl (nI_1 i) (by decide) rfl (fun ls hl => ?_)
      refine lv_goto (tgt := 2) hx hb dX5_isFree_35 (by decide) ?_
      exact ih  ls (by omega) ⟨(lv_sub hl [1, 2, 0] rfl), allB_t hinv (by simp [hr_2 ▸ c_3])⟩
    · skip
      refine lv_aload_n hx hb dX5_isFree_19 rfl (lv_at hl 0 rfl) ?_
      refine tk_get hx hb hts inX5 hown hK hM hR.1 rfl 3 (by decide) (hts (.fieldLink RX5 19 "TicketForgeModel" "states" "[C") (by decide +kernel)) (fun _ h9 => h9) rfl dX5_isFree_20 ?_
      refine lv_iload_n hx hb dX5_isFree_23 rfl (lv_at hl 2 rfl) ?_
      refine tk_cald hx hb hK hM 0 hR.a3 rfl (vp_in_nI (by omega) (by decide)) dX5_isFree_24 ?_
      rw [show (nI i).toNatClampNeg = i from nI_clamp (by omega)]
      refine lv_bipush (v := 100) hx hb dX5_isFree_25 (by decide) ?_
      refine lv_icmp_eq (tgt := 32) hx hb dX5_isFree_27 (by decide) (fun c_4 => ?_) (fun c_4 => ?_)
      · skip
        refine lv_iinc (v := (nI (i + 1))) (lv' := [(2, .int (nI (i + 1))), (0, .ref m0), (1, .int (nI t))]) hx hb dX5_isFree_32 hl (k := 2) rfl (nI_1 i) (by decide) rfl (fun ls hl => ?_)
        refine lv_goto (tgt := 2) hx hb dX5_isFree_35 (by decide) ?_
        exact ih  ls (by omega) ⟨(lv_sub hl [1, 2, 0] rfl), allB_t hinv (by simp [c_4])⟩
      · skip
        refine lv_iconst (v := 0) hx hb dX5_isFree_30 (by decide) ?_
        exact W.zret (v := 0) hx hb hr rfl (fun t9 h9 w9 => ⟨0, rfl, (tkB_0 (allB_f (i := i) (by rw [hr_2] at c_3; simp [c_3, c_4]) hlt)), h9⟩) (fun q hq => absurd hq List.not_mem_nil) dX5_isFree_31
set_option maxHeartbeats 4000000 in
set_option maxRecDepth 100000 in
theorem c_X5_hasDoneChildren (l : Launch) (A : Nat → Prop) (D : va_G) (ac : Nat → ClassId) (G : TG) {m0 : Nat} {am : Nat → Nat} {th : Int32} {M : TS} (hR : PR ac m0 am th M G) (hW : W0 M) (t : Nat) (ht : t < nT M) : Met l yX5_hasDoneChildren wsX5_hasDoneChildren ({ frames := 0, cells := 0, slots := 0, locals := 60 } : Room) (va_Pc [.ref m0, .int (nI t)] (tkJ A D ac G)) (vp_Si (fun z => tkB z (hasDoneCh M t))) 0 0 (fun _ => False) := by
  refine Met.ofW (cc := cX5_hasDoneChildren) (maxL := 3) (ret := (some .boolean)) (by decide) rfl ?_
  intro p e s m args below meth c s₁ B hml hv
  obtain ⟨rfl, hM, hK⟩ := hv
  have hx := B.exec
  have hb := B.bytes
  have hr := B.returns
  have hts := atoms_spec (ws := wsX5_hasDoneChildren) B.pre
  have hown : s.vm.findClass RX5 = some m.cls := findClass_of_methodNamed B.named
  have hlocks := B.notSynchronized
  have S0 : CallFix p m c cX5_hasDoneChildren 3 s ([.ref m0, .int (nI t)] : List Value).toArray wsX5_hasDoneChildren RX5 := ⟨hx, hb, hml, hown, hts⟩
  have inX5 : ∀ w ∈ wsX50, w ∈ wsX5_hasDoneChildren := by decide +kernel
  have hl := lv_entry ([.ref m0, .int (nI t)]) (n := 3) (Nat.le_of_ble_eq_true rfl)
  rw [lg_entry_eq]
  generalize (lg_sl ([.ref m0, .int (nI t)]) ++ List.replicate (3 - (lg_sl ([.ref m0, .int (nI t)])).length) Slot.unset).toArray = ls at hl ⊢
  have hl : lv_has ls 3 [(0, .ref m0), (1, .int (nI t))] := hl
  have bT := hW.t.2
  have bE := hW.e.2
  have bV := hW.v.2
  refine lv_iconst (v := 0) hx hb dX5_hasDoneChildren_0 (by decide) ?_
  refine lv_istore_n (lv' := [(2, .int 0), (0, .ref m0), (1, .int (nI t))]) hx hb dX5_hasDoneChildren_1 rfl hl (by decide) rfl (fun ls hl => ?_)
  refine tk_f0 (Wf := W p l e _ s m _ below meth c _ _ _ _ _) (nT M) (fun i ls => lv_has ls 3 [(0, .ref m0), (1, .int (nI t)), (2, .int (nI i))] ∧ allB (fun k => !decide (M 1 k = nI t) || decide (M 4 k = 100)) i = true) (fun i ls hi hinv ih => ?_)  ls ⟨(lv_sub hl [1, 2, 0] rfl), rfl⟩
  obtain ⟨hl, hinv⟩ := hinv
  refine lv_iload_n hx hb dX5_hasDoneChildren_2 rfl (lv_at hl 2 rfl) ?_
  refine lv_aload_n hx hb dX5_hasDoneChildren_3 rfl (lv_at hl 0 rfl) ?_
  refine tk_get hx hb hts inX5 hown hK hM hR.1 rfl 19 (by decide) (hts (.fieldLink RX5 70 "TicketForgeModel" "tasks" "I") (by decide +kernel)) (fun _ h9 => h9) rfl dX5_hasDoneChildren_4 ?_
  rw [hW.t.1]
  refine lv_icmp_ge (tgt := 39) hx hb dX5_hasDoneChildren_7 (by decide) (fun c_1 => ?_) (fun c_1 => ?_)
  · have hge := tk_ge (by omega) (by omega) c_1
    refine lv_iconst (v := 1) hx hb dX5_hasDoneChildren_39 (by decide) ?_
    exact W.zret (v := 1) hx hb hr rfl (fun t9 h9 w9 => ⟨1, rfl, (tkB_1 (allB_e hinv hi hge)), h9⟩) (fun q hq => absurd hq List.not_mem_nil) dX5_hasDoneChildren_40
  · have hlt := tk_lt (by omega) (by omega) c_1
    refine lv_aload_n hx hb dX5_hasDoneChildren_10 rfl (lv_at hl 0 rfl) ?_
    refine tk_get hx hb hts inX5 hown hK hM hR.1 rfl 0 (by decide) (hts (.fieldLink RX5 7 "TicketForgeModel" "parents" "[I") (by decide +kernel)) (fun _ h9 => h9) rfl dX5_hasDoneChildren_11 ?_
    refine lv_iload_n hx hb dX5_hasDoneChildren_14 rfl (lv_at hl 2 rfl) ?_
    refine tk_iald hx hb hK hM 1 hR.a0 rfl (vp_in_nI (by omega) (by decide)) dX5_hasDoneChildren_15 ?_
    rw [show (nI i).toNatClampNeg = i from nI_clamp (by omega)]
    refine lv_iload_n hx hb dX5_hasDoneChildren_16 rfl (lv_at hl 1 rfl) ?_
    refine lv_icmp_ne (tgt := 33) hx hb dX5_hasDoneChildren_17 (by decide) (fun c_2 => ?_) (fun c_2 => ?_)
    · skip
      refine lv_iinc (v := (nI (i + 1))) (lv' := [(2, .int (nI (i + 1))), (0, .ref m0), (1, .int (nI t))]) hx hb dX5_hasDoneChildren_33 hl (k := 2) rfl (nI_1 i) (by decide) rfl (fun ls hl => ?_)
      refine lv_goto (tgt := 2) hx hb dX5_hasDoneChildren_36 (by decide) ?_
      exact ih  ls (by omega) ⟨(lv_sub hl [1, 2, 0] rfl), allB_t hinv (by simp [c_2])⟩
    · skip
      refine lv_aload_n hx hb dX5_hasDoneChildren_20 rfl (lv_at hl 0 rfl) ?_
      refine tk_get hx hb hts inX5 hown hK hM hR.1 rfl 3 (by decide) (hts (.fieldLink RX5 19 "TicketForgeModel" "states" "[C") (by decide +kernel)) (fun _ h9 => h9) rfl dX5_hasDoneChildren_21 ?_
      refine lv_iload_n hx hb dX5_hasDoneChildren_24 rfl (lv_at hl 2 rfl) ?_
      refine tk_cald hx hb hK hM 0 hR.a3 rfl (vp_in_nI (by omega) (by decide)) dX5_hasDoneChildren_25 ?_
      rw [show (nI i).toNatClampNeg = i from nI_clamp (by omega)]
      refine lv_bipush (v := 100) hx hb dX5_hasDoneChildren_26 (by decide) ?_
      refine lv_icmp_eq (tgt := 33) hx hb dX5_hasDoneChildren_28 (by decide) (fun c_3 => ?_) (fun c_3 => ?_)
      · skip
        refine lv_iinc (v := (nI (i + 1))) (lv' := [(2, .int (nI (i + 1))), (0, .ref m0), (1, .int (nI t))]) hx hb dX5_hasDoneChildren_33 hl (k := 2) rfl (nI_1 i) (by decide) rfl (fun ls hl => ?_)
        refine lv_goto (tgt := 2) hx hb dX5_hasDoneChildren_36 (by decide) ?_
        exact ih  ls (by omega) ⟨(lv_sub hl [1, 2, 0] rfl), allB_t hinv (by simp [c_3])⟩
      · skip
        refine lv_iconst (v := 0) hx hb dX5_hasDoneChildren_31 (by decide) ?_
        exact W.zret (v := 0) hx hb hr rfl (fun t9 h9 w9 => ⟨0, rfl, (tkB_0 (allB_f (i := i) (by simp [c_2, c_3]) hlt)), h9⟩) (fun q hq => absurd hq List.not_mem_nil) dX5_hasDoneChildren_32
set_option maxHeartbeats 4000000 in
set_option maxRecDepth 100000 in
theorem c_X5_isIn (l : Launch) (A : Nat → Prop) (D : va_G) (ac : Nat → ClassId) (G : TG) {m0 : Nat} {am : Nat → Nat} {th : Int32} {M : TS} (hR : PR ac m0 am th M G) (hW : W0 M) (t r : Nat) (ht : t < nT M) (hr0 : r < nT M) : Met l yX5_isIn wsX5_isIn ({ frames := 0, cells := 0, slots := 0, locals := 60 } : Room) (va_Pc [.ref m0, .int (nI t), .int (nI r)] (tkJ A D ac G)) (vp_Si (fun z => tkB z (isIn M t r))) 0 0 (fun _ => False) := by
  refine Met.ofW (cc := cX5_isIn) (maxL := 4) (ret := (some .boolean)) (by decide) rfl ?_
  intro p e s m args below meth c s₁ B hml hv
  obtain ⟨rfl, hM, hK⟩ := hv
  have hx := B.exec
  have hb := B.bytes
  have hr := B.returns
  have hts := atoms_spec (ws := wsX5_isIn) B.pre
  have hown : s.vm.findClass RX5 = some m.cls := findClass_of_methodNamed B.named
  have hlocks := B.notSynchronized
  have S0 : CallFix p m c cX5_isIn 4 s ([.ref m0, .int (nI t), .int (nI r)] : List Value).toArray wsX5_isIn RX5 := ⟨hx, hb, hml, hown, hts⟩
  have inX5 : ∀ w ∈ wsX50, w ∈ wsX5_isIn := by decide +kernel
  have hl := lv_entry ([.ref m0, .int (nI t), .int (nI r)]) (n := 4) (Nat.le_of_ble_eq_true rfl)
  rw [lg_entry_eq]
  generalize (lg_sl ([.ref m0, .int (nI t), .int (nI r)]) ++ List.replicate (4 - (lg_sl ([.ref m0, .int (nI t), .int (nI r)])).length) Slot.unset).toArray = ls at hl ⊢
  have hl : lv_has ls 4 [(0, .ref m0), (1, .int (nI t)), (2, .int (nI r))] := hl
  have bT := hW.t.2
  have bE := hW.e.2
  have bV := hW.v.2
  refine lv_iload_n hx hb dX5_isIn_0 rfl (lv_at hl 1 rfl) ?_
  refine lv_istore_n (lv' := [(3, .int (nI t)), (0, .ref m0), (1, .int (nI t)), (2, .int (nI r))]) hx hb dX5_isIn_1 rfl hl (by decide) rfl (fun ls hl => ?_)
  refine tk_d1 (Wf := W p l e _ s m _ below meth c _ _ _ _ _) (fun q (x : Int32) ls => lv_has ls 4 [(0, .ref m0), (1, .int (nI t)), (2, .int (nI r)), (3, .int x)] ∧ ((x < 0 ∧ isIn M t r = false) ∨ ∃ d : Nat, q = d + 1 ∧ d < nT M ∧ x = nI d ∧ isIn M t r = isIn M d r)) (fun q x ls hinv ih => ?_) (t + 1) _ ls ⟨(lv_sub hl [1, 2, 3, 0] rfl), Or.inr ⟨t, rfl, ht, rfl, rfl⟩⟩
  obtain ⟨hl, hinv⟩ := hinv
  refine lv_iload_n hx hb dX5_isIn_2 rfl (lv_at hl 3 rfl) ?_
  refine lv_if_lt (tgt := 21) hx hb dX5_isIn_3 (by decide) (fun c_1 => ?_) (fun c_1 => ?_)
  · rcases hinv with ⟨-, hno⟩ | ⟨d, -, hd, rfl, -⟩
    rotate_left
    · exact absurd c_1 (nI_pos (by omega))
    refine lv_iload_n hx hb dX5_isIn_21 rfl (lv_at hl 3 rfl) ?_
    refine lv_iload_n hx hb dX5_isIn_22 rfl (lv_at hl 2 rfl) ?_
    refine lv_icmp_ne (tgt := 30) hx hb dX5_isIn_23 (by decide) (fun c_2 => ?_) (fun c_2 => absurd c_2 (fun h => nI_pos (n := r) (by omega) (h ▸ c_1)))
    refine lv_iconst (v := 0) hx hb dX5_isIn_30 (by decide) ?_
    exact W.zret (v := 0) hx hb hr rfl (fun t9 h9 w9 => ⟨0, rfl, (tkB_0 hno), h9⟩) (fun q hq => absurd hq List.not_mem_nil) dX5_isIn_31
  · rcases hinv with ⟨hneg, -⟩ | ⟨d, rfl, hd, rfl, heq⟩
    · exact absurd hneg c_1
    refine lv_iload_n hx hb dX5_isIn_6 rfl (lv_at hl 3 rfl) ?_
    refine lv_iload_n hx hb dX5_isIn_7 rfl (lv_at hl 2 rfl) ?_
    refine lv_icmp_eq (tgt := 21) hx hb dX5_isIn_8 (by decide) (fun c_3 => ?_) (fun c_3 => ?_)
    · skip
      refine lv_iload_n hx hb dX5_isIn_21 rfl (lv_at hl 3 rfl) ?_
      refine lv_iload_n hx hb dX5_isIn_22 rfl (lv_at hl 2 rfl) ?_
      refine lv_icmp_ne (tgt := 30) hx hb dX5_isIn_23 (by decide) (fun c_4 => absurd c_3 c_4) (fun c_4 => ?_)
      refine lv_iconst (v := 1) hx hb dX5_isIn_26 (by decide) ?_
      refine lv_goto (tgt := 31) hx hb dX5_isIn_27 (by decide) ?_
      exact W.zret (v := 1) hx hb hr rfl (fun t9 h9 w9 => ⟨1, rfl, (tkB_1 (by rw [heq, tk_ei (by omega) (by omega) c_3]; exact isIn_self M r)), h9⟩) (fun q hq => absurd hq List.not_mem_nil) dX5_isIn_31
    · have hne := tk_ni (by omega) (by omega) c_3
      refine lv_aload_n hx hb dX5_isIn_11 rfl (lv_at hl 0 rfl) ?_
      refine tk_get hx hb hts inX5 hown hK hM hR.1 rfl 0 (by decide) (hts (.fieldLink RX5 7 "TicketForgeModel" "parents" "[I") (by decide +kernel)) (fun _ h9 => h9) rfl dX5_isIn_12 ?_
      refine lv_iload_n hx hb dX5_isIn_15 rfl (lv_at hl 3 rfl) ?_
      refine tk_iald hx hb hK hM 1 hR.a0 rfl (vp_in_nI (by omega) (by decide)) dX5_isIn_16 ?_
      rw [show (nI d).toNatClampNeg = d from nI_clamp (by omega)]
      refine lv_istore_n (lv' := [(3, .int ((M 1) d)), (0, .ref m0), (1, .int (nI t)), (2, .int (nI r))]) hx hb dX5_isIn_17 rfl hl (by decide) rfl (fun ls hl => ?_)
      refine lv_goto (tgt := 2) hx hb dX5_isIn_18 (by decide) ?_
      rcases hW.p d hd with hp | ⟨u, hu, eu⟩
      · exact ih 0 _ ls (by omega) ⟨(lv_sub hl [1, 2, 3, 0] rfl), Or.inl ⟨hp, by rw [heq]; exact isIn_top hne hp⟩⟩
      · exact ih (u + 1) _ ls (by omega) ⟨(lv_sub hl [1, 2, 3, 0] rfl), Or.inr ⟨u, rfl, by omega, eu, by rw [heq]; exact isIn_up (by omega) hW.p hd hne hu eu⟩⟩
set_option maxHeartbeats 4000000 in
set_option maxRecDepth 100000 in
theorem c_X5_hoursIn (l : Launch) (A : Nat → Prop) (D : va_G) (ac : Nat → ClassId) (G : TG) {m0 : Nat} {am : Nat → Nat} {th : Int32} {M : TS} (hR : PR ac m0 am th M G) (hW : W0 M) (r : Nat) (hr0 : r < nT M) : Met l yX5_hoursIn wsX5_hoursIn ({ frames := 1, cells := 0, slots := 0, locals := 100 } : Room) (va_Pc [.ref m0, .int (nI r)] (tkJ A D ac G)) (vp_Si (fun z => z = hoursIn M r)) 0 0 (fun _ => False) := by
  refine Met.ofW (cc := cX5_hoursIn) (maxL := 4) (ret := (some .int)) (by decide) rfl ?_
  intro p e s m args below meth c s₁ B hml hv
  obtain ⟨rfl, hM, hK⟩ := hv
  have hx := B.exec
  have hb := B.bytes
  have hr := B.returns
  have hts := atoms_spec (ws := wsX5_hoursIn) B.pre
  have hown : s.vm.findClass RX5 = some m.cls := findClass_of_methodNamed B.named
  have hlocks := B.notSynchronized
  have S0 : CallFix p m c cX5_hoursIn 4 s ([.ref m0, .int (nI r)] : List Value).toArray wsX5_hoursIn RX5 := ⟨hx, hb, hml, hown, hts⟩
  have inX5 : ∀ w ∈ wsX50, w ∈ wsX5_hoursIn := by decide +kernel
  have hl := lv_entry ([.ref m0, .int (nI r)]) (n := 4) (Nat.le_of_ble_eq_true rfl)
  rw [lg_entry_eq]
  generalize (lg_sl ([.ref m0, .int (nI r)]) ++ List.replicate (4 - (lg_sl ([.ref m0, .int (nI r)])).length) Slot.unset).toArray = ls at hl ⊢
  have hl : lv_has ls 4 [(0, .ref m0), (1, .int (nI r))] := hl
  have bT := hW.t.2
  have bE := hW.e.2
  have bV := hW.v.2
  refine lv_iconst (v := 0) hx hb dX5_hoursIn_0 (by decide) ?_
  refine lv_istore_n (lv' := [(2, .int 0), (0, .ref m0), (1, .int (nI r))]) hx hb dX5_hoursIn_1 rfl hl (by decide) rfl (fun ls hl => ?_)
  refine lv_iconst (v := 0) hx hb dX5_hoursIn_2 (by decide) ?_
  refine lv_istore_n (lv' := [(3, .int 0), (2, .int 0), (0, .ref m0), (1, .int (nI r))]) hx hb dX5_hoursIn_3 rfl hl (by decide) rfl (fun ls hl => ?_)
  refine tk_f1 (Wf := W p l e _ s m _ below meth c _ _ _ _ _) (nE M) (fun i acc ls => lv_has ls 4 [(0, .ref m0), (1, .int (nI r)), (3, .int (nI i)), (2, .int acc)] ∧ acc = sumI (fun k => if isIn M (M 9 k).toNatClampNeg r = true then M 12 k else 0) i) (fun i acc ls hi hinv ih => ?_) _ ls ⟨(lv_sub hl [2, 3, 0, 1] rfl), rfl⟩
  obtain ⟨hl, hinv⟩ := hinv
  refine lv_iload_n hx hb dX5_hoursIn_4 rfl (lv_at hl 2 rfl) ?_
  refine lv_aload_n hx hb dX5_hoursIn_5 rfl (lv_at hl 0 rfl) ?_
  refine tk_get hx hb hts inX5 hown hK hM hR.1 rfl 21 (by decide) (hts (.fieldLink RX5 76 "TicketForgeModel" "entries" "I") (by decide +kernel)) (fun _ h9 => h9) rfl dX5_hoursIn_6 ?_
  rw [hW.e.1]
  refine lv_icmp_ge (tgt := 45) hx hb dX5_hoursIn_9 (by decide) (fun c_1 => ?_) (fun c_1 => ?_)
  · have hge := tk_ge (by omega) (by omega) c_1
    refine lv_iload_n hx hb dX5_hoursIn_45 rfl (lv_at hl 3 rfl) ?_
    exact W.iret (v := acc) hx hb hr (fun t9 h9 w9 => ⟨acc, rfl, sumI_e hinv hi hge, h9⟩) (fun q hq => absurd hq List.not_mem_nil) dX5_hoursIn_46
  · have hlt := tk_lt (by omega) (by omega) c_1
    refine lv_iload_n hx hb dX5_hoursIn_12 rfl (lv_at hl 3 rfl) ?_
    refine lv_aload_n hx hb dX5_hoursIn_13 rfl (lv_at hl 0 rfl) ?_
    refine lv_aload_n hx hb dX5_hoursIn_14 rfl (lv_at hl 0 rfl) ?_
    refine tk_get hx hb hts inX5 hown hK hM hR.1 rfl 8 (by decide) (hts (.fieldLink RX5 36 "TicketForgeModel" "tasksOf" "[I") (by decide +kernel)) (fun _ h9 => h9) rfl dX5_hoursIn_15 ?_
    refine lv_iload_n hx hb dX5_hoursIn_18 rfl (lv_at hl 2 rfl) ?_
    refine tk_iald hx hb hK hM 1 hR.a8 rfl (vp_in_nI (by omega) (by decide)) dX5_hoursIn_19 ?_
    rw [show (nI i).toNatClampNeg = i from nI_clamp (by omega)]
    obtain ⟨t_2, ht_2, et_2⟩ := hW.et (k := i) (by omega)
    rw [et_2]
    refine lv_iload_n hx hb dX5_hoursIn_20 rfl (lv_at hl 1 rfl) ?_
    refine tk_cVi (As := [.int (nI t_2), .int (nI r)]) S0 (c_X5_isIn l A D ac _ hR hW t_2 r (by omega) (by omega) ) (cwV 2 hts gX5_hoursIn_X5_isIn rfl rfl rfl (by decide +kernel) ⟨Nat.le_of_ble_eq_true rfl, Nat.le_of_ble_eq_true rfl⟩) (tkJ.blind) (tkJ.at hM hK) (tk_recv hK hM hR.1 rfl) rfl hl.1 rfl (Nat.le_of_ble_eq_true rfl) dX5_hoursIn_21 ⟨Nat.zero_le _, Nat.zero_le _⟩ (fun r_3 hr_3 => ?_)
    rcases hr_3 with ⟨rfl, hr_3⟩ | ⟨rfl, hr_3⟩
    · skip
      refine lv_if_eq (tgt := 36) hx hb dX5_hoursIn_24 (by decide) (fun c_4 => absurd c_4 (by decide)) (fun c_4 => ?_)
      refine lv_aload_n hx hb dX5_hoursIn_27 rfl (lv_at hl 0 rfl) ?_
      refine tk_get hx hb hts inX5 hown hK hM hR.1 rfl 11 (by decide) (hts (.fieldLink RX5 45 "TicketForgeModel" "hoursOf" "[I") (by decide +kernel)) (fun _ h9 => h9) rfl dX5_hoursIn_28 ?_
      refine lv_iload_n hx hb dX5_hoursIn_31 rfl (lv_at hl 2 rfl) ?_
      refine tk_iald hx hb hK hM 1 hR.a11 rfl (vp_in_nI (by omega) (by decide)) dX5_hoursIn_32 ?_
      rw [show (nI i).toNatClampNeg = i from nI_clamp (by omega)]
      refine lv_goto (tgt := 37) hx hb dX5_hoursIn_33 (by decide) ?_
      refine lv_iadd hx hb dX5_hoursIn_37 ?_
      refine lv_istore_n (lv' := [(2, .int (acc + ((M 12) i))), (0, .ref m0), (1, .int (nI r)), (3, .int (nI i))]) hx hb dX5_hoursIn_38 rfl hl (by decide) rfl (fun ls hl => ?_)
      refine lv_iinc (v := (nI (i + 1))) (lv' := [(3, .int (nI (i + 1))), (2, .int (acc + ((M 12) i))), (0, .ref m0), (1, .int (nI r))]) hx hb dX5_hoursIn_39 hl (k := 3) rfl (nI_1 i) (by decide) rfl (fun ls hl => ?_)
      refine lv_goto (tgt := 4) hx hb dX5_hoursIn_42 (by decide) ?_
      exact ih _ ls (by omega) ⟨(lv_sub hl [2, 3, 0, 1] rfl), sumI_t hinv (if_pos (by rw [et_2, nI_clamp (by omega)]; exact hr_3))⟩
    · skip
      refine lv_if_eq (tgt := 36) hx hb dX5_hoursIn_24 (by decide) (fun c_5 => ?_) (fun c_5 => absurd (by decide) c_5)
      refine lv_iconst (v := 0) hx hb dX5_hoursIn_36 (by decide) ?_
      refine lv_iadd hx hb dX5_hoursIn_37 ?_
      refine lv_istore_n (lv' := [(2, .int (acc + 0)), (0, .ref m0), (1, .int (nI r)), (3, .int (nI i))]) hx hb dX5_hoursIn_38 rfl hl (by decide) rfl (fun ls hl => ?_)
      refine lv_iinc (v := (nI (i + 1))) (lv' := [(3, .int (nI (i + 1))), (2, .int (acc + 0)), (0, .ref m0), (1, .int (nI r))]) hx hb dX5_hoursIn_39 hl (k := 3) rfl (nI_1 i) (by decide) rfl (fun ls hl => ?_)
      refine lv_goto (tgt := 4) hx hb dX5_hoursIn_42 (by decide) ?_
      exact ih _ ls (by omega) ⟨(lv_sub hl [2, 3, 0, 1] rfl), sumI_z hinv (if_neg (by rw [et_2, nI_clamp (by omega), hr_3]; exact Bool.false_ne_true))⟩
set_option maxHeartbeats 4000000 in
set_option maxRecDepth 100000 in
theorem c_X5_wasBilled (l : Launch) (A : Nat → Prop) (D : va_G) (ac : Nat → ClassId) (G : TG) {m0 : Nat} {am : Nat → Nat} {th : Int32} {M : TS} (hR : PR ac m0 am th M G) (hW : W0 M) (k : Nat) (hk : k < nE M) : Met l yX5_wasBilled wsX5_wasBilled ({ frames := 0, cells := 0, slots := 0, locals := 60 } : Room) (va_Pc [.ref m0, .int (nI k)] (tkJ A D ac G)) (vp_Si (fun z => tkB z (billed M k))) 0 0 (fun _ => False) := by
  refine Met.ofW (cc := cX5_wasBilled) (maxL := 2) (ret := (some .boolean)) (by decide) rfl ?_
  intro p e s m args below meth c s₁ B hml hv
  obtain ⟨rfl, hM, hK⟩ := hv
  have hx := B.exec
  have hb := B.bytes
  have hr := B.returns
  have hts := atoms_spec (ws := wsX5_wasBilled) B.pre
  have hown : s.vm.findClass RX5 = some m.cls := findClass_of_methodNamed B.named
  have hlocks := B.notSynchronized
  have S0 : CallFix p m c cX5_wasBilled 2 s ([.ref m0, .int (nI k)] : List Value).toArray wsX5_wasBilled RX5 := ⟨hx, hb, hml, hown, hts⟩
  have inX5 : ∀ w ∈ wsX50, w ∈ wsX5_wasBilled := by decide +kernel
  have hl := lv_entry ([.ref m0, .int (nI k)]) (n := 2) (Nat.le_of_ble_eq_true rfl)
  rw [lg_entry_eq]
  generalize (lg_sl ([.ref m0, .int (nI k)]) ++ List.replicate (2 - (lg_sl ([.ref m0, .int (nI k)])).length) Slot.unset).toArray = ls at hl ⊢
  have hl : lv_has ls 2 [(0, .ref m0), (1, .int (nI k))] := hl
  have bT := hW.t.2
  have bE := hW.e.2
  have bV := hW.v.2
  refine lv_aload_n hx hb dX5_wasBilled_0 rfl (lv_at hl 0 rfl) ?_
  refine tk_get hx hb hts inX5 hown hK hM hR.1 rfl 4 (by decide) (hts (.fieldLink RX5 23 "TicketForgeModel" "entryStates" "[C") (by decide +kernel)) (fun _ h9 => h9) rfl dX5_wasBilled_1 ?_
  refine lv_iload_n hx hb dX5_wasBilled_4 rfl (lv_at hl 1 rfl) ?_
  refine tk_cald hx hb hK hM 0 hR.a4 rfl (vp_in_nI (by omega) (by decide)) dX5_wasBilled_5 ?_
  rw [show (nI k).toNatClampNeg = k from nI_clamp (by omega)]
  refine lv_bipush (v := 98) hx hb dX5_wasBilled_6 (by decide) ?_
  refine lv_icmp_eq (tgt := 22) hx hb dX5_wasBilled_8 (by decide) (fun c_1 => ?_) (fun c_1 => ?_)
  · skip
    refine lv_iconst (v := 1) hx hb dX5_wasBilled_22 (by decide) ?_
    refine lv_goto (tgt := 27) hx hb dX5_wasBilled_23 (by decide) ?_
    exact W.zret (v := 1) hx hb hr rfl (fun t9 h9 w9 => ⟨1, rfl, (tkB_1 (by simp [billed, c_1])), h9⟩) (fun q hq => absurd hq List.not_mem_nil) dX5_wasBilled_27
  · skip
    refine lv_aload_n hx hb dX5_wasBilled_11 rfl (lv_at hl 0 rfl) ?_
    refine tk_get hx hb hts inX5 hown hK hM hR.1 rfl 4 (by decide) (hts (.fieldLink RX5 23 "TicketForgeModel" "entryStates" "[C") (by decide +kernel)) (fun _ h9 => h9) rfl dX5_wasBilled_12 ?_
    refine lv_iload_n hx hb dX5_wasBilled_15 rfl (lv_at hl 1 rfl) ?_
    refine tk_cald hx hb hK hM 0 hR.a4 rfl (vp_in_nI (by omega) (by decide)) dX5_wasBilled_16 ?_
    rw [show (nI k).toNatClampNeg = k from nI_clamp (by omega)]
    refine lv_bipush (v := 99) hx hb dX5_wasBilled_17 (by decide) ?_
    refine lv_icmp_ne (tgt := 26) hx hb dX5_wasBilled_19 (by decide) (fun c_2 => ?_) (fun c_2 => ?_)
    · skip
      refine lv_iconst (v := 0) hx hb dX5_wasBilled_26 (by decide) ?_
      exact W.zret (v := 0) hx hb hr rfl (fun t9 h9 w9 => ⟨0, rfl, (tkB_0 (by simp [billed, c_1, c_2])), h9⟩) (fun q hq => absurd hq List.not_mem_nil) dX5_wasBilled_27
    · skip
      refine lv_iconst (v := 1) hx hb dX5_wasBilled_22 (by decide) ?_
      refine lv_goto (tgt := 27) hx hb dX5_wasBilled_23 (by decide) ?_
      exact W.zret (v := 1) hx hb hr rfl (fun t9 h9 w9 => ⟨1, rfl, (tkB_1 (by simp [billed, c_2])), h9⟩) (fun q hq => absurd hq List.not_mem_nil) dX5_wasBilled_27
set_option maxHeartbeats 4000000 in
set_option maxRecDepth 100000 in
theorem c_X5_wrongBilled (l : Launch) (A : Nat → Prop) (D : va_G) (ac : Nat → ClassId) (G : TG) {m0 : Nat} {am : Nat → Nat} {th : Int32} {M : TS} (hR : PR ac m0 am th M G) (hW : W0 M) (x : Int32) : Met l yX5_wrongBilled wsX5_wrongBilled ({ frames := 2, cells := 0, slots := 0, locals := 140 } : Room) (va_Pc [.ref m0, .int x] (tkJ A D ac G)) (vp_Si (fun z => z = wrongB M x)) 0 0 (fun _ => False) := by
  refine Met.ofW (cc := cX5_wrongBilled) (maxL := 2) (ret := (some .int)) (by decide) rfl ?_
  intro p e s m args below meth c s₁ B hml hv
  obtain ⟨rfl, hM, hK⟩ := hv
  have hx := B.exec
  have hb := B.bytes
  have hr := B.returns
  have hts := atoms_spec (ws := wsX5_wrongBilled) B.pre
  have hown : s.vm.findClass RX5 = some m.cls := findClass_of_methodNamed B.named
  have hlocks := B.notSynchronized
  have S0 : CallFix p m c cX5_wrongBilled 2 s ([.ref m0, .int x] : List Value).toArray wsX5_wrongBilled RX5 := ⟨hx, hb, hml, hown, hts⟩
  have inX5 : ∀ w ∈ wsX50, w ∈ wsX5_wrongBilled := by decide +kernel
  have hl := lv_entry ([.ref m0, .int x]) (n := 2) (Nat.le_of_ble_eq_true rfl)
  rw [lg_entry_eq]
  generalize (lg_sl ([.ref m0, .int x]) ++ List.replicate (2 - (lg_sl ([.ref m0, .int x])).length) Slot.unset).toArray = ls at hl ⊢
  have hl : lv_has ls 2 [(0, .ref m0), (1, .int x)] := hl
  have bT := hW.t.2
  have bE := hW.e.2
  have bV := hW.v.2
  refine lv_aload_n hx hb dX5_wrongBilled_0 rfl (lv_at hl 0 rfl) ?_
  refine lv_iload_n hx hb dX5_wrongBilled_1 rfl (lv_at hl 1 rfl) ?_
  refine tk_cVi (As := [.int x]) S0 (c_X5_isEntry l A D ac _ hR hW x) (cwV 1 hts gX5_wrongBilled_X5_isEntry rfl rfl rfl (by decide +kernel) ⟨Nat.le_of_ble_eq_true rfl, Nat.le_of_ble_eq_true rfl⟩) (tkJ.blind) (tkJ.at hM hK) (tk_recv hK hM hR.1 rfl) rfl hl.1 rfl (Nat.le_of_ble_eq_true rfl) dX5_wrongBilled_2 ⟨Nat.zero_le _, Nat.zero_le _⟩ (fun r_1 hr_1 => ?_)
  rcases hr_1 with ⟨rfl, hr_1⟩ | ⟨rfl, hr_1⟩
  · have hok := hr_1
    obtain ⟨k, hk, rfl⟩ := tkOk_ex (by omega) hr_1
    refine lv_if_ne (tgt := 12) hx hb dX5_wrongBilled_5 (by decide) (fun c_2 => ?_) (fun c_2 => absurd c_2 (by decide))
    refine lv_aload_n hx hb dX5_wrongBilled_12 rfl (lv_at hl 0 rfl) ?_
    refine lv_iload_n hx hb dX5_wrongBilled_13 rfl (lv_at hl 1 rfl) ?_
    refine tk_cVi (As := [.int (nI k)]) S0 (c_X5_wasBilled l A D ac _ hR hW k (by omega) ) (cwV 1 hts gX5_wrongBilled_X5_wasBilled rfl rfl rfl (by decide +kernel) ⟨Nat.le_of_ble_eq_true rfl, Nat.le_of_ble_eq_true rfl⟩) (tkJ.blind) (tkJ.at hM hK) (tk_recv hK hM hR.1 rfl) rfl hl.1 rfl (Nat.le_of_ble_eq_true rfl) dX5_wrongBilled_14 ⟨Nat.zero_le _, Nat.zero_le _⟩ (fun r_3 hr_3 => ?_)
    rcases hr_3 with ⟨rfl, hr_3⟩ | ⟨rfl, hr_3⟩
    · skip
      refine lv_if_ne (tgt := 24) hx hb dX5_wrongBilled_17 (by decide) (fun c_4 => ?_) (fun c_4 => absurd c_4 (by decide))
      refine lv_iconst (v := 0) hx hb dX5_wrongBilled_24 (by decide) ?_
      exact W.iret (v := 0) hx hb hr (fun t9 h9 w9 => ⟨0, rfl, (by rw [wrongB, if_neg (by rw [hok]; decide), if_neg (by rw [nI_clamp (by omega), hr_3]; decide)]), h9⟩) (fun q hq => absurd hq List.not_mem_nil) dX5_wrongBilled_25
    · skip
      refine lv_if_ne (tgt := 24) hx hb dX5_wrongBilled_17 (by decide) (fun c_5 => absurd c_5 (by decide)) (fun c_5 => ?_)
      refine lv_iconst (v := 2) hx hb dX5_wrongBilled_20 (by decide) ?_
      refine lv_goto (tgt := 25) hx hb dX5_wrongBilled_21 (by decide) ?_
      exact W.iret (v := 2) hx hb hr (fun t9 h9 w9 => ⟨2, rfl, (by rw [wrongB, if_neg (by rw [hok]; decide), if_pos (by rw [nI_clamp (by omega)]; exact hr_3)]), h9⟩) (fun q hq => absurd hq List.not_mem_nil) dX5_wrongBilled_25
  · skip
    refine lv_if_ne (tgt := 12) hx hb dX5_wrongBilled_5 (by decide) (fun c_6 => absurd c_6 (by decide)) (fun c_6 => ?_)
    refine lv_iconst (v := 1) hx hb dX5_wrongBilled_8 (by decide) ?_
    refine lv_goto (tgt := 25) hx hb dX5_wrongBilled_9 (by decide) ?_
    exact W.iret (v := 1) hx hb hr (fun t9 h9 w9 => ⟨1, rfl, (by rw [wrongB, if_pos hr_1]), h9⟩) (fun q hq => absurd hq List.not_mem_nil) dX5_wrongBilled_25
set_option maxHeartbeats 4000000 in
set_option maxRecDepth 100000 in
theorem c_X5_isLookedAt (l : Launch) (A : Nat → Prop) (D : va_G) (ac : Nat → ClassId) (G : TG) {m0 : Nat} {am : Nat → Nat} {th : Int32} {M : TS} (hR : PR ac m0 am th M G) (hW : W0 M) (k r : Nat) (hk : k < nE M) (hr0 : r < nT M) (w : Int32) : Met l yX5_isLookedAt wsX5_isLookedAt ({ frames := 1, cells := 0, slots := 0, locals := 100 } : Room) (va_Pc [.ref m0, .int (nI k), .int (nI r), .int w] (tkJ A D ac G)) (vp_Si (fun z => tkB z (lookedAt M r w k))) 0 0 (fun _ => False) := by
  refine Met.ofW (cc := cX5_isLookedAt) (maxL := 4) (ret := (some .boolean)) (by decide) rfl ?_
  intro p e s m args below meth c s₁ B hml hv
  obtain ⟨rfl, hM, hK⟩ := hv
  have hx := B.exec
  have hb := B.bytes
  have hr := B.returns
  have hts := atoms_spec (ws := wsX5_isLookedAt) B.pre
  have hown : s.vm.findClass RX5 = some m.cls := findClass_of_methodNamed B.named
  have hlocks := B.notSynchronized
  have S0 : CallFix p m c cX5_isLookedAt 4 s ([.ref m0, .int (nI k), .int (nI r), .int w] : List Value).toArray wsX5_isLookedAt RX5 := ⟨hx, hb, hml, hown, hts⟩
  have inX5 : ∀ w ∈ wsX50, w ∈ wsX5_isLookedAt := by decide +kernel
  have hl := lv_entry ([.ref m0, .int (nI k), .int (nI r), .int w]) (n := 4) (Nat.le_of_ble_eq_true rfl)
  rw [lg_entry_eq]
  generalize (lg_sl ([.ref m0, .int (nI k), .int (nI r), .int w]) ++ List.replicate (4 - (lg_sl ([.ref m0, .int (nI k), .int (nI r), .int w])).length) Slot.unset).toArray = ls at hl ⊢
  have hl : lv_has ls 4 [(0, .ref m0), (1, .int (nI k)), (2, .int (nI r)), (3, .int w)] := hl
  have bT := hW.t.2
  have bE := hW.e.2
  have bV := hW.v.2
  obtain ⟨t_9, ht_9, et_9⟩ := hW.et hk
  refine lv_aload_n hx hb dX5_isLookedAt_0 rfl (lv_at hl 0 rfl) ?_
  refine tk_get hx hb hts inX5 hown hK hM hR.1 rfl 4 (by decide) (hts (.fieldLink RX5 23 "TicketForgeModel" "entryStates" "[C") (by decide +kernel)) (fun _ h9 => h9) rfl dX5_isLookedAt_1 ?_
  refine lv_iload_n hx hb dX5_isLookedAt_4 rfl (lv_at hl 1 rfl) ?_
  refine tk_cald hx hb hK hM 0 hR.a4 rfl (vp_in_nI (by omega) (by decide)) dX5_isLookedAt_5 ?_
  rw [show (nI k).toNatClampNeg = k from nI_clamp (by omega)]
  refine lv_bipush (v := 97) hx hb dX5_isLookedAt_6 (by decide) ?_
  refine lv_icmp_ne (tgt := 55) hx hb dX5_isLookedAt_8 (by decide) (fun c_1 => ?_) (fun c_1 => ?_)
  · skip
    refine lv_iconst (v := 0) hx hb dX5_isLookedAt_55 (by decide) ?_
    exact W.zret (v := 0) hx hb hr rfl (fun t9 h9 w9 => ⟨0, rfl, (tkB_0 (by simp [lookedAt, c_1])), h9⟩) (fun q hq => absurd hq List.not_mem_nil) dX5_isLookedAt_56
  · skip
    refine lv_aload_n hx hb dX5_isLookedAt_11 rfl (lv_at hl 0 rfl) ?_
    refine lv_aload_n hx hb dX5_isLookedAt_12 rfl (lv_at hl 0 rfl) ?_
    refine tk_get hx hb hts inX5 hown hK hM hR.1 rfl 8 (by decide) (hts (.fieldLink RX5 36 "TicketForgeModel" "tasksOf" "[I") (by decide +kernel)) (fun _ h9 => h9) rfl dX5_isLookedAt_13 ?_
    refine lv_iload_n hx hb dX5_isLookedAt_16 rfl (lv_at hl 1 rfl) ?_
    refine tk_iald hx hb hK hM 1 hR.a8 rfl (vp_in_nI (by omega) (by decide)) dX5_isLookedAt_17 ?_
    rw [show (nI k).toNatClampNeg = k from nI_clamp (by omega)]
    rw [et_9]
    refine lv_iload_n hx hb dX5_isLookedAt_18 rfl (lv_at hl 2 rfl) ?_
    refine tk_cVi (As := [.int (nI t_9), .int (nI r)]) S0 (c_X5_isIn l A D ac _ hR hW t_9 r (by omega) (by omega) ) (cwV 2 hts gX5_isLookedAt_X5_isIn rfl rfl rfl (by decide +kernel) ⟨Nat.le_of_ble_eq_true rfl, Nat.le_of_ble_eq_true rfl⟩) (tkJ.blind) (tkJ.at hM hK) (tk_recv hK hM hR.1 rfl) rfl hl.1 rfl (Nat.le_of_ble_eq_true rfl) dX5_isLookedAt_19 ⟨Nat.zero_le _, Nat.zero_le _⟩ (fun r_2 hr_2 => ?_)
    rcases hr_2 with ⟨rfl, hr_2⟩ | ⟨rfl, hr_2⟩
    · skip
      refine lv_if_eq (tgt := 55) hx hb dX5_isLookedAt_22 (by decide) (fun c_3 => absurd c_3 (by decide)) (fun c_3 => ?_)
      refine lv_aload_n hx hb dX5_isLookedAt_25 rfl (lv_at hl 0 rfl) ?_
      refine tk_get hx hb hts inX5 hown hK hM hR.1 rfl 3 (by decide) (hts (.fieldLink RX5 19 "TicketForgeModel" "states" "[C") (by decide +kernel)) (fun _ h9 => h9) rfl dX5_isLookedAt_26 ?_
      refine lv_aload_n hx hb dX5_isLookedAt_29 rfl (lv_at hl 0 rfl) ?_
      refine tk_get hx hb hts inX5 hown hK hM hR.1 rfl 8 (by decide) (hts (.fieldLink RX5 36 "TicketForgeModel" "tasksOf" "[I") (by decide +kernel)) (fun _ h9 => h9) rfl dX5_isLookedAt_30 ?_
      refine lv_iload_n hx hb dX5_isLookedAt_33 rfl (lv_at hl 1 rfl) ?_
      refine tk_iald hx hb hK hM 1 hR.a8 rfl (vp_in_nI (by omega) (by decide)) dX5_isLookedAt_34 ?_
      rw [show (nI k).toNatClampNeg = k from nI_clamp (by omega)]
      rw [et_9]
      refine tk_cald hx hb hK hM 0 hR.a3 rfl (vp_in_nI (by omega) (by decide)) dX5_isLookedAt_35 ?_
      rw [show (nI t_9).toNatClampNeg = t_9 from nI_clamp (by omega)]
      refine lv_bipush (v := 100) hx hb dX5_isLookedAt_36 (by decide) ?_
      refine lv_icmp_ne (tgt := 55) hx hb dX5_isLookedAt_38 (by decide) (fun c_4 => ?_) (fun c_4 => ?_)
      · skip
        refine lv_iconst (v := 0) hx hb dX5_isLookedAt_55 (by decide) ?_
        exact W.zret (v := 0) hx hb hr rfl (fun t9 h9 w9 => ⟨0, rfl, (tkB_0 (by simp [lookedAt, et_9, nI_clamp (show t_9 < 2 ^ 31 by omega), c_4])), h9⟩) (fun q hq => absurd hq List.not_mem_nil) dX5_isLookedAt_56
      · skip
        refine lv_aload_n hx hb dX5_isLookedAt_41 rfl (lv_at hl 0 rfl) ?_
        refine tk_get hx hb hts inX5 hown hK hM hR.1 rfl 10 (by decide) (hts (.fieldLink RX5 42 "TicketForgeModel" "weeks" "[I") (by decide +kernel)) (fun _ h9 => h9) rfl dX5_isLookedAt_42 ?_
        refine lv_iload_n hx hb dX5_isLookedAt_45 rfl (lv_at hl 1 rfl) ?_
        refine tk_iald hx hb hK hM 1 hR.a10 rfl (vp_in_nI (by omega) (by decide)) dX5_isLookedAt_46 ?_
        rw [show (nI k).toNatClampNeg = k from nI_clamp (by omega)]
        refine lv_iload_n hx hb dX5_isLookedAt_47 rfl (lv_at hl 3 rfl) ?_
        refine lv_icmp_gt (tgt := 55) hx hb dX5_isLookedAt_48 (by decide) (fun c_5 => ?_) (fun c_5 => ?_)
        · skip
          refine lv_iconst (v := 0) hx hb dX5_isLookedAt_55 (by decide) ?_
          exact W.zret (v := 0) hx hb hr rfl (fun t9 h9 w9 => ⟨0, rfl, (tkB_0 (by simp [lookedAt, Int32.not_le.mpr c_5])), h9⟩) (fun q hq => absurd hq List.not_mem_nil) dX5_isLookedAt_56
        · skip
          refine lv_iconst (v := 1) hx hb dX5_isLookedAt_51 (by decide) ?_
          refine lv_goto (tgt := 56) hx hb dX5_isLookedAt_52 (by decide) ?_
          exact W.zret (v := 1) hx hb hr rfl (fun t9 h9 w9 => ⟨1, rfl, (tkB_1 (by simp [lookedAt, c_1, et_9, nI_clamp (show t_9 < 2 ^ 31 by omega), hr_2, c_4, Int32.not_lt.mp c_5])), h9⟩) (fun q hq => absurd hq List.not_mem_nil) dX5_isLookedAt_56
    · skip
      refine lv_if_eq (tgt := 55) hx hb dX5_isLookedAt_22 (by decide) (fun c_6 => ?_) (fun c_6 => absurd (by decide) c_6)
      refine lv_iconst (v := 0) hx hb dX5_isLookedAt_55 (by decide) ?_
      exact W.zret (v := 0) hx hb hr rfl (fun t9 h9 w9 => ⟨0, rfl, (tkB_0 (by simp [lookedAt, et_9, nI_clamp (show t_9 < 2 ^ 31 by omega), hr_2])), h9⟩) (fun q hq => absurd hq List.not_mem_nil) dX5_isLookedAt_56
set_option maxHeartbeats 4000000 in
set_option maxRecDepth 100000 in
theorem c_X5_billedHours (l : Launch) (A : Nat → Prop) (D : va_G) (ac : Nat → ClassId) (G : TG) {m0 : Nat} {am : Nat → Nat} {th : Int32} {M : TS} (hR : PR ac m0 am th M G) (hW : W0 M) (p0 : Int32) (w0 : Int32) : Met l yX5_billedHours wsX5_billedHours ({ frames := 1, cells := 0, slots := 0, locals := 100 } : Room) (va_Pc [.ref m0, .int p0, .int w0] (tkJ A D ac G)) (vp_Si (fun z => z = charged M p0 w0)) 0 0 (fun _ => False) := by
  refine Met.ofW (cc := cX5_billedHours) (maxL := 5) (ret := (some .int)) (by decide) rfl ?_
  intro p e s m args below meth c s₁ B hml hv
  obtain ⟨rfl, hM, hK⟩ := hv
  have hx := B.exec
  have hb := B.bytes
  have hr := B.returns
  have hts := atoms_spec (ws := wsX5_billedHours) B.pre
  have hown : s.vm.findClass RX5 = some m.cls := findClass_of_methodNamed B.named
  have hlocks := B.notSynchronized
  have S0 : CallFix p m c cX5_billedHours 5 s ([.ref m0, .int p0, .int w0] : List Value).toArray wsX5_billedHours RX5 := ⟨hx, hb, hml, hown, hts⟩
  have inX5 : ∀ w ∈ wsX50, w ∈ wsX5_billedHours := by decide +kernel
  have hl := lv_entry ([.ref m0, .int p0, .int w0]) (n := 5) (Nat.le_of_ble_eq_true rfl)
  rw [lg_entry_eq]
  generalize (lg_sl ([.ref m0, .int p0, .int w0]) ++ List.replicate (5 - (lg_sl ([.ref m0, .int p0, .int w0])).length) Slot.unset).toArray = ls at hl ⊢
  have hl : lv_has ls 5 [(0, .ref m0), (1, .int p0), (2, .int w0)] := hl
  have bT := hW.t.2
  have bE := hW.e.2
  have bV := hW.v.2
  refine lv_iconst (v := 0) hx hb dX5_billedHours_0 (by decide) ?_
  refine lv_istore_n (lv' := [(3, .int 0), (0, .ref m0), (1, .int p0), (2, .int w0)]) hx hb dX5_billedHours_1 rfl hl (by decide) rfl (fun ls hl => ?_)
  refine lv_iconst (v := 0) hx hb dX5_billedHours_2 (by decide) ?_
  refine lv_istore (lv' := [(4, .int 0), (3, .int 0), (0, .ref m0), (1, .int p0), (2, .int w0)]) hx hb dX5_billedHours_3 hl (by decide) rfl (fun ls hl => ?_)
  refine tk_f1 (Wf := W p l e _ s m _ below meth c _ _ _ _ _) (nE M) (fun i acc ls => lv_has ls 5 [(0, .ref m0), (1, .int p0), (2, .int w0), (4, .int (nI i)), (3, .int acc)] ∧ acc = sumI (fun k => if (decide (M 10 k = p0) && decide (M 11 k = w0) && billed M k) = true then M 12 k else 0) i) (fun i acc ls hi hinv ih => ?_) _ ls ⟨(lv_sub hl [2, 3, 4, 0, 1] rfl), rfl⟩
  obtain ⟨hl, hinv⟩ := hinv
  refine lv_iload hx hb dX5_billedHours_5 (lv_at hl 3 rfl) ?_
  refine lv_aload_n hx hb dX5_billedHours_7 rfl (lv_at hl 0 rfl) ?_
  refine tk_get hx hb hts inX5 hown hK hM hR.1 rfl 21 (by decide) (hts (.fieldLink RX5 76 "TicketForgeModel" "entries" "I") (by decide +kernel)) (fun _ h9 => h9) rfl dX5_billedHours_8 ?_
  rw [hW.e.1]
  refine lv_icmp_ge (tgt := 65) hx hb dX5_billedHours_11 (by decide) (fun c_1 => ?_) (fun c_1 => ?_)
  · have hge := tk_ge (by omega) (by omega) c_1
    refine lv_iload_n hx hb dX5_billedHours_65 rfl (lv_at hl 4 rfl) ?_
    exact W.iret (v := acc) hx hb hr (fun t9 h9 w9 => ⟨acc, rfl, sumI_e hinv hi hge, h9⟩) (fun q hq => absurd hq List.not_mem_nil) dX5_billedHours_66
  · have hlt := tk_lt (by omega) (by omega) c_1
    refine lv_iload_n hx hb dX5_billedHours_14 rfl (lv_at hl 4 rfl) ?_
    refine lv_aload_n hx hb dX5_billedHours_15 rfl (lv_at hl 0 rfl) ?_
    refine tk_get hx hb hts inX5 hown hK hM hR.1 rfl 9 (by decide) (hts (.fieldLink RX5 39 "TicketForgeModel" "persons" "[I") (by decide +kernel)) (fun _ h9 => h9) rfl dX5_billedHours_16 ?_
    refine lv_iload hx hb dX5_billedHours_19 (lv_at hl 3 rfl) ?_
    refine tk_iald hx hb hK hM 1 hR.a9 rfl (vp_in_nI (by omega) (by decide)) dX5_billedHours_21 ?_
    rw [show (nI i).toNatClampNeg = i from nI_clamp (by omega)]
    refine lv_iload_n hx hb dX5_billedHours_22 rfl (lv_at hl 1 rfl) ?_
    refine lv_icmp_ne (tgt := 56) hx hb dX5_billedHours_23 (by decide) (fun c_2 => ?_) (fun c_2 => ?_)
    · skip
      refine lv_iconst (v := 0) hx hb dX5_billedHours_56 (by decide) ?_
      refine lv_iadd hx hb dX5_billedHours_57 ?_
      refine lv_istore_n (lv' := [(3, .int (acc + 0)), (0, .ref m0), (1, .int p0), (2, .int w0), (4, .int (nI i))]) hx hb dX5_billedHours_58 rfl hl (by decide) rfl (fun ls hl => ?_)
      refine lv_iinc (v := (nI (i + 1))) (lv' := [(4, .int (nI (i + 1))), (3, .int (acc + 0)), (0, .ref m0), (1, .int p0), (2, .int w0)]) hx hb dX5_billedHours_59 hl (k := 4) rfl (nI_1 i) (by decide) rfl (fun ls hl => ?_)
      refine lv_goto (tgt := 5) hx hb dX5_billedHours_62 (by decide) ?_
      exact ih _ ls (by omega) ⟨(lv_sub hl [2, 3, 4, 0, 1] rfl), sumI_z hinv (if_neg (by simp [c_2]))⟩
    · skip
      refine lv_aload_n hx hb dX5_billedHours_26 rfl (lv_at hl 0 rfl) ?_
      refine tk_get hx hb hts inX5 hown hK hM hR.1 rfl 10 (by decide) (hts (.fieldLink RX5 42 "TicketForgeModel" "weeks" "[I") (by decide +kernel)) (fun _ h9 => h9) rfl dX5_billedHours_27 ?_
      refine lv_iload hx hb dX5_billedHours_30 (lv_at hl 3 rfl) ?_
      refine tk_iald hx hb hK hM 1 hR.a10 rfl (vp_in_nI (by omega) (by decide)) dX5_billedHours_32 ?_
      rw [show (nI i).toNatClampNeg = i from nI_clamp (by omega)]
      refine lv_iload_n hx hb dX5_billedHours_33 rfl (lv_at hl 2 rfl) ?_
      refine lv_icmp_ne (tgt := 56) hx hb dX5_billedHours_34 (by decide) (fun c_3 => ?_) (fun c_3 => ?_)
      · skip
        refine lv_iconst (v := 0) hx hb dX5_billedHours_56 (by decide) ?_
        refine lv_iadd hx hb dX5_billedHours_57 ?_
        refine lv_istore_n (lv' := [(3, .int (acc + 0)), (0, .ref m0), (1, .int p0), (2, .int w0), (4, .int (nI i))]) hx hb dX5_billedHours_58 rfl hl (by decide) rfl (fun ls hl => ?_)
        refine lv_iinc (v := (nI (i + 1))) (lv' := [(4, .int (nI (i + 1))), (3, .int (acc + 0)), (0, .ref m0), (1, .int p0), (2, .int w0)]) hx hb dX5_billedHours_59 hl (k := 4) rfl (nI_1 i) (by decide) rfl (fun ls hl => ?_)
        refine lv_goto (tgt := 5) hx hb dX5_billedHours_62 (by decide) ?_
        exact ih _ ls (by omega) ⟨(lv_sub hl [2, 3, 4, 0, 1] rfl), sumI_z hinv (if_neg (by simp [c_3]))⟩
      · skip
        refine lv_aload_n hx hb dX5_billedHours_37 rfl (lv_at hl 0 rfl) ?_
        refine lv_iload hx hb dX5_billedHours_38 (lv_at hl 3 rfl) ?_
        refine tk_cVi (As := [.int (nI i)]) S0 (c_X5_wasBilled l A D ac _ hR hW i (by omega) ) (cwV 1 hts gX5_billedHours_X5_wasBilled rfl rfl rfl (by decide +kernel) ⟨Nat.le_of_ble_eq_true rfl, Nat.le_of_ble_eq_true rfl⟩) (tkJ.blind) (tkJ.at hM hK) (tk_recv hK hM hR.1 rfl) rfl hl.1 rfl (Nat.le_of_ble_eq_true rfl) dX5_billedHours_40 ⟨Nat.zero_le _, Nat.zero_le _⟩ (fun r_4 hr_4 => ?_)
        rcases hr_4 with ⟨rfl, hr_4⟩ | ⟨rfl, hr_4⟩
        · skip
          refine lv_if_eq (tgt := 56) hx hb dX5_billedHours_43 (by decide) (fun c_5 => absurd c_5 (by decide)) (fun c_5 => ?_)
          refine lv_aload_n hx hb dX5_billedHours_46 rfl (lv_at hl 0 rfl) ?_
          refine tk_get hx hb hts inX5 hown hK hM hR.1 rfl 11 (by decide) (hts (.fieldLink RX5 45 "TicketForgeModel" "hoursOf" "[I") (by decide +kernel)) (fun _ h9 => h9) rfl dX5_billedHours_47 ?_
          refine lv_iload hx hb dX5_billedHours_50 (lv_at hl 3 rfl) ?_
          refine tk_iald hx hb hK hM 1 hR.a11 rfl (vp_in_nI (by omega) (by decide)) dX5_billedHours_52 ?_
          rw [show (nI i).toNatClampNeg = i from nI_clamp (by omega)]
          refine lv_goto (tgt := 57) hx hb dX5_billedHours_53 (by decide) ?_
          refine lv_iadd hx hb dX5_billedHours_57 ?_
          refine lv_istore_n (lv' := [(3, .int (acc + ((M 12) i))), (0, .ref m0), (1, .int p0), (2, .int w0), (4, .int (nI i))]) hx hb dX5_billedHours_58 rfl hl (by decide) rfl (fun ls hl => ?_)
          refine lv_iinc (v := (nI (i + 1))) (lv' := [(4, .int (nI (i + 1))), (3, .int (acc + ((M 12) i))), (0, .ref m0), (1, .int p0), (2, .int w0)]) hx hb dX5_billedHours_59 hl (k := 4) rfl (nI_1 i) (by decide) rfl (fun ls hl => ?_)
          refine lv_goto (tgt := 5) hx hb dX5_billedHours_62 (by decide) ?_
          exact ih _ ls (by omega) ⟨(lv_sub hl [2, 3, 4, 0, 1] rfl), sumI_t hinv (if_pos (by simp [c_2, c_3, hr_4]))⟩
        · skip
          refine lv_if_eq (tgt := 56) hx hb dX5_billedHours_43 (by decide) (fun c_6 => ?_) (fun c_6 => absurd (by decide) c_6)
          refine lv_iconst (v := 0) hx hb dX5_billedHours_56 (by decide) ?_
          refine lv_iadd hx hb dX5_billedHours_57 ?_
          refine lv_istore_n (lv' := [(3, .int (acc + 0)), (0, .ref m0), (1, .int p0), (2, .int w0), (4, .int (nI i))]) hx hb dX5_billedHours_58 rfl hl (by decide) rfl (fun ls hl => ?_)
          refine lv_iinc (v := (nI (i + 1))) (lv' := [(4, .int (nI (i + 1))), (3, .int (acc + 0)), (0, .ref m0), (1, .int p0), (2, .int w0)]) hx hb dX5_billedHours_59 hl (k := 4) rfl (nI_1 i) (by decide) rfl (fun ls hl => ?_)
          refine lv_goto (tgt := 5) hx hb dX5_billedHours_62 (by decide) ?_
          exact ih _ ls (by omega) ⟨(lv_sub hl [2, 3, 4, 0, 1] rfl), sumI_z hinv (if_neg (by simp [hr_4]))⟩
set_option maxHeartbeats 4000000 in
set_option maxRecDepth 100000 in
theorem c_X5_leftOf (l : Launch) (A : Nat → Prop) (D : va_G) (ac : Nat → ClassId) (G : TG) {m0 : Nat} {am : Nat → Nat} {th : Int32} {M : TS} (hR : PR ac m0 am th M G) (hW : W0 M) (t : Nat) (ht : t < nT M) : Met l yX5_leftOf wsX5_leftOf ({ frames := 0, cells := 0, slots := 0, locals := 60 } : Room) (va_Pc [.ref m0, .int (nI t)] (tkJ A D ac G)) (vp_Si (fun z => z = leftOf M t)) 0 0 (fun _ => False) := by
  refine Met.ofW (cc := cX5_leftOf) (maxL := 4) (ret := (some .int)) (by decide) rfl ?_
  intro p e s m args below meth c s₁ B hml hv
  obtain ⟨rfl, hM, hK⟩ := hv
  have hx := B.exec
  have hb := B.bytes
  have hr := B.returns
  have hts := atoms_spec (ws := wsX5_leftOf) B.pre
  have hown : s.vm.findClass RX5 = some m.cls := findClass_of_methodNamed B.named
  have hlocks := B.notSynchronized
  have S0 : CallFix p m c cX5_leftOf 4 s ([.ref m0, .int (nI t)] : List Value).toArray wsX5_leftOf RX5 := ⟨hx, hb, hml, hown, hts⟩
  have inX5 : ∀ w ∈ wsX50, w ∈ wsX5_leftOf := by decide +kernel
  have hl := lv_entry ([.ref m0, .int (nI t)]) (n := 4) (Nat.le_of_ble_eq_true rfl)
  rw [lg_entry_eq]
  generalize (lg_sl ([.ref m0, .int (nI t)]) ++ List.replicate (4 - (lg_sl ([.ref m0, .int (nI t)])).length) Slot.unset).toArray = ls at hl ⊢
  have hl : lv_has ls 4 [(0, .ref m0), (1, .int (nI t))] := hl
  have bT := hW.t.2
  have bE := hW.e.2
  have bV := hW.v.2
  refine lv_aload_n hx hb dX5_leftOf_0 rfl (lv_at hl 0 rfl) ?_
  refine tk_get hx hb hts inX5 hown hK hM hR.1 rfl 1 (by decide) (hts (.fieldLink RX5 13 "TicketForgeModel" "estimates" "[I") (by decide +kernel)) (fun _ h9 => h9) rfl dX5_leftOf_1 ?_
  refine lv_iload_n hx hb dX5_leftOf_4 rfl (lv_at hl 1 rfl) ?_
  refine tk_iald hx hb hK hM 1 hR.a1 rfl (vp_in_nI (by omega) (by decide)) dX5_leftOf_5 ?_
  rw [show (nI t).toNatClampNeg = t from nI_clamp (by omega)]
  refine lv_istore_n (lv' := [(2, .int ((M 2) t)), (0, .ref m0), (1, .int (nI t))]) hx hb dX5_leftOf_6 rfl hl (by decide) rfl (fun ls hl => ?_)
  refine lv_iconst (v := 0) hx hb dX5_leftOf_7 (by decide) ?_
  refine lv_istore_n (lv' := [(3, .int 0), (2, .int ((M 2) t)), (0, .ref m0), (1, .int (nI t))]) hx hb dX5_leftOf_8 rfl hl (by decide) rfl (fun ls hl => ?_)
  refine tk_f1 (Wf := W p l e _ s m _ below meth c _ _ _ _ _) (nE M) (fun i acc ls => lv_has ls 4 [(0, .ref m0), (1, .int (nI t)), (3, .int (nI i)), (2, .int acc)] ∧ acc = leftS M t i) (fun i acc ls hi hinv ih => ?_) _ ls ⟨(lv_sub hl [2, 3, 0, 1] rfl), (leftS_0 M t)⟩
  obtain ⟨hl, hinv⟩ := hinv
  refine lv_iload_n hx hb dX5_leftOf_9 rfl (lv_at hl 2 rfl) ?_
  refine lv_aload_n hx hb dX5_leftOf_10 rfl (lv_at hl 0 rfl) ?_
  refine tk_get hx hb hts inX5 hown hK hM hR.1 rfl 21 (by decide) (hts (.fieldLink RX5 76 "TicketForgeModel" "entries" "I") (by decide +kernel)) (fun _ h9 => h9) rfl dX5_leftOf_11 ?_
  rw [hW.e.1]
  refine lv_icmp_ge (tgt := 46) hx hb dX5_leftOf_14 (by decide) (fun c_1 => ?_) (fun c_1 => ?_)
  · have hge := tk_ge (by omega) (by omega) c_1
    refine lv_iload_n hx hb dX5_leftOf_46 rfl (lv_at hl 3 rfl) ?_
    refine lv_if_le (tgt := 54) hx hb dX5_leftOf_47 (by decide) (fun c_2 => ?_) (fun c_2 => ?_)
    · skip
      refine lv_iconst (v := 0) hx hb dX5_leftOf_54 (by decide) ?_
      exact W.iret (v := 0) hx hb hr (fun t9 h9 w9 => ⟨0, rfl, (by rw [leftOf, ← leftS_e hinv hi hge, if_neg (Int32.not_lt.mpr c_2)]), h9⟩) (fun q hq => absurd hq List.not_mem_nil) dX5_leftOf_55
    · skip
      refine lv_iload_n hx hb dX5_leftOf_50 rfl (lv_at hl 3 rfl) ?_
      refine lv_goto (tgt := 55) hx hb dX5_leftOf_51 (by decide) ?_
      exact W.iret (v := acc) hx hb hr (fun t9 h9 w9 => ⟨acc, rfl, (by rw [leftOf, ← leftS_e hinv hi hge, if_pos (Int32.not_le.mp c_2)]), h9⟩) (fun q hq => absurd hq List.not_mem_nil) dX5_leftOf_55
  · have hlt := tk_lt (by omega) (by omega) c_1
    refine lv_iload_n hx hb dX5_leftOf_17 rfl (lv_at hl 3 rfl) ?_
    refine lv_aload_n hx hb dX5_leftOf_18 rfl (lv_at hl 0 rfl) ?_
    refine tk_get hx hb hts inX5 hown hK hM hR.1 rfl 8 (by decide) (hts (.fieldLink RX5 36 "TicketForgeModel" "tasksOf" "[I") (by decide +kernel)) (fun _ h9 => h9) rfl dX5_leftOf_19 ?_
    refine lv_iload_n hx hb dX5_leftOf_22 rfl (lv_at hl 2 rfl) ?_
    refine tk_iald hx hb hK hM 1 hR.a8 rfl (vp_in_nI (by omega) (by decide)) dX5_leftOf_23 ?_
    rw [show (nI i).toNatClampNeg = i from nI_clamp (by omega)]
    refine lv_iload_n hx hb dX5_leftOf_24 rfl (lv_at hl 1 rfl) ?_
    refine lv_icmp_ne (tgt := 37) hx hb dX5_leftOf_25 (by decide) (fun c_3 => ?_) (fun c_3 => ?_)
    · skip
      refine lv_iconst (v := 0) hx hb dX5_leftOf_37 (by decide) ?_
      refine lv_isub hx hb dX5_leftOf_38 ?_
      refine lv_istore_n (lv' := [(2, .int (acc - 0)), (0, .ref m0), (1, .int (nI t)), (3, .int (nI i))]) hx hb dX5_leftOf_39 rfl hl (by decide) rfl (fun ls hl => ?_)
      refine lv_iinc (v := (nI (i + 1))) (lv' := [(3, .int (nI (i + 1))), (2, .int (acc - 0)), (0, .ref m0), (1, .int (nI t))]) hx hb dX5_leftOf_40 hl (k := 3) rfl (nI_1 i) (by decide) rfl (fun ls hl => ?_)
      refine lv_goto (tgt := 9) hx hb dX5_leftOf_43 (by decide) ?_
      exact ih _ ls (by omega) ⟨(lv_sub hl [2, 3, 0, 1] rfl), leftS_f hinv c_3⟩
    · skip
      refine lv_aload_n hx hb dX5_leftOf_28 rfl (lv_at hl 0 rfl) ?_
      refine tk_get hx hb hts inX5 hown hK hM hR.1 rfl 11 (by decide) (hts (.fieldLink RX5 45 "TicketForgeModel" "hoursOf" "[I") (by decide +kernel)) (fun _ h9 => h9) rfl dX5_leftOf_29 ?_
      refine lv_iload_n hx hb dX5_leftOf_32 rfl (lv_at hl 2 rfl) ?_
      refine tk_iald hx hb hK hM 1 hR.a11 rfl (vp_in_nI (by omega) (by decide)) dX5_leftOf_33 ?_
      rw [show (nI i).toNatClampNeg = i from nI_clamp (by omega)]
      refine lv_goto (tgt := 38) hx hb dX5_leftOf_34 (by decide) ?_
      refine lv_isub hx hb dX5_leftOf_38 ?_
      refine lv_istore_n (lv' := [(2, .int (acc - ((M 12) i))), (0, .ref m0), (1, .int (nI t)), (3, .int (nI i))]) hx hb dX5_leftOf_39 rfl hl (by decide) rfl (fun ls hl => ?_)
      refine lv_iinc (v := (nI (i + 1))) (lv' := [(3, .int (nI (i + 1))), (2, .int (acc - ((M 12) i))), (0, .ref m0), (1, .int (nI t))]) hx hb dX5_leftOf_40 hl (k := 3) rfl (nI_1 i) (by decide) rfl (fun ls hl => ?_)
      refine lv_goto (tgt := 9) hx hb dX5_leftOf_43 (by decide) ?_
      exact ih _ ls (by omega) ⟨(lv_sub hl [2, 3, 0, 1] rfl), leftS_t hinv c_3⟩
set_option maxHeartbeats 4000000 in
set_option maxRecDepth 100000 in
theorem c_X5_lately (l : Launch) (A : Nat → Prop) (D : va_G) (ac : Nat → ClassId) (G : TG) {m0 : Nat} {am : Nat → Nat} {th : Int32} {M : TS} (hR : PR ac m0 am th M G) (hW : W0 M) (w : Int32) : Met l yX5_lately wsX5_lately ({ frames := 1, cells := 0, slots := 0, locals := 100 } : Room) (va_Pc [.ref m0, .int w] (tkJ A D ac G)) (vp_Si (fun z => z = lately M w)) 0 0 (fun _ => False) := by
  refine Met.ofW (cc := cX5_lately) (maxL := 4) (ret := (some .int)) (by decide) rfl ?_
  intro p e s m args below meth c s₁ B hml hv
  obtain ⟨rfl, hM, hK⟩ := hv
  have hx := B.exec
  have hb := B.bytes
  have hr := B.returns
  have hts := atoms_spec (ws := wsX5_lately) B.pre
  have hown : s.vm.findClass RX5 = some m.cls := findClass_of_methodNamed B.named
  have hlocks := B.notSynchronized
  have S0 : CallFix p m c cX5_lately 4 s ([.ref m0, .int w] : List Value).toArray wsX5_lately RX5 := ⟨hx, hb, hml, hown, hts⟩
  have inX5 : ∀ w ∈ wsX50, w ∈ wsX5_lately := by decide +kernel
  have hl := lv_entry ([.ref m0, .int w]) (n := 4) (Nat.le_of_ble_eq_true rfl)
  rw [lg_entry_eq]
  generalize (lg_sl ([.ref m0, .int w]) ++ List.replicate (4 - (lg_sl ([.ref m0, .int w])).length) Slot.unset).toArray = ls at hl ⊢
  have hl : lv_has ls 4 [(0, .ref m0), (1, .int w)] := hl
  have bT := hW.t.2
  have bE := hW.e.2
  have bV := hW.v.2
  refine lv_iconst (v := 0) hx hb dX5_lately_0 (by decide) ?_
  refine lv_istore_n (lv' := [(2, .int 0), (0, .ref m0), (1, .int w)]) hx hb dX5_lately_1 rfl hl (by decide) rfl (fun ls hl => ?_)
  refine lv_iconst (v := 0) hx hb dX5_lately_2 (by decide) ?_
  refine lv_istore_n (lv' := [(3, .int 0), (2, .int 0), (0, .ref m0), (1, .int w)]) hx hb dX5_lately_3 rfl hl (by decide) rfl (fun ls hl => ?_)
  refine tk_f1 (Wf := W p l e _ s m _ below meth c _ _ _ _ _) (nE M) (fun i acc ls => lv_has ls 4 [(0, .ref m0), (1, .int w), (3, .int (nI i)), (2, .int acc)] ∧ acc = sumI (fun k => if tkIn (M 11 k) (w - 2) w = true then M 12 k else 0) i) (fun i acc ls hi hinv ih => ?_) _ ls ⟨(lv_sub hl [2, 3, 0, 1] rfl), rfl⟩
  obtain ⟨hl, hinv⟩ := hinv
  refine lv_iload_n hx hb dX5_lately_4 rfl (lv_at hl 2 rfl) ?_
  refine lv_aload_n hx hb dX5_lately_5 rfl (lv_at hl 0 rfl) ?_
  refine tk_get hx hb hts inX5 hown hK hM hR.1 rfl 21 (by decide) (hts (.fieldLink RX5 76 "TicketForgeModel" "entries" "I") (by decide +kernel)) (fun _ h9 => h9) rfl dX5_lately_6 ?_
  rw [hW.e.1]
  refine lv_icmp_ge (tgt := 47) hx hb dX5_lately_9 (by decide) (fun c_1 => ?_) (fun c_1 => ?_)
  · have hge := tk_ge (by omega) (by omega) c_1
    refine lv_iload_n hx hb dX5_lately_47 rfl (lv_at hl 3 rfl) ?_
    exact W.iret (v := acc) hx hb hr (fun t9 h9 w9 => ⟨acc, rfl, sumI_e hinv hi hge, h9⟩) (fun q hq => absurd hq List.not_mem_nil) dX5_lately_48
  · have hlt := tk_lt (by omega) (by omega) c_1
    refine lv_iload_n hx hb dX5_lately_12 rfl (lv_at hl 3 rfl) ?_
    refine lv_aload_n hx hb dX5_lately_13 rfl (lv_at hl 0 rfl) ?_
    refine tk_get hx hb hts inX5 hown hK hM hR.1 rfl 10 (by decide) (hts (.fieldLink RX5 42 "TicketForgeModel" "weeks" "[I") (by decide +kernel)) (fun _ h9 => h9) rfl dX5_lately_14 ?_
    refine lv_iload_n hx hb dX5_lately_17 rfl (lv_at hl 2 rfl) ?_
    refine tk_iald hx hb hK hM 1 hR.a10 rfl (vp_in_nI (by omega) (by decide)) dX5_lately_18 ?_
    rw [show (nI i).toNatClampNeg = i from nI_clamp (by omega)]
    refine lv_iload_n hx hb dX5_lately_19 rfl (lv_at hl 1 rfl) ?_
    refine lv_iconst (v := 2) hx hb dX5_lately_20 (by decide) ?_
    refine lv_isub hx hb dX5_lately_21 ?_
    refine lv_iload_n hx hb dX5_lately_22 rfl (lv_at hl 1 rfl) ?_
    refine tk_cSi (As := [.int ((M 11) i), .int (w - 2), .int w]) S0 (c_X5_in l A D ac _ ((M 11) i) (w - 2) w) (va_cwS 3 hts gX5_lately_X5_in rfl rfl rfl (by decide +kernel) ⟨Nat.le_of_ble_eq_true rfl, Nat.le_of_ble_eq_true rfl⟩) (tkJ.blind) (tkJ.at hM hK) rfl hl.1 rfl (Nat.le_of_ble_eq_true rfl) dX5_lately_23 ⟨Nat.zero_le _, Nat.zero_le _⟩ (fun r_2 hr_2 => ?_)
    rcases hr_2 with ⟨rfl, hr_2⟩ | ⟨rfl, hr_2⟩
    · skip
      refine lv_if_eq (tgt := 38) hx hb dX5_lately_26 (by decide) (fun c_3 => absurd c_3 (by decide)) (fun c_3 => ?_)
      refine lv_aload_n hx hb dX5_lately_29 rfl (lv_at hl 0 rfl) ?_
      refine tk_get hx hb hts inX5 hown hK hM hR.1 rfl 11 (by decide) (hts (.fieldLink RX5 45 "TicketForgeModel" "hoursOf" "[I") (by decide +kernel)) (fun _ h9 => h9) rfl dX5_lately_30 ?_
      refine lv_iload_n hx hb dX5_lately_33 rfl (lv_at hl 2 rfl) ?_
      refine tk_iald hx hb hK hM 1 hR.a11 rfl (vp_in_nI (by omega) (by decide)) dX5_lately_34 ?_
      rw [show (nI i).toNatClampNeg = i from nI_clamp (by omega)]
      refine lv_goto (tgt := 39) hx hb dX5_lately_35 (by decide) ?_
      refine lv_iadd hx hb dX5_lately_39 ?_
      refine lv_istore_n (lv' := [(2, .int (acc + ((M 12) i))), (0, .ref m0), (1, .int w), (3, .int (nI i))]) hx hb dX5_lately_40 rfl hl (by decide) rfl (fun ls hl => ?_)
      refine lv_iinc (v := (nI (i + 1))) (lv' := [(3, .int (nI (i + 1))), (2, .int (acc + ((M 12) i))), (0, .ref m0), (1, .int w)]) hx hb dX5_lately_41 hl (k := 3) rfl (nI_1 i) (by decide) rfl (fun ls hl => ?_)
      refine lv_goto (tgt := 4) hx hb dX5_lately_44 (by decide) ?_
      exact ih _ ls (by omega) ⟨(lv_sub hl [2, 3, 0, 1] rfl), sumI_t hinv (if_pos hr_2)⟩
    · skip
      refine lv_if_eq (tgt := 38) hx hb dX5_lately_26 (by decide) (fun c_4 => ?_) (fun c_4 => absurd (by decide) c_4)
      refine lv_iconst (v := 0) hx hb dX5_lately_38 (by decide) ?_
      refine lv_iadd hx hb dX5_lately_39 ?_
      refine lv_istore_n (lv' := [(2, .int (acc + 0)), (0, .ref m0), (1, .int w), (3, .int (nI i))]) hx hb dX5_lately_40 rfl hl (by decide) rfl (fun ls hl => ?_)
      refine lv_iinc (v := (nI (i + 1))) (lv' := [(3, .int (nI (i + 1))), (2, .int (acc + 0)), (0, .ref m0), (1, .int w)]) hx hb dX5_lately_41 hl (k := 3) rfl (nI_1 i) (by decide) rfl (fun ls hl => ?_)
      refine lv_goto (tgt := 4) hx hb dX5_lately_44 (by decide) ?_
      exact ih _ ls (by omega) ⟨(lv_sub hl [2, 3, 0, 1] rfl), sumI_z hinv (if_neg (by rw [hr_2]; decide))⟩
