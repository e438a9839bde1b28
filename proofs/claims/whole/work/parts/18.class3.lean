/-! the class: what is required -/
set_option maxHeartbeats 4000000 in
set_option maxRecDepth 100000 in
theorem c_X4_requireTask (l : Launch) (hst : l.stackTraces = false) (A : Nat → Prop) (D : va_G) (ac : Nat → ClassId) (dE : Nat) (G : TG) {h0 : Nat} {α : Nat → Nat → Nat} {M : TS} {nv : Nat} (hP : PX ac dE h0 α M nv G) (hW : W0 M) (x : Int32) : vx_Met l yX4_requireTask wsX4_requireTask ({ frames := 6, cells := 1, slots := 6, locals := 260 } : Room) (va_Pc [.ref h0, .int x] (tkX A D ac dE G)) (va_Qq (fun r (_ : Unit) => tkOk (nT M) x = true ∧ r = some (α 1 (tn x))) (fun _ _ => True) (fun _ => False)) (XG (fun E => E = "java/lang/IndexOutOfBoundsException" ∧ tkOk (nT M) x = false)) 1 6 A := by
  refine vx_ofW (cc := cX4_requireTask) (maxL := 2) (ret := (some (.object "TicketForge$Task"))) (by decide) rfl ?_
  intro p e s m args below meth c s₁ B hml hno hv
  obtain ⟨rfl, ⟨hM, hK, hA, hF⟩, hO⟩ := hv
  have hS : va_S A s.heap s.heap [] := va_S.rf
  have hE : tkE s.heap s.heap := tkE.rf
  have hx := B.exec
  have hb := B.bytes
  have hr := B.returns
  have hts := atoms_spec (ws := wsX4_requireTask) B.pre
  have hown : s.vm.findClass RX4 = some m.cls := findClass_of_methodNamed B.named
  have hlocks := B.notSynchronized
  have S0 : CallFix p m c cX4_requireTask 2 s ([.ref h0, .int x] : List Value).toArray wsX4_requireTask RX4 := ⟨hx, hb, hml, hown, hts⟩
  have inX4 : ∀ w ∈ wsX40, w ∈ wsX4_requireTask := by decide +kernel
  have hl := lv_entry ([.ref h0, .int x]) (n := 2) (Nat.le_of_ble_eq_true rfl)
  rw [lg_entry_eq]
  generalize (lg_sl ([.ref h0, .int x]) ++ List.replicate (2 - (lg_sl ([.ref h0, .int x])).length) Slot.unset).toArray = ls at hl ⊢
  have hl : lv_has ls 2 [(0, .ref h0), (1, .int x)] := hl
  have bT := hW.t.2
  have bE := hW.e.2
  have bV := hW.v.2
  refine lv_iload_n hx hb dX4_requireTask_0 rfl (lv_at hl 1 rfl) ?_
  refine lv_if_lt (tgt := 15) hx hb dX4_requireTask_1 (by decide) (fun c_1 => ?_) (fun c_1 => ?_)
  · skip
    exact tk_thW hst hx hb hown (by decide) (hts (.classLink RX4 313 "java/lang/IndexOutOfBoundsException") (by decide +kernel)) (hts (.initialized "java/lang/IndexOutOfBoundsException") (by decide +kernel)) (text := "there is no such task") (by decide) (by decide) (fun w hw => hts w (List.mem_cons_of_mem _ (List.mem_append_right _ hw))) ng_317 ot_317 hF hO hS hE (hl.1.trans hml.symm) hno hlocks dX4_requireTask_15 dX4_requireTask_18 dX4_requireTask_19 dX4_requireTask_22 dX4_requireTask_25 (Nat.le_of_ble_eq_true rfl) (Nat.le_of_ble_eq_true rfl) ⟨Nat.le_of_ble_eq_true rfl, Nat.le_of_ble_eq_true rfl⟩ ⟨Nat.le_of_ble_eq_true rfl, Nat.le_of_ble_eq_true rfl⟩ ⟨rfl, tkOk_lo c_1⟩
  · skip
    refine lv_iload_n hx hb dX4_requireTask_4 rfl (lv_at hl 1 rfl) ?_
    refine lv_aload_n hx hb dX4_requireTask_5 rfl (lv_at hl 0 rfl) ?_
    refine tk_get hx hb hts inX4 hown hK hM hP.h rfl 0 (by decide) (hts (.fieldLink RX4 12 "TicketForge" "taskList" "Ljava/util/ArrayList;") (by decide +kernel)) (fun _ h9 => h9) rfl dX4_requireTask_6 ?_
    refine tk_cVi (As := []) S0 (c_Jx4a65c_size_8abf5 l A D ac dE _ hP.lt) (cwV 0 hts gX4_requireTask_Jx4a65c_size_8abf5 rfl rfl rfl (by decide +kernel) ⟨Nat.le_of_ble_eq_true rfl, Nat.le_of_ble_eq_true rfl⟩) (tkX.blind) (tkX.at hM hK hA hF hO hS) (LX.rec hP.lt hK hM) rfl hl.1 rfl (Nat.le_of_ble_eq_true rfl) dX4_requireTask_9 ⟨Nat.le_of_ble_eq_true rfl, Nat.le_of_ble_eq_true rfl⟩ (fun r_2 hr_2 => ?_)
    subst hr_2
    refine lv_icmp_lt (tgt := 26) hx hb dX4_requireTask_12 (by decide) (fun c_3 => ?_) (fun c_3 => ?_)
    · have hok : tkOk (nT M) x = true := tkOk_in c_1 (Int32.not_le.mpr c_3)
      have hok2 := hok
      obtain ⟨t, ht, rfl⟩ := tkOk_ex (by omega) hok2
      refine lv_aload_n hx hb dX4_requireTask_26 rfl (lv_at hl 0 rfl) ?_
      refine tk_get hx hb hts inX4 hown hK hM hP.h rfl 0 (by decide) (hts (.fieldLink RX4 12 "TicketForge" "taskList" "Ljava/util/ArrayList;") (by decide +kernel)) (fun _ h9 => h9) rfl dX4_requireTask_27 ?_
      refine lv_iload_n hx hb dX4_requireTask_30 rfl (lv_at hl 1 rfl) ?_
      have hg_5 : t < nT M := by omega
      refine tk_cVq (As := [.int (nI t)]) S0 (c_Jx4a65c_get_915e3 l A D ac dE _ hP.lt t hg_5 (by omega)) (cwV 1 hts gX4_requireTask_Jx4a65c_get_915e3 rfl rfl rfl (by decide +kernel) ⟨Nat.le_of_ble_eq_true rfl, Nat.le_of_ble_eq_true rfl⟩) (tkX.blind) (tkX.at hM hK hA hF hO hS) (LX.rec hP.lt hK hM) rfl hl.1 rfl (Nat.le_of_ble_eq_true rfl) dX4_requireTask_31 ⟨Nat.le_of_ble_eq_true rfl, Nat.le_of_ble_eq_true rfl⟩ (fun r_4 hr_4 => ?_)
      subst hr_4
      refine va_castY (C := "TicketForge$Task") hx hb hown (hts (.classLink RX4 72 "TicketForge$Task") (by decide +kernel)) (hF.2.2.2 ("TicketForge$Task", "TicketForge$Task") (by decide +kernel)) (tk_recv hK hM (hP.t hg_5) rfl (ci := 6) (q := (RX3, TX3, 6))) dX4_requireTask_34 ?_
      refine vx_ret ?_
      refine W.widen (k := 1) (n := 6) (Nat.le_of_ble_eq_true rfl) (Nat.le_of_ble_eq_true rfl) ?_
      exact W.aret (v := .ref (α 1 t)) hx hb hr (Or.inl ⟨_, rfl⟩) (va_rf_or (some (α 1 t))) (fun t9 h9 w9 => ⟨⟨(some (α 1 t)), (), rfl, ⟨hok, by rw [show tn (nI t) = t from nI_clamp (by omega)]⟩, trivial⟩, hE.F h9⟩) hS.2.2 dX4_requireTask_37
    · skip
      exact tk_thW hst hx hb hown (by decide) (hts (.classLink RX4 313 "java/lang/IndexOutOfBoundsException") (by decide +kernel)) (hts (.initialized "java/lang/IndexOutOfBoundsException") (by decide +kernel)) (text := "there is no such task") (by decide) (by decide) (fun w hw => hts w (List.mem_cons_of_mem _ (List.mem_append_right _ hw))) ng_317 ot_317 hF hO hS hE (hl.1.trans hml.symm) hno hlocks dX4_requireTask_15 dX4_requireTask_18 dX4_requireTask_19 dX4_requireTask_22 dX4_requireTask_25 (Nat.le_of_ble_eq_true rfl) (Nat.le_of_ble_eq_true rfl) ⟨Nat.le_of_ble_eq_true rfl, Nat.le_of_ble_eq_true rfl⟩ ⟨Nat.le_of_ble_eq_true rfl, Nat.le_of_ble_eq_true rfl⟩ ⟨rfl, tkOk_hi (Int32.not_lt.mp c_3)⟩
set_option maxHeartbeats 4000000 in
set_option maxRecDepth 100000 in
theorem c_X4_requireEntry (l : Launch) (hst : l.stackTraces = false) (A : Nat → Prop) (D : va_G) (ac : Nat → ClassId) (dE : Nat) (G : TG) {h0 : Nat} {α : Nat → Nat → Nat} {M : TS} {nv : Nat} (hP : PX ac dE h0 α M nv G) (hW : W0 M) (x : Int32) : vx_Met l yX4_requireEntry wsX4_requireEntry ({ frames := 6, cells := 1, slots := 6, locals := 260 } : Room) (va_Pc [.ref h0, .int x] (tkX A D ac dE G)) (va_Qq (fun r (_ : Unit) => tkOk (nE M) x = true ∧ r = some (α 2 (tn x))) (fun _ _ => True) (fun _ => False)) (XG (fun E => E = "java/util/NoSuchElementException" ∧ tkOk (nE M) x = false)) 1 6 A := by
  refine vx_ofW (cc := cX4_requireEntry) (maxL := 2) (ret := (some (.object "TicketForge$Entry"))) (by decide) rfl ?_
  intro p e s m args below meth c s₁ B hml hno hv
  obtain ⟨rfl, ⟨hM, hK, hA, hF⟩, hO⟩ := hv
  have hS : va_S A s.heap s.heap [] := va_S.rf
  have hE : tkE s.heap s.heap := tkE.rf
  have hx := B.exec
  have hb := B.bytes
  have hr := B.returns
  have hts := atoms_spec (ws := wsX4_requireEntry) B.pre
  have hown : s.vm.findClass RX4 = some m.cls := findClass_of_methodNamed B.named
  have hlocks := B.notSynchronized
  have S0 : CallFix p m c cX4_requireEntry 2 s ([.ref h0, .int x] : List Value).toArray wsX4_requireEntry RX4 := ⟨hx, hb, hml, hown, hts⟩
  have inX4 : ∀ w ∈ wsX40, w ∈ wsX4_requireEntry := by decide +kernel
  have hl := lv_entry ([.ref h0, .int x]) (n := 2) (Nat.le_of_ble_eq_true rfl)
  rw [lg_entry_eq]
  generalize (lg_sl ([.ref h0, .int x]) ++ List.replicate (2 - (lg_sl ([.ref h0, .int x])).length) Slot.unset).toArray = ls at hl ⊢
  have hl : lv_has ls 2 [(0, .ref h0), (1, .int x)] := hl
  have bT := hW.t.2
  have bE := hW.e.2
  have bV := hW.v.2
  refine lv_iload_n hx hb dX4_requireEntry_0 rfl (lv_at hl 1 rfl) ?_
  refine lv_if_lt (tgt := 15) hx hb dX4_requireEntry_1 (by decide) (fun c_1 => ?_) (fun c_1 => ?_)
  · skip
    exact tk_nsW hst hx hb hown (hts (.classLink RX4 145 "java/util/NoSuchElementException") (by decide +kernel)) (hts (.initialized "java/util/NoSuchElementException") (by decide +kernel)) (text := "there is no such entry") (by decide) (fun w hw => hts w (List.mem_cons_of_mem _ (List.mem_append_right _ hw))) hF hO hS hE (hl.1.trans hml.symm) hno hlocks dX4_requireEntry_15 dX4_requireEntry_18 dX4_requireEntry_19 dX4_requireEntry_22 dX4_requireEntry_25 (Nat.le_of_ble_eq_true rfl) (Nat.le_of_ble_eq_true rfl) ⟨Nat.le_of_ble_eq_true rfl, Nat.le_of_ble_eq_true rfl⟩ ⟨Nat.le_of_ble_eq_true rfl, Nat.le_of_ble_eq_true rfl⟩ ⟨rfl, tkOk_lo c_1⟩
  · skip
    refine lv_iload_n hx hb dX4_requireEntry_4 rfl (lv_at hl 1 rfl) ?_
    refine lv_aload_n hx hb dX4_requireEntry_5 rfl (lv_at hl 0 rfl) ?_
    refine tk_get hx hb hts inX4 hown hK hM hP.h rfl 1 (by decide) (hts (.fieldLink RX4 16 "TicketForge" "entryList" "Ljava/util/ArrayList;") (by decide +kernel)) (fun _ h9 => h9) rfl dX4_requireEntry_6 ?_
    refine tk_cVi (As := []) S0 (c_Jx4a65c_size_8abf5 l A D ac dE _ hP.le) (cwV 0 hts gX4_requireEntry_Jx4a65c_size_8abf5 rfl rfl rfl (by decide +kernel) ⟨Nat.le_of_ble_eq_true rfl, Nat.le_of_ble_eq_true rfl⟩) (tkX.blind) (tkX.at hM hK hA hF hO hS) (LX.rec hP.le hK hM) rfl hl.1 rfl (Nat.le_of_ble_eq_true rfl) dX4_requireEntry_9 ⟨Nat.le_of_ble_eq_true rfl, Nat.le_of_ble_eq_true rfl⟩ (fun r_2 hr_2 => ?_)
    subst hr_2
    refine lv_icmp_lt (tgt := 26) hx hb dX4_requireEntry_12 (by decide) (fun c_3 => ?_) (fun c_3 => ?_)
    · have hok : tkOk (nE M) x = true := tkOk_in c_1 (Int32.not_le.mpr c_3)
      have hok2 := hok
      obtain ⟨t, ht, rfl⟩ := tkOk_ex (by omega) hok2
      refine lv_aload_n hx hb dX4_requireEntry_26 rfl (lv_at hl 0 rfl) ?_
      refine tk_get hx hb hts inX4 hown hK hM hP.h rfl 1 (by decide) (hts (.fieldLink RX4 16 "TicketForge" "entryList" "Ljava/util/ArrayList;") (by decide +kernel)) (fun _ h9 => h9) rfl dX4_requireEntry_27 ?_
      refine lv_iload_n hx hb dX4_requireEntry_30 rfl (lv_at hl 1 rfl) ?_
      have hg_5 : t < nE M := by omega
      refine tk_cVq (As := [.int (nI t)]) S0 (c_Jx4a65c_get_915e3 l A D ac dE _ hP.le t hg_5 (by omega)) (cwV 1 hts gX4_requireEntry_Jx4a65c_get_915e3 rfl rfl rfl (by decide +kernel) ⟨Nat.le_of_ble_eq_true rfl, Nat.le_of_ble_eq_true rfl⟩) (tkX.blind) (tkX.at hM hK hA hF hO hS) (LX.rec hP.le hK hM) rfl hl.1 rfl (Nat.le_of_ble_eq_true rfl) dX4_requireEntry_31 ⟨Nat.le_of_ble_eq_true rfl, Nat.le_of_ble_eq_true rfl⟩ (fun r_4 hr_4 => ?_)
      subst hr_4
      refine va_castY (C := "TicketForge$Entry") hx hb hown (hts (.classLink RX4 178 "TicketForge$Entry") (by decide +kernel)) (hF.2.2.2 ("TicketForge$Entry", "TicketForge$Entry") (by decide +kernel)) (tk_recv hK hM (hP.e hg_5) rfl (ci := 3) (q := (RX0, TX0, 7))) dX4_requireEntry_34 ?_
      refine vx_ret ?_
      refine W.widen (k := 1) (n := 6) (Nat.le_of_ble_eq_true rfl) (Nat.le_of_ble_eq_true rfl) ?_
      exact W.aret (v := .ref (α 2 t)) hx hb hr (Or.inl ⟨_, rfl⟩) (va_rf_or (some (α 2 t))) (fun t9 h9 w9 => ⟨⟨(some (α 2 t)), (), rfl, ⟨hok, by rw [show tn (nI t) = t from nI_clamp (by omega)]⟩, trivial⟩, hE.F h9⟩) hS.2.2 dX4_requireEntry_37
    · skip
      exact tk_nsW hst hx hb hown (hts (.classLink RX4 145 "java/util/NoSuchElementException") (by decide +kernel)) (hts (.initialized "java/util/NoSuchElementException") (by decide +kernel)) (text := "there is no such entry") (by decide) (fun w hw => hts w (List.mem_cons_of_mem _ (List.mem_append_right _ hw))) hF hO hS hE (hl.1.trans hml.symm) hno hlocks dX4_requireEntry_15 dX4_requireEntry_18 dX4_requireEntry_19 dX4_requireEntry_22 dX4_requireEntry_25 (Nat.le_of_ble_eq_true rfl) (Nat.le_of_ble_eq_true rfl) ⟨Nat.le_of_ble_eq_true rfl, Nat.le_of_ble_eq_true rfl⟩ ⟨Nat.le_of_ble_eq_true rfl, Nat.le_of_ble_eq_true rfl⟩ ⟨rfl, tkOk_hi (Int32.not_lt.mp c_3)⟩
set_option maxHeartbeats 4000000 in
set_option maxRecDepth 100000 in
theorem c_X4_requireInvoice (l : Launch) (hst : l.stackTraces = false) (A : Nat → Prop) (D : va_G) (ac : Nat → ClassId) (dE : Nat) (G : TG) {h0 : Nat} {α : Nat → Nat → Nat} {M : TS} {nv : Nat} (hP : PX ac dE h0 α M nv G) (hW : W0 M) (hnv : nV M ≤ nv) (x : Int32) : vx_Met l yX4_requireInvoice wsX4_requireInvoice ({ frames := 6, cells := 1, slots := 6, locals := 260 } : Room) (va_Pc [.ref h0, .int x] (tkX A D ac dE G)) (va_Qq (fun r (_ : Unit) => tkOk (nV M) x = true ∧ r = some (α 3 (tn x))) (fun _ _ => True) (fun _ => False)) (XG (fun E => E = "java/util/NoSuchElementException" ∧ tkOk (nV M) x = false)) 1 6 A := by
  refine vx_ofW (cc := cX4_requireInvoice) (maxL := 2) (ret := (some (.object "TicketForge$Invoice"))) (by decide) rfl ?_
  intro p e s m args below meth c s₁ B hml hno hv
  obtain ⟨rfl, ⟨hM, hK, hA, hF⟩, hO⟩ := hv
  have hS : va_S A s.heap s.heap [] := va_S.rf
  have hE : tkE s.heap s.heap := tkE.rf
  have hx := B.exec
  have hb := B.bytes
  have hr := B.returns
  have hts := atoms_spec (ws := wsX4_requireInvoice) B.pre
  have hown : s.vm.findClass RX4 = some m.cls := findClass_of_methodNamed B.named
  have hlocks := B.notSynchronized
  have S0 : CallFix p m c cX4_requireInvoice 2 s ([.ref h0, .int x] : List Value).toArray wsX4_requireInvoice RX4 := ⟨hx, hb, hml, hown, hts⟩
  have inX4 : ∀ w ∈ wsX40, w ∈ wsX4_requireInvoice := by decide +kernel
  have hl := lv_entry ([.ref h0, .int x]) (n := 2) (Nat.le_of_ble_eq_true rfl)
  rw [lg_entry_eq]
  generalize (lg_sl ([.ref h0, .int x]) ++ List.replicate (2 - (lg_sl ([.ref h0, .int x])).length) Slot.unset).toArray = ls at hl ⊢
  have hl : lv_has ls 2 [(0, .ref h0), (1, .int x)] := hl
  have bT := hW.t.2
  have bE := hW.e.2
  have bV := hW.v.2
  refine lv_iload_n hx hb dX4_requireInvoice_0 rfl (lv_at hl 1 rfl) ?_
  refine lv_if_lt (tgt := 15) hx hb dX4_requireInvoice_1 (by decide) (fun c_1 => ?_) (fun c_1 => ?_)
  · skip
    exact tk_nsW hst hx hb hown (hts (.classLink RX4 145 "java/util/NoSuchElementException") (by decide +kernel)) (hts (.initialized "java/util/NoSuchElementException") (by decide +kernel)) (text := "there is no such invoice") (by decide) (fun w hw => hts w (List.mem_cons_of_mem _ (List.mem_append_right _ hw))) hF hO hS hE (hl.1.trans hml.symm) hno hlocks dX4_requireInvoice_15 dX4_requireInvoice_18 dX4_requireInvoice_19 dX4_requireInvoice_22 dX4_requireInvoice_25 (Nat.le_of_ble_eq_true rfl) (Nat.le_of_ble_eq_true rfl) ⟨Nat.le_of_ble_eq_true rfl, Nat.le_of_ble_eq_true rfl⟩ ⟨Nat.le_of_ble_eq_true rfl, Nat.le_of_ble_eq_true rfl⟩ ⟨rfl, tkOk_lo c_1⟩
  · skip
    refine lv_iload_n hx hb dX4_requireInvoice_4 rfl (lv_at hl 1 rfl) ?_
    refine lv_aload_n hx hb dX4_requireInvoice_5 rfl (lv_at hl 0 rfl) ?_
    refine tk_get hx hb hts inX4 hown hK hM hP.h rfl 2 (by decide) (hts (.fieldLink RX4 19 "TicketForge" "invoiceList" "Ljava/util/ArrayList;") (by decide +kernel)) (fun _ h9 => h9) rfl dX4_requireInvoice_6 ?_
    refine tk_cVi (As := []) S0 (c_Jx4a65c_size_8abf5 l A D ac dE _ hP.lv) (cwV 0 hts gX4_requireInvoice_Jx4a65c_size_8abf5 rfl rfl rfl (by decide +kernel) ⟨Nat.le_of_ble_eq_true rfl, Nat.le_of_ble_eq_true rfl⟩) (tkX.blind) (tkX.at hM hK hA hF hO hS) (LX.rec hP.lv hK hM) rfl hl.1 rfl (Nat.le_of_ble_eq_true rfl) dX4_requireInvoice_9 ⟨Nat.le_of_ble_eq_true rfl, Nat.le_of_ble_eq_true rfl⟩ (fun r_2 hr_2 => ?_)
    subst hr_2
    refine lv_icmp_lt (tgt := 26) hx hb dX4_requireInvoice_12 (by decide) (fun c_3 => ?_) (fun c_3 => ?_)
    · have hok : tkOk (nV M) x = true := tkOk_in c_1 (Int32.not_le.mpr c_3)
      have hok2 := hok
      obtain ⟨t, ht, rfl⟩ := tkOk_ex (by omega) hok2
      refine lv_aload_n hx hb dX4_requireInvoice_26 rfl (lv_at hl 0 rfl) ?_
      refine tk_get hx hb hts inX4 hown hK hM hP.h rfl 2 (by decide) (hts (.fieldLink RX4 19 "TicketForge" "invoiceList" "Ljava/util/ArrayList;") (by decide +kernel)) (fun _ h9 => h9) rfl dX4_requireInvoice_27 ?_
      refine lv_iload_n hx hb dX4_requireInvoice_30 rfl (lv_at hl 1 rfl) ?_
      have hg_5 : t < nV M := by omega
      refine tk_cVq (As := [.int (nI t)]) S0 (c_Jx4a65c_get_915e3 l A D ac dE _ hP.lv t hg_5 (by omega)) (cwV 1 hts gX4_requireInvoice_Jx4a65c_get_915e3 rfl rfl rfl (by decide +kernel) ⟨Nat.le_of_ble_eq_true rfl, Nat.le_of_ble_eq_true rfl⟩) (tkX.blind) (tkX.at hM hK hA hF hO hS) (LX.rec hP.lv hK hM) rfl hl.1 rfl (Nat.le_of_ble_eq_true rfl) dX4_requireInvoice_31 ⟨Nat.le_of_ble_eq_true rfl, Nat.le_of_ble_eq_true rfl⟩ (fun r_4 hr_4 => ?_)
      subst hr_4
      refine va_castY (C := "TicketForge$Invoice") hx hb hown (hts (.classLink RX4 252 "TicketForge$Invoice") (by decide +kernel)) (hF.2.2.2 ("TicketForge$Invoice", "TicketForge$Invoice") (by decide +kernel)) (tk_recv hK hM (hP.v (Nat.lt_of_lt_of_le hg_5 hnv)) rfl (ci := 4) (q := (RX1, TX1, 4))) dX4_requireInvoice_34 ?_
      refine vx_ret ?_
      refine W.widen (k := 1) (n := 6) (Nat.le_of_ble_eq_true rfl) (Nat.le_of_ble_eq_true rfl) ?_
      exact W.aret (v := .ref (α 3 t)) hx hb hr (Or.inl ⟨_, rfl⟩) (va_rf_or (some (α 3 t))) (fun t9 h9 w9 => ⟨⟨(some (α 3 t)), (), rfl, ⟨hok, by rw [show tn (nI t) = t from nI_clamp (by omega)]⟩, trivial⟩, hE.F h9⟩) hS.2.2 dX4_requireInvoice_37
    · skip
      exact tk_nsW hst hx hb hown (hts (.classLink RX4 145 "java/util/NoSuchElementException") (by decide +kernel)) (hts (.initialized "java/util/NoSuchElementException") (by decide +kernel)) (text := "there is no such invoice") (by decide) (fun w hw => hts w (List.mem_cons_of_mem _ (List.mem_append_right _ hw))) hF hO hS hE (hl.1.trans hml.symm) hno hlocks dX4_requireInvoice_15 dX4_requireInvoice_18 dX4_requireInvoice_19 dX4_requireInvoice_22 dX4_requireInvoice_25 (Nat.le_of_ble_eq_true rfl) (Nat.le_of_ble_eq_true rfl) ⟨Nat.le_of_ble_eq_true rfl, Nat.le_of_ble_eq_true rfl⟩ ⟨Nat.le_of_ble_eq_true rfl, Nat.le_of_ble_eq_true rfl⟩ ⟨rfl, tkOk_hi (Int32.not_lt.mp c_3)⟩
set_option maxHeartbeats 4000000 in
set_option maxRecDepth 100000 in
theorem c_X4_requireWeek (l : Launch) (hst : l.stackTraces = false) (A : Nat → Prop) (D : va_G) (ac : Nat → ClassId) (dE : Nat) (G : TG) (w : Int32) : vx_Met l yX4_requireWeek wsX4_requireWeek ({ frames := 6, cells := 1, slots := 6, locals := 260 } : Room) (va_Pc [.int w] (tkX A D ac dE G)) (va_Qv (fun (_ : Unit) => tkOk 30 w = true) (fun _ _ => True) (fun _ => False)) (XG (fun E => E = "java/lang/IllegalArgumentException" ∧ tkOk 30 w = false)) 1 6 A := by
  refine vx_ofW (cc := cX4_requireWeek) (maxL := 1) (ret := none) (by decide) rfl ?_
  intro p e s m args below meth c s₁ B hml hno hv
  obtain ⟨rfl, ⟨hM, hK, hA, hF⟩, hO⟩ := hv
  have hS : va_S A s.heap s.heap [] := va_S.rf
  have hE : tkE s.heap s.heap := tkE.rf
  have hx := B.exec
  have hb := B.bytes
  have hr := B.returns
  have hts := atoms_spec (ws := wsX4_requireWeek) B.pre
  have hown : s.vm.findClass RX4 = some m.cls := findClass_of_methodNamed B.named
  have hlocks := B.notSynchronized
  have S0 : CallFix p m c cX4_requireWeek 1 s ([.int w] : List Value).toArray wsX4_requireWeek RX4 := ⟨hx, hb, hml, hown, hts⟩
  have hl := lv_entry ([.int w]) (n := 1) (Nat.le_of_ble_eq_true rfl)
  rw [lg_entry_eq]
  generalize (lg_sl ([.int w]) ++ List.replicate (1 - (lg_sl ([.int w])).length) Slot.unset).toArray = ls at hl ⊢
  have hl : lv_has ls 1 [(0, .int w)] := hl
  refine lv_iload_n hx hb dX4_requireWeek_0 rfl (lv_at hl 0 rfl) ?_
  refine tk_cSi (As := [.int w]) S0 (c_X4_isWeek l A D ac dE _ w) (va_cwS 1 hts gX4_requireWeek_X4_isWeek rfl rfl rfl (by decide +kernel) ⟨Nat.le_of_ble_eq_true rfl, Nat.le_of_ble_eq_true rfl⟩) (tkX.blind) (tkX.at hM hK hA hF hO hS) rfl hl.1 rfl (Nat.le_of_ble_eq_true rfl) dX4_requireWeek_1 ⟨Nat.le_of_ble_eq_true rfl, Nat.le_of_ble_eq_true rfl⟩ (fun r_1 hr_1 => ?_)
  rcases hr_1 with ⟨rfl, hr_1⟩ | ⟨rfl, hr_1⟩
  · skip
    refine lv_if_ne (tgt := 18) hx hb dX4_requireWeek_4 (by decide) (fun c_2 => ?_) (fun c_2 => absurd c_2 (by decide))
    refine vx_ret ?_
    refine W.widen (k := 1) (n := 6) (Nat.le_of_ble_eq_true rfl) (Nat.le_of_ble_eq_true rfl) ?_
    exact W.vret hx hb hr (fun t9 h9 w9 => ⟨⟨(), rfl, hr_1, trivial⟩, hE.F h9⟩) hS.2.2 dX4_requireWeek_18
  · skip
    refine lv_if_ne (tgt := 18) hx hb dX4_requireWeek_4 (by decide) (fun c_3 => absurd c_3 (by decide)) (fun c_3 => ?_)
    exact tk_thW hst hx hb hown (by decide) (hts (.classLink RX4 55 "java/lang/IllegalArgumentException") (by decide +kernel)) (hts (.initialized "java/lang/IllegalArgumentException") (by decide +kernel)) (text := "there is no such week") (by decide) (by decide) (fun w hw => hts w (List.mem_cons_of_mem _ (List.mem_append_right _ hw))) ng_59 ot_59 hF hO hS hE (hl.1.trans hml.symm) hno hlocks dX4_requireWeek_7 dX4_requireWeek_10 dX4_requireWeek_11 dX4_requireWeek_14 dX4_requireWeek_17 (Nat.le_of_ble_eq_true rfl) (Nat.le_of_ble_eq_true rfl) ⟨Nat.le_of_ble_eq_true rfl, Nat.le_of_ble_eq_true rfl⟩ ⟨Nat.le_of_ble_eq_true rfl, Nat.le_of_ble_eq_true rfl⟩ ⟨rfl, hr_1⟩
set_option maxHeartbeats 4000000 in
set_option maxRecDepth 100000 in
theorem c_X4_requireState (l : Launch) (hst : l.stackTraces = false) (A : Nat → Prop) (D : va_G) (ac : Nat → ClassId) (dE : Nat) (G : TG) {h0 : Nat} {α : Nat → Nat → Nat} {M : TS} {nv : Nat} (hP : PX ac dE h0 α M nv G) (t : Nat) (ht : t < nT M) (x : Int32) : vx_Met l yX4_requireState wsX4_requireState ({ frames := 6, cells := 1, slots := 6, locals := 260 } : Room) (va_Pc [.ref (α 1 t), .int x] (tkX A D ac dE G)) (va_Qv (fun (_ : Unit) => M 4 t = x) (fun _ _ => True) (fun _ => False)) (XG (fun E => E = "java/lang/IllegalStateException" ∧ ¬ M 4 t = x)) 1 6 A := by
  refine vx_ofW (cc := cX4_requireState) (maxL := 2) (ret := none) (by decide) rfl ?_
  intro p e s m args below meth c s₁ B hml hno hv
  obtain ⟨rfl, ⟨hM, hK, hA, hF⟩, hO⟩ := hv
  have hS : va_S A s.heap s.heap [] := va_S.rf
  have hE : tkE s.heap s.heap := tkE.rf
  have hx := B.exec
  have hb := B.bytes
  have hr := B.returns
  have hts := atoms_spec (ws := wsX4_requireState) B.pre
  have hown : s.vm.findClass RX4 = some m.cls := findClass_of_methodNamed B.named
  have hlocks := B.notSynchronized
  have S0 : CallFix p m c cX4_requireState 2 s ([.ref (α 1 t), .int x] : List Value).toArray wsX4_requireState RX4 := ⟨hx, hb, hml, hown, hts⟩
  have inX3 : ∀ w ∈ wsX30, w ∈ wsX4_requireState := by decide +kernel
  have hl := lv_entry ([.ref (α 1 t), .int x]) (n := 2) (Nat.le_of_ble_eq_true rfl)
  rw [lg_entry_eq]
  generalize (lg_sl ([.ref (α 1 t), .int x]) ++ List.replicate (2 - (lg_sl ([.ref (α 1 t), .int x])).length) Slot.unset).toArray = ls at hl ⊢
  have hl : lv_has ls 2 [(0, .ref (α 1 t)), (1, .int x)] := hl
  refine lv_aload_n hx hb dX4_requireState_0 rfl (lv_at hl 0 rfl) ?_
  refine tk_get hx hb hts inX3 hown hK hM (hP.t ht) rfl 4 (by decide) (hts (.fieldLink RX4 71 "TicketForge$Task" "state" "C") (by decide +kernel)) (fun _ h9 => h9) rfl dX4_requireState_1 ?_
  refine lv_iload_n hx hb dX4_requireState_4 rfl (lv_at hl 1 rfl) ?_
  refine lv_icmp_eq (tgt := 19) hx hb dX4_requireState_5 (by decide) (fun c_1 => ?_) (fun c_1 => ?_)
  · skip
    refine vx_ret ?_
    refine W.widen (k := 1) (n := 6) (Nat.le_of_ble_eq_true rfl) (Nat.le_of_ble_eq_true rfl) ?_
    exact W.vret hx hb hr (fun t9 h9 w9 => ⟨⟨(), rfl, c_1, trivial⟩, hE.F h9⟩) hS.2.2 dX4_requireState_19
  · skip
    exact tk_thW hst hx hb hown (by decide) (hts (.classLink RX4 66 "java/lang/IllegalStateException") (by decide +kernel)) (hts (.initialized "java/lang/IllegalStateException") (by decide +kernel)) (text := "the task is in another state") (by decide) (by decide) (fun w hw => hts w (List.mem_cons_of_mem _ (List.mem_append_right _ hw))) ng_70 ot_70 hF hO hS hE (hl.1.trans hml.symm) hno hlocks dX4_requireState_8 dX4_requireState_11 dX4_requireState_12 dX4_requireState_15 dX4_requireState_18 (Nat.le_of_ble_eq_true rfl) (Nat.le_of_ble_eq_true rfl) ⟨Nat.le_of_ble_eq_true rfl, Nat.le_of_ble_eq_true rfl⟩ ⟨Nat.le_of_ble_eq_true rfl, Nat.le_of_ble_eq_true rfl⟩ ⟨rfl, c_1⟩
set_option maxHeartbeats 4000000 in
set_option maxRecDepth 100000 in
theorem c_X4_requireInvoiceOf (l : Launch) (hst : l.stackTraces = false) (A : Nat → Prop) (D : va_G) (ac : Nat → ClassId) (dE : Nat) (G : TG) {h0 : Nat} {α : Nat → Nat → Nat} {M : TS} {nv : Nat} (hP : PX ac dE h0 α M nv G) (hB : WB M nv) (k : Nat) (hk : k < nE M) : vx_Met l yX4_requireInvoiceOf wsX4_requireInvoiceOf ({ frames := 6, cells := 1, slots := 6, locals := 260 } : Room) (va_Pc [.ref (α 2 k)] (tkX A D ac dE G)) (va_Qq (fun r (_ : Unit) => billed M k = true ∧ r = some (α 3 (tn (M 14 k)))) (fun _ _ => True) (fun _ => False)) (XG (fun E => E = "java/lang/IllegalStateException" ∧ billed M k = false)) 1 6 A := by
  refine vx_ofW (cc := cX4_requireInvoiceOf) (maxL := 2) (ret := (some (.object "TicketForge$Invoice"))) (by decide) rfl ?_
  intro p e s m args below meth c s₁ B hml hno hv
  obtain ⟨rfl, ⟨hM, hK, hA, hF⟩, hO⟩ := hv
  have hS : va_S A s.heap s.heap [] := va_S.rf
  have hE : tkE s.heap s.heap := tkE.rf
  have hx := B.exec
  have hb := B.bytes
  have hr := B.returns
  have hts := atoms_spec (ws := wsX4_requireInvoiceOf) B.pre
  have hown : s.vm.findClass RX4 = some m.cls := findClass_of_methodNamed B.named
  have hlocks := B.notSynchronized
  have S0 : CallFix p m c cX4_requireInvoiceOf 2 s ([.ref (α 2 k)] : List Value).toArray wsX4_requireInvoiceOf RX4 := ⟨hx, hb, hml, hown, hts⟩
  have inX0 : ∀ w ∈ wsX00, w ∈ wsX4_requireInvoiceOf := by decide +kernel
  have hl := lv_entry ([.ref (α 2 k)]) (n := 2) (Nat.le_of_ble_eq_true rfl)
  rw [lg_entry_eq]
  generalize (lg_sl ([.ref (α 2 k)]) ++ List.replicate (2 - (lg_sl ([.ref (α 2 k)])).length) Slot.unset).toArray = ls at hl ⊢
  have hl : lv_has ls 2 [(0, .ref (α 2 k))] := hl
  refine lv_aload_n hx hb dX4_requireInvoiceOf_0 rfl (lv_at hl 0 rfl) ?_
  refine tk_get hx hb hts inX0 hown hK hM (hP.e hk) rfl 6 (by decide) (hts (.fieldLink RX4 284 "TicketForge$Entry" "invoice" "LTicketForge$Invoice;") (by decide +kernel)) (fun _ h9 => h9) rfl dX4_requireInvoiceOf_1 ?_
  refine tk_astore_n (lv' := [(1, va_rf (invR α M k)), (0, .ref (α 2 k))]) hx hb dX4_requireInvoiceOf_4 rfl hl (by decide) rfl (fun ls hl => ?_)
  refine tk_aload_n hx hb dX4_requireInvoiceOf_5 rfl (lv_at hl 0 rfl) ?_
  rcases tk_bool (billed M k) with hbvs_1 | hbvs_1
  · rw [invR_n hbvs_1] at hl ⊢
    refine lv_ifnonnullN hx hb dX4_requireInvoiceOf_6 ?_
    exact tk_thW hst hx hb hown (by decide) (hts (.classLink RX4 66 "java/lang/IllegalStateException") (by decide +kernel)) (hts (.initialized "java/lang/IllegalStateException") (by decide +kernel)) (text := "the entry is neither billed nor credited") (by decide) (by decide) (fun w hw => hts w (List.mem_cons_of_mem _ (List.mem_append_right _ hw))) ng_70 ot_70 hF hO hS hE (hl.1.trans hml.symm) hno hlocks dX4_requireInvoiceOf_9 dX4_requireInvoiceOf_12 dX4_requireInvoiceOf_13 dX4_requireInvoiceOf_16 dX4_requireInvoiceOf_19 (Nat.le_of_ble_eq_true rfl) (Nat.le_of_ble_eq_true rfl) ⟨Nat.le_of_ble_eq_true rfl, Nat.le_of_ble_eq_true rfl⟩ ⟨Nat.le_of_ble_eq_true rfl, Nat.le_of_ble_eq_true rfl⟩ ⟨rfl, hbvs_1⟩
  · obtain ⟨s_1, hls_1, evs_1⟩ := hB.2 k hk hbvs_1
    have hzs_1 := hB.1
    rw [invR_s (by omega) hbvs_1 evs_1] at hl ⊢
    refine lv_ifnonnull (tgt := 20) hx hb dX4_requireInvoiceOf_6 (by decide) ?_
    refine lv_aload_n hx hb dX4_requireInvoiceOf_20 rfl (lv_at hl 0 rfl) ?_
    refine vx_ret ?_
    refine W.widen (k := 1) (n := 6) (Nat.le_of_ble_eq_true rfl) (Nat.le_of_ble_eq_true rfl) ?_
    exact W.aret (v := .ref (α 3 s_1)) hx hb hr (Or.inl ⟨_, rfl⟩) (va_rf_or (some (α 3 s_1))) (fun t9 h9 w9 => ⟨⟨(some (α 3 s_1)), (), rfl, ⟨hbvs_1, by rw [evs_1, show tn (nI s_1) = s_1 from nI_clamp (by omega)]⟩, trivial⟩, hE.F h9⟩) hS.2.2 dX4_requireInvoiceOf_21
