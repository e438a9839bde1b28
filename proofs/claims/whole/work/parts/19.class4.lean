/-! the class: what answers -/
theorem tk_ldcwf {p : Program} {l : Launch} {e : Env} {R : Room} {s : State} {m : MethodId} {args : Array Value} {below : List Frame} {meth : Method} {c : Code} {H : Heap} {locs : List Loc} {cells slots : Nat} {Q : State → Prop} {cc : ByteArray} {pc : Nat} {ls : Array Slot} {rest : List Value} (hexec : p.tables.exec = Jvm.exec) (hb : c.code = cc) {own : String} {index : Nat} {v : UInt32} (hown : s.vm.findClass own = some m.cls) (hconst : (Jvm.Cond.constantFloat own index v).before args s = true) (hdg : decode cc pc = .ok (.ldc_w index, 3)) (k : W p l e R s m args below meth c H locs cells slots Q (F0 m (pc + 3) ls (.float v :: rest))) : W p l e R s m args below meth c H locs cells slots Q (F0 m pc ls rest) := by
  intro T hT X
  obtain ⟨t, a, b⟩ := k T hT X
  refine ⟨t, ?_, b⟩
  obtain ⟨k, cf, hk, hcf, hcp⟩ := Cond.constantFloat_spec hown hconst
  obtain ⟨k', hk', he⟩ := X.warmed.alike.2.2 _ _ hk
  have hdg' : decode c.code (F0 m pc ls rest).pc = .ok (.ldc_w index, 3) := by rw [hb]; exact hdg
  jvm_step X.here [hexec, hdg', ldc_w.wp_float (s := T) (f := F0 m pc ls rest) X.here.top hk' (by rw [he]; exact hcf) hcp]
  exact a
def K_canBegin (M : TS) (x : Int32) : Int32 × TS × Bool := if tkOk (nT M) x = false then (1, M, false) else (0, M, decide (M 4 (tn x) = 111) && freeC M (tn x))
def K_room (M : TS) (x : Int32) : Int32 × TS × Int32 := if tkOk (nT M) x = false then (1, M, 0) else if rmC M (tn x + 1) (tn x) 401 = 401 then (2, M, 0) else (0, M, rmC M (tn x + 1) (tn x) 401)
def itC (M : TS) (v n : Nat) : Int32 := sumI (fun k => if billed M k = true ∧ M 14 k = nI v then 1 else 0) n
def K_items (M : TS) (x : Int32) : Int32 × TS × Int32 := if tkOk (nV M) x = false then (1, M, 0) else (0, M, itC M (tn x) (nE M))
def K_totalByRules (M : TS) (x : Int32) : Int32 × TS × Int32 := if tkOk (nV M) x = false then (1, M, 0) else (0, M, recT M (tn x) (nE M))
def K_forecast (M : TS) (x w : Int32) : Int32 × TS × Int32 := if tkOk (nT M) x = false then (1, M, 0) else if tkOk 30 w = false then (2, M, 0) else if 0 < lately M w then (0, M, (leftOf M (tn x) * 3 + lately M w - 1) / lately M w) else (3, M, 0)
def K_isSettled (M : TS) : Bool := allB (fun v => decide (M 16 v = recT M v (nE M)) && decide (M 17 v = crP M v (nE M))) (nV M) && wthn M (M 0 26)
set_option maxHeartbeats 4000000 in
set_option maxRecDepth 100000 in
theorem c_X4_state (l : Launch) (hst : l.stackTraces = false) (A : Nat → Prop) (D : va_G) (ac : Nat → ClassId) (dE : Nat) (G : TG) {h0 : Nat} {α : Nat → Nat → Nat} {M : TS} {nv : Nat} (hP : PX ac dE h0 α M (nV M) G) (hW : W0 M) (hW1 : W1 M) (x : Int32) : vx_Met l yX4_state wsX4_state ({ frames := 9, cells := 1, slots := 6, locals := 500 } : Room) (va_Pc [.ref h0, .int x] (tkX A D ac dE G)) (va_Qi (fun (z : Int32) (_ : Unit) => (S_state M x).1 = 0 ∧ z = (S_state M x).2.2) (fun _ _ => True) (fun _ => False)) (XG (fun E => (E, (S_state M x).1) ∈ ([("java/lang/IndexOutOfBoundsException", 1)] : List (String × Int32)))) 1 6 A := by
  refine vx_ofW (cc := cX4_state) (maxL := 2) (ret := (some .char)) (by decide) rfl ?_
  intro p e s m args below meth c s₁ B hml hno hv
  obtain ⟨rfl, ⟨hM, hK, hA, hF⟩, hO⟩ := hv
  have hS : va_S A s.heap s.heap [] := va_S.rf
  have hE : tkE s.heap s.heap := tkE.rf
  have hx := B.exec
  have hb := B.bytes
  have hr := B.returns
  have hts := atoms_spec (ws := wsX4_state) B.pre
  have hown : s.vm.findClass RX4 = some m.cls := findClass_of_methodNamed B.named
  have hlocks := B.notSynchronized
  have S0 : CallFix p m c cX4_state 2 s ([.ref h0, .int x] : List Value).toArray wsX4_state RX4 := ⟨hx, hb, hml, hown, hts⟩
  have inX3 : ∀ w ∈ wsX30, w ∈ wsX4_state := by decide +kernel
  have hl := lv_entry ([.ref h0, .int x]) (n := 2) (Nat.le_of_ble_eq_true rfl)
  rw [lg_entry_eq]
  generalize (lg_sl ([.ref h0, .int x]) ++ List.replicate (2 - (lg_sl ([.ref h0, .int x])).length) Slot.unset).toArray = ls at hl ⊢
  have hl : lv_has ls 2 [(0, .ref h0), (1, .int x)] := hl
  have bT := hW.t.2
  have bE := hW.e.2
  have bV := hW.v.2
  refine lv_aload_n hx hb dX4_state_0 rfl (lv_at hl 0 rfl) ?_
  refine lv_iload_n hx hb dX4_state_1 rfl (lv_at hl 1 rfl) ?_
  refine tk_xVq (As := [.int x]) S0 (c_X4_requireTask l hst A D ac dE _ hP hW x) (cwV 1 hts gX4_state_X4_requireTask rfl rfl rfl (by decide +kernel) ⟨Nat.le_of_ble_eq_true rfl, Nat.le_of_ble_eq_true rfl⟩) (tkX.blind) (tkX.at hM hK hA hF hO hS) (tk_recv hK hM hP.h rfl) rfl hl.1 rfl (Nat.le_of_ble_eq_true rfl) dX4_state_2 ⟨Nat.le_of_ble_eq_true rfl, Nat.le_of_ble_eq_true rfl⟩ hS hE hno hlocks ⟨Nat.le_of_ble_eq_true rfl, Nat.le_of_ble_eq_true rfl⟩ (fun E h9 => by obtain ⟨rfl, h9⟩ := h9; exact (xl (k := 1) (by rw [S_state, if_pos h9]) (by decide +kernel))) (fun r_1 H locs hr_1 hq9 hE hS => ?_)
  have hM := hM.keptE hq9
  obtain ⟨hok, rfl⟩ := hr_1
  have hokc := hok
  obtain ⟨t, ht, rfl⟩ := tkOk_ex (by omega) hokc
  rw [show tn (nI t) = t from nI_clamp (by omega)]
  refine tk_get hx hb hts inX3 hown hK hM (hP.t ht) rfl 4 (by decide) (hts (.fieldLink RX4 71 "TicketForge$Task" "state" "C") (by decide +kernel)) (fun _ h9 => h9) rfl dX4_state_5 ?_
  refine vx_ret ?_
  refine W.widen (k := 1) (n := 6) (Nat.le_of_ble_eq_true rfl) (Nat.le_of_ble_eq_true rfl) ?_
  have eS : S_state M (nI t) = (0, M, (M 4 t)) := (by rw [S_state, show tn (nI t) = t from nI_clamp (show t < 2 ^ 31 by omega), if_neg (by rw [hok]; decide)])
  exact W.zret (v := (M 4 t)) hx hb hr (hW1.nt ht) (fun t9 h9 w9 => ⟨⟨(M 4 t), (), rfl, (by rw [eS]; exact ⟨rfl, rfl⟩), trivial⟩, hE.F h9⟩) hS.2.2 dX4_state_8
set_option maxHeartbeats 4000000 in
set_option maxRecDepth 100000 in
theorem c_X4_entryState (l : Launch) (hst : l.stackTraces = false) (A : Nat → Prop) (D : va_G) (ac : Nat → ClassId) (dE : Nat) (G : TG) {h0 : Nat} {α : Nat → Nat → Nat} {M : TS} {nv : Nat} (hP : PX ac dE h0 α M (nV M) G) (hW : W0 M) (hW1 : W1 M) (x : Int32) : vx_Met l yX4_entryState wsX4_entryState ({ frames := 9, cells := 1, slots := 6, locals := 500 } : Room) (va_Pc [.ref h0, .int x] (tkX A D ac dE G)) (va_Qi (fun (z : Int32) (_ : Unit) => (S_entryState M x).1 = 0 ∧ z = (S_entryState M x).2.2) (fun _ _ => True) (fun _ => False)) (XG (fun E => (E, (S_entryState M x).1) ∈ ([("java/util/NoSuchElementException", 1)] : List (String × Int32)))) 1 6 A := by
  refine vx_ofW (cc := cX4_entryState) (maxL := 2) (ret := (some .char)) (by decide) rfl ?_
  intro p e s m args below meth c s₁ B hml hno hv
  obtain ⟨rfl, ⟨hM, hK, hA, hF⟩, hO⟩ := hv
  have hS : va_S A s.heap s.heap [] := va_S.rf
  have hE : tkE s.heap s.heap := tkE.rf
  have hx := B.exec
  have hb := B.bytes
  have hr := B.returns
  have hts := atoms_spec (ws := wsX4_entryState) B.pre
  have hown : s.vm.findClass RX4 = some m.cls := findClass_of_methodNamed B.named
  have hlocks := B.notSynchronized
  have S0 : CallFix p m c cX4_entryState 2 s ([.ref h0, .int x] : List Value).toArray wsX4_entryState RX4 := ⟨hx, hb, hml, hown, hts⟩
  have inX0 : ∀ w ∈ wsX00, w ∈ wsX4_entryState := by decide +kernel
  have hl := lv_entry ([.ref h0, .int x]) (n := 2) (Nat.le_of_ble_eq_true rfl)
  rw [lg_entry_eq]
  generalize (lg_sl ([.ref h0, .int x]) ++ List.replicate (2 - (lg_sl ([.ref h0, .int x])).length) Slot.unset).toArray = ls at hl ⊢
  have hl : lv_has ls 2 [(0, .ref h0), (1, .int x)] := hl
  have bT := hW.t.2
  have bE := hW.e.2
  have bV := hW.v.2
  refine lv_aload_n hx hb dX4_entryState_0 rfl (lv_at hl 0 rfl) ?_
  refine lv_iload_n hx hb dX4_entryState_1 rfl (lv_at hl 1 rfl) ?_
  refine tk_xVq (As := [.int x]) S0 (c_X4_requireEntry l hst A D ac dE _ hP hW x) (cwV 1 hts gX4_entryState_X4_requireEntry rfl rfl rfl (by decide +kernel) ⟨Nat.le_of_ble_eq_true rfl, Nat.le_of_ble_eq_true rfl⟩) (tkX.blind) (tkX.at hM hK hA hF hO hS) (tk_recv hK hM hP.h rfl) rfl hl.1 rfl (Nat.le_of_ble_eq_true rfl) dX4_entryState_2 ⟨Nat.le_of_ble_eq_true rfl, Nat.le_of_ble_eq_true rfl⟩ hS hE hno hlocks ⟨Nat.le_of_ble_eq_true rfl, Nat.le_of_ble_eq_true rfl⟩ (fun E h9 => by obtain ⟨rfl, h9⟩ := h9; exact (xl (k := 1) (by rw [S_entryState, if_pos h9]) (by decide +kernel))) (fun r_1 H locs hr_1 hq9 hE hS => ?_)
  have hM := hM.keptE hq9
  obtain ⟨hok, rfl⟩ := hr_1
  have hokc := hok
  obtain ⟨k, hk, rfl⟩ := tkOk_ex (by omega) hokc
  rw [show tn (nI k) = k from nI_clamp (by omega)]
  refine tk_get hx hb hts inX0 hown hK hM (hP.e hk) rfl 4 (by decide) (hts (.fieldLink RX4 187 "TicketForge$Entry" "state" "C") (by decide +kernel)) (fun _ h9 => h9) rfl dX4_entryState_5 ?_
  refine vx_ret ?_
  refine W.widen (k := 1) (n := 6) (Nat.le_of_ble_eq_true rfl) (Nat.le_of_ble_eq_true rfl) ?_
  have eS : S_entryState M (nI k) = (0, M, (M 5 k)) := (by rw [S_entryState, show tn (nI k) = k from nI_clamp (show k < 2 ^ 31 by omega), if_neg (by rw [hok]; decide)])
  exact W.zret (v := (M 5 k)) hx hb hr (hW1.ne hk) (fun t9 h9 w9 => ⟨⟨(M 5 k), (), rfl, (by rw [eS]; exact ⟨rfl, rfl⟩), trivial⟩, hE.F h9⟩) hS.2.2 dX4_entryState_8
set_option maxHeartbeats 4000000 in
set_option maxRecDepth 100000 in
theorem c_X4_parent (l : Launch) (hst : l.stackTraces = false) (A : Nat → Prop) (D : va_G) (ac : Nat → ClassId) (dE : Nat) (G : TG) {h0 : Nat} {α : Nat → Nat → Nat} {M : TS} {nv : Nat} (hP : PX ac dE h0 α M (nV M) G) (hW : W0 M) (x : Int32) : vx_Met l yX4_parent wsX4_parent ({ frames := 9, cells := 2, slots := 12, locals := 500 } : Room) (va_Pc [.ref h0, .int x] (tkX A D ac dE G)) (va_Qi (fun (z : Int32) (_ : Unit) => (S_parent M x).1 = 0 ∧ z = (S_parent M x).2.2) (fun _ _ => True) (fun _ => False)) (XG (fun E => (E, (S_parent M x).1) ∈ ([("java/lang/IndexOutOfBoundsException", 1), ("java/util/NoSuchElementException", 2)] : List (String × Int32)))) 2 12 A := by
  refine vx_ofW (cc := cX4_parent) (maxL := 3) (ret := (some .int)) (by decide) rfl ?_
  intro p e s m args below meth c s₁ B hml hno hv
  obtain ⟨rfl, ⟨hM, hK, hA, hF⟩, hO⟩ := hv
  have hS : va_S A s.heap s.heap [] := va_S.rf
  have hE : tkE s.heap s.heap := tkE.rf
  have hx := B.exec
  have hb := B.bytes
  have hr := B.returns
  have hts := atoms_spec (ws := wsX4_parent) B.pre
  have hown : s.vm.findClass RX4 = some m.cls := findClass_of_methodNamed B.named
  have hlocks := B.notSynchronized
  have S0 : CallFix p m c cX4_parent 3 s ([.ref h0, .int x] : List Value).toArray wsX4_parent RX4 := ⟨hx, hb, hml, hown, hts⟩
  have inX3 : ∀ w ∈ wsX30, w ∈ wsX4_parent := by decide +kernel
  have hl := lv_entry ([.ref h0, .int x]) (n := 3) (Nat.le_of_ble_eq_true rfl)
  rw [lg_entry_eq]
  generalize (lg_sl ([.ref h0, .int x]) ++ List.replicate (3 - (lg_sl ([.ref h0, .int x])).length) Slot.unset).toArray = ls at hl ⊢
  have hl : lv_has ls 3 [(0, .ref h0), (1, .int x)] := hl
  have bT := hW.t.2
  have bE := hW.e.2
  have bV := hW.v.2
  refine lv_aload_n hx hb dX4_parent_0 rfl (lv_at hl 0 rfl) ?_
  refine lv_iload_n hx hb dX4_parent_1 rfl (lv_at hl 1 rfl) ?_
  refine tk_xVq (As := [.int x]) S0 (c_X4_requireTask l hst A D ac dE _ hP hW x) (cwV 1 hts gX4_parent_X4_requireTask rfl rfl rfl (by decide +kernel) ⟨Nat.le_of_ble_eq_true rfl, Nat.le_of_ble_eq_true rfl⟩) (tkX.blind) (tkX.at hM hK hA hF hO hS) (tk_recv hK hM hP.h rfl) rfl hl.1 rfl (Nat.le_of_ble_eq_true rfl) dX4_parent_2 ⟨Nat.le_of_ble_eq_true rfl, Nat.le_of_ble_eq_true rfl⟩ hS hE hno hlocks ⟨Nat.le_of_ble_eq_true rfl, Nat.le_of_ble_eq_true rfl⟩ (fun E h9 => by obtain ⟨rfl, h9⟩ := h9; exact (xl (k := 1) (by rw [S_parent, if_pos h9]) (by decide +kernel))) (fun r_1 H locs hr_1 hq9 hE hS => ?_)
  have hM := hM.keptE hq9
  obtain ⟨hok, rfl⟩ := hr_1
  have hokc := hok
  obtain ⟨t, ht, rfl⟩ := tkOk_ex (by omega) hokc
  rw [show tn (nI t) = t from nI_clamp (by omega)]
  refine tk_get hx hb hts inX3 hown hK hM (hP.t ht) rfl 1 (by decide) (hts (.fieldLink RX4 137 "TicketForge$Task" "parent" "LTicketForge$Task;") (by decide +kernel)) (fun _ h9 => h9) rfl dX4_parent_5 ?_
  refine tk_astore_n (lv' := [(2, va_rf (parR α M t)), (0, .ref h0), (1, .int (nI t))]) hx hb dX4_parent_8 rfl hl (by decide) rfl (fun ls hl => ?_)
  refine tk_aload_n hx hb dX4_parent_9 rfl (lv_at hl 0 rfl) ?_
  rcases hW.p t ht with hns_2 | ⟨s_2, hqs_2, eqs_2⟩
  · rw [parR_n hns_2] at hl ⊢
    refine lv_ifnonnullN hx hb dX4_parent_10 ?_
    exact tk_nsS hst hx hb hown (hts (.classLink RX4 145 "java/util/NoSuchElementException") (by decide +kernel)) (hts (.initialized "java/util/NoSuchElementException") (by decide +kernel)) (text := "the task has no parent") (by decide) (fun w hw => hts w (List.mem_cons_of_mem _ (List.mem_append_left _ (List.mem_append_right _ hw)))) hF hO hS hE (hl.1.trans hml.symm) hno hlocks dX4_parent_13 dX4_parent_16 dX4_parent_17 dX4_parent_19 dX4_parent_22 (Nat.le_of_ble_eq_true rfl) (Nat.le_of_ble_eq_true rfl) ⟨Nat.le_of_ble_eq_true rfl, Nat.le_of_ble_eq_true rfl⟩ ⟨Nat.le_of_ble_eq_true rfl, Nat.le_of_ble_eq_true rfl⟩ (xl (k := 2) (by rw [S_parent, show tn (nI t) = t from nI_clamp (show t < 2 ^ 31 by omega), if_neg (by rw [hok]; decide), if_pos hns_2]) (by decide +kernel))
  · have hls_2 : s_2 < nT M := Nat.lt_trans hqs_2 ht
    rw [parR_s (by omega) eqs_2] at hl ⊢
    refine lv_ifnonnull (tgt := 23) hx hb dX4_parent_10 (by decide) ?_
    refine lv_aload_n hx hb dX4_parent_23 rfl (lv_at hl 0 rfl) ?_
    refine tk_get hx hb hts inX3 hown hK hM (hP.t hls_2) rfl 0 (by decide) (hts (.fieldLink RX4 89 "TicketForge$Task" "number" "I") (by decide +kernel)) (fun _ h9 => h9) rfl dX4_parent_24 ?_
    refine vx_ret ?_
    refine W.widen (k := 2) (n := 12) (Nat.le_of_ble_eq_true rfl) (Nat.le_of_ble_eq_true rfl) ?_
    have eS : S_parent M (nI t) = (0, M, (nI s_2)) := (by rw [S_parent, show tn (nI t) = t from nI_clamp (show t < 2 ^ 31 by omega), if_neg (by rw [hok]; decide), if_neg (by rw [eqs_2]; exact nI_pos (by omega)), eqs_2])
    exact W.iret (v := (nI s_2)) hx hb hr (fun t9 h9 w9 => ⟨⟨(nI s_2), (), rfl, (by rw [eS]; exact ⟨rfl, rfl⟩), trivial⟩, hE.F h9⟩) hS.2.2 dX4_parent_27
set_option maxHeartbeats 4000000 in
set_option maxRecDepth 100000 in
theorem c_X4_treeSize (l : Launch) (hst : l.stackTraces = false) (A : Nat → Prop) (D : va_G) (ac : Nat → ClassId) (dE : Nat) (G : TG) {h0 : Nat} {α : Nat → Nat → Nat} {M : TS} {nv : Nat} (hP : PX ac dE h0 α M (nV M) G) (hW : W0 M) (x : Int32) : vx_Met l yX4_treeSize wsX4_treeSize ({ frames := 9, cells := 1, slots := 6, locals := 500 } : Room) (va_Pc [.ref h0, .int x] (tkX A D ac dE G)) (va_Qi (fun (z : Int32) (_ : Unit) => (S_treeSize M x).1 = 0 ∧ z = (S_treeSize M x).2.2) (fun _ _ => True) (fun _ => False)) (XG (fun E => (E, (S_treeSize M x).1) ∈ ([("java/lang/IndexOutOfBoundsException", 1)] : List (String × Int32)))) 1 6 A := by
  refine vx_ofW (cc := cX4_treeSize) (maxL := 5) (ret := (some .int)) (by decide) rfl ?_
  intro p e s m args below meth c s₁ B hml hno hv
  obtain ⟨rfl, ⟨hM, hK, hA, hF⟩, hO⟩ := hv
  have hS : va_S A s.heap s.heap [] := va_S.rf
  have hE : tkE s.heap s.heap := tkE.rf
  have hx := B.exec
  have hb := B.bytes
  have hr := B.returns
  have hts := atoms_spec (ws := wsX4_treeSize) B.pre
  have hown : s.vm.findClass RX4 = some m.cls := findClass_of_methodNamed B.named
  have hlocks := B.notSynchronized
  have S0 : CallFix p m c cX4_treeSize 5 s ([.ref h0, .int x] : List Value).toArray wsX4_treeSize RX4 := ⟨hx, hb, hml, hown, hts⟩
  have inX4 : ∀ w ∈ wsX40, w ∈ wsX4_treeSize := by decide +kernel
  have hl := lv_entry ([.ref h0, .int x]) (n := 5) (Nat.le_of_ble_eq_true rfl)
  rw [lg_entry_eq]
  generalize (lg_sl ([.ref h0, .int x]) ++ List.replicate (5 - (lg_sl ([.ref h0, .int x])).length) Slot.unset).toArray = ls at hl ⊢
  have hl : lv_has ls 5 [(0, .ref h0), (1, .int x)] := hl
  have bT := hW.t.2
  have bE := hW.e.2
  have bV := hW.v.2
  refine lv_aload_n hx hb dX4_treeSize_0 rfl (lv_at hl 0 rfl) ?_
  refine lv_iload_n hx hb dX4_treeSize_1 rfl (lv_at hl 1 rfl) ?_
  refine tk_xVq (As := [.int x]) S0 (c_X4_requireTask l hst A D ac dE _ hP hW x) (cwV 1 hts gX4_treeSize_X4_requireTask rfl rfl rfl (by decide +kernel) ⟨Nat.le_of_ble_eq_true rfl, Nat.le_of_ble_eq_true rfl⟩) (tkX.blind) (tkX.at hM hK hA hF hO hS) (tk_recv hK hM hP.h rfl) rfl hl.1 rfl (Nat.le_of_ble_eq_true rfl) dX4_treeSize_2 ⟨Nat.le_of_ble_eq_true rfl, Nat.le_of_ble_eq_true rfl⟩ hS hE hno hlocks ⟨Nat.le_of_ble_eq_true rfl, Nat.le_of_ble_eq_true rfl⟩ (fun E h9 => by obtain ⟨rfl, h9⟩ := h9; exact (xl (k := 1) (by rw [S_treeSize, if_pos h9]) (by decide +kernel))) (fun r_1 H locs hr_1 hq9 hE hS => ?_)
  have hM := hM.keptE hq9
  obtain ⟨hok, rfl⟩ := hr_1
  have hokc := hok
  obtain ⟨t, ht, rfl⟩ := tkOk_ex (by omega) hokc
  rw [show tn (nI t) = t from nI_clamp (by omega)]
  refine lv_astore_n (lv' := [(2, .ref (α 1 t)), (0, .ref h0), (1, .int (nI t))]) hx hb dX4_treeSize_5 rfl hl (by decide) rfl (fun ls hl => ?_)
  refine lv_iconst (v := 0) hx hb dX4_treeSize_6 (by decide) ?_
  refine lv_istore_n (lv' := [(3, .int 0), (2, .ref (α 1 t)), (0, .ref h0), (1, .int (nI t))]) hx hb dX4_treeSize_7 rfl hl (by decide) rfl (fun ls hl => ?_)
  refine lv_iconst (v := 0) hx hb dX4_treeSize_8 (by decide) ?_
  refine lv_istore (lv' := [(4, .int 0), (3, .int 0), (2, .ref (α 1 t)), (0, .ref h0), (1, .int (nI t))]) hx hb dX4_treeSize_9 hl (by decide) rfl (fun ls hl => ?_)
  refine tk_f1 (Wf := W p l e _ s m _ below meth c _ _ _ _ _) (nT M) (fun i acc ls => lv_has ls 5 [(2, .ref (α 1 t)), (0, .ref h0), (1, .int (nI t)), (4, .int (nI i)), (3, .int acc)] ∧ acc = sumI (fun k => if isIn M k t = true then 1 else 0) i) (fun i acc ls hi hinv ih => ?_) _ ls ⟨(lv_sub hl [2, 3, 4, 0, 1] rfl), rfl⟩
  obtain ⟨hl, hinv⟩ := hinv
  refine lv_iload hx hb dX4_treeSize_11 (lv_at hl 3 rfl) ?_
  refine lv_aload_n hx hb dX4_treeSize_13 rfl (lv_at hl 1 rfl) ?_
  refine tk_get hx hb hts inX4 hown hK hM hP.h rfl 0 (by decide) (hts (.fieldLink RX4 12 "TicketForge" "taskList" "Ljava/util/ArrayList;") (by decide +kernel)) (fun _ h9 => h9) rfl dX4_treeSize_14 ?_
  refine tk_cVi (As := []) S0 (c_Jx4a65c_size_8abf5 l A D ac dE _ hP.lt) (cwV 0 hts gX4_treeSize_Jx4a65c_size_8abf5 rfl rfl rfl (by decide +kernel) ⟨Nat.le_of_ble_eq_true rfl, Nat.le_of_ble_eq_true rfl⟩) (tkX.blind) (tkX.at hM hK hA hF hO hS) (LX.rec hP.lt hK hM) rfl hl.1 rfl (Nat.le_of_ble_eq_true rfl) dX4_treeSize_17 ⟨Nat.le_of_ble_eq_true rfl, Nat.le_of_ble_eq_true rfl⟩ (fun r_2 hr_2 => ?_)
  subst hr_2
  refine lv_icmp_ge (tgt := 51) hx hb dX4_treeSize_20 (by decide) (fun c_3 => ?_) (fun c_3 => ?_)
  · have hge := tk_ge (by omega) (by omega) c_3
    refine lv_iload_n hx hb dX4_treeSize_51 rfl (lv_at hl 4 rfl) ?_
    refine vx_ret ?_
    refine W.widen (k := 1) (n := 6) (Nat.le_of_ble_eq_true rfl) (Nat.le_of_ble_eq_true rfl) ?_
    have eS : S_treeSize M (nI t) = (0, M, acc) := (by rw [S_treeSize, show tn (nI t) = t from nI_clamp (show t < 2 ^ 31 by omega), if_neg (by rw [hok]; decide), show tSize M t = acc from (sumI_e hinv hi hge).symm])
    exact W.iret (v := acc) hx hb hr (fun t9 h9 w9 => ⟨⟨acc, (), rfl, (by rw [eS]; exact ⟨rfl, rfl⟩), trivial⟩, hE.F h9⟩) hS.2.2 dX4_treeSize_52
  · have hlt := tk_lt (by omega) (by omega) c_3
    refine lv_aload_n hx hb dX4_treeSize_23 rfl (lv_at hl 1 rfl) ?_
    refine tk_get hx hb hts inX4 hown hK hM hP.h rfl 0 (by decide) (hts (.fieldLink RX4 12 "TicketForge" "taskList" "Ljava/util/ArrayList;") (by decide +kernel)) (fun _ h9 => h9) rfl dX4_treeSize_24 ?_
    refine lv_iload hx hb dX4_treeSize_27 (lv_at hl 3 rfl) ?_
    have hg_5 : i < nT M := by omega
    refine tk_cVq (As := [.int (nI i)]) S0 (c_Jx4a65c_get_915e3 l A D ac dE _ hP.lt i hg_5 (by omega)) (cwV 1 hts gX4_treeSize_Jx4a65c_get_915e3 rfl rfl rfl (by decide +kernel) ⟨Nat.le_of_ble_eq_true rfl, Nat.le_of_ble_eq_true rfl⟩) (tkX.blind) (tkX.at hM hK hA hF hO hS) (LX.rec hP.lt hK hM) rfl hl.1 rfl (Nat.le_of_ble_eq_true rfl) dX4_treeSize_29 ⟨Nat.le_of_ble_eq_true rfl, Nat.le_of_ble_eq_true rfl⟩ (fun r_4 hr_4 => ?_)
    subst hr_4
    refine va_castY (C := "TicketForge$Task") hx hb hown (hts (.classLink RX4 72 "TicketForge$Task") (by decide +kernel)) (hF.2.2.2 ("TicketForge$Task", "TicketForge$Task") (by decide +kernel)) (tk_recv hK hM (hP.t hg_5) rfl (ci := 6) (q := (RX3, TX3, 6))) dX4_treeSize_32 ?_
    refine lv_aload_n hx hb dX4_treeSize_35 rfl (lv_at hl 0 rfl) ?_
    refine tk_cVi (As := [.ref (α 1 t)]) S0 (c_X3_isInTreeOf l A D ac dE _ hP hW i t hg_5 ht) (cwV 1 hts gX4_treeSize_X3_isInTreeOf rfl rfl rfl (by decide +kernel) ⟨Nat.le_of_ble_eq_true rfl, Nat.le_of_ble_eq_true rfl⟩) (tkX.blind) (tkX.at hM hK hA hF hO hS) (tk_recv hK hM (hP.t hg_5) rfl) rfl hl.1 rfl (Nat.le_of_ble_eq_true rfl) dX4_treeSize_36 ⟨Nat.le_of_ble_eq_true rfl, Nat.le_of_ble_eq_true rfl⟩ (fun r_6 hr_6 => ?_)
    rcases hr_6 with ⟨rfl, hr_6⟩ | ⟨rfl, hr_6⟩
    · skip
      refine lv_if_eq (tgt := 45) hx hb dX4_treeSize_39 (by decide) (fun c_7 => absurd c_7 (by decide)) (fun c_7 => ?_)
      refine lv_iinc (v := (acc + 1)) (lv' := [(3, .int (acc + 1)), (2, .ref (α 1 t)), (0, .ref h0), (1, .int (nI t)), (4, .int (nI i))]) hx hb dX4_treeSize_42 hl (k := 4) rfl rfl (by decide) rfl (fun ls hl => ?_)
      refine lv_iinc (v := (nI (i + 1))) (lv' := [(4, .int (nI (i + 1))), (3, .int (acc + 1)), (2, .ref (α 1 t)), (0, .ref h0), (1, .int (nI t))]) hx hb dX4_treeSize_45 hl (k := 4) rfl (nI_1 i) (by decide) rfl (fun ls hl => ?_)
      refine lv_goto (tgt := 11) hx hb dX4_treeSize_48 (by decide) ?_
      exact ih _ ls (by omega) ⟨(lv_sub hl [2, 3, 4, 0, 1] rfl), sumI_t hinv (if_pos hr_6)⟩
    · skip
      refine lv_if_eq (tgt := 45) hx hb dX4_treeSize_39 (by decide) (fun c_8 => ?_) (fun c_8 => absurd (by decide) c_8)
      refine lv_iinc (v := (nI (i + 1))) (lv' := [(4, .int (nI (i + 1))), (2, .ref (α 1 t)), (0, .ref h0), (1, .int (nI t)), (3, .int acc)]) hx hb dX4_treeSize_45 hl (k := 3) rfl (nI_1 i) (by decide) rfl (fun ls hl => ?_)
      refine lv_goto (tgt := 11) hx hb dX4_treeSize_48 (by decide) ?_
      exact ih _ ls (by omega) ⟨(lv_sub hl [1, 2, 3, 0, 4] rfl), sumI_f hinv (if_neg (by rw [hr_6]; decide))⟩
set_option maxHeartbeats 4000000 in
set_option maxRecDepth 100000 in
theorem c_X4_canBegin (l : Launch) (hst : l.stackTraces = false) (A : Nat → Prop) (D : va_G) (ac : Nat → ClassId) (dE : Nat) (G : TG) {h0 : Nat} {α : Nat → Nat → Nat} {M : TS} {nv : Nat} (hP : PX ac dE h0 α M (nV M) G) (hW : W0 M) (x : Int32) : vx_Met l yX4_canBegin wsX4_canBegin ({ frames := 9, cells := 1, slots := 6, locals := 500 } : Room) (va_Pc [.ref h0, .int x] (tkX A D ac dE G)) (va_Qi (fun (z : Int32) (_ : Unit) => (K_canBegin M x).1 = 0 ∧ tkB z (K_canBegin M x).2.2) (fun _ _ => True) (fun _ => False)) (XG (fun E => (E, (K_canBegin M x).1) ∈ ([("java/lang/IndexOutOfBoundsException", 1)] : List (String × Int32)))) 1 6 A := by
  refine vx_ofW (cc := cX4_canBegin) (maxL := 3) (ret := (some .boolean)) (by decide) rfl ?_
  intro p e s m args below meth c s₁ B hml hno hv
  obtain ⟨rfl, ⟨hM, hK, hA, hF⟩, hO⟩ := hv
  have hS : va_S A s.heap s.heap [] := va_S.rf
  have hE : tkE s.heap s.heap := tkE.rf
  have hx := B.exec
  have hb := B.bytes
  have hr := B.returns
  have hts := atoms_spec (ws := wsX4_canBegin) B.pre
  have hown : s.vm.findClass RX4 = some m.cls := findClass_of_methodNamed B.named
  have hlocks := B.notSynchronized
  have S0 : CallFix p m c cX4_canBegin 3 s ([.ref h0, .int x] : List Value).toArray wsX4_canBegin RX4 := ⟨hx, hb, hml, hown, hts⟩
  have inX3 : ∀ w ∈ wsX30, w ∈ wsX4_canBegin := by decide +kernel
  have hl := lv_entry ([.ref h0, .int x]) (n := 3) (Nat.le_of_ble_eq_true rfl)
  rw [lg_entry_eq]
  generalize (lg_sl ([.ref h0, .int x]) ++ List.replicate (3 - (lg_sl ([.ref h0, .int x])).length) Slot.unset).toArray = ls at hl ⊢
  have hl : lv_has ls 3 [(0, .ref h0), (1, .int x)] := hl
  have bT := hW.t.2
  have bE := hW.e.2
  have bV := hW.v.2
  refine lv_aload_n hx hb dX4_canBegin_0 rfl (lv_at hl 0 rfl) ?_
  refine lv_iload_n hx hb dX4_canBegin_1 rfl (lv_at hl 1 rfl) ?_
  refine tk_xVq (As := [.int x]) S0 (c_X4_requireTask l hst A D ac dE _ hP hW x) (cwV 1 hts gX4_canBegin_X4_requireTask rfl rfl rfl (by decide +kernel) ⟨Nat.le_of_ble_eq_true rfl, Nat.le_of_ble_eq_true rfl⟩) (tkX.blind) (tkX.at hM hK hA hF hO hS) (tk_recv hK hM hP.h rfl) rfl hl.1 rfl (Nat.le_of_ble_eq_true rfl) dX4_canBegin_2 ⟨Nat.le_of_ble_eq_true rfl, Nat.le_of_ble_eq_true rfl⟩ hS hE hno hlocks ⟨Nat.le_of_ble_eq_true rfl, Nat.le_of_ble_eq_true rfl⟩ (fun E h9 => by obtain ⟨rfl, h9⟩ := h9; exact (xl (k := 1) (by rw [K_canBegin, if_pos h9]) (by decide +kernel))) (fun r_1 H locs hr_1 hq9 hE hS => ?_)
  have hM := hM.keptE hq9
  obtain ⟨hok, rfl⟩ := hr_1
  have hokc := hok
  obtain ⟨t, ht, rfl⟩ := tkOk_ex (by omega) hokc
  rw [show tn (nI t) = t from nI_clamp (by omega)]
  refine lv_astore_n (lv' := [(2, .ref (α 1 t)), (0, .ref h0), (1, .int (nI t))]) hx hb dX4_canBegin_5 rfl hl (by decide) rfl (fun ls hl => ?_)
  refine lv_aload_n hx hb dX4_canBegin_6 rfl (lv_at hl 0 rfl) ?_
  refine tk_get hx hb hts inX3 hown hK hM (hP.t ht) rfl 4 (by decide) (hts (.fieldLink RX4 71 "TicketForge$Task" "state" "C") (by decide +kernel)) (fun _ h9 => h9) rfl dX4_canBegin_7 ?_
  refine lv_bipush (v := 111) hx hb dX4_canBegin_10 (by decide) ?_
  refine lv_icmp_ne (tgt := 27) hx hb dX4_canBegin_12 (by decide) (fun c_2 => ?_) (fun c_2 => ?_)
  · skip
    refine lv_iconst (v := 0) hx hb dX4_canBegin_27 (by decide) ?_
    refine vx_ret ?_
    refine W.widen (k := 1) (n := 6) (Nat.le_of_ble_eq_true rfl) (Nat.le_of_ble_eq_true rfl) ?_
    have eS : K_canBegin M (nI t) = (0, M, false) := (by rw [K_canBegin, if_neg (by rw [hok]; decide), show tn (nI t) = t from nI_clamp (by omega)]; simp [c_2])
    exact W.zret (v := 0) hx hb hr rfl (fun t9 h9 w9 => ⟨⟨0, (), rfl, (by rw [eS]; exact ⟨rfl, tkB_0 rfl⟩), trivial⟩, hE.F h9⟩) hS.2.2 dX4_canBegin_28
  · skip
    refine lv_aload_n hx hb dX4_canBegin_15 rfl (lv_at hl 1 rfl) ?_
    refine lv_aload_n hx hb dX4_canBegin_16 rfl (lv_at hl 0 rfl) ?_
    refine tk_cVi (As := [.ref (α 1 t)]) S0 (c_X4_areBlockersDone l A D ac dE _ hP hW t ht) (cwV 1 hts gX4_canBegin_X4_areBlockersDone rfl rfl rfl (by decide +kernel) ⟨Nat.le_of_ble_eq_true rfl, Nat.le_of_ble_eq_true rfl⟩) (tkX.blind) (tkX.at hM hK hA hF hO hS) (tk_recv hK hM hP.h rfl) rfl hl.1 rfl (Nat.le_of_ble_eq_true rfl) dX4_canBegin_17 ⟨Nat.le_of_ble_eq_true rfl, Nat.le_of_ble_eq_true rfl⟩ (fun r_3 hr_3 => ?_)
    rcases hr_3 with ⟨rfl, hr_3⟩ | ⟨rfl, hr_3⟩
    · skip
      refine lv_if_eq (tgt := 27) hx hb dX4_canBegin_20 (by decide) (fun c_4 => absurd c_4 (by decide)) (fun c_4 => ?_)
      refine lv_iconst (v := 1) hx hb dX4_canBegin_23 (by decide) ?_
      refine lv_goto (tgt := 28) hx hb dX4_canBegin_24 (by decide) ?_
      refine vx_ret ?_
      refine W.widen (k := 1) (n := 6) (Nat.le_of_ble_eq_true rfl) (Nat.le_of_ble_eq_true rfl) ?_
      have eS : K_canBegin M (nI t) = (0, M, true) := (by rw [K_canBegin, if_neg (by rw [hok]; decide), show tn (nI t) = t from nI_clamp (by omega)]; simp [c_2, hr_3])
      exact W.zret (v := 1) hx hb hr rfl (fun t9 h9 w9 => ⟨⟨1, (), rfl, (by rw [eS]; exact ⟨rfl, tkB_1 rfl⟩), trivial⟩, hE.F h9⟩) hS.2.2 dX4_canBegin_28
    · skip
      refine lv_if_eq (tgt := 27) hx hb dX4_canBegin_20 (by decide) (fun c_5 => ?_) (fun c_5 => absurd (by decide) c_5)
      refine lv_iconst (v := 0) hx hb dX4_canBegin_27 (by decide) ?_
      refine vx_ret ?_
      refine W.widen (k := 1) (n := 6) (Nat.le_of_ble_eq_true rfl) (Nat.le_of_ble_eq_true rfl) ?_
      have eS : K_canBegin M (nI t) = (0, M, false) := (by rw [K_canBegin, if_neg (by rw [hok]; decide), show tn (nI t) = t from nI_clamp (by omega)]; simp [c_2, hr_3])
      exact W.zret (v := 0) hx hb hr rfl (fun t9 h9 w9 => ⟨⟨0, (), rfl, (by rw [eS]; exact ⟨rfl, tkB_0 rfl⟩), trivial⟩, hE.F h9⟩) hS.2.2 dX4_canBegin_28
set_option maxHeartbeats 4000000 in
set_option maxRecDepth 100000 in
theorem c_X4_price (l : Launch) (hst : l.stackTraces = false) (A : Nat → Prop) (D : va_G) (ac : Nat → ClassId) (dE : Nat) (G : TG) {h0 : Nat} {α : Nat → Nat → Nat} {M : TS} {nv : Nat} (hP : PX ac dE h0 α M (nV M) G) (hW : W0 M) (hB : WB M (nV M)) (x : Int32) : vx_Met l yX4_price wsX4_price ({ frames := 9, cells := 2, slots := 12, locals := 500 } : Room) (va_Pc [.ref h0, .int x] (tkX A D ac dE G)) (va_Qi (fun (z : Int32) (_ : Unit) => (S_price M x).1 = 0 ∧ z = (S_price M x).2.2) (fun _ _ => True) (fun _ => False)) (XG (fun E => (E, (S_price M x).1) ∈ ([("java/util/NoSuchElementException", 1), ("java/lang/IllegalStateException", 2)] : List (String × Int32)))) 2 12 A := by
  refine vx_ofW (cc := cX4_price) (maxL := 3) (ret := (some .int)) (by decide) rfl ?_
  intro p e s m args below meth c s₁ B hml hno hv
  obtain ⟨rfl, ⟨hM, hK, hA, hF⟩, hO⟩ := hv
  have hS : va_S A s.heap s.heap [] := va_S.rf
  have hE : tkE s.heap s.heap := tkE.rf
  have hx := B.exec
  have hb := B.bytes
  have hr := B.returns
  have hts := atoms_spec (ws := wsX4_price) B.pre
  have hown : s.vm.findClass RX4 = some m.cls := findClass_of_methodNamed B.named
  have hlocks := B.notSynchronized
  have S0 : CallFix p m c cX4_price 3 s ([.ref h0, .int x] : List Value).toArray wsX4_price RX4 := ⟨hx, hb, hml, hown, hts⟩
  have inX0 : ∀ w ∈ wsX00, w ∈ wsX4_price := by decide +kernel
  have hl := lv_entry ([.ref h0, .int x]) (n := 3) (Nat.le_of_ble_eq_true rfl)
  rw [lg_entry_eq]
  generalize (lg_sl ([.ref h0, .int x]) ++ List.replicate (3 - (lg_sl ([.ref h0, .int x])).length) Slot.unset).toArray = ls at hl ⊢
  have hl : lv_has ls 3 [(0, .ref h0), (1, .int x)] := hl
  have bT := hW.t.2
  have bE := hW.e.2
  have bV := hW.v.2
  refine lv_aload_n hx hb dX4_price_0 rfl (lv_at hl 0 rfl) ?_
  refine lv_iload_n hx hb dX4_price_1 rfl (lv_at hl 1 rfl) ?_
  refine tk_xVq (As := [.int x]) S0 (c_X4_requireEntry l hst A D ac dE _ hP hW x) (cwV 1 hts gX4_price_X4_requireEntry rfl rfl rfl (by decide +kernel) ⟨Nat.le_of_ble_eq_true rfl, Nat.le_of_ble_eq_true rfl⟩) (tkX.blind) (tkX.at hM hK hA hF hO hS) (tk_recv hK hM hP.h rfl) rfl hl.1 rfl (Nat.le_of_ble_eq_true rfl) dX4_price_2 ⟨Nat.le_of_ble_eq_true rfl, Nat.le_of_ble_eq_true rfl⟩ hS hE hno hlocks ⟨Nat.le_of_ble_eq_true rfl, Nat.le_of_ble_eq_true rfl⟩ (fun E h9 => by obtain ⟨rfl, h9⟩ := h9; exact (xl (k := 1) (by rw [S_price, if_pos h9]) (by decide +kernel))) (fun r_1 H locs hr_1 hq9 hE hS => ?_)
  have hM := hM.keptE hq9
  obtain ⟨hok, rfl⟩ := hr_1
  have hokc := hok
  obtain ⟨k, hk, rfl⟩ := tkOk_ex (by omega) hokc
  rw [show tn (nI k) = k from nI_clamp (by omega)]
  refine lv_astore_n (lv' := [(2, .ref (α 2 k)), (0, .ref h0), (1, .int (nI k))]) hx hb dX4_price_5 rfl hl (by decide) rfl (fun ls hl => ?_)
  refine lv_aload_n hx hb dX4_price_6 rfl (lv_at hl 0 rfl) ?_
  refine tk_xSq (As := [.ref (α 2 k)]) S0 (c_X4_requireInvoiceOf l hst A D ac dE _ hP hB k hk) (va_cwS 1 hts gX4_price_X4_requireInvoiceOf rfl rfl rfl (by decide +kernel) ⟨Nat.le_of_ble_eq_true rfl, Nat.le_of_ble_eq_true rfl⟩) (tkX.blind) (tkX.at hM hK hA hF hO hS) rfl hl.1 rfl (Nat.le_of_ble_eq_true rfl) dX4_price_7 ⟨Nat.le_of_ble_eq_true rfl, Nat.le_of_ble_eq_true rfl⟩ hS hE hno hlocks ⟨Nat.le_of_ble_eq_true rfl, Nat.le_of_ble_eq_true rfl⟩ (fun E h9 => by obtain ⟨rfl, h9⟩ := h9; exact (xl (k := 2) (by rw [S_price, show tn (nI k) = k from nI_clamp (show k < 2 ^ 31 by omega), if_neg (by rw [hok]; decide), if_pos h9]) (by decide +kernel))) (fun r_2 H locs hr_2 hq9 hE hS => ?_)
  have hM := hM.keptE hq9
  obtain ⟨hbil, rfl⟩ := hr_2
  obtain ⟨v, hv, hv14⟩ := hB.2 k hk hbil
  have hz9 := hB.1
  rw [hv14, show tn (nI v) = v from nI_clamp (by omega)]
  refine lv_pop hx hb dX4_price_10 rfl ?_
  refine lv_aload_n hx hb dX4_price_11 rfl (lv_at hl 0 rfl) ?_
  refine tk_get hx hb hts inX0 hown hK hM (hP.e hk) rfl 5 (by decide) (hts (.fieldLink RX4 207 "TicketForge$Entry" "price" "I") (by decide +kernel)) (fun _ h9 => h9) rfl dX4_price_12 ?_
  refine vx_ret ?_
  refine W.widen (k := 2) (n := 12) (Nat.le_of_ble_eq_true rfl) (Nat.le_of_ble_eq_true rfl) ?_
  have eS : S_price M (nI k) = (0, M, (M 13 k)) := (by rw [S_price, show tn (nI k) = k from nI_clamp (show k < 2 ^ 31 by omega), if_neg (by rw [hok]; decide), if_neg (by rw [hbil]; decide)])
  exact W.iret (v := (M 13 k)) hx hb hr (fun t9 h9 w9 => ⟨⟨(M 13 k), (), rfl, (by rw [eS]; exact ⟨rfl, rfl⟩), trivial⟩, hE.F h9⟩) hS.2.2 dX4_price_15
set_option maxHeartbeats 4000000 in
set_option maxRecDepth 100000 in
theorem c_X4_invoiceOf (l : Launch) (hst : l.stackTraces = false) (A : Nat → Prop) (D : va_G) (ac : Nat → ClassId) (dE : Nat) (G : TG) {h0 : Nat} {α : Nat → Nat → Nat} {M : TS} {nv : Nat} (hP : PX ac dE h0 α M (nV M) G) (hW : W0 M) (hB : WB M (nV M)) (x : Int32) : vx_Met l yX4_invoiceOf wsX4_invoiceOf ({ frames := 9, cells := 2, slots := 12, locals := 500 } : Room) (va_Pc [.ref h0, .int x] (tkX A D ac dE G)) (va_Qi (fun (z : Int32) (_ : Unit) => (S_invoiceOf M x).1 = 0 ∧ z = (S_invoiceOf M x).2.2) (fun _ _ => True) (fun _ => False)) (XG (fun E => (E, (S_invoiceOf M x).1) ∈ ([("java/util/NoSuchElementException", 1), ("java/lang/IllegalStateException", 2)] : List (String × Int32)))) 2 12 A := by
  refine vx_ofW (cc := cX4_invoiceOf) (maxL := 2) (ret := (some .int)) (by decide) rfl ?_
  intro p e s m args below meth c s₁ B hml hno hv
  obtain ⟨rfl, ⟨hM, hK, hA, hF⟩, hO⟩ := hv
  have hS : va_S A s.heap s.heap [] := va_S.rf
  have hE : tkE s.heap s.heap := tkE.rf
  have hx := B.exec
  have hb := B.bytes
  have hr := B.returns
  have hts := atoms_spec (ws := wsX4_invoiceOf) B.pre
  have hown : s.vm.findClass RX4 = some m.cls := findClass_of_methodNamed B.named
  have hlocks := B.notSynchronized
  have S0 : CallFix p m c cX4_invoiceOf 2 s ([.ref h0, .int x] : List Value).toArray wsX4_invoiceOf RX4 := ⟨hx, hb, hml, hown, hts⟩
  have inX1 : ∀ w ∈ wsX10, w ∈ wsX4_invoiceOf := by decide +kernel
  have hl := lv_entry ([.ref h0, .int x]) (n := 2) (Nat.le_of_ble_eq_true rfl)
  rw [lg_entry_eq]
  generalize (lg_sl ([.ref h0, .int x]) ++ List.replicate (2 - (lg_sl ([.ref h0, .int x])).length) Slot.unset).toArray = ls at hl ⊢
  have hl : lv_has ls 2 [(0, .ref h0), (1, .int x)] := hl
  have bT := hW.t.2
  have bE := hW.e.2
  have bV := hW.v.2
  refine lv_aload_n hx hb dX4_invoiceOf_0 rfl (lv_at hl 0 rfl) ?_
  refine lv_iload_n hx hb dX4_invoiceOf_1 rfl (lv_at hl 1 rfl) ?_
  refine tk_xVq (As := [.int x]) S0 (c_X4_requireEntry l hst A D ac dE _ hP hW x) (cwV 1 hts gX4_invoiceOf_X4_requireEntry rfl rfl rfl (by decide +kernel) ⟨Nat.le_of_ble_eq_true rfl, Nat.le_of_ble_eq_true rfl⟩) (tkX.blind) (tkX.at hM hK hA hF hO hS) (tk_recv hK hM hP.h rfl) rfl hl.1 rfl (Nat.le_of_ble_eq_true rfl) dX4_invoiceOf_2 ⟨Nat.le_of_ble_eq_true rfl, Nat.le_of_ble_eq_true rfl⟩ hS hE hno hlocks ⟨Nat.le_of_ble_eq_true rfl, Nat.le_of_ble_eq_true rfl⟩ (fun E h9 => by obtain ⟨rfl, h9⟩ := h9; exact (xl (k := 1) (by rw [S_invoiceOf, if_pos h9]) (by decide +kernel))) (fun r_1 H locs hr_1 hq9 hE hS => ?_)
  have hM := hM.keptE hq9
  obtain ⟨hok, rfl⟩ := hr_1
  have hokc := hok
  obtain ⟨k, hk, rfl⟩ := tkOk_ex (by omega) hokc
  rw [show tn (nI k) = k from nI_clamp (by omega)]
  refine tk_xSq (As := [.ref (α 2 k)]) S0 (c_X4_requireInvoiceOf l hst A D ac dE _ hP hB k hk) (va_cwS 1 hts gX4_invoiceOf_X4_requireInvoiceOf rfl rfl rfl (by decide +kernel) ⟨Nat.le_of_ble_eq_true rfl, Nat.le_of_ble_eq_true rfl⟩) (tkX.blind) (tkX.at hM hK hA hF hO hS) rfl hl.1 rfl (Nat.le_of_ble_eq_true rfl) dX4_invoiceOf_5 ⟨Nat.le_of_ble_eq_true rfl, Nat.le_of_ble_eq_true rfl⟩ hS hE hno hlocks ⟨Nat.le_of_ble_eq_true rfl, Nat.le_of_ble_eq_true rfl⟩ (fun E h9 => by obtain ⟨rfl, h9⟩ := h9; exact (xl (k := 2) (by rw [S_invoiceOf, show tn (nI k) = k from nI_clamp (show k < 2 ^ 31 by omega), if_neg (by rw [hok]; decide), if_pos h9]) (by decide +kernel))) (fun r_2 H locs hr_2 hq9 hE hS => ?_)
  have hM := hM.keptE hq9
  obtain ⟨hbil, rfl⟩ := hr_2
  obtain ⟨v, hv, hv14⟩ := hB.2 k hk hbil
  have hz9 := hB.1
  rw [hv14, show tn (nI v) = v from nI_clamp (by omega)]
  refine tk_get hx hb hts inX1 hown hK hM (hP.v hv) rfl 0 (by decide) (hts (.fieldLink RX4 272 "TicketForge$Invoice" "number" "I") (by decide +kernel)) (fun _ h9 => h9) rfl dX4_invoiceOf_8 ?_
  refine vx_ret ?_
  refine W.widen (k := 2) (n := 12) (Nat.le_of_ble_eq_true rfl) (Nat.le_of_ble_eq_true rfl) ?_
  have eS : S_invoiceOf M (nI k) = (0, M, (nI v)) := (by rw [S_invoiceOf, show tn (nI k) = k from nI_clamp (show k < 2 ^ 31 by omega), if_neg (by rw [hok]; decide), if_neg (by rw [hbil]; decide), hv14])
  exact W.iret (v := (nI v)) hx hb hr (fun t9 h9 w9 => ⟨⟨(nI v), (), rfl, (by rw [eS]; exact ⟨rfl, rfl⟩), trivial⟩, hE.F h9⟩) hS.2.2 dX4_invoiceOf_11
set_option maxHeartbeats 4000000 in
set_option maxRecDepth 100000 in
theorem c_X4_hours (l : Launch) (hst : l.stackTraces = false) (A : Nat → Prop) (D : va_G) (ac : Nat → ClassId) (dE : Nat) (G : TG) {h0 : Nat} {α : Nat → Nat → Nat} {M : TS} {nv : Nat} (hP : PX ac dE h0 α M (nV M) G) (hW : W0 M) (x : Int32) : vx_Met l yX4_hours wsX4_hours ({ frames := 9, cells := 1, slots := 6, locals := 500 } : Room) (va_Pc [.ref h0, .int x] (tkX A D ac dE G)) (va_Qi (fun (z : Int32) (_ : Unit) => (S_hours M x).1 = 0 ∧ z = (S_hours M x).2.2) (fun _ _ => True) (fun _ => False)) (XG (fun E => (E, (S_hours M x).1) ∈ ([("java/lang/IndexOutOfBoundsException", 1)] : List (String × Int32)))) 1 6 A := by
  refine vx_ofW (cc := cX4_hours) (maxL := 2) (ret := (some .int)) (by decide) rfl ?_
  intro p e s m args below meth c s₁ B hml hno hv
  obtain ⟨rfl, ⟨hM, hK, hA, hF⟩, hO⟩ := hv
  have hS : va_S A s.heap s.heap [] := va_S.rf
  have hE : tkE s.heap s.heap := tkE.rf
  have hx := B.exec
  have hb := B.bytes
  have hr := B.returns
  have hts := atoms_spec (ws := wsX4_hours) B.pre
  have hown : s.vm.findClass RX4 = some m.cls := findClass_of_methodNamed B.named
  have hlocks := B.notSynchronized
  have S0 : CallFix p m c cX4_hours 2 s ([.ref h0, .int x] : List Value).toArray wsX4_hours RX4 := ⟨hx, hb, hml, hown, hts⟩
  have hl := lv_entry ([.ref h0, .int x]) (n := 2) (Nat.le_of_ble_eq_true rfl)
  rw [lg_entry_eq]
  generalize (lg_sl ([.ref h0, .int x]) ++ List.replicate (2 - (lg_sl ([.ref h0, .int x])).length) Slot.unset).toArray = ls at hl ⊢
  have hl : lv_has ls 2 [(0, .ref h0), (1, .int x)] := hl
  have bT := hW.t.2
  have bE := hW.e.2
  have bV := hW.v.2
  refine lv_aload_n hx hb dX4_hours_0 rfl (lv_at hl 0 rfl) ?_
  refine lv_aload_n hx hb dX4_hours_1 rfl (lv_at hl 0 rfl) ?_
  refine lv_iload_n hx hb dX4_hours_2 rfl (lv_at hl 1 rfl) ?_
  refine tk_xVq (As := [.int x]) S0 (c_X4_requireTask l hst A D ac dE _ hP hW x) (cwV 1 hts gX4_hours_X4_requireTask rfl rfl rfl (by decide +kernel) ⟨Nat.le_of_ble_eq_true rfl, Nat.le_of_ble_eq_true rfl⟩) (tkX.blind) (tkX.at hM hK hA hF hO hS) (tk_recv hK hM hP.h rfl) rfl hl.1 rfl (Nat.le_of_ble_eq_true rfl) dX4_hours_3 ⟨Nat.le_of_ble_eq_true rfl, Nat.le_of_ble_eq_true rfl⟩ hS hE hno hlocks ⟨Nat.le_of_ble_eq_true rfl, Nat.le_of_ble_eq_true rfl⟩ (fun E h9 => by obtain ⟨rfl, h9⟩ := h9; exact (xl (k := 1) (by rw [S_hours, if_pos h9]) (by decide +kernel))) (fun r_1 H locs hr_1 hq9 hE hS => ?_)
  have hM := hM.keptE hq9
  obtain ⟨hok, rfl⟩ := hr_1
  have hokc := hok
  obtain ⟨t, ht, rfl⟩ := tkOk_ex (by omega) hokc
  rw [show tn (nI t) = t from nI_clamp (by omega)]
  refine tk_cVi (As := [.ref (α 1 t)]) S0 (c_X4_treeHours l A D ac dE _ hP hW t ht) (cwV 1 hts gX4_hours_X4_treeHours rfl rfl rfl (by decide +kernel) ⟨Nat.le_of_ble_eq_true rfl, Nat.le_of_ble_eq_true rfl⟩) (tkX.blind) (tkX.at hM hK hA hF hO hS) (tk_recv hK hM hP.h rfl) rfl hl.1 rfl (Nat.le_of_ble_eq_true rfl) dX4_hours_6 ⟨Nat.le_of_ble_eq_true rfl, Nat.le_of_ble_eq_true rfl⟩ (fun r_2 hr_2 => ?_)
  subst hr_2
  refine vx_ret ?_
  refine W.widen (k := 1) (n := 6) (Nat.le_of_ble_eq_true rfl) (Nat.le_of_ble_eq_true rfl) ?_
  have eS : S_hours M (nI t) = (0, M, (hoursIn M t)) := (by rw [S_hours, show tn (nI t) = t from nI_clamp (show t < 2 ^ 31 by omega), if_neg (by rw [hok]; decide)])
  exact W.iret (v := (hoursIn M t)) hx hb hr (fun t9 h9 w9 => ⟨⟨(hoursIn M t), (), rfl, (by rw [eS]; exact ⟨rfl, rfl⟩), trivial⟩, hE.F h9⟩) hS.2.2 dX4_hours_9
set_option maxHeartbeats 4000000 in
set_option maxRecDepth 100000 in
theorem c_X4_left (l : Launch) (hst : l.stackTraces = false) (A : Nat → Prop) (D : va_G) (ac : Nat → ClassId) (dE : Nat) (G : TG) {h0 : Nat} {α : Nat → Nat → Nat} {M : TS} {nv : Nat} (hP : PX ac dE h0 α M (nV M) G) (hW : W0 M) (x : Int32) : vx_Met l yX4_left wsX4_left ({ frames := 9, cells := 1, slots := 6, locals := 500 } : Room) (va_Pc [.ref h0, .int x] (tkX A D ac dE G)) (va_Qi (fun (z : Int32) (_ : Unit) => (S_left M x).1 = 0 ∧ z = (S_left M x).2.2) (fun _ _ => True) (fun _ => False)) (XG (fun E => (E, (S_left M x).1) ∈ ([("java/lang/IndexOutOfBoundsException", 1)] : List (String × Int32)))) 1 6 A := by
  refine vx_ofW (cc := cX4_left) (maxL := 2) (ret := (some .int)) (by decide) rfl ?_
  intro p e s m args below meth c s₁ B hml hno hv
  obtain ⟨rfl, ⟨hM, hK, hA, hF⟩, hO⟩ := hv
  have hS : va_S A s.heap s.heap [] := va_S.rf
  have hE : tkE s.heap s.heap := tkE.rf
  have hx := B.exec
  have hb := B.bytes
  have hr := B.returns
  have hts := atoms_spec (ws := wsX4_left) B.pre
  have hown : s.vm.findClass RX4 = some m.cls := findClass_of_methodNamed B.named
  have hlocks := B.notSynchronized
  have S0 : CallFix p m c cX4_left 2 s ([.ref h0, .int x] : List Value).toArray wsX4_left RX4 := ⟨hx, hb, hml, hown, hts⟩
  have hl := lv_entry ([.ref h0, .int x]) (n := 2) (Nat.le_of_ble_eq_true rfl)
  rw [lg_entry_eq]
  generalize (lg_sl ([.ref h0, .int x]) ++ List.replicate (2 - (lg_sl ([.ref h0, .int x])).length) Slot.unset).toArray = ls at hl ⊢
  have hl : lv_has ls 2 [(0, .ref h0), (1, .int x)] := hl
  have bT := hW.t.2
  have bE := hW.e.2
  have bV := hW.v.2
  refine lv_aload_n hx hb dX4_left_0 rfl (lv_at hl 0 rfl) ?_
  refine lv_aload_n hx hb dX4_left_1 rfl (lv_at hl 0 rfl) ?_
  refine lv_iload_n hx hb dX4_left_2 rfl (lv_at hl 1 rfl) ?_
  refine tk_xVq (As := [.int x]) S0 (c_X4_requireTask l hst A D ac dE _ hP hW x) (cwV 1 hts gX4_left_X4_requireTask rfl rfl rfl (by decide +kernel) ⟨Nat.le_of_ble_eq_true rfl, Nat.le_of_ble_eq_true rfl⟩) (tkX.blind) (tkX.at hM hK hA hF hO hS) (tk_recv hK hM hP.h rfl) rfl hl.1 rfl (Nat.le_of_ble_eq_true rfl) dX4_left_3 ⟨Nat.le_of_ble_eq_true rfl, Nat.le_of_ble_eq_true rfl⟩ hS hE hno hlocks ⟨Nat.le_of_ble_eq_true rfl, Nat.le_of_ble_eq_true rfl⟩ (fun E h9 => by obtain ⟨rfl, h9⟩ := h9; exact (xl (k := 1) (by rw [S_left, if_pos h9]) (by decide +kernel))) (fun r_1 H locs hr_1 hq9 hE hS => ?_)
  have hM := hM.keptE hq9
  obtain ⟨hok, rfl⟩ := hr_1
  have hokc := hok
  obtain ⟨t, ht, rfl⟩ := tkOk_ex (by omega) hokc
  rw [show tn (nI t) = t from nI_clamp (by omega)]
  refine tk_cVi (As := [.ref (α 1 t)]) S0 (c_X4_leftOf l A D ac dE _ hP hW t ht) (cwV 1 hts gX4_left_X4_leftOf rfl rfl rfl (by decide +kernel) ⟨Nat.le_of_ble_eq_true rfl, Nat.le_of_ble_eq_true rfl⟩) (tkX.blind) (tkX.at hM hK hA hF hO hS) (tk_recv hK hM hP.h rfl) rfl hl.1 rfl (Nat.le_of_ble_eq_true rfl) dX4_left_6 ⟨Nat.le_of_ble_eq_true rfl, Nat.le_of_ble_eq_true rfl⟩ (fun r_2 hr_2 => ?_)
  subst hr_2
  refine vx_ret ?_
  refine W.widen (k := 1) (n := 6) (Nat.le_of_ble_eq_true rfl) (Nat.le_of_ble_eq_true rfl) ?_
  have eS : S_left M (nI t) = (0, M, (leftOf M t)) := (by rw [S_left, show tn (nI t) = t from nI_clamp (show t < 2 ^ 31 by omega), if_neg (by rw [hok]; decide)])
  exact W.iret (v := (leftOf M t)) hx hb hr (fun t9 h9 w9 => ⟨⟨(leftOf M t), (), rfl, (by rw [eS]; exact ⟨rfl, rfl⟩), trivial⟩, hE.F h9⟩) hS.2.2 dX4_left_9
set_option maxHeartbeats 4000000 in
set_option maxRecDepth 100000 in
theorem c_X4_room (l : Launch) (hst : l.stackTraces = false) (A : Nat → Prop) (D : va_G) (ac : Nat → ClassId) (dE : Nat) (G : TG) {h0 : Nat} {α : Nat → Nat → Nat} {M : TS} {nv : Nat} (hP : PX ac dE h0 α M (nV M) G) (hW : W0 M) (x : Int32) : vx_Met l yX4_room wsX4_room ({ frames := 9, cells := 2, slots := 12, locals := 500 } : Room) (va_Pc [.ref h0, .int x] (tkX A D ac dE G)) (va_Qi (fun (z : Int32) (_ : Unit) => (K_room M x).1 = 0 ∧ z = (K_room M x).2.2) (fun _ _ => True) (fun _ => False)) (XG (fun E => (E, (K_room M x).1) ∈ ([("java/lang/IndexOutOfBoundsException", 1), ("java/util/NoSuchElementException", 2)] : List (String × Int32)))) 2 12 A := by
  refine vx_ofW (cc := cX4_room) (maxL := 3) (ret := (some .int)) (by decide) rfl ?_
  intro p e s m args below meth c s₁ B hml hno hv
  obtain ⟨rfl, ⟨hM, hK, hA, hF⟩, hO⟩ := hv
  have hS : va_S A s.heap s.heap [] := va_S.rf
  have hE : tkE s.heap s.heap := tkE.rf
  have hx := B.exec
  have hb := B.bytes
  have hr := B.returns
  have hts := atoms_spec (ws := wsX4_room) B.pre
  have hown : s.vm.findClass RX4 = some m.cls := findClass_of_methodNamed B.named
  have hlocks := B.notSynchronized
  have S0 : CallFix p m c cX4_room 3 s ([.ref h0, .int x] : List Value).toArray wsX4_room RX4 := ⟨hx, hb, hml, hown, hts⟩
  have hl := lv_entry ([.ref h0, .int x]) (n := 3) (Nat.le_of_ble_eq_true rfl)
  rw [lg_entry_eq]
  generalize (lg_sl ([.ref h0, .int x]) ++ List.replicate (3 - (lg_sl ([.ref h0, .int x])).length) Slot.unset).toArray = ls at hl ⊢
  have hl : lv_has ls 3 [(0, .ref h0), (1, .int x)] := hl
  have bT := hW.t.2
  have bE := hW.e.2
  have bV := hW.v.2
  refine lv_aload_n hx hb dX4_room_0 rfl (lv_at hl 0 rfl) ?_
  refine lv_aload_n hx hb dX4_room_1 rfl (lv_at hl 0 rfl) ?_
  refine lv_iload_n hx hb dX4_room_2 rfl (lv_at hl 1 rfl) ?_
  refine tk_xVq (As := [.int x]) S0 (c_X4_requireTask l hst A D ac dE _ hP hW x) (cwV 1 hts gX4_room_X4_requireTask rfl rfl rfl (by decide +kernel) ⟨Nat.le_of_ble_eq_true rfl, Nat.le_of_ble_eq_true rfl⟩) (tkX.blind) (tkX.at hM hK hA hF hO hS) (tk_recv hK hM hP.h rfl) rfl hl.1 rfl (Nat.le_of_ble_eq_true rfl) dX4_room_3 ⟨Nat.le_of_ble_eq_true rfl, Nat.le_of_ble_eq_true rfl⟩ hS hE hno hlocks ⟨Nat.le_of_ble_eq_true rfl, Nat.le_of_ble_eq_true rfl⟩ (fun E h9 => by obtain ⟨rfl, h9⟩ := h9; exact (xl (k := 1) (by rw [K_room, if_pos h9]) (by decide +kernel))) (fun r_1 H locs hr_1 hq9 hE hS => ?_)
  have hM := hM.keptE hq9
  obtain ⟨hok, rfl⟩ := hr_1
  have hokc := hok
  obtain ⟨t, ht, rfl⟩ := tkOk_ex (by omega) hokc
  rw [show tn (nI t) = t from nI_clamp (by omega)]
  refine tk_cVi (As := [.ref (α 1 t)]) S0 (c_X4_roomOf l A D ac dE _ hP hW t ht) (cwV 1 hts gX4_room_X4_roomOf rfl rfl rfl (by decide +kernel) ⟨Nat.le_of_ble_eq_true rfl, Nat.le_of_ble_eq_true rfl⟩) (tkX.blind) (tkX.at hM hK hA hF hO hS) (tk_recv hK hM hP.h rfl) rfl hl.1 rfl (Nat.le_of_ble_eq_true rfl) dX4_room_6 ⟨Nat.le_of_ble_eq_true rfl, Nat.le_of_ble_eq_true rfl⟩ (fun r_2 hr_2 => ?_)
  subst hr_2
  refine lv_istore_n (lv' := [(2, .int (rmC M (t + 1) t 401)), (0, .ref h0), (1, .int (nI t))]) hx hb dX4_room_9 rfl hl (by decide) rfl (fun ls hl => ?_)
  refine lv_iload_n hx hb dX4_room_10 rfl (lv_at hl 0 rfl) ?_
  refine lv_sipush (v := 401) hx hb dX4_room_11 (by decide) ?_
  refine lv_icmp_ne (tgt := 27) hx hb dX4_room_14 (by decide) (fun c_3 => ?_) (fun c_3 => ?_)
  · skip
    refine lv_iload_n hx hb dX4_room_27 rfl (lv_at hl 0 rfl) ?_
    refine vx_ret ?_
    refine W.widen (k := 2) (n := 12) (Nat.le_of_ble_eq_true rfl) (Nat.le_of_ble_eq_true rfl) ?_
    have eS : K_room M (nI t) = (0, M, (rmC M (t + 1) t 401)) := (by rw [K_room, show tn (nI t) = t from nI_clamp (show t < 2 ^ 31 by omega), if_neg (by rw [hok]; decide), if_neg c_3])
    exact W.iret (v := (rmC M (t + 1) t 401)) hx hb hr (fun t9 h9 w9 => ⟨⟨(rmC M (t + 1) t 401), (), rfl, (by rw [eS]; exact ⟨rfl, rfl⟩), trivial⟩, hE.F h9⟩) hS.2.2 dX4_room_28
  · skip
    exact tk_nsS hst hx hb hown (hts (.classLink RX4 145 "java/util/NoSuchElementException") (by decide +kernel)) (hts (.initialized "java/util/NoSuchElementException") (by decide +kernel)) (text := "no budget applies to the task") (by decide) (fun w hw => hts w (List.mem_cons_of_mem _ (List.mem_append_left _ (List.mem_append_right _ hw)))) hF hO hS hE (hl.1.trans hml.symm) hno hlocks dX4_room_17 dX4_room_20 dX4_room_21 dX4_room_23 dX4_room_26 (Nat.le_of_ble_eq_true rfl) (Nat.le_of_ble_eq_true rfl) ⟨Nat.le_of_ble_eq_true rfl, Nat.le_of_ble_eq_true rfl⟩ ⟨Nat.le_of_ble_eq_true rfl, Nat.le_of_ble_eq_true rfl⟩ (xl (k := 2) (by rw [K_room, show tn (nI t) = t from nI_clamp (show t < 2 ^ 31 by omega), if_neg (by rw [hok]; decide), if_pos c_3]) (by decide +kernel))
set_option maxHeartbeats 4000000 in
set_option maxRecDepth 100000 in
theorem c_X4_total (l : Launch) (hst : l.stackTraces = false) (A : Nat → Prop) (D : va_G) (ac : Nat → ClassId) (dE : Nat) (G : TG) {h0 : Nat} {α : Nat → Nat → Nat} {M : TS} {nv : Nat} (hP : PX ac dE h0 α M (nV M) G) (hW : W0 M) (x : Int32) : vx_Met l yX4_total wsX4_total ({ frames := 9, cells := 1, slots := 6, locals := 500 } : Room) (va_Pc [.ref h0, .int x] (tkX A D ac dE G)) (va_Qi (fun (z : Int32) (_ : Unit) => (S_total M x).1 = 0 ∧ z = (S_total M x).2.2) (fun _ _ => True) (fun _ => False)) (XG (fun E => (E, (S_total M x).1) ∈ ([("java/util/NoSuchElementException", 1)] : List (String × Int32)))) 1 6 A := by
  refine vx_ofW (cc := cX4_total) (maxL := 2) (ret := (some .int)) (by decide) rfl ?_
  intro p e s m args below meth c s₁ B hml hno hv
  obtain ⟨rfl, ⟨hM, hK, hA, hF⟩, hO⟩ := hv
  have hS : va_S A s.heap s.heap [] := va_S.rf
  have hE : tkE s.heap s.heap := tkE.rf
  have hx := B.exec
  have hb := B.bytes
  have hr := B.returns
  have hts := atoms_spec (ws := wsX4_total) B.pre
  have hown : s.vm.findClass RX4 = some m.cls := findClass_of_methodNamed B.named
  have hlocks := B.notSynchronized
  have S0 : CallFix p m c cX4_total 2 s ([.ref h0, .int x] : List Value).toArray wsX4_total RX4 := ⟨hx, hb, hml, hown, hts⟩
  have inX1 : ∀ w ∈ wsX10, w ∈ wsX4_total := by decide +kernel
  have hl := lv_entry ([.ref h0, .int x]) (n := 2) (Nat.le_of_ble_eq_true rfl)
  rw [lg_entry_eq]
  generalize (lg_sl ([.ref h0, .int x]) ++ List.replicate (2 - (lg_sl ([.ref h0, .int x])).length) Slot.unset).toArray = ls at hl ⊢
  have hl : lv_has ls 2 [(0, .ref h0), (1, .int x)] := hl
  have bT := hW.t.2
  have bE := hW.e.2
  have bV := hW.v.2
  have hnv : nV M ≤ nV M := Nat.le_refl _
  refine lv_aload_n hx hb dX4_total_0 rfl (lv_at hl 0 rfl) ?_
  refine lv_iload_n hx hb dX4_total_1 rfl (lv_at hl 1 rfl) ?_
  refine tk_xVq (As := [.int x]) S0 (c_X4_requireInvoice l hst A D ac dE _ hP hW hnv x) (cwV 1 hts gX4_total_X4_requireInvoice rfl rfl rfl (by decide +kernel) ⟨Nat.le_of_ble_eq_true rfl, Nat.le_of_ble_eq_true rfl⟩) (tkX.blind) (tkX.at hM hK hA hF hO hS) (tk_recv hK hM hP.h rfl) rfl hl.1 rfl (Nat.le_of_ble_eq_true rfl) dX4_total_2 ⟨Nat.le_of_ble_eq_true rfl, Nat.le_of_ble_eq_true rfl⟩ hS hE hno hlocks ⟨Nat.le_of_ble_eq_true rfl, Nat.le_of_ble_eq_true rfl⟩ (fun E h9 => by obtain ⟨rfl, h9⟩ := h9; exact (xl (k := 1) (by rw [S_total, if_pos h9]) (by decide +kernel))) (fun r_1 H locs hr_1 hq9 hE hS => ?_)
  have hM := hM.keptE hq9
  obtain ⟨hok, rfl⟩ := hr_1
  have hokc := hok
  obtain ⟨v, hv, rfl⟩ := tkOk_ex (by omega) hokc
  rw [show tn (nI v) = v from nI_clamp (by omega)]
  refine tk_get hx hb hts inX1 hown hK hM (hP.v hv) rfl 2 (by decide) (hts (.fieldLink RX4 269 "TicketForge$Invoice" "total" "I") (by decide +kernel)) (fun _ h9 => h9) rfl dX4_total_5 ?_
  refine vx_ret ?_
  refine W.widen (k := 1) (n := 6) (Nat.le_of_ble_eq_true rfl) (Nat.le_of_ble_eq_true rfl) ?_
  have eS : S_total M (nI v) = (0, M, (M 16 v)) := (by rw [S_total, show tn (nI v) = v from nI_clamp (show v < 2 ^ 31 by omega), if_neg (by rw [hok]; decide)])
  exact W.iret (v := (M 16 v)) hx hb hr (fun t9 h9 w9 => ⟨⟨(M 16 v), (), rfl, (by rw [eS]; exact ⟨rfl, rfl⟩), trivial⟩, hE.F h9⟩) hS.2.2 dX4_total_8
set_option maxHeartbeats 4000000 in
set_option maxRecDepth 100000 in
theorem c_X4_credited (l : Launch) (hst : l.stackTraces = false) (A : Nat → Prop) (D : va_G) (ac : Nat → ClassId) (dE : Nat) (G : TG) {h0 : Nat} {α : Nat → Nat → Nat} {M : TS} {nv : Nat} (hP : PX ac dE h0 α M (nV M) G) (hW : W0 M) (x : Int32) : vx_Met l yX4_credited wsX4_credited ({ frames := 9, cells := 1, slots := 6, locals := 500 } : Room) (va_Pc [.ref h0, .int x] (tkX A D ac dE G)) (va_Qi (fun (z : Int32) (_ : Unit) => (S_credited M x).1 = 0 ∧ z = (S_credited M x).2.2) (fun _ _ => True) (fun _ => False)) (XG (fun E => (E, (S_credited M x).1) ∈ ([("java/util/NoSuchElementException", 1)] : List (String × Int32)))) 1 6 A := by
  refine vx_ofW (cc := cX4_credited) (maxL := 2) (ret := (some .int)) (by decide) rfl ?_
  intro p e s m args below meth c s₁ B hml hno hv
  obtain ⟨rfl, ⟨hM, hK, hA, hF⟩, hO⟩ := hv
  have hS : va_S A s.heap s.heap [] := va_S.rf
  have hE : tkE s.heap s.heap := tkE.rf
  have hx := B.exec
  have hb := B.bytes
  have hr := B.returns
  have hts := atoms_spec (ws := wsX4_credited) B.pre
  have hown : s.vm.findClass RX4 = some m.cls := findClass_of_methodNamed B.named
  have hlocks := B.notSynchronized
  have S0 : CallFix p m c cX4_credited 2 s ([.ref h0, .int x] : List Value).toArray wsX4_credited RX4 := ⟨hx, hb, hml, hown, hts⟩
  have inX1 : ∀ w ∈ wsX10, w ∈ wsX4_credited := by decide +kernel
  have hl := lv_entry ([.ref h0, .int x]) (n := 2) (Nat.le_of_ble_eq_true rfl)
  rw [lg_entry_eq]
  generalize (lg_sl ([.ref h0, .int x]) ++ List.replicate (2 - (lg_sl ([.ref h0, .int x])).length) Slot.unset).toArray = ls at hl ⊢
  have hl : lv_has ls 2 [(0, .ref h0), (1, .int x)] := hl
  have bT := hW.t.2
  have bE := hW.e.2
  have bV := hW.v.2
  have hnv : nV M ≤ nV M := Nat.le_refl _
  refine lv_aload_n hx hb dX4_credited_0 rfl (lv_at hl 0 rfl) ?_
  refine lv_iload_n hx hb dX4_credited_1 rfl (lv_at hl 1 rfl) ?_
  refine tk_xVq (As := [.int x]) S0 (c_X4_requireInvoice l hst A D ac dE _ hP hW hnv x) (cwV 1 hts gX4_credited_X4_requireInvoice rfl rfl rfl (by decide +kernel) ⟨Nat.le_of_ble_eq_true rfl, Nat.le_of_ble_eq_true rfl⟩) (tkX.blind) (tkX.at hM hK hA hF hO hS) (tk_recv hK hM hP.h rfl) rfl hl.1 rfl (Nat.le_of_ble_eq_true rfl) dX4_credited_2 ⟨Nat.le_of_ble_eq_true rfl, Nat.le_of_ble_eq_true rfl⟩ hS hE hno hlocks ⟨Nat.le_of_ble_eq_true rfl, Nat.le_of_ble_eq_true rfl⟩ (fun E h9 => by obtain ⟨rfl, h9⟩ := h9; exact (xl (k := 1) (by rw [S_credited, if_pos h9]) (by decide +kernel))) (fun r_1 H locs hr_1 hq9 hE hS => ?_)
  have hM := hM.keptE hq9
  obtain ⟨hok, rfl⟩ := hr_1
  have hokc := hok
  obtain ⟨v, hv, rfl⟩ := tkOk_ex (by omega) hokc
  rw [show tn (nI v) = v from nI_clamp (by omega)]
  refine tk_get hx hb hts inX1 hown hK hM (hP.v hv) rfl 3 (by decide) (hts (.fieldLink RX4 281 "TicketForge$Invoice" "credited" "I") (by decide +kernel)) (fun _ h9 => h9) rfl dX4_credited_5 ?_
  refine vx_ret ?_
  refine W.widen (k := 1) (n := 6) (Nat.le_of_ble_eq_true rfl) (Nat.le_of_ble_eq_true rfl) ?_
  have eS : S_credited M (nI v) = (0, M, (M 17 v)) := (by rw [S_credited, show tn (nI v) = v from nI_clamp (show v < 2 ^ 31 by omega), if_neg (by rw [hok]; decide)])
  exact W.iret (v := (M 17 v)) hx hb hr (fun t9 h9 w9 => ⟨⟨(M 17 v), (), rfl, (by rw [eS]; exact ⟨rfl, rfl⟩), trivial⟩, hE.F h9⟩) hS.2.2 dX4_credited_8
set_option maxHeartbeats 4000000 in
set_option maxRecDepth 100000 in
theorem c_X4_totalByRules (l : Launch) (hst : l.stackTraces = false) (A : Nat → Prop) (D : va_G) (ac : Nat → ClassId) (dE : Nat) (G : TG) {h0 : Nat} {α : Nat → Nat → Nat} {M : TS} {nv : Nat} (hP : PX ac dE h0 α M (nV M) G) (hW : W0 M) (hB : WB M (nV M)) (x : Int32) : vx_Met l yX4_totalByRules wsX4_totalByRules ({ frames := 9, cells := 1, slots := 6, locals := 500 } : Room) (va_Pc [.ref h0, .int x] (tkX A D ac dE G)) (va_Qi (fun (z : Int32) (_ : Unit) => (K_totalByRules M x).1 = 0 ∧ z = (K_totalByRules M x).2.2) (fun _ _ => True) (fun _ => False)) (XG (fun E => (E, (K_totalByRules M x).1) ∈ ([("java/util/NoSuchElementException", 1)] : List (String × Int32)))) 1 6 A := by
  refine vx_ofW (cc := cX4_totalByRules) (maxL := 2) (ret := (some .int)) (by decide) rfl ?_
  intro p e s m args below meth c s₁ B hml hno hv
  obtain ⟨rfl, ⟨hM, hK, hA, hF⟩, hO⟩ := hv
  have hS : va_S A s.heap s.heap [] := va_S.rf
  have hE : tkE s.heap s.heap := tkE.rf
  have hx := B.exec
  have hb := B.bytes
  have hr := B.returns
  have hts := atoms_spec (ws := wsX4_totalByRules) B.pre
  have hown : s.vm.findClass RX4 = some m.cls := findClass_of_methodNamed B.named
  have hlocks := B.notSynchronized
  have S0 : CallFix p m c cX4_totalByRules 2 s ([.ref h0, .int x] : List Value).toArray wsX4_totalByRules RX4 := ⟨hx, hb, hml, hown, hts⟩
  have hl := lv_entry ([.ref h0, .int x]) (n := 2) (Nat.le_of_ble_eq_true rfl)
  rw [lg_entry_eq]
  generalize (lg_sl ([.ref h0, .int x]) ++ List.replicate (2 - (lg_sl ([.ref h0, .int x])).length) Slot.unset).toArray = ls at hl ⊢
  have hl : lv_has ls 2 [(0, .ref h0), (1, .int x)] := hl
  have bT := hW.t.2
  have bE := hW.e.2
  have bV := hW.v.2
  have hnv : nV M ≤ nV M := Nat.le_refl _
  refine lv_aload_n hx hb dX4_totalByRules_0 rfl (lv_at hl 0 rfl) ?_
  refine lv_aload_n hx hb dX4_totalByRules_1 rfl (lv_at hl 0 rfl) ?_
  refine lv_iload_n hx hb dX4_totalByRules_2 rfl (lv_at hl 1 rfl) ?_
  refine tk_xVq (As := [.int x]) S0 (c_X4_requireInvoice l hst A D ac dE _ hP hW hnv x) (cwV 1 hts gX4_totalByRules_X4_requireInvoice rfl rfl rfl (by decide +kernel) ⟨Nat.le_of_ble_eq_true rfl, Nat.le_of_ble_eq_true rfl⟩) (tkX.blind) (tkX.at hM hK hA hF hO hS) (tk_recv hK hM hP.h rfl) rfl hl.1 rfl (Nat.le_of_ble_eq_true rfl) dX4_totalByRules_3 ⟨Nat.le_of_ble_eq_true rfl, Nat.le_of_ble_eq_true rfl⟩ hS hE hno hlocks ⟨Nat.le_of_ble_eq_true rfl, Nat.le_of_ble_eq_true rfl⟩ (fun E h9 => by obtain ⟨rfl, h9⟩ := h9; exact (xl (k := 1) (by rw [K_totalByRules, if_pos h9]) (by decide +kernel))) (fun r_1 H locs hr_1 hq9 hE hS => ?_)
  have hM := hM.keptE hq9
  obtain ⟨hok, rfl⟩ := hr_1
  have hokc := hok
  obtain ⟨v, hv, rfl⟩ := tkOk_ex (by omega) hokc
  rw [show tn (nI v) = v from nI_clamp (by omega)]
  refine tk_cVi (As := [.ref (α 3 v)]) S0 (c_X4_recomputeTotal l A D ac dE _ hP hW hB v hv) (cwV 1 hts gX4_totalByRules_X4_recomputeTotal rfl rfl rfl (by decide +kernel) ⟨Nat.le_of_ble_eq_true rfl, Nat.le_of_ble_eq_true rfl⟩) (tkX.blind) (tkX.at hM hK hA hF hO hS) (tk_recv hK hM hP.h rfl) rfl hl.1 rfl (Nat.le_of_ble_eq_true rfl) dX4_totalByRules_6 ⟨Nat.le_of_ble_eq_true rfl, Nat.le_of_ble_eq_true rfl⟩ (fun r_2 hr_2 => ?_)
  subst hr_2
  refine vx_ret ?_
  refine W.widen (k := 1) (n := 6) (Nat.le_of_ble_eq_true rfl) (Nat.le_of_ble_eq_true rfl) ?_
  have eS : K_totalByRules M (nI v) = (0, M, (recT M v (nE M))) := (by rw [K_totalByRules, show tn (nI v) = v from nI_clamp (show v < 2 ^ 31 by omega), if_neg (by rw [hok]; decide)])
  exact W.iret (v := (recT M v (nE M))) hx hb hr (fun t9 h9 w9 => ⟨⟨(recT M v (nE M)), (), rfl, (by rw [eS]; exact ⟨rfl, rfl⟩), trivial⟩, hE.F h9⟩) hS.2.2 dX4_totalByRules_9
set_option maxHeartbeats 4000000 in
set_option maxRecDepth 100000 in
theorem c_X4_items (l : Launch) (hst : l.stackTraces = false) (A : Nat → Prop) (D : va_G) (ac : Nat → ClassId) (dE : Nat) (G : TG) {h0 : Nat} {α : Nat → Nat → Nat} {M : TS} {nv : Nat} (hP : PX ac dE h0 α M (nV M) G) (hW : W0 M) (hB : WB M (nV M)) (x : Int32) : vx_Met l yX4_items wsX4_items ({ frames := 9, cells := 1, slots := 6, locals := 500 } : Room) (va_Pc [.ref h0, .int x] (tkX A D ac dE G)) (va_Qi (fun (z : Int32) (_ : Unit) => (K_items M x).1 = 0 ∧ z = (K_items M x).2.2) (fun _ _ => True) (fun _ => False)) (XG (fun E => (E, (K_items M x).1) ∈ ([("java/util/NoSuchElementException", 1)] : List (String × Int32)))) 1 6 A := by
  refine vx_ofW (cc := cX4_items) (maxL := 5) (ret := (some .int)) (by decide) rfl ?_
  intro p e s m args below meth c s₁ B hml hno hv
  obtain ⟨rfl, ⟨hM, hK, hA, hF⟩, hO⟩ := hv
  have hS : va_S A s.heap s.heap [] := va_S.rf
  have hE : tkE s.heap s.heap := tkE.rf
  have hx := B.exec
  have hb := B.bytes
  have hr := B.returns
  have hts := atoms_spec (ws := wsX4_items) B.pre
  have hown : s.vm.findClass RX4 = some m.cls := findClass_of_methodNamed B.named
  have hlocks := B.notSynchronized
  have S0 : CallFix p m c cX4_items 5 s ([.ref h0, .int x] : List Value).toArray wsX4_items RX4 := ⟨hx, hb, hml, hown, hts⟩
  have inX4 : ∀ w ∈ wsX40, w ∈ wsX4_items := by decide +kernel
  have inX0 : ∀ w ∈ wsX00, w ∈ wsX4_items := by decide +kernel
  have hl := lv_entry ([.ref h0, .int x]) (n := 5) (Nat.le_of_ble_eq_true rfl)
  rw [lg_entry_eq]
  generalize (lg_sl ([.ref h0, .int x]) ++ List.replicate (5 - (lg_sl ([.ref h0, .int x])).length) Slot.unset).toArray = ls at hl ⊢
  have hl : lv_has ls 5 [(0, .ref h0), (1, .int x)] := hl
  have bT := hW.t.2
  have bE := hW.e.2
  have bV := hW.v.2
  have hnv : nV M ≤ nV M := Nat.le_refl _
  refine lv_aload_n hx hb dX4_items_0 rfl (lv_at hl 0 rfl) ?_
  refine lv_iload_n hx hb dX4_items_1 rfl (lv_at hl 1 rfl) ?_
  refine tk_xVq (As := [.int x]) S0 (c_X4_requireInvoice l hst A D ac dE _ hP hW hnv x) (cwV 1 hts gX4_items_X4_requireInvoice rfl rfl rfl (by decide +kernel) ⟨Nat.le_of_ble_eq_true rfl, Nat.le_of_ble_eq_true rfl⟩) (tkX.blind) (tkX.at hM hK hA hF hO hS) (tk_recv hK hM hP.h rfl) rfl hl.1 rfl (Nat.le_of_ble_eq_true rfl) dX4_items_2 ⟨Nat.le_of_ble_eq_true rfl, Nat.le_of_ble_eq_true rfl⟩ hS hE hno hlocks ⟨Nat.le_of_ble_eq_true rfl, Nat.le_of_ble_eq_true rfl⟩ (fun E h9 => by obtain ⟨rfl, h9⟩ := h9; exact (xl (k := 1) (by rw [K_items, if_pos h9]) (by decide +kernel))) (fun r_1 H locs hr_1 hq9 hE hS => ?_)
  have hM := hM.keptE hq9
  obtain ⟨hok, rfl⟩ := hr_1
  have hokc := hok
  obtain ⟨v, hv, rfl⟩ := tkOk_ex (by omega) hokc
  rw [show tn (nI v) = v from nI_clamp (by omega)]
  refine lv_astore_n (lv' := [(2, .ref (α 3 v)), (0, .ref h0), (1, .int (nI v))]) hx hb dX4_items_5 rfl hl (by decide) rfl (fun ls hl => ?_)
  refine lv_iconst (v := 0) hx hb dX4_items_6 (by decide) ?_
  refine lv_istore_n (lv' := [(3, .int 0), (2, .ref (α 3 v)), (0, .ref h0), (1, .int (nI v))]) hx hb dX4_items_7 rfl hl (by decide) rfl (fun ls hl => ?_)
  refine lv_iconst (v := 0) hx hb dX4_items_8 (by decide) ?_
  refine lv_istore (lv' := [(4, .int 0), (3, .int 0), (2, .ref (α 3 v)), (0, .ref h0), (1, .int (nI v))]) hx hb dX4_items_9 hl (by decide) rfl (fun ls hl => ?_)
  refine tk_f1 (Wf := W p l e _ s m _ below meth c _ _ _ _ _) (nE M) (fun i acc ls => lv_has ls 5 [(2, .ref (α 3 v)), (0, .ref h0), (1, .int (nI v)), (4, .int (nI i)), (3, .int acc)] ∧ acc = sumI (fun k => if billed M k = true ∧ M 14 k = nI v then 1 else 0) i) (fun i acc ls hi hinv ih => ?_) _ ls ⟨(lv_sub hl [2, 3, 4, 0, 1] rfl), rfl⟩
  obtain ⟨hl, hinv⟩ := hinv
  refine lv_iload hx hb dX4_items_11 (lv_at hl 3 rfl) ?_
  refine lv_aload_n hx hb dX4_items_13 rfl (lv_at hl 1 rfl) ?_
  refine tk_get hx hb hts inX4 hown hK hM hP.h rfl 1 (by decide) (hts (.fieldLink RX4 16 "TicketForge" "entryList" "Ljava/util/ArrayList;") (by decide +kernel)) (fun _ h9 => h9) rfl dX4_items_14 ?_
  refine tk_cVi (As := []) S0 (c_Jx4a65c_size_8abf5 l A D ac dE _ hP.le) (cwV 0 hts gX4_items_Jx4a65c_size_8abf5 rfl rfl rfl (by decide +kernel) ⟨Nat.le_of_ble_eq_true rfl, Nat.le_of_ble_eq_true rfl⟩) (tkX.blind) (tkX.at hM hK hA hF hO hS) (LX.rec hP.le hK hM) rfl hl.1 rfl (Nat.le_of_ble_eq_true rfl) dX4_items_17 ⟨Nat.le_of_ble_eq_true rfl, Nat.le_of_ble_eq_true rfl⟩ (fun r_2 hr_2 => ?_)
  subst hr_2
  refine lv_icmp_ge (tgt := 51) hx hb dX4_items_20 (by decide) (fun c_3 => ?_) (fun c_3 => ?_)
  · have hge := tk_ge (by omega) (by omega) c_3
    refine lv_iload_n hx hb dX4_items_51 rfl (lv_at hl 4 rfl) ?_
    refine vx_ret ?_
    refine W.widen (k := 1) (n := 6) (Nat.le_of_ble_eq_true rfl) (Nat.le_of_ble_eq_true rfl) ?_
    have eS : K_items M (nI v) = (0, M, acc) := (by rw [K_items, show tn (nI v) = v from nI_clamp (show v < 2 ^ 31 by omega), if_neg (by rw [hok]; decide), show itC M v (nE M) = acc from (sumI_e hinv hi hge).symm])
    exact W.iret (v := acc) hx hb hr (fun t9 h9 w9 => ⟨⟨acc, (), rfl, (by rw [eS]; exact ⟨rfl, rfl⟩), trivial⟩, hE.F h9⟩) hS.2.2 dX4_items_52
  · have hlt := tk_lt (by omega) (by omega) c_3
    refine lv_aload_n hx hb dX4_items_23 rfl (lv_at hl 1 rfl) ?_
    refine tk_get hx hb hts inX4 hown hK hM hP.h rfl 1 (by decide) (hts (.fieldLink RX4 16 "TicketForge" "entryList" "Ljava/util/ArrayList;") (by decide +kernel)) (fun _ h9 => h9) rfl dX4_items_24 ?_
    refine lv_iload hx hb dX4_items_27 (lv_at hl 3 rfl) ?_
    have hg_5 : i < nE M := by omega
    refine tk_cVq (As := [.int (nI i)]) S0 (c_Jx4a65c_get_915e3 l A D ac dE _ hP.le i hg_5 (by omega)) (cwV 1 hts gX4_items_Jx4a65c_get_915e3 rfl rfl rfl (by decide +kernel) ⟨Nat.le_of_ble_eq_true rfl, Nat.le_of_ble_eq_true rfl⟩) (tkX.blind) (tkX.at hM hK hA hF hO hS) (LX.rec hP.le hK hM) rfl hl.1 rfl (Nat.le_of_ble_eq_true rfl) dX4_items_29 ⟨Nat.le_of_ble_eq_true rfl, Nat.le_of_ble_eq_true rfl⟩ (fun r_4 hr_4 => ?_)
    subst hr_4
    refine va_castY (C := "TicketForge$Entry") hx hb hown (hts (.classLink RX4 178 "TicketForge$Entry") (by decide +kernel)) (hF.2.2.2 ("TicketForge$Entry", "TicketForge$Entry") (by decide +kernel)) (tk_recv hK hM (hP.e hg_5) rfl (ci := 3) (q := (RX0, TX0, 7))) dX4_items_32 ?_
    refine tk_get hx hb hts inX0 hown hK hM (hP.e hg_5) rfl 6 (by decide) (hts (.fieldLink RX4 284 "TicketForge$Entry" "invoice" "LTicketForge$Invoice;") (by decide +kernel)) (fun _ h9 => h9) rfl dX4_items_35 ?_
    refine lv_aload_n hx hb dX4_items_38 rfl (lv_at hl 0 rfl) ?_
    refine lv_acmp_ne (rx := (invR α M i)) (ry := (some (α 3 v))) (tgt := 45) hx hb dX4_items_39 (by decide) (fun c_6 => ?_) (fun c_6 => ?_)
    · have c_6 := mt (hP.invE hB hg_5 hv).mpr c_6
      refine lv_iinc (v := (nI (i + 1))) (lv' := [(4, .int (nI (i + 1))), (2, .ref (α 3 v)), (0, .ref h0), (1, .int (nI v)), (3, .int acc)]) hx hb dX4_items_45 hl (k := 3) rfl (nI_1 i) (by decide) rfl (fun ls hl => ?_)
      refine lv_goto (tgt := 11) hx hb dX4_items_48 (by decide) ?_
      exact ih _ ls (by omega) ⟨(lv_sub hl [1, 2, 3, 0, 4] rfl), sumI_f hinv (if_neg c_6)⟩
    · have c_6 := (hP.invE hB hg_5 hv).mp c_6
      refine lv_iinc (v := (acc + 1)) (lv' := [(3, .int (acc + 1)), (2, .ref (α 3 v)), (0, .ref h0), (1, .int (nI v)), (4, .int (nI i))]) hx hb dX4_items_42 hl (k := 4) rfl rfl (by decide) rfl (fun ls hl => ?_)
      refine lv_iinc (v := (nI (i + 1))) (lv' := [(4, .int (nI (i + 1))), (3, .int (acc + 1)), (2, .ref (α 3 v)), (0, .ref h0), (1, .int (nI v))]) hx hb dX4_items_45 hl (k := 4) rfl (nI_1 i) (by decide) rfl (fun ls hl => ?_)
      refine lv_goto (tgt := 11) hx hb dX4_items_48 (by decide) ?_
      exact ih _ ls (by omega) ⟨(lv_sub hl [2, 3, 4, 0, 1] rfl), sumI_t hinv (if_pos c_6)⟩
set_option maxHeartbeats 4000000 in
set_option maxRecDepth 100000 in
theorem c_X4_pace (l : Launch) (hst : l.stackTraces = false) (A : Nat → Prop) (D : va_G) (ac : Nat → ClassId) (dE : Nat) (G : TG) {h0 : Nat} {α : Nat → Nat → Nat} {M : TS} {nv : Nat} (hP : PX ac dE h0 α M (nV M) G) (hW : W0 M) (w : Int32) : vx_Met l yX4_pace wsX4_pace ({ frames := 9, cells := 1, slots := 6, locals := 500 } : Room) (va_Pc [.ref h0, .int w] (tkX A D ac dE G)) (va_Qf (fun (z : UInt32) (_ : Unit) => (S_pace M w).1 = 0 ∧ z = (S_pace M w).2.2) (fun _ _ => True) (fun _ => False)) (XG (fun E => (E, (S_pace M w).1) ∈ ([("java/lang/IllegalArgumentException", 1)] : List (String × Int32)))) 1 6 A := by
  refine vx_ofW (cc := cX4_pace) (maxL := 2) (ret := (some .float)) (by decide) rfl ?_
  intro p e s m args below meth c s₁ B hml hno hv
  obtain ⟨rfl, ⟨hM, hK, hA, hF⟩, hO⟩ := hv
  have hS : va_S A s.heap s.heap [] := va_S.rf
  have hE : tkE s.heap s.heap := tkE.rf
  have hx := B.exec
  have hb := B.bytes
  have hr := B.returns
  have hts := atoms_spec (ws := wsX4_pace) B.pre
  have hown : s.vm.findClass RX4 = some m.cls := findClass_of_methodNamed B.named
  have hlocks := B.notSynchronized
  have S0 : CallFix p m c cX4_pace 2 s ([.ref h0, .int w] : List Value).toArray wsX4_pace RX4 := ⟨hx, hb, hml, hown, hts⟩
  have hl := lv_entry ([.ref h0, .int w]) (n := 2) (Nat.le_of_ble_eq_true rfl)
  rw [lg_entry_eq]
  generalize (lg_sl ([.ref h0, .int w]) ++ List.replicate (2 - (lg_sl ([.ref h0, .int w])).length) Slot.unset).toArray = ls at hl ⊢
  have hl : lv_has ls 2 [(0, .ref h0), (1, .int w)] := hl
  have bT := hW.t.2
  have bE := hW.e.2
  have bV := hW.v.2
  refine lv_iload_n hx hb dX4_pace_0 rfl (lv_at hl 1 rfl) ?_
  refine tk_xSv (As := [.int w]) S0 (c_X4_requireWeek l hst A D ac dE _ w) (va_cwS 1 hts gX4_pace_X4_requireWeek rfl rfl rfl (by decide +kernel) ⟨Nat.le_of_ble_eq_true rfl, Nat.le_of_ble_eq_true rfl⟩) (tkX.blind) (tkX.at hM hK hA hF hO hS) rfl hl.1 rfl (Nat.le_of_ble_eq_true rfl) dX4_pace_1 ⟨Nat.le_of_ble_eq_true rfl, Nat.le_of_ble_eq_true rfl⟩ hS hE hno hlocks ⟨Nat.le_of_ble_eq_true rfl, Nat.le_of_ble_eq_true rfl⟩ (fun E h9 => by obtain ⟨rfl, h9⟩ := h9; exact (xl (k := 1) (by rw [S_pace, if_pos h9]) (by decide +kernel))) (fun H locs hr_1 hq9 hE hS => ?_)
  have hM := hM.keptE hq9
  have hokw := hr_1
  have hokwc := hokw
  obtain ⟨wk, hwk, rfl⟩ := tkOk_ex (by decide) hokwc
  refine lv_aload_n hx hb dX4_pace_4 rfl (lv_at hl 0 rfl) ?_
  refine lv_iload_n hx hb dX4_pace_5 rfl (lv_at hl 1 rfl) ?_
  refine tk_cVi (As := [.int (nI wk)]) S0 (c_X4_paceHours l A D ac dE _ hP hW wk (by omega)) (cwV 1 hts gX4_pace_X4_paceHours rfl rfl rfl (by decide +kernel) ⟨Nat.le_of_ble_eq_true rfl, Nat.le_of_ble_eq_true rfl⟩) (tkX.blind) (tkX.at hM hK hA hF hO hS) (tk_recv hK hM hP.h rfl) rfl hl.1 rfl (Nat.le_of_ble_eq_true rfl) dX4_pace_6 ⟨Nat.le_of_ble_eq_true rfl, Nat.le_of_ble_eq_true rfl⟩ (fun r_2 hr_2 => ?_)
  subst hr_2
  refine lv_i2f hx hb dX4_pace_9 ?_
  refine tk_ldcwf hx hb hown (hts (.constantFloat RX4 294 1077936128) (by decide +kernel)) dX4_pace_10 ?_
  refine lv_fdiv hx hb dX4_pace_13 (fl_pace _) ?_
  refine vx_ret ?_
  refine W.widen (k := 1) (n := 6) (Nat.le_of_ble_eq_true rfl) (Nat.le_of_ble_eq_true rfl) ?_
  have eS : S_pace M (nI wk) = (0, M, (FP.fdiv (FP.i2f (lately M (nI wk))) 1077936128)) := (by rw [S_pace, if_neg (by rw [hokw]; decide)])
  exact W.fret (v := (FP.fdiv (FP.i2f (lately M (nI wk))) 1077936128)) hx hb hr (fun t9 h9 w9 => ⟨⟨(FP.fdiv (FP.i2f (lately M (nI wk))) 1077936128), (), rfl, (by rw [eS]; exact ⟨rfl, rfl⟩), trivial⟩, hE.F h9⟩) hS.2.2 dX4_pace_14
set_option maxHeartbeats 4000000 in
set_option maxRecDepth 100000 in
theorem c_X4_forecast (l : Launch) (hst : l.stackTraces = false) (A : Nat → Prop) (D : va_G) (ac : Nat → ClassId) (dE : Nat) (G : TG) {h0 : Nat} {α : Nat → Nat → Nat} {M : TS} {nv : Nat} (hP : PX ac dE h0 α M (nV M) G) (hW : W0 M) (x w : Int32) : vx_Met l yX4_forecast wsX4_forecast ({ frames := 9, cells := 3, slots := 18, locals := 500 } : Room) (va_Pc [.ref h0, .int x, .int w] (tkX A D ac dE G)) (va_Qi (fun (z : Int32) (_ : Unit) => (K_forecast M x w).1 = 0 ∧ z = (K_forecast M x w).2.2) (fun _ _ => True) (fun _ => False)) (XG (fun E => (E, (K_forecast M x w).1) ∈ ([("java/lang/IndexOutOfBoundsException", 1), ("java/lang/IllegalArgumentException", 2), ("java/lang/ArithmeticException", 3)] : List (String × Int32)))) 3 18 A := by
  refine vx_ofW (cc := cX4_forecast) (maxL := 5) (ret := (some .int)) (by decide) rfl ?_
  intro p e s m args below meth c s₁ B hml hno hv
  obtain ⟨rfl, ⟨hM, hK, hA, hF⟩, hO⟩ := hv
  have hS : va_S A s.heap s.heap [] := va_S.rf
  have hE : tkE s.heap s.heap := tkE.rf
  have hx := B.exec
  have hb := B.bytes
  have hr := B.returns
  have hts := atoms_spec (ws := wsX4_forecast) B.pre
  have hown : s.vm.findClass RX4 = some m.cls := findClass_of_methodNamed B.named
  have hlocks := B.notSynchronized
  have S0 : CallFix p m c cX4_forecast 5 s ([.ref h0, .int x, .int w] : List Value).toArray wsX4_forecast RX4 := ⟨hx, hb, hml, hown, hts⟩
  have hl := lv_entry ([.ref h0, .int x, .int w]) (n := 5) (Nat.le_of_ble_eq_true rfl)
  rw [lg_entry_eq]
  generalize (lg_sl ([.ref h0, .int x, .int w]) ++ List.replicate (5 - (lg_sl ([.ref h0, .int x, .int w])).length) Slot.unset).toArray = ls at hl ⊢
  have hl : lv_has ls 5 [(0, .ref h0), (1, .int x), (2, .int w)] := hl
  have bT := hW.t.2
  have bE := hW.e.2
  have bV := hW.v.2
  refine lv_aload_n hx hb dX4_forecast_0 rfl (lv_at hl 0 rfl) ?_
  refine lv_iload_n hx hb dX4_forecast_1 rfl (lv_at hl 1 rfl) ?_
  refine tk_xVq (As := [.int x]) S0 (c_X4_requireTask l hst A D ac dE _ hP hW x) (cwV 1 hts gX4_forecast_X4_requireTask rfl rfl rfl (by decide +kernel) ⟨Nat.le_of_ble_eq_true rfl, Nat.le_of_ble_eq_true rfl⟩) (tkX.blind) (tkX.at hM hK hA hF hO hS) (tk_recv hK hM hP.h rfl) rfl hl.1 rfl (Nat.le_of_ble_eq_true rfl) dX4_forecast_2 ⟨Nat.le_of_ble_eq_true rfl, Nat.le_of_ble_eq_true rfl⟩ hS hE hno hlocks ⟨Nat.le_of_ble_eq_true rfl, Nat.le_of_ble_eq_true rfl⟩ (fun E h9 => by obtain ⟨rfl, h9⟩ := h9; exact (xl (k := 1) (by rw [K_forecast, if_pos h9]) (by decide +kernel))) (fun r_1 H locs hr_1 hq9 hE hS => ?_)
  have hM := hM.keptE hq9
  obtain ⟨hok, rfl⟩ := hr_1
  have hokc := hok
  obtain ⟨t, ht, rfl⟩ := tkOk_ex (by omega) hokc
  rw [show tn (nI t) = t from nI_clamp (by omega)]
  refine lv_astore_n (lv' := [(3, .ref (α 1 t)), (0, .ref h0), (1, .int (nI t)), (2, .int w)]) hx hb dX4_forecast_5 rfl hl (by decide) rfl (fun ls hl => ?_)
  refine lv_iload_n hx hb dX4_forecast_6 rfl (lv_at hl 3 rfl) ?_
  refine tk_xSv (As := [.int w]) S0 (c_X4_requireWeek l hst A D ac dE _ w) (va_cwS 1 hts gX4_forecast_X4_requireWeek rfl rfl rfl (by decide +kernel) ⟨Nat.le_of_ble_eq_true rfl, Nat.le_of_ble_eq_true rfl⟩) (tkX.blind) (tkX.at hM hK hA hF hO hS) rfl hl.1 rfl (Nat.le_of_ble_eq_true rfl) dX4_forecast_7 ⟨Nat.le_of_ble_eq_true rfl, Nat.le_of_ble_eq_true rfl⟩ hS hE hno hlocks ⟨Nat.le_of_ble_eq_true rfl, Nat.le_of_ble_eq_true rfl⟩ (fun E h9 => by obtain ⟨rfl, h9⟩ := h9; exact (xl (k := 2) (by rw [K_forecast, show tn (nI t) = t from nI_clamp (show t < 2 ^ 31 by omega), if_neg (by rw [hok]; decide), if_pos h9]) (by decide +kernel))) (fun H locs hr_2 hq9 hE hS => ?_)
  have hM := hM.keptE hq9
  have hokw := hr_2
  have hokwc := hokw
  obtain ⟨wk, hwk, rfl⟩ := tkOk_ex (by decide) hokwc
  refine lv_aload_n hx hb dX4_forecast_10 rfl (lv_at hl 1 rfl) ?_
  refine lv_iload_n hx hb dX4_forecast_11 rfl (lv_at hl 3 rfl) ?_
  refine tk_cVi (As := [.int (nI wk)]) S0 (c_X4_paceHours l A D ac dE _ hP hW wk (by omega)) (cwV 1 hts gX4_forecast_X4_paceHours rfl rfl rfl (by decide +kernel) ⟨Nat.le_of_ble_eq_true rfl, Nat.le_of_ble_eq_true rfl⟩) (tkX.blind) (tkX.at hM hK hA hF hO hS) (tk_recv hK hM hP.h rfl) rfl hl.1 rfl (Nat.le_of_ble_eq_true rfl) dX4_forecast_12 ⟨Nat.le_of_ble_eq_true rfl, Nat.le_of_ble_eq_true rfl⟩ (fun r_3 hr_3 => ?_)
  subst hr_3
  refine lv_istore (lv' := [(4, .int (lately M (nI wk))), (3, .ref (α 1 t)), (0, .ref h0), (1, .int (nI t)), (2, .int (nI wk))]) hx hb dX4_forecast_15 hl (by decide) rfl (fun ls hl => ?_)
  refine lv_iload hx hb dX4_forecast_17 (lv_at hl 0 rfl) ?_
  refine lv_if_gt (tgt := 33) hx hb dX4_forecast_19 (by decide) (fun c_4 => ?_) (fun c_4 => ?_)
  · skip
    refine lv_aload_n hx hb dX4_forecast_33 rfl (lv_at hl 2 rfl) ?_
    refine lv_aload_n hx hb dX4_forecast_34 rfl (lv_at hl 1 rfl) ?_
    refine tk_cVi (As := [.ref (α 1 t)]) S0 (c_X4_leftOf l A D ac dE _ hP hW t ht) (cwV 1 hts gX4_forecast_X4_leftOf rfl rfl rfl (by decide +kernel) ⟨Nat.le_of_ble_eq_true rfl, Nat.le_of_ble_eq_true rfl⟩) (tkX.blind) (tkX.at hM hK hA hF hO hS) (tk_recv hK hM hP.h rfl) rfl hl.1 rfl (Nat.le_of_ble_eq_true rfl) dX4_forecast_35 ⟨Nat.le_of_ble_eq_true rfl, Nat.le_of_ble_eq_true rfl⟩ (fun r_5 hr_5 => ?_)
    subst hr_5
    refine lv_iconst (v := 3) hx hb dX4_forecast_38 (by decide) ?_
    refine lv_imul hx hb dX4_forecast_39 ?_
    refine lv_iload hx hb dX4_forecast_40 (lv_at hl 0 rfl) ?_
    refine lv_iadd hx hb dX4_forecast_42 ?_
    refine lv_iconst (v := 1) hx hb dX4_forecast_43 (by decide) ?_
    refine lv_isub hx hb dX4_forecast_44 ?_
    refine lv_iload hx hb dX4_forecast_45 (lv_at hl 0 rfl) ?_
    refine lv_idiv hx hb dX4_forecast_47 (fun h9 => by have h8 := c_4; rw [h9] at h8; exact absurd h8 (by decide)) ?_
    refine vx_ret ?_
    refine W.widen (k := 3) (n := 18) (Nat.le_of_ble_eq_true rfl) (Nat.le_of_ble_eq_true rfl) ?_
    have eS : K_forecast M (nI t) (nI wk) = (0, M, (((((leftOf M t) * 3) + (lately M (nI wk))) - 1) / (lately M (nI wk)))) := (by rw [K_forecast, show tn (nI t) = t from nI_clamp (show t < 2 ^ 31 by omega), if_neg (by rw [hok]; decide), if_neg (by rw [hokw]; decide), if_pos c_4])
    exact W.iret (v := (((((leftOf M t) * 3) + (lately M (nI wk))) - 1) / (lately M (nI wk)))) hx hb hr (fun t9 h9 w9 => ⟨⟨(((((leftOf M t) * 3) + (lately M (nI wk))) - 1) / (lately M (nI wk))), (), rfl, (by rw [eS]; exact ⟨rfl, rfl⟩), trivial⟩, hE.F h9⟩) hS.2.2 dX4_forecast_48
  · skip
    exact tk_thW hst hx hb hown (by decide) (hts (.classLink RX4 295 "java/lang/ArithmeticException") (by decide +kernel)) (hts (.initialized "java/lang/ArithmeticException") (by decide +kernel)) (text := "the pace is 0") (by decide) (by decide) (fun w hw => hts w (List.mem_cons_of_mem _ (List.mem_append_left _ (List.mem_append_left _ (List.mem_append_left _ (List.mem_append_right _ hw)))))) ng_299 ot_299 hF hO hS hE (hl.1.trans hml.symm) hno hlocks dX4_forecast_22 dX4_forecast_25 dX4_forecast_26 dX4_forecast_29 dX4_forecast_32 (Nat.le_of_ble_eq_true rfl) (Nat.le_of_ble_eq_true rfl) ⟨Nat.le_of_ble_eq_true rfl, Nat.le_of_ble_eq_true rfl⟩ ⟨Nat.le_of_ble_eq_true rfl, Nat.le_of_ble_eq_true rfl⟩ (xl (k := 3) (by rw [K_forecast, show tn (nI t) = t from nI_clamp (show t < 2 ^ 31 by omega), if_neg (by rw [hok]; decide), if_neg (by rw [hokw]; decide), if_neg c_4]) (by decide +kernel))
set_option maxHeartbeats 4000000 in
set_option maxRecDepth 100000 in
theorem c_X4_meanPrice (l : Launch) (hst : l.stackTraces = false) (A : Nat → Prop) (D : va_G) (ac : Nat → ClassId) (dE : Nat) (G : TG) {h0 : Nat} {α : Nat → Nat → Nat} {M : TS} {nv : Nat} (hP : PX ac dE h0 α M (nV M) G) (hW : W0 M) : vx_Met l yX4_meanPrice wsX4_meanPrice ({ frames := 9, cells := 1, slots := 6, locals := 500 } : Room) (va_Pc [.ref h0] (tkX A D ac dE G)) (va_Qd (fun (z : UInt64) (_ : Unit) => (S_meanPrice M).1 = 0 ∧ z = (S_meanPrice M).2.2) (fun _ _ => True) (fun _ => False)) (XG (fun E => (E, (S_meanPrice M).1) ∈ ([("java/lang/ArithmeticException", 1)] : List (String × Int32)))) 1 6 A := by
  refine vx_ofW (cc := cX4_meanPrice) (maxL := 5) (ret := (some .double)) (by decide) rfl ?_
  intro p e s m args below meth c s₁ B hml hno hv
  obtain ⟨rfl, ⟨hM, hK, hA, hF⟩, hO⟩ := hv
  have hS : va_S A s.heap s.heap [] := va_S.rf
  have hE : tkE s.heap s.heap := tkE.rf
  have hx := B.exec
  have hb := B.bytes
  have hr := B.returns
  have hts := atoms_spec (ws := wsX4_meanPrice) B.pre
  have hown : s.vm.findClass RX4 = some m.cls := findClass_of_methodNamed B.named
  have hlocks := B.notSynchronized
  have S0 : CallFix p m c cX4_meanPrice 5 s ([.ref h0] : List Value).toArray wsX4_meanPrice RX4 := ⟨hx, hb, hml, hown, hts⟩
  have inX4 : ∀ w ∈ wsX40, w ∈ wsX4_meanPrice := by decide +kernel
  have inX0 : ∀ w ∈ wsX00, w ∈ wsX4_meanPrice := by decide +kernel
  have hl := lv_entry ([.ref h0]) (n := 5) (Nat.le_of_ble_eq_true rfl)
  rw [lg_entry_eq]
  generalize (lg_sl ([.ref h0]) ++ List.replicate (5 - (lg_sl ([.ref h0])).length) Slot.unset).toArray = ls at hl ⊢
  have hl : lv_has ls 5 [(0, .ref h0)] := hl
  have bT := hW.t.2
  have bE := hW.e.2
  have bV := hW.v.2
  refine lv_iconst (v := 0) hx hb dX4_meanPrice_0 (by decide) ?_
  refine lv_istore_n (lv' := [(1, .int 0), (0, .ref h0)]) hx hb dX4_meanPrice_1 rfl hl (by decide) rfl (fun ls hl => ?_)
  refine lv_iconst (v := 0) hx hb dX4_meanPrice_2 (by decide) ?_
  refine lv_istore_n (lv' := [(2, .int 0), (1, .int 0), (0, .ref h0)]) hx hb dX4_meanPrice_3 rfl hl (by decide) rfl (fun ls hl => ?_)
  refine lv_iconst (v := 0) hx hb dX4_meanPrice_4 (by decide) ?_
  refine lv_istore_n (lv' := [(3, .int 0), (2, .int 0), (1, .int 0), (0, .ref h0)]) hx hb dX4_meanPrice_5 rfl hl (by decide) rfl (fun ls hl => ?_)
  refine tk_f2 (Wf := W p l e _ s m _ below meth c _ _ _ _ _) (nE M) (fun i sp sh ls => lv_has ls 5 [(0, .ref h0), (3, .int (nI i)), (1, .int sp), (2, .int sh)] ∧ sp = sumP M i ∧ sh = sumH M i) (fun i sp sh ls hi hinv ih => ?_) _ _ ls ⟨(lv_sub hl [3, 0, 2, 1] rfl), ⟨rfl, rfl⟩⟩
  obtain ⟨hl, hinv⟩ := hinv
  refine lv_iload_n hx hb dX4_meanPrice_6 rfl (lv_at hl 1 rfl) ?_
  refine lv_aload_n hx hb dX4_meanPrice_7 rfl (lv_at hl 0 rfl) ?_
  refine tk_get hx hb hts inX4 hown hK hM hP.h rfl 1 (by decide) (hts (.fieldLink RX4 16 "TicketForge" "entryList" "Ljava/util/ArrayList;") (by decide +kernel)) (fun _ h9 => h9) rfl dX4_meanPrice_8 ?_
  refine tk_cVi (As := []) S0 (c_Jx4a65c_size_8abf5 l A D ac dE _ hP.le) (cwV 0 hts gX4_meanPrice_Jx4a65c_size_8abf5 rfl rfl rfl (by decide +kernel) ⟨Nat.le_of_ble_eq_true rfl, Nat.le_of_ble_eq_true rfl⟩) (tkX.blind) (tkX.at hM hK hA hF hO hS) (LX.rec hP.le hK hM) rfl hl.1 rfl (Nat.le_of_ble_eq_true rfl) dX4_meanPrice_11 ⟨Nat.le_of_ble_eq_true rfl, Nat.le_of_ble_eq_true rfl⟩ (fun r_1 hr_1 => ?_)
  subst hr_1
  refine lv_icmp_ge (tgt := 62) hx hb dX4_meanPrice_14 (by decide) (fun c_2 => ?_) (fun c_2 => ?_)
  · have hge := tk_ge (by omega) (by omega) c_2
    have hsp : sp = sumP M (nE M) := sumI_e hinv.1 hi hge
    have hsh : sh = sumH M (nE M) := sumI_e hinv.2 hi hge
    refine lv_iload_n hx hb dX4_meanPrice_62 rfl (lv_at hl 3 rfl) ?_
    refine lv_if_gt (tgt := 77) hx hb dX4_meanPrice_63 (by decide) (fun c_3 => ?_) (fun c_3 => ?_)
    · skip
      refine lv_iload_n hx hb dX4_meanPrice_77 rfl (lv_at hl 2 rfl) ?_
      refine lv_i2d hx hb dX4_meanPrice_78 ?_
      refine lv_iload_n hx hb dX4_meanPrice_79 rfl (lv_at hl 3 rfl) ?_
      refine lv_i2d hx hb dX4_meanPrice_80 ?_
      refine lv_ddiv hx hb dX4_meanPrice_81 (fl_mean _ _ (fun h9 => by have h8 := c_3; rw [h9] at h8; exact absurd h8 (by decide))) ?_
      refine vx_ret ?_
      refine W.widen (k := 1) (n := 6) (Nat.le_of_ble_eq_true rfl) (Nat.le_of_ble_eq_true rfl) ?_
      have eS : S_meanPrice M = (0, M, (FP.ddiv (FP.i2d sp) (FP.i2d sh))) := (by rw [S_meanPrice, if_pos (by rw [← hsh]; exact c_3), hsp, hsh])
      exact W.dret (v := (FP.ddiv (FP.i2d sp) (FP.i2d sh))) hx hb hr (fun t9 h9 w9 => ⟨⟨(FP.ddiv (FP.i2d sp) (FP.i2d sh)), (), rfl, (by rw [eS]; exact ⟨rfl, rfl⟩), trivial⟩, hE.F h9⟩) hS.2.2 dX4_meanPrice_82
    · skip
      exact tk_thW hst hx hb hown (by decide) (hts (.classLink RX4 295 "java/lang/ArithmeticException") (by decide +kernel)) (hts (.initialized "java/lang/ArithmeticException") (by decide +kernel)) (text := "no entry is billed") (by decide) (by decide) (fun w hw => hts w (List.mem_cons_of_mem _ (List.mem_append_right _ hw))) ng_299 ot_299 hF hO hS hE (hl.1.trans hml.symm) hno hlocks dX4_meanPrice_66 dX4_meanPrice_69 dX4_meanPrice_70 dX4_meanPrice_73 dX4_meanPrice_76 (Nat.le_of_ble_eq_true rfl) (Nat.le_of_ble_eq_true rfl) ⟨Nat.le_of_ble_eq_true rfl, Nat.le_of_ble_eq_true rfl⟩ ⟨Nat.le_of_ble_eq_true rfl, Nat.le_of_ble_eq_true rfl⟩ (xl (k := 1) (by rw [S_meanPrice, if_neg (by rw [← hsh]; exact c_3)]) (by decide +kernel))
  · have hlt := tk_lt (by omega) (by omega) c_2
    refine lv_aload_n hx hb dX4_meanPrice_17 rfl (lv_at hl 0 rfl) ?_
    refine tk_get hx hb hts inX4 hown hK hM hP.h rfl 1 (by decide) (hts (.fieldLink RX4 16 "TicketForge" "entryList" "Ljava/util/ArrayList;") (by decide +kernel)) (fun _ h9 => h9) rfl dX4_meanPrice_18 ?_
    refine lv_iload_n hx hb dX4_meanPrice_21 rfl (lv_at hl 1 rfl) ?_
    have hg_5 : i < nE M := by omega
    refine tk_cVq (As := [.int (nI i)]) S0 (c_Jx4a65c_get_915e3 l A D ac dE _ hP.le i hg_5 (by omega)) (cwV 1 hts gX4_meanPrice_Jx4a65c_get_915e3 rfl rfl rfl (by decide +kernel) ⟨Nat.le_of_ble_eq_true rfl, Nat.le_of_ble_eq_true rfl⟩) (tkX.blind) (tkX.at hM hK hA hF hO hS) (LX.rec hP.le hK hM) rfl hl.1 rfl (Nat.le_of_ble_eq_true rfl) dX4_meanPrice_22 ⟨Nat.le_of_ble_eq_true rfl, Nat.le_of_ble_eq_true rfl⟩ (fun r_4 hr_4 => ?_)
    subst hr_4
    refine va_castY (C := "TicketForge$Entry") hx hb hown (hts (.classLink RX4 178 "TicketForge$Entry") (by decide +kernel)) (hF.2.2.2 ("TicketForge$Entry", "TicketForge$Entry") (by decide +kernel)) (tk_recv hK hM (hP.e hg_5) rfl (ci := 3) (q := (RX0, TX0, 7))) dX4_meanPrice_25 ?_
    refine lv_astore (lv' := [(4, .ref (α 2 i)), (0, .ref h0), (3, .int (nI i)), (1, .int sp), (2, .int sh)]) hx hb dX4_meanPrice_28 hl (by decide) rfl (fun ls hl => ?_)
    refine lv_aload hx hb dX4_meanPrice_30 (lv_at hl 0 rfl) ?_
    refine tk_get hx hb hts inX0 hown hK hM (hP.e hg_5) rfl 4 (by decide) (hts (.fieldLink RX4 187 "TicketForge$Entry" "state" "C") (by decide +kernel)) (fun _ h9 => h9) rfl dX4_meanPrice_32 ?_
    refine lv_bipush (v := 98) hx hb dX4_meanPrice_35 (by decide) ?_
    refine lv_icmp_ne (tgt := 56) hx hb dX4_meanPrice_37 (by decide) (fun c_6 => ?_) (fun c_6 => ?_)
    · skip
      refine lv_iinc (v := (nI (i + 1))) (lv' := [(3, .int (nI (i + 1))), (4, .ref (α 2 i)), (0, .ref h0), (1, .int sp), (2, .int sh)]) hx hb dX4_meanPrice_56 hl (k := 2) rfl (nI_1 i) (by decide) rfl (fun ls hl => ?_)
      refine lv_goto (tgt := 6) hx hb dX4_meanPrice_59 (by decide) ?_
      exact ih _ _ ls (by omega) ⟨(lv_sub hl [2, 0, 3, 4] rfl), ⟨sumI_f hinv.1 (if_neg c_6), sumI_f hinv.2 (if_neg c_6)⟩⟩
    · skip
      refine lv_iload_n hx hb dX4_meanPrice_40 rfl (lv_at hl 3 rfl) ?_
      refine lv_aload hx hb dX4_meanPrice_41 (lv_at hl 0 rfl) ?_
      refine tk_get hx hb hts inX0 hown hK hM (hP.e hg_5) rfl 5 (by decide) (hts (.fieldLink RX4 207 "TicketForge$Entry" "price" "I") (by decide +kernel)) (fun _ h9 => h9) rfl dX4_meanPrice_43 ?_
      refine lv_iadd hx hb dX4_meanPrice_46 ?_
      refine lv_istore_n (lv' := [(1, .int (sp + (M 13 i))), (4, .ref (α 2 i)), (0, .ref h0), (3, .int (nI i)), (2, .int sh)]) hx hb dX4_meanPrice_47 rfl hl (by decide) rfl (fun ls hl => ?_)
      refine lv_iload_n hx hb dX4_meanPrice_48 rfl (lv_at hl 4 rfl) ?_
      refine lv_aload hx hb dX4_meanPrice_49 (lv_at hl 1 rfl) ?_
      refine tk_get hx hb hts inX0 hown hK hM (hP.e hg_5) rfl 3 (by decide) (hts (.fieldLink RX4 300 "TicketForge$Entry" "hours" "I") (by decide +kernel)) (fun _ h9 => h9) rfl dX4_meanPrice_51 ?_
      refine lv_iadd hx hb dX4_meanPrice_54 ?_
      refine lv_istore_n (lv' := [(2, .int (sh + (M 12 i))), (1, .int (sp + (M 13 i))), (4, .ref (α 2 i)), (0, .ref h0), (3, .int (nI i))]) hx hb dX4_meanPrice_55 rfl hl (by decide) rfl (fun ls hl => ?_)
      refine lv_iinc (v := (nI (i + 1))) (lv' := [(3, .int (nI (i + 1))), (2, .int (sh + (M 12 i))), (1, .int (sp + (M 13 i))), (4, .ref (α 2 i)), (0, .ref h0)]) hx hb dX4_meanPrice_56 hl (k := 4) rfl (nI_1 i) (by decide) rfl (fun ls hl => ?_)
      refine lv_goto (tgt := 6) hx hb dX4_meanPrice_59 (by decide) ?_
      exact ih _ _ ls (by omega) ⟨(lv_sub hl [4, 0, 2, 1] rfl), ⟨sumI_t hinv.1 (if_pos c_6), sumI_t hinv.2 (if_pos c_6)⟩⟩
set_option maxHeartbeats 4000000 in
set_option maxRecDepth 100000 in
theorem c_X4_tasks (l : Launch) (A : Nat → Prop) (D : va_G) (ac : Nat → ClassId) (dE : Nat) (G : TG) {h0 : Nat} {α : Nat → Nat → Nat} {M : TS} {nv : Nat} (hP : PX ac dE h0 α M (nV M) G) : Met l yX4_tasks wsX4_tasks ({ frames := 2, cells := 0, slots := 0, locals := 140 } : Room) (va_Pc [.ref h0] (tkX A D ac dE G)) (vp_Si (fun z => z = nI (nT M))) 0 0 (fun _ => False) := by
  refine Met.ofW (cc := cX4_tasks) (maxL := 1) (ret := (some .int)) (by decide) rfl ?_
  intro p e s m args below meth c s₁ B hml hv
  obtain ⟨rfl, ⟨hM, hK, hA, hF⟩, hO⟩ := hv
  have hS : va_S A s.heap s.heap [] := va_S.rf
  have hx := B.exec
  have hb := B.bytes
  have hr := B.returns
  have hts := atoms_spec (ws := wsX4_tasks) B.pre
  have hown : s.vm.findClass RX4 = some m.cls := findClass_of_methodNamed B.named
  have hlocks := B.notSynchronized
  have S0 : CallFix p m c cX4_tasks 1 s ([.ref h0] : List Value).toArray wsX4_tasks RX4 := ⟨hx, hb, hml, hown, hts⟩
  have inX4 : ∀ w ∈ wsX40, w ∈ wsX4_tasks := by decide +kernel
  have hl := lv_entry ([.ref h0]) (n := 1) (Nat.le_of_ble_eq_true rfl)
  rw [lg_entry_eq]
  generalize (lg_sl ([.ref h0]) ++ List.replicate (1 - (lg_sl ([.ref h0])).length) Slot.unset).toArray = ls at hl ⊢
  have hl : lv_has ls 1 [(0, .ref h0)] := hl
  refine lv_aload_n hx hb dX4_tasks_0 rfl (lv_at hl 0 rfl) ?_
  refine tk_get hx hb hts inX4 hown hK hM hP.h rfl 0 (by decide) (hts (.fieldLink RX4 12 "TicketForge" "taskList" "Ljava/util/ArrayList;") (by decide +kernel)) (fun _ h9 => h9) rfl dX4_tasks_1 ?_
  refine tk_cVi (As := []) S0 (c_Jx4a65c_size_8abf5 l A D ac dE _ hP.lt) (cwV 0 hts gX4_tasks_Jx4a65c_size_8abf5 rfl rfl rfl (by decide +kernel) ⟨Nat.le_of_ble_eq_true rfl, Nat.le_of_ble_eq_true rfl⟩) (tkX.blind) (tkX.at hM hK hA hF hO hS) (LX.rec hP.lt hK hM) rfl hl.1 rfl (Nat.le_of_ble_eq_true rfl) dX4_tasks_4 ⟨Nat.zero_le _, Nat.zero_le _⟩ (fun r_1 hr_1 => ?_)
  subst hr_1
  exact W.iret (v := (nI (nT M))) hx hb hr (fun t9 h9 w9 => ⟨(nI (nT M)), rfl, rfl, h9⟩) (fun q hq => absurd hq List.not_mem_nil) dX4_tasks_7
set_option maxHeartbeats 4000000 in
set_option maxRecDepth 100000 in
theorem c_X4_entries (l : Launch) (A : Nat → Prop) (D : va_G) (ac : Nat → ClassId) (dE : Nat) (G : TG) {h0 : Nat} {α : Nat → Nat → Nat} {M : TS} {nv : Nat} (hP : PX ac dE h0 α M (nV M) G) : Met l yX4_entries wsX4_entries ({ frames := 2, cells := 0, slots := 0, locals := 140 } : Room) (va_Pc [.ref h0] (tkX A D ac dE G)) (vp_Si (fun z => z = nI (nE M))) 0 0 (fun _ => False) := by
  refine Met.ofW (cc := cX4_entries) (maxL := 1) (ret := (some .int)) (by decide) rfl ?_
  intro p e s m args below meth c s₁ B hml hv
  obtain ⟨rfl, ⟨hM, hK, hA, hF⟩, hO⟩ := hv
  have hS : va_S A s.heap s.heap [] := va_S.rf
  have hx := B.exec
  have hb := B.bytes
  have hr := B.returns
  have hts := atoms_spec (ws := wsX4_entries) B.pre
  have hown : s.vm.findClass RX4 = some m.cls := findClass_of_methodNamed B.named
  have hlocks := B.notSynchronized
  have S0 : CallFix p m c cX4_entries 1 s ([.ref h0] : List Value).toArray wsX4_entries RX4 := ⟨hx, hb, hml, hown, hts⟩
  have inX4 : ∀ w ∈ wsX40, w ∈ wsX4_entries := by decide +kernel
  have hl := lv_entry ([.ref h0]) (n := 1) (Nat.le_of_ble_eq_true rfl)
  rw [lg_entry_eq]
  generalize (lg_sl ([.ref h0]) ++ List.replicate (1 - (lg_sl ([.ref h0])).length) Slot.unset).toArray = ls at hl ⊢
  have hl : lv_has ls 1 [(0, .ref h0)] := hl
  refine lv_aload_n hx hb dX4_entries_0 rfl (lv_at hl 0 rfl) ?_
  refine tk_get hx hb hts inX4 hown hK hM hP.h rfl 1 (by decide) (hts (.fieldLink RX4 16 "TicketForge" "entryList" "Ljava/util/ArrayList;") (by decide +kernel)) (fun _ h9 => h9) rfl dX4_entries_1 ?_
  refine tk_cVi (As := []) S0 (c_Jx4a65c_size_8abf5 l A D ac dE _ hP.le) (cwV 0 hts gX4_entries_Jx4a65c_size_8abf5 rfl rfl rfl (by decide +kernel) ⟨Nat.le_of_ble_eq_true rfl, Nat.le_of_ble_eq_true rfl⟩) (tkX.blind) (tkX.at hM hK hA hF hO hS) (LX.rec hP.le hK hM) rfl hl.1 rfl (Nat.le_of_ble_eq_true rfl) dX4_entries_4 ⟨Nat.zero_le _, Nat.zero_le _⟩ (fun r_1 hr_1 => ?_)
  subst hr_1
  exact W.iret (v := (nI (nE M))) hx hb hr (fun t9 h9 w9 => ⟨(nI (nE M)), rfl, rfl, h9⟩) (fun q hq => absurd hq List.not_mem_nil) dX4_entries_7
set_option maxHeartbeats 4000000 in
set_option maxRecDepth 100000 in
theorem c_X4_invoices (l : Launch) (A : Nat → Prop) (D : va_G) (ac : Nat → ClassId) (dE : Nat) (G : TG) {h0 : Nat} {α : Nat → Nat → Nat} {M : TS} {nv : Nat} (hP : PX ac dE h0 α M (nV M) G) : Met l yX4_invoices wsX4_invoices ({ frames := 2, cells := 0, slots := 0, locals := 140 } : Room) (va_Pc [.ref h0] (tkX A D ac dE G)) (vp_Si (fun z => z = nI (nV M))) 0 0 (fun _ => False) := by
  refine Met.ofW (cc := cX4_invoices) (maxL := 1) (ret := (some .int)) (by decide) rfl ?_
  intro p e s m args below meth c s₁ B hml hv
  obtain ⟨rfl, ⟨hM, hK, hA, hF⟩, hO⟩ := hv
  have hS : va_S A s.heap s.heap [] := va_S.rf
  have hx := B.exec
  have hb := B.bytes
  have hr := B.returns
  have hts := atoms_spec (ws := wsX4_invoices) B.pre
  have hown : s.vm.findClass RX4 = some m.cls := findClass_of_methodNamed B.named
  have hlocks := B.notSynchronized
  have S0 : CallFix p m c cX4_invoices 1 s ([.ref h0] : List Value).toArray wsX4_invoices RX4 := ⟨hx, hb, hml, hown, hts⟩
  have inX4 : ∀ w ∈ wsX40, w ∈ wsX4_invoices := by decide +kernel
  have hl := lv_entry ([.ref h0]) (n := 1) (Nat.le_of_ble_eq_true rfl)
  rw [lg_entry_eq]
  generalize (lg_sl ([.ref h0]) ++ List.replicate (1 - (lg_sl ([.ref h0])).length) Slot.unset).toArray = ls at hl ⊢
  have hl : lv_has ls 1 [(0, .ref h0)] := hl
  refine lv_aload_n hx hb dX4_invoices_0 rfl (lv_at hl 0 rfl) ?_
  refine tk_get hx hb hts inX4 hown hK hM hP.h rfl 2 (by decide) (hts (.fieldLink RX4 19 "TicketForge" "invoiceList" "Ljava/util/ArrayList;") (by decide +kernel)) (fun _ h9 => h9) rfl dX4_invoices_1 ?_
  refine tk_cVi (As := []) S0 (c_Jx4a65c_size_8abf5 l A D ac dE _ hP.lv) (cwV 0 hts gX4_invoices_Jx4a65c_size_8abf5 rfl rfl rfl (by decide +kernel) ⟨Nat.le_of_ble_eq_true rfl, Nat.le_of_ble_eq_true rfl⟩) (tkX.blind) (tkX.at hM hK hA hF hO hS) (LX.rec hP.lv hK hM) rfl hl.1 rfl (Nat.le_of_ble_eq_true rfl) dX4_invoices_4 ⟨Nat.zero_le _, Nat.zero_le _⟩ (fun r_1 hr_1 => ?_)
  subst hr_1
  exact W.iret (v := (nI (nV M))) hx hb hr (fun t9 h9 w9 => ⟨(nI (nV M)), rfl, rfl, h9⟩) (fun q hq => absurd hq List.not_mem_nil) dX4_invoices_7
set_option maxHeartbeats 4000000 in
set_option maxRecDepth 100000 in
theorem c_X4_due (l : Launch) (A : Nat → Prop) (D : va_G) (ac : Nat → ClassId) (dE : Nat) (G : TG) {h0 : Nat} {α : Nat → Nat → Nat} {M : TS} {nv : Nat} (hP : PX ac dE h0 α M (nV M) G) (hW : W0 M) : Met l yX4_due wsX4_due ({ frames := 3, cells := 0, slots := 0, locals := 180 } : Room) (va_Pc [.ref h0] (tkX A D ac dE G)) (vp_Sl (fun z => z = dueS M (nV M))) 0 0 (fun _ => False) := by
  refine Met.ofW (cc := cX4_due) (maxL := 5) (ret := (some .long)) (by decide) rfl ?_
  intro p e s m args below meth c s₁ B hml hv
  obtain ⟨rfl, ⟨hM, hK, hA, hF⟩, hO⟩ := hv
  have hS : va_S A s.heap s.heap [] := va_S.rf
  have hx := B.exec
  have hb := B.bytes
  have hr := B.returns
  have hts := atoms_spec (ws := wsX4_due) B.pre
  have hown : s.vm.findClass RX4 = some m.cls := findClass_of_methodNamed B.named
  have hlocks := B.notSynchronized
  have S0 : CallFix p m c cX4_due 5 s ([.ref h0] : List Value).toArray wsX4_due RX4 := ⟨hx, hb, hml, hown, hts⟩
  have inX4 : ∀ w ∈ wsX40, w ∈ wsX4_due := by decide +kernel
  have inX1 : ∀ w ∈ wsX10, w ∈ wsX4_due := by decide +kernel
  have hl := lv_entry ([.ref h0]) (n := 5) (Nat.le_of_ble_eq_true rfl)
  rw [lg_entry_eq]
  generalize (lg_sl ([.ref h0]) ++ List.replicate (5 - (lg_sl ([.ref h0])).length) Slot.unset).toArray = ls at hl ⊢
  have hl : lv_has ls 5 [(0, .ref h0)] := hl
  have bT := hW.t.2
  have bE := hW.e.2
  have bV := hW.v.2
  have hnv : nV M ≤ nV M := Nat.le_refl _
  refine lv_lconst (v := 0) hx hb dX4_due_0 (by decide) ?_
  refine lv_lstore_n (lv' := [(1, .long 0), (0, .ref h0)]) hx hb dX4_due_1 rfl hl (by decide) rfl (fun ls hl => ?_)
  refine lv_iconst (v := 0) hx hb dX4_due_2 (by decide) ?_
  refine lv_istore_n (lv' := [(3, .int 0), (1, .long 0), (0, .ref h0)]) hx hb dX4_due_3 rfl hl (by decide) rfl (fun ls hl => ?_)
  refine tk_f1 (Wf := W p l e _ s m _ below meth c _ _ _ _ _) (nV M) (fun i acc ls => lv_has ls 5 [(0, .ref h0), (3, .int (nI i)), (1, .long acc)] ∧ acc = dueS M i) (fun i acc ls hi hinv ih => ?_) _ ls ⟨(lv_sub hl [2, 0, 1] rfl), rfl⟩
  obtain ⟨hl, hinv⟩ := hinv
  refine lv_iload_n hx hb dX4_due_4 rfl (lv_at hl 1 rfl) ?_
  refine lv_aload_n hx hb dX4_due_5 rfl (lv_at hl 0 rfl) ?_
  refine tk_get hx hb hts inX4 hown hK hM hP.h rfl 2 (by decide) (hts (.fieldLink RX4 19 "TicketForge" "invoiceList" "Ljava/util/ArrayList;") (by decide +kernel)) (fun _ h9 => h9) rfl dX4_due_6 ?_
  refine tk_cVi (As := []) S0 (c_Jx4a65c_size_8abf5 l A D ac dE _ hP.lv) (cwV 0 hts gX4_due_Jx4a65c_size_8abf5 rfl rfl rfl (by decide +kernel) ⟨Nat.le_of_ble_eq_true rfl, Nat.le_of_ble_eq_true rfl⟩) (tkX.blind) (tkX.at hM hK hA hF hO hS) (LX.rec hP.lv hK hM) rfl hl.1 rfl (Nat.le_of_ble_eq_true rfl) dX4_due_9 ⟨Nat.zero_le _, Nat.zero_le _⟩ (fun r_1 hr_1 => ?_)
  subst hr_1
  refine lv_icmp_ge (tgt := 49) hx hb dX4_due_12 (by decide) (fun c_2 => ?_) (fun c_2 => ?_)
  · have hge := tk_ge (by omega) (by omega) c_2
    refine lv_lload_n hx hb dX4_due_49 rfl (lv_at hl 2 rfl) ?_
    exact W.lret (v := acc) hx hb hr (fun t9 h9 w9 => ⟨acc, rfl, (by rw [hinv, Nat.le_antisymm hi hge]), h9⟩) (fun q hq => absurd hq List.not_mem_nil) dX4_due_50
  · have hlt := tk_lt (by omega) (by omega) c_2
    refine lv_aload_n hx hb dX4_due_15 rfl (lv_at hl 0 rfl) ?_
    refine tk_get hx hb hts inX4 hown hK hM hP.h rfl 2 (by decide) (hts (.fieldLink RX4 19 "TicketForge" "invoiceList" "Ljava/util/ArrayList;") (by decide +kernel)) (fun _ h9 => h9) rfl dX4_due_16 ?_
    refine lv_iload_n hx hb dX4_due_19 rfl (lv_at hl 1 rfl) ?_
    have hg_4 : i < nV M := by omega
    refine tk_cVq (As := [.int (nI i)]) S0 (c_Jx4a65c_get_915e3 l A D ac dE _ hP.lv i hg_4 (by omega)) (cwV 1 hts gX4_due_Jx4a65c_get_915e3 rfl rfl rfl (by decide +kernel) ⟨Nat.le_of_ble_eq_true rfl, Nat.le_of_ble_eq_true rfl⟩) (tkX.blind) (tkX.at hM hK hA hF hO hS) (LX.rec hP.lv hK hM) rfl hl.1 rfl (Nat.le_of_ble_eq_true rfl) dX4_due_20 ⟨Nat.zero_le _, Nat.zero_le _⟩ (fun r_3 hr_3 => ?_)
    subst hr_3
    refine va_castY (C := "TicketForge$Invoice") hx hb hown (hts (.classLink RX4 252 "TicketForge$Invoice") (by decide +kernel)) (hF.2.2.2 ("TicketForge$Invoice", "TicketForge$Invoice") (by decide +kernel)) (tk_recv hK hM (hP.v (Nat.lt_of_lt_of_le hg_4 hnv)) rfl (ci := 4) (q := (RX1, TX1, 4))) dX4_due_23 ?_
    refine lv_astore (lv' := [(4, .ref (α 3 i)), (0, .ref h0), (3, .int (nI i)), (1, .long acc)]) hx hb dX4_due_26 hl (by decide) rfl (fun ls hl => ?_)
    refine lv_lload_n hx hb dX4_due_28 rfl (lv_at hl 3 rfl) ?_
    refine lv_aload hx hb dX4_due_29 (lv_at hl 0 rfl) ?_
    refine tk_get hx hb hts inX1 hown hK hM (hP.v (Nat.lt_of_lt_of_le hg_4 hnv)) rfl 2 (by decide) (hts (.fieldLink RX4 269 "TicketForge$Invoice" "total" "I") (by decide +kernel)) (fun _ h9 => h9) rfl dX4_due_31 ?_
    refine lv_aload hx hb dX4_due_34 (lv_at hl 0 rfl) ?_
    refine tk_get hx hb hts inX1 hown hK hM (hP.v (Nat.lt_of_lt_of_le hg_4 hnv)) rfl 3 (by decide) (hts (.fieldLink RX4 281 "TicketForge$Invoice" "credited" "I") (by decide +kernel)) (fun _ h9 => h9) rfl dX4_due_36 ?_
    refine lv_isub hx hb dX4_due_39 ?_
    refine lv_i2l hx hb dX4_due_40 rfl ?_
    refine lv_ladd hx hb dX4_due_41 ?_
    refine lv_lstore_n (lv' := [(1, .long (acc + (((M 16 i) - (M 17 i))).toInt64)), (4, .ref (α 3 i)), (0, .ref h0), (3, .int (nI i))]) hx hb dX4_due_42 rfl hl (by decide) rfl (fun ls hl => ?_)
    refine lv_iinc (v := (nI (i + 1))) (lv' := [(3, .int (nI (i + 1))), (1, .long (acc + (((M 16 i) - (M 17 i))).toInt64)), (4, .ref (α 3 i)), (0, .ref h0)]) hx hb dX4_due_43 hl (k := 3) rfl (nI_1 i) (by decide) rfl (fun ls hl => ?_)
    refine lv_goto (tgt := 4) hx hb dX4_due_46 (by decide) ?_
    exact ih _ ls (by omega) ⟨(lv_sub hl [3, 0, 1] rfl), (by rw [hinv]; rfl)⟩
set_option maxHeartbeats 4000000 in
set_option maxRecDepth 100000 in
theorem c_X4_isSettled (l : Launch) (A : Nat → Prop) (D : va_G) (ac : Nat → ClassId) (dE : Nat) (G : TG) {h0 : Nat} {α : Nat → Nat → Nat} {M : TS} {nv : Nat} (hP : PX ac dE h0 α M (nV M) G) (hW : W0 M) (hB : WB M (nV M)) : Met l yX4_isSettled wsX4_isSettled ({ frames := 6, cells := 0, slots := 0, locals := 300 } : Room) (va_Pc [.ref h0] (tkX A D ac dE G)) (vp_Si (fun z => tkB z (K_isSettled M))) 0 0 (fun _ => False) := by
  refine Met.ofW (cc := cX4_isSettled) (maxL := 3) (ret := (some .boolean)) (by decide) rfl ?_
  intro p e s m args below meth c s₁ B hml hv
  obtain ⟨rfl, ⟨hM, hK, hA, hF⟩, hO⟩ := hv
  have hS : va_S A s.heap s.heap [] := va_S.rf
  have hx := B.exec
  have hb := B.bytes
  have hr := B.returns
  have hts := atoms_spec (ws := wsX4_isSettled) B.pre
  have hown : s.vm.findClass RX4 = some m.cls := findClass_of_methodNamed B.named
  have hlocks := B.notSynchronized
  have S0 : CallFix p m c cX4_isSettled 3 s ([.ref h0] : List Value).toArray wsX4_isSettled RX4 := ⟨hx, hb, hml, hown, hts⟩
  have inX4 : ∀ w ∈ wsX40, w ∈ wsX4_isSettled := by decide +kernel
  have inX1 : ∀ w ∈ wsX10, w ∈ wsX4_isSettled := by decide +kernel
  have hl := lv_entry ([.ref h0]) (n := 3) (Nat.le_of_ble_eq_true rfl)
  rw [lg_entry_eq]
  generalize (lg_sl ([.ref h0]) ++ List.replicate (3 - (lg_sl ([.ref h0])).length) Slot.unset).toArray = ls at hl ⊢
  have hl : lv_has ls 3 [(0, .ref h0)] := hl
  have bT := hW.t.2
  have bE := hW.e.2
  have bV := hW.v.2
  have hnv : nV M ≤ nV M := Nat.le_refl _
  refine lv_iconst (v := 0) hx hb dX4_isSettled_0 (by decide) ?_
  refine lv_istore_n (lv' := [(1, .int 0), (0, .ref h0)]) hx hb dX4_isSettled_1 rfl hl (by decide) rfl (fun ls hl => ?_)
  refine tk_f0 (Wf := W p l e _ s m _ below meth c _ _ _ _ _) (nV M) (fun i ls => lv_has ls 3 [(0, .ref h0), (1, .int (nI i))] ∧ allB (fun v => decide (M 16 v = recT M v (nE M)) && decide (M 17 v = crP M v (nE M))) i = true) (fun i ls hi hinv ih => ?_)  ls ⟨(lv_sub hl [1, 0] rfl), rfl⟩
  obtain ⟨hl, hinv⟩ := hinv
  refine lv_iload_n hx hb dX4_isSettled_2 rfl (lv_at hl 1 rfl) ?_
  refine lv_aload_n hx hb dX4_isSettled_3 rfl (lv_at hl 0 rfl) ?_
  refine tk_get hx hb hts inX4 hown hK hM hP.h rfl 2 (by decide) (hts (.fieldLink RX4 19 "TicketForge" "invoiceList" "Ljava/util/ArrayList;") (by decide +kernel)) (fun _ h9 => h9) rfl dX4_isSettled_4 ?_
  refine tk_cVi (As := []) S0 (c_Jx4a65c_size_8abf5 l A D ac dE _ hP.lv) (cwV 0 hts gX4_isSettled_Jx4a65c_size_8abf5 rfl rfl rfl (by decide +kernel) ⟨Nat.le_of_ble_eq_true rfl, Nat.le_of_ble_eq_true rfl⟩) (tkX.blind) (tkX.at hM hK hA hF hO hS) (LX.rec hP.lv hK hM) rfl hl.1 rfl (Nat.le_of_ble_eq_true rfl) dX4_isSettled_7 ⟨Nat.zero_le _, Nat.zero_le _⟩ (fun r_1 hr_1 => ?_)
  subst hr_1
  refine lv_icmp_ge (tgt := 57) hx hb dX4_isSettled_10 (by decide) (fun c_2 => ?_) (fun c_2 => ?_)
  · have hge := tk_ge (by omega) (by omega) c_2
    refine lv_aload_n hx hb dX4_isSettled_57 rfl (lv_at hl 0 rfl) ?_
    refine lv_aload_n hx hb dX4_isSettled_58 rfl (lv_at hl 0 rfl) ?_
    refine tk_get hx hb hts inX4 hown hK hM hP.h rfl 4 (by decide) (hts (.fieldLink RX4 37 "TicketForge" "greatestCap" "I") (by decide +kernel)) (fun _ h9 => h9) rfl dX4_isSettled_59 ?_
    refine tk_cVi (As := [.int (M 0 26)]) S0 (c_X4_areChargedHoursWithin l A D ac dE _ hP hW hB (M 0 26)) (cwV 1 hts gX4_isSettled_X4_areChargedHoursWithin rfl rfl rfl (by decide +kernel) ⟨Nat.le_of_ble_eq_true rfl, Nat.le_of_ble_eq_true rfl⟩) (tkX.blind) (tkX.at hM hK hA hF hO hS) (tk_recv hK hM hP.h rfl) rfl hl.1 rfl (Nat.le_of_ble_eq_true rfl) dX4_isSettled_62 ⟨Nat.zero_le _, Nat.zero_le _⟩ (fun r_3 hr_3 => ?_)
    rcases hr_3 with ⟨rfl, hr_3⟩ | ⟨rfl, hr_3⟩
    · skip
      exact W.zret (v := 1) hx hb hr rfl (fun t9 h9 w9 => ⟨1, rfl, (tkB_1 (by rw [K_isSettled, allB_e hinv hi hge, hr_3]; rfl)), h9⟩) (fun q hq => absurd hq List.not_mem_nil) dX4_isSettled_65
    · skip
      exact W.zret (v := 0) hx hb hr rfl (fun t9 h9 w9 => ⟨0, rfl, (tkB_0 (by rw [K_isSettled, allB_e hinv hi hge, hr_3]; rfl)), h9⟩) (fun q hq => absurd hq List.not_mem_nil) dX4_isSettled_65
  · have hlt := tk_lt (by omega) (by omega) c_2
    refine lv_aload_n hx hb dX4_isSettled_13 rfl (lv_at hl 0 rfl) ?_
    refine tk_get hx hb hts inX4 hown hK hM hP.h rfl 2 (by decide) (hts (.fieldLink RX4 19 "TicketForge" "invoiceList" "Ljava/util/ArrayList;") (by decide +kernel)) (fun _ h9 => h9) rfl dX4_isSettled_14 ?_
    refine lv_iload_n hx hb dX4_isSettled_17 rfl (lv_at hl 1 rfl) ?_
    have hg_5 : i < nV M := by omega
    refine tk_cVq (As := [.int (nI i)]) S0 (c_Jx4a65c_get_915e3 l A D ac dE _ hP.lv i hg_5 (by omega)) (cwV 1 hts gX4_isSettled_Jx4a65c_get_915e3 rfl rfl rfl (by decide +kernel) ⟨Nat.le_of_ble_eq_true rfl, Nat.le_of_ble_eq_true rfl⟩) (tkX.blind) (tkX.at hM hK hA hF hO hS) (LX.rec hP.lv hK hM) rfl hl.1 rfl (Nat.le_of_ble_eq_true rfl) dX4_isSettled_18 ⟨Nat.zero_le _, Nat.zero_le _⟩ (fun r_4 hr_4 => ?_)
    subst hr_4
    refine va_castY (C := "TicketForge$Invoice") hx hb hown (hts (.classLink RX4 252 "TicketForge$Invoice") (by decide +kernel)) (hF.2.2.2 ("TicketForge$Invoice", "TicketForge$Invoice") (by decide +kernel)) (tk_recv hK hM (hP.v (Nat.lt_of_lt_of_le hg_5 hnv)) rfl (ci := 4) (q := (RX1, TX1, 4))) dX4_isSettled_21 ?_
    refine lv_astore_n (lv' := [(2, .ref (α 3 i)), (0, .ref h0), (1, .int (nI i))]) hx hb dX4_isSettled_24 rfl hl (by decide) rfl (fun ls hl => ?_)
    refine lv_aload_n hx hb dX4_isSettled_25 rfl (lv_at hl 0 rfl) ?_
    refine tk_get hx hb hts inX1 hown hK hM (hP.v (Nat.lt_of_lt_of_le hg_5 hnv)) rfl 2 (by decide) (hts (.fieldLink RX4 269 "TicketForge$Invoice" "total" "I") (by decide +kernel)) (fun _ h9 => h9) rfl dX4_isSettled_26 ?_
    refine lv_aload_n hx hb dX4_isSettled_29 rfl (lv_at hl 1 rfl) ?_
    refine lv_aload_n hx hb dX4_isSettled_30 rfl (lv_at hl 0 rfl) ?_
    refine tk_cVi (As := [.ref (α 3 i)]) S0 (c_X4_recomputeTotal l A D ac dE _ hP hW hB i (Nat.lt_of_lt_of_le hg_5 hnv)) (cwV 1 hts gX4_isSettled_X4_recomputeTotal rfl rfl rfl (by decide +kernel) ⟨Nat.le_of_ble_eq_true rfl, Nat.le_of_ble_eq_true rfl⟩) (tkX.blind) (tkX.at hM hK hA hF hO hS) (tk_recv hK hM hP.h rfl) rfl hl.1 rfl (Nat.le_of_ble_eq_true rfl) dX4_isSettled_31 ⟨Nat.zero_le _, Nat.zero_le _⟩ (fun r_6 hr_6 => ?_)
    subst hr_6
    refine lv_icmp_ne (tgt := 49) hx hb dX4_isSettled_34 (by decide) (fun c_7 => ?_) (fun c_7 => ?_)
    · skip
      refine lv_iconst (v := 0) hx hb dX4_isSettled_49 (by decide) ?_
      exact W.zret (v := 0) hx hb hr rfl (fun t9 h9 w9 => ⟨0, rfl, (tkB_0 (by rw [K_isSettled, allB_f (i := i) (by simp [c_7]) hlt]; rfl)), h9⟩) (fun q hq => absurd hq List.not_mem_nil) dX4_isSettled_50
    · skip
      refine lv_aload_n hx hb dX4_isSettled_37 rfl (lv_at hl 0 rfl) ?_
      refine tk_get hx hb hts inX1 hown hK hM (hP.v (Nat.lt_of_lt_of_le hg_5 hnv)) rfl 3 (by decide) (hts (.fieldLink RX4 281 "TicketForge$Invoice" "credited" "I") (by decide +kernel)) (fun _ h9 => h9) rfl dX4_isSettled_38 ?_
      refine lv_aload_n hx hb dX4_isSettled_41 rfl (lv_at hl 1 rfl) ?_
      refine lv_aload_n hx hb dX4_isSettled_42 rfl (lv_at hl 0 rfl) ?_
      refine tk_cVi (As := [.ref (α 3 i)]) S0 (c_X4_creditedPrices l A D ac dE _ hP hW hB i (Nat.lt_of_lt_of_le hg_5 hnv)) (cwV 1 hts gX4_isSettled_X4_creditedPrices rfl rfl rfl (by decide +kernel) ⟨Nat.le_of_ble_eq_true rfl, Nat.le_of_ble_eq_true rfl⟩) (tkX.blind) (tkX.at hM hK hA hF hO hS) (tk_recv hK hM hP.h rfl) rfl hl.1 rfl (Nat.le_of_ble_eq_true rfl) dX4_isSettled_43 ⟨Nat.zero_le _, Nat.zero_le _⟩ (fun r_8 hr_8 => ?_)
      subst hr_8
      refine lv_icmp_eq (tgt := 51) hx hb dX4_isSettled_46 (by decide) (fun c_9 => ?_) (fun c_9 => ?_)
      · skip
        refine lv_iinc (v := (nI (i + 1))) (lv' := [(1, .int (nI (i + 1))), (2, .ref (α 3 i)), (0, .ref h0)]) hx hb dX4_isSettled_51 hl (k := 2) rfl (nI_1 i) (by decide) rfl (fun ls hl => ?_)
        refine lv_goto (tgt := 2) hx hb dX4_isSettled_54 (by decide) ?_
        exact ih  ls (by omega) ⟨(lv_sub hl [2, 0] rfl), allB_t hinv (by simp [c_7, c_9])⟩
      · skip
        refine lv_iconst (v := 0) hx hb dX4_isSettled_49 (by decide) ?_
        exact W.zret (v := 0) hx hb hr rfl (fun t9 h9 w9 => ⟨0, rfl, (tkB_0 (by rw [K_isSettled, allB_f (i := i) (by simp [c_9]) hlt]; rfl)), h9⟩) (fun q hq => absurd hq List.not_mem_nil) dX4_isSettled_50
