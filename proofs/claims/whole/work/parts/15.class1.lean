/-! the class: lists, tasks, rules: what reads alone -/
theorem tk_bool (b : Bool) : b = false ∨ b = true := by cases b <;> simp
section TKO2
variable {p : Program} {l : Launch} {e : Env} {R : Room} {s : State} {m : MethodId} {args : Array Value} {below : List Frame} {meth : Method} {c : Code} {H : Heap} {locs : List Loc} {cells slots : Nat} {Q : State → Prop}
variable {cc : ByteArray} {pc : Nat} {ls : Array Slot} {rest : List Value}
theorem tk_astore_n (hexec : p.tables.exec = Jvm.exec) (hb : c.code = cc) {k : Fin 4} {i nL : Nat} {r : Option Nat} {lv lv' : List (Nat × Value)} (hdg : decode cc pc = .ok (.astore_n k, 1)) (hi : (k : Nat) = i) (h : lv_has ls nL lv) (hn : i < nL) (hl : (i, va_rf r) :: lv.filter (fun q => !(q.1 == i) && !(q.1 + 1 == i && q.2.category == 2)) = lv')
    (kk : ∀ ls' : Array Slot, lv_has ls' nL lv' → W p l e R s m args below meth c H locs cells slots Q (F0 m (pc + 1) ls' rest)) : W p l e R s m args below meth c H locs cells slots Q (F0 m pc ls (va_rf r :: rest)) := by
  cases r with
  | none => exact lv_astore_nN hexec hb hdg hi h hn hl kk
  | some x => exact lv_astore_n hexec hb hdg hi h hn hl kk
theorem tk_astore (hexec : p.tables.exec = Jvm.exec) (hb : c.code = cc) {i nL : Nat} {r : Option Nat} {lv lv' : List (Nat × Value)} (hdg : decode cc pc = .ok (.astore i, 2)) (h : lv_has ls nL lv) (hn : i < nL) (hl : (i, va_rf r) :: lv.filter (fun q => !(q.1 == i) && !(q.1 + 1 == i && q.2.category == 2)) = lv')
    (kk : ∀ ls' : Array Slot, lv_has ls' nL lv' → W p l e R s m args below meth c H locs cells slots Q (F0 m (pc + 2) ls' rest)) : W p l e R s m args below meth c H locs cells slots Q (F0 m pc ls (va_rf r :: rest)) := by
  cases r with
  | none => exact lv_astoreN hexec hb hdg h hn hl kk
  | some x => exact lv_astore hexec hb hdg h hn hl kk
end TKO2
set_option maxHeartbeats 4000000 in
set_option maxRecDepth 100000 in
theorem c_Jx4a65c_size_8abf5 (l : Launch) (A : Nat → Prop) (D : va_G) (ac : Nat → ClassId) (dE : Nat) (G : TG) {q d n : Nat} {f : Nat → Nat} (hL : LX ac dE q d n f G) : Met l yJx4a65c_size_8abf5 wsJx4a65c_size_8abf5 ({ frames := 0, cells := 0, slots := 0, locals := 60 } : Room) (va_Pc [.ref q] (tkX A D ac dE G)) (vp_Si (fun z => z = nI n)) 0 0 (fun _ => False) := by
  refine Met.ofW (cc := cJx4a65c_size_8abf5) (maxL := 1) (ret := (some .int)) (by decide) rfl ?_
  intro p e s m args below meth c s₁ B hml hv
  obtain ⟨rfl, ⟨hM, hK, hA, hF⟩, hO⟩ := hv
  have hS : va_S A s.heap s.heap [] := va_S.rf
  have hx := B.exec
  have hb := B.bytes
  have hr := B.returns
  have hts := atoms_spec (ws := wsJx4a65c_size_8abf5) B.pre
  have hown : s.vm.findClass RJx4a65c = some m.cls := findClass_of_methodNamed B.named
  have hlocks := B.notSynchronized
  have S0 : CallFix p m c cJx4a65c_size_8abf5 1 s ([.ref q] : List Value).toArray wsJx4a65c_size_8abf5 RJx4a65c := ⟨hx, hb, hml, hown, hts⟩
  have inJx4a65c : ∀ w ∈ wsJx4a65c0, w ∈ wsJx4a65c_size_8abf5 := by decide +kernel
  have hl := lv_entry ([.ref q]) (n := 1) (Nat.le_of_ble_eq_true rfl)
  rw [lg_entry_eq]
  generalize (lg_sl ([.ref q]) ++ List.replicate (1 - (lg_sl ([.ref q])).length) Slot.unset).toArray = ls at hl ⊢
  have hl : lv_has ls 1 [(0, .ref q)] := hl
  obtain ⟨⟨mc, hq⟩, hd⟩ := hL
  refine lv_aload_n hx hb dJx4a65c_size_8abf5_0 rfl (lv_at hl 0 rfl) ?_
  refine tk_get hx hb hts inJx4a65c hown hK hM hq rfl 2 (by decide) (hts (.fieldLink RJx4a65c 48 "java/util/ArrayList" "size" "I") (by decide +kernel)) (fun _ h9 => h9) rfl dJx4a65c_size_8abf5_1 ?_
  exact W.iret (v := (nI n)) hx hb hr (fun t9 h9 w9 => ⟨(nI n), rfl, rfl, h9⟩) (fun q hq => absurd hq List.not_mem_nil) dJx4a65c_size_8abf5_4
theorem LX.rec {ac : Nat → ClassId} {dE q d n : Nat} {f : Nat → Nat} {G : TG} {A : Nat → Prop} {D : va_G} {s : State} {H : Heap} (hL : LX ac dE q d n f G) (hK : va_K D vwCl (tkT ac) s) (hM : tkM A D G H) : ∃ cell : Cell, H[q]? = some cell ∧ cell.vm.isStatics = false ∧ s.vm.findClass RJx4a65c = some cell.cls := by
  obtain ⟨⟨mc, hq⟩, -⟩ := hL
  exact tk_recv hK hM hq rfl
set_option maxHeartbeats 4000000 in
set_option maxRecDepth 100000 in
theorem c_J3_checkIndex_8e157 (l : Launch) (A : Nat → Prop) (D : va_G) (ac : Nat → ClassId) (dE : Nat) (G : TG) (i n : Nat) (hn : n < 2 ^ 31) (hi : i < n) : Met l yJ3_checkIndex_8e157 wsJ3_checkIndex_8e157 ({ frames := 0, cells := 0, slots := 0, locals := 60 } : Room) (va_Pc [.int (nI i), .int (nI n), .null] (tkX A D ac dE G)) (vp_Si (fun z => z = nI i)) 0 0 (fun _ => False) := by
  refine Met.ofW (cc := cJ3_checkIndex_8e157) (maxL := 3) (ret := (some .int)) (by decide) rfl ?_
  intro p e s m args below meth c s₁ B hml hv
  obtain ⟨rfl, ⟨hM, hK, hA, hF⟩, hO⟩ := hv
  have hS : va_S A s.heap s.heap [] := va_S.rf
  have hx := B.exec
  have hb := B.bytes
  have hr := B.returns
  have hts := atoms_spec (ws := wsJ3_checkIndex_8e157) B.pre
  have hown : s.vm.findClass RJ3 = some m.cls := findClass_of_methodNamed B.named
  have hlocks := B.notSynchronized
  have S0 : CallFix p m c cJ3_checkIndex_8e157 3 s ([.int (nI i), .int (nI n), .null] : List Value).toArray wsJ3_checkIndex_8e157 RJ3 := ⟨hx, hb, hml, hown, hts⟩
  have hl := lv_entry ([.int (nI i), .int (nI n), .null]) (n := 3) (Nat.le_of_ble_eq_true rfl)
  rw [lg_entry_eq]
  generalize (lg_sl ([.int (nI i), .int (nI n), .null]) ++ List.replicate (3 - (lg_sl ([.int (nI i), .int (nI n), .null])).length) Slot.unset).toArray = ls at hl ⊢
  have hl : lv_has ls 3 [(0, .int (nI i)), (1, .int (nI n)), (2, .null)] := hl
  refine lv_iload_n hx hb dJ3_checkIndex_8e157_0 rfl (lv_at hl 0 rfl) ?_
  refine lv_if_lt (tgt := 9) hx hb dJ3_checkIndex_8e157_1 (by decide) (fun c_1 => absurd c_1 (nI_pos (by omega))) (fun c_1 => ?_)
  refine lv_iload_n hx hb dJ3_checkIndex_8e157_4 rfl (lv_at hl 0 rfl) ?_
  refine lv_iload_n hx hb dJ3_checkIndex_8e157_5 rfl (lv_at hl 1 rfl) ?_
  refine lv_icmp_lt (tgt := 16) hx hb dJ3_checkIndex_8e157_6 (by decide) (fun c_2 => ?_) (fun c_2 => absurd (nI_lt hi hn) c_2)
  refine lv_iload_n hx hb dJ3_checkIndex_8e157_16 rfl (lv_at hl 0 rfl) ?_
  exact W.iret (v := (nI i)) hx hb hr (fun t9 h9 w9 => ⟨(nI i), rfl, rfl, h9⟩) (fun q hq => absurd hq List.not_mem_nil) dJ3_checkIndex_8e157_17
set_option maxHeartbeats 4000000 in
set_option maxRecDepth 100000 in
theorem c_J15_checkIndex_7cf53 (l : Launch) (A : Nat → Prop) (D : va_G) (ac : Nat → ClassId) (dE : Nat) (G : TG) (i n : Nat) (hn : n < 2 ^ 31) (hi : i < n) : Met l yJ15_checkIndex_7cf53 wsJ15_checkIndex_7cf53 ({ frames := 1, cells := 0, slots := 0, locals := 100 } : Room) (va_Pc [.int (nI i), .int (nI n)] (tkX A D ac dE G)) (vp_Si (fun z => z = nI i)) 0 0 (fun _ => False) := by
  refine Met.ofW (cc := cJ15_checkIndex_7cf53) (maxL := 2) (ret := (some .int)) (by decide) rfl ?_
  intro p e s m args below meth c s₁ B hml hv
  obtain ⟨rfl, ⟨hM, hK, hA, hF⟩, hO⟩ := hv
  have hS : va_S A s.heap s.heap [] := va_S.rf
  have hx := B.exec
  have hb := B.bytes
  have hr := B.returns
  have hts := atoms_spec (ws := wsJ15_checkIndex_7cf53) B.pre
  have hown : s.vm.findClass RJ15 = some m.cls := findClass_of_methodNamed B.named
  have hlocks := B.notSynchronized
  have S0 : CallFix p m c cJ15_checkIndex_7cf53 2 s ([.int (nI i), .int (nI n)] : List Value).toArray wsJ15_checkIndex_7cf53 RJ15 := ⟨hx, hb, hml, hown, hts⟩
  have hl := lv_entry ([.int (nI i), .int (nI n)]) (n := 2) (Nat.le_of_ble_eq_true rfl)
  rw [lg_entry_eq]
  generalize (lg_sl ([.int (nI i), .int (nI n)]) ++ List.replicate (2 - (lg_sl ([.int (nI i), .int (nI n)])).length) Slot.unset).toArray = ls at hl ⊢
  have hl : lv_has ls 2 [(0, .int (nI i)), (1, .int (nI n))] := hl
  refine lv_iload_n hx hb dJ15_checkIndex_7cf53_0 rfl (lv_at hl 0 rfl) ?_
  refine lv_iload_n hx hb dJ15_checkIndex_7cf53_1 rfl (lv_at hl 1 rfl) ?_
  refine lv_null hx hb dJ15_checkIndex_7cf53_2 ?_
  refine tk_cSi (As := [.int (nI i), .int (nI n), .null]) S0 (c_J3_checkIndex_8e157 l A D ac dE _ i n hn hi) (va_cwS 3 hts gJ15_checkIndex_7cf53_J3_checkIndex_8e157 rfl rfl rfl (by decide +kernel) ⟨Nat.le_of_ble_eq_true rfl, Nat.le_of_ble_eq_true rfl⟩) (tkX.blind) (tkX.at hM hK hA hF hO hS) rfl hl.1 rfl (Nat.le_of_ble_eq_true rfl) dJ15_checkIndex_7cf53_3 ⟨Nat.zero_le _, Nat.zero_le _⟩ (fun r_1 hr_1 => ?_)
  subst hr_1
  exact W.iret (v := (nI i)) hx hb hr (fun t9 h9 w9 => ⟨(nI i), rfl, rfl, h9⟩) (fun q hq => absurd hq List.not_mem_nil) dJ15_checkIndex_7cf53_6
set_option maxHeartbeats 4000000 in
set_option maxRecDepth 100000 in
theorem c_Jx4a65c_elementData_915e3 (l : Launch) (A : Nat → Prop) (D : va_G) (ac : Nat → ClassId) (dE : Nat) (G : TG) {q d n : Nat} {f : Nat → Nat} (hL : LX ac dE q d n f G) (i : Nat) (hi : i < n) (hn : n ≤ 1000) : Met l yJx4a65c_elementData_915e3 wsJx4a65c_elementData_915e3 ({ frames := 0, cells := 0, slots := 0, locals := 60 } : Room) (va_Pc [.ref q, .int (nI i)] (tkX A D ac dE G)) (va_Sq (fun z => z = some (f i))) 0 0 (fun _ => False) := by
  refine Met.ofW (cc := cJx4a65c_elementData_915e3) (maxL := 2) (ret := (some (.object "java/lang/Object"))) (by decide) rfl ?_
  intro p e s m args below meth c s₁ B hml hv
  obtain ⟨rfl, ⟨hM, hK, hA, hF⟩, hO⟩ := hv
  have hS : va_S A s.heap s.heap [] := va_S.rf
  have hx := B.exec
  have hb := B.bytes
  have hr := B.returns
  have hts := atoms_spec (ws := wsJx4a65c_elementData_915e3) B.pre
  have hown : s.vm.findClass RJx4a65c = some m.cls := findClass_of_methodNamed B.named
  have hlocks := B.notSynchronized
  have S0 : CallFix p m c cJx4a65c_elementData_915e3 2 s ([.ref q, .int (nI i)] : List Value).toArray wsJx4a65c_elementData_915e3 RJx4a65c := ⟨hx, hb, hml, hown, hts⟩
  have inJx4a65c : ∀ w ∈ wsJx4a65c0, w ∈ wsJx4a65c_elementData_915e3 := by decide +kernel
  have hl := lv_entry ([.ref q, .int (nI i)]) (n := 2) (Nat.le_of_ble_eq_true rfl)
  rw [lg_entry_eq]
  generalize (lg_sl ([.ref q, .int (nI i)]) ++ List.replicate (2 - (lg_sl ([.ref q, .int (nI i)])).length) Slot.unset).toArray = ls at hl ⊢
  have hl : lv_has ls 2 [(0, .ref q), (1, .int (nI i))] := hl
  obtain ⟨⟨mc, hq⟩, ⟨h0, -⟩ | ⟨cap, g0, hd, hg, hc, hc2, hc3⟩⟩ := hL
  · omega
  refine lv_aload_n hx hb dJx4a65c_elementData_915e3_0 rfl (lv_at hl 0 rfl) ?_
  refine tk_get hx hb hts inJx4a65c hown hK hM hq rfl 1 (by decide) (hts (.fieldLink RJx4a65c 9 "java/util/ArrayList" "elementData" "[Ljava/lang/Object;") (by decide +kernel)) (fun _ h9 => h9) rfl dJx4a65c_elementData_915e3_1 ?_
  refine lv_iload_n hx hb dJx4a65c_elementData_915e3_4 rfl (lv_at hl 1 rfl) ?_
  refine tk_aald hx hb hK hM 3 hd rfl (vp_in_nI (by omega) (by omega)) dJx4a65c_elementData_915e3_5 ?_
  rw [show (nI i).toNatClampNeg = i from nI_clamp (by omega), hg i hi]
  exact W.aret (v := .ref (f i)) hx hb hr (Or.inl ⟨_, rfl⟩) (va_rf_or (some (f i))) (fun t9 h9 w9 => ⟨(some (f i)), rfl, rfl, h9⟩) (fun q hq => absurd hq List.not_mem_nil) dJx4a65c_elementData_915e3_6
set_option maxHeartbeats 4000000 in
set_option maxRecDepth 100000 in
theorem c_Jx4a65c_get_915e3 (l : Launch) (A : Nat → Prop) (D : va_G) (ac : Nat → ClassId) (dE : Nat) (G : TG) {q d n : Nat} {f : Nat → Nat} (hL : LX ac dE q d n f G) (i : Nat) (hi : i < n) (hn : n ≤ 1000) : Met l yJx4a65c_get_915e3 wsJx4a65c_get_915e3 ({ frames := 2, cells := 0, slots := 0, locals := 140 } : Room) (va_Pc [.ref q, .int (nI i)] (tkX A D ac dE G)) (va_Sq (fun z => z = some (f i))) 0 0 (fun _ => False) := by
  refine Met.ofW (cc := cJx4a65c_get_915e3) (maxL := 2) (ret := (some (.object "java/lang/Object"))) (by decide) rfl ?_
  intro p e s m args below meth c s₁ B hml hv
  obtain ⟨rfl, ⟨hM, hK, hA, hF⟩, hO⟩ := hv
  have hS : va_S A s.heap s.heap [] := va_S.rf
  have hx := B.exec
  have hb := B.bytes
  have hr := B.returns
  have hts := atoms_spec (ws := wsJx4a65c_get_915e3) B.pre
  have hown : s.vm.findClass RJx4a65c = some m.cls := findClass_of_methodNamed B.named
  have hlocks := B.notSynchronized
  have S0 : CallFix p m c cJx4a65c_get_915e3 2 s ([.ref q, .int (nI i)] : List Value).toArray wsJx4a65c_get_915e3 RJx4a65c := ⟨hx, hb, hml, hown, hts⟩
  have inJx4a65c : ∀ w ∈ wsJx4a65c0, w ∈ wsJx4a65c_get_915e3 := by decide +kernel
  have hl := lv_entry ([.ref q, .int (nI i)]) (n := 2) (Nat.le_of_ble_eq_true rfl)
  rw [lg_entry_eq]
  generalize (lg_sl ([.ref q, .int (nI i)]) ++ List.replicate (2 - (lg_sl ([.ref q, .int (nI i)])).length) Slot.unset).toArray = ls at hl ⊢
  have hl : lv_has ls 2 [(0, .ref q), (1, .int (nI i))] := hl
  have hL0 := hL
  obtain ⟨⟨mc, hq⟩, hd⟩ := hL
  refine lv_iload_n hx hb dJx4a65c_get_915e3_0 rfl (lv_at hl 1 rfl) ?_
  refine lv_aload_n hx hb dJx4a65c_get_915e3_1 rfl (lv_at hl 0 rfl) ?_
  refine tk_get hx hb hts inJx4a65c hown hK hM hq rfl 2 (by decide) (hts (.fieldLink RJx4a65c 48 "java/util/ArrayList" "size" "I") (by decide +kernel)) (fun _ h9 => h9) rfl dJx4a65c_get_915e3_2 ?_
  refine tk_cSi (As := [.int (nI i), .int (nI n)]) S0 (c_J15_checkIndex_7cf53 l A D ac dE _ i n (by omega) hi) (va_cwS 2 hts gJx4a65c_get_915e3_J15_checkIndex_7cf53 rfl rfl rfl (by decide +kernel) ⟨Nat.le_of_ble_eq_true rfl, Nat.le_of_ble_eq_true rfl⟩) (tkX.blind) (tkX.at hM hK hA hF hO hS) rfl hl.1 rfl (Nat.le_of_ble_eq_true rfl) dJx4a65c_get_915e3_5 ⟨Nat.zero_le _, Nat.zero_le _⟩ (fun r_1 hr_1 => ?_)
  subst hr_1
  refine lv_pop hx hb dJx4a65c_get_915e3_8 rfl ?_
  refine lv_aload_n hx hb dJx4a65c_get_915e3_9 rfl (lv_at hl 0 rfl) ?_
  refine lv_iload_n hx hb dJx4a65c_get_915e3_10 rfl (lv_at hl 1 rfl) ?_
  refine tk_cVq (As := [.int (nI i)]) S0 (c_Jx4a65c_elementData_915e3 l A D ac dE _ hL0 i hi hn) (cwV 1 hts gJx4a65c_get_915e3_Jx4a65c_elementData_915e3 rfl rfl rfl (by decide +kernel) ⟨Nat.le_of_ble_eq_true rfl, Nat.le_of_ble_eq_true rfl⟩) (tkX.blind) (tkX.at hM hK hA hF hO hS) (tk_recv hK hM hq rfl) rfl hl.1 rfl (Nat.le_of_ble_eq_true rfl) dJx4a65c_get_915e3_11 ⟨Nat.zero_le _, Nat.zero_le _⟩ (fun r_2 hr_2 => ?_)
  subst hr_2
  exact W.aret (v := .ref (f i)) hx hb hr (Or.inl ⟨_, rfl⟩) (va_rf_or (some (f i))) (fun t9 h9 w9 => ⟨(some (f i)), rfl, rfl, h9⟩) (fun q hq => absurd hq List.not_mem_nil) dJx4a65c_get_915e3_14
def WB (M : TS) (nv : Nat) : Prop := nv ≤ 21 ∧ ∀ k, k < nE M → billed M k = true → ∃ v, v < nv ∧ M 14 k = nI v
theorem PX.tskE {ac : Nat → ClassId} {dE h0 : Nat} {α : Nat → Nat → Nat} {M : TS} {nv : Nat} {G : TG} (hP : PX ac dE h0 α M nv G) {a b : Nat} (ha : a < nT M) (hb : b < nT M) : some (α 1 a) = some (α 1 b) ↔ a = b := ⟨fun h => hP.jt ha hb (Option.some.inj h), fun h => by rw [h]⟩
theorem PX.parE {ac : Nat → ClassId} {dE h0 : Nat} {α : Nat → Nat → Nat} {M : TS} {nv : Nat} {G : TG} (hP : PX ac dE h0 α M nv G) (hW : W0 M) {a b : Nat} (ha : a < nT M) (hb : b < nT M) : parR α M a = some (α 1 b) ↔ M 1 a = nI b := by
  have bT := hW.t.2
  rcases hW.p a ha with h | ⟨q, hq, e⟩
  · rw [parR_n h]
    exact ⟨fun x => (nomatch x), fun x => absurd (x ▸ h) (nI_pos (by omega))⟩
  · rw [parR_s (by omega) e, e]
    exact ⟨fun x => by rw [hP.jt (by omega) hb (Option.some.inj x)], fun x => by rw [(nI_eq (by omega) (by omega)).mp x]⟩
theorem PX.invE {ac : Nat → ClassId} {dE h0 : Nat} {α : Nat → Nat → Nat} {M : TS} {nv : Nat} {G : TG} (hP : PX ac dE h0 α M nv G) (hB : WB M nv) {k v : Nat} (hk : k < nE M) (hv : v < nv) : invR α M k = some (α 3 v) ↔ (billed M k = true ∧ M 14 k = nI v) := by
  have bV := hB.1
  cases hb : billed M k with
  | false =>
    rw [invR_n hb]
    exact ⟨fun x => (nomatch x), fun x => (nomatch x.1)⟩
  | true =>
    obtain ⟨q, hq, e⟩ := hB.2 k hk hb
    rw [invR_s (by omega) hb e, e]
    exact ⟨fun x => ⟨rfl, by rw [hP.jv hq hv (Option.some.inj x)]⟩, fun x => by rw [(nI_eq (by omega) (by omega)).mp x.2]⟩
/-- bits -/
def bitOf (t : Nat) : Int32 := (1 : Int32) <<< (nI t &&& 31)
def hasB (M : TS) (t u : Nat) : Bool := !decide (M 19 t &&& bitOf u = 0)
def lkB (M : TS) (w : Nat) : Bool := !decide (M 0 27 &&& bitOf w = 0)
def freeC (M : TS) (t : Nat) : Bool := allB (fun k => !hasB M t k || decide (M 4 k = 100)) (nT M)
def disc (fr q price sum : Int32) : Int32 := if fr ≤ sum then price * (100 - q) / 100 else price
def rateF (f : Nat → Int32) (x : Int32) : Int32 := if tkOk 4 x = true then f (tn x) else 0
set_option maxHeartbeats 4000000 in
set_option maxRecDepth 100000 in
theorem c_X3_bit (l : Launch) (A : Nat → Prop) (D : va_G) (ac : Nat → ClassId) (dE : Nat) (G : TG) {h0 : Nat} {α : Nat → Nat → Nat} {M : TS} {nv : Nat} (hP : PX ac dE h0 α M nv G) (t : Nat) (ht : t < nT M) : Met l yX3_bit wsX3_bit ({ frames := 0, cells := 0, slots := 0, locals := 60 } : Room) (va_Pc [.ref (α 1 t)] (tkX A D ac dE G)) (vp_Si (fun z => z = bitOf t)) 0 0 (fun _ => False) := by
  refine Met.ofW (cc := cX3_bit) (maxL := 1) (ret := (some .int)) (by decide) rfl ?_
  intro p e s m args below meth c s₁ B hml hv
  obtain ⟨rfl, ⟨hM, hK, hA, hF⟩, hO⟩ := hv
  have hS : va_S A s.heap s.heap [] := va_S.rf
  have hx := B.exec
  have hb := B.bytes
  have hr := B.returns
  have hts := atoms_spec (ws := wsX3_bit) B.pre
  have hown : s.vm.findClass RX3 = some m.cls := findClass_of_methodNamed B.named
  have hlocks := B.notSynchronized
  have S0 : CallFix p m c cX3_bit 1 s ([.ref (α 1 t)] : List Value).toArray wsX3_bit RX3 := ⟨hx, hb, hml, hown, hts⟩
  have inX3 : ∀ w ∈ wsX30, w ∈ wsX3_bit := by decide +kernel
  have hl := lv_entry ([.ref (α 1 t)]) (n := 1) (Nat.le_of_ble_eq_true rfl)
  rw [lg_entry_eq]
  generalize (lg_sl ([.ref (α 1 t)]) ++ List.replicate (1 - (lg_sl ([.ref (α 1 t)])).length) Slot.unset).toArray = ls at hl ⊢
  have hl : lv_has ls 1 [(0, .ref (α 1 t))] := hl
  refine lv_iconst (v := 1) hx hb dX3_bit_0 (by decide) ?_
  refine lv_aload_n hx hb dX3_bit_1 rfl (lv_at hl 0 rfl) ?_
  refine tk_get hx hb hts inX3 hown hK hM (hP.t ht) rfl 0 (by decide) (hts (.fieldLink RX3 9 "TicketForge$Task" "number" "I") (by decide +kernel)) (fun _ h9 => h9) rfl dX3_bit_2 ?_
  refine lv_ishl hx hb dX3_bit_5 ?_
  exact W.iret (v := (1 <<< ((nI t) &&& 31))) hx hb hr (fun t9 h9 w9 => ⟨(1 <<< ((nI t) &&& 31)), rfl, rfl, h9⟩) (fun q hq => absurd hq List.not_mem_nil) dX3_bit_6
set_option maxHeartbeats 4000000 in
set_option maxRecDepth 100000 in
theorem c_X3_isBlockedBy (l : Launch) (A : Nat → Prop) (D : va_G) (ac : Nat → ClassId) (dE : Nat) (G : TG) {h0 : Nat} {α : Nat → Nat → Nat} {M : TS} {nv : Nat} (hP : PX ac dE h0 α M nv G) (t u : Nat) (ht : t < nT M) (hu : u < nT M) : Met l yX3_isBlockedBy wsX3_isBlockedBy ({ frames := 1, cells := 0, slots := 0, locals := 100 } : Room) (va_Pc [.ref (α 1 t), .ref (α 1 u)] (tkX A D ac dE G)) (vp_Si (fun z => tkB z (hasB M t u))) 0 0 (fun _ => False) := by
  refine Met.ofW (cc := cX3_isBlockedBy) (maxL := 2) (ret := (some .boolean)) (by decide) rfl ?_
  intro p e s m args below meth c s₁ B hml hv
  obtain ⟨rfl, ⟨hM, hK, hA, hF⟩, hO⟩ := hv
  have hS : va_S A s.heap s.heap [] := va_S.rf
  have hx := B.exec
  have hb := B.bytes
  have hr := B.returns
  have hts := atoms_spec (ws := wsX3_isBlockedBy) B.pre
  have hown : s.vm.findClass RX3 = some m.cls := findClass_of_methodNamed B.named
  have hlocks := B.notSynchronized
  have S0 : CallFix p m c cX3_isBlockedBy 2 s ([.ref (α 1 t), .ref (α 1 u)] : List Value).toArray wsX3_isBlockedBy RX3 := ⟨hx, hb, hml, hown, hts⟩
  have inX3 : ∀ w ∈ wsX30, w ∈ wsX3_isBlockedBy := by decide +kernel
  have hl := lv_entry ([.ref (α 1 t), .ref (α 1 u)]) (n := 2) (Nat.le_of_ble_eq_true rfl)
  rw [lg_entry_eq]
  generalize (lg_sl ([.ref (α 1 t), .ref (α 1 u)]) ++ List.replicate (2 - (lg_sl ([.ref (α 1 t), .ref (α 1 u)])).length) Slot.unset).toArray = ls at hl ⊢
  have hl : lv_has ls 2 [(0, .ref (α 1 t)), (1, .ref (α 1 u))] := hl
  refine lv_aload_n hx hb dX3_isBlockedBy_0 rfl (lv_at hl 0 rfl) ?_
  refine tk_get hx hb hts inX3 hown hK hM (hP.t ht) rfl 5 (by decide) (hts (.fieldLink RX3 29 "TicketForge$Task" "blockers" "I") (by decide +kernel)) (fun _ h9 => h9) rfl dX3_isBlockedBy_1 ?_
  refine lv_aload_n hx hb dX3_isBlockedBy_4 rfl (lv_at hl 1 rfl) ?_
  refine tk_cVi (As := []) S0 (c_X3_bit l A D ac dE _ hP u hu) (cwV 0 hts gX3_isBlockedBy_X3_bit rfl rfl rfl (by decide +kernel) ⟨Nat.le_of_ble_eq_true rfl, Nat.le_of_ble_eq_true rfl⟩) (tkX.blind) (tkX.at hM hK hA hF hO hS) (tk_recv hK hM (hP.t hu) rfl) rfl hl.1 rfl (Nat.le_of_ble_eq_true rfl) dX3_isBlockedBy_5 ⟨Nat.zero_le _, Nat.zero_le _⟩ (fun r_1 hr_1 => ?_)
  subst hr_1
  refine lv_iand hx hb dX3_isBlockedBy_8 ?_
  refine lv_if_eq (tgt := 16) hx hb dX3_isBlockedBy_9 (by decide) (fun c_2 => ?_) (fun c_2 => ?_)
  · skip
    refine lv_iconst (v := 0) hx hb dX3_isBlockedBy_16 (by decide) ?_
    exact W.zret (v := 0) hx hb hr rfl (fun t9 h9 w9 => ⟨0, rfl, (tkB_0 (by simp [hasB, c_2])), h9⟩) (fun q hq => absurd hq List.not_mem_nil) dX3_isBlockedBy_17
  · skip
    refine lv_iconst (v := 1) hx hb dX3_isBlockedBy_12 (by decide) ?_
    refine lv_goto (tgt := 17) hx hb dX3_isBlockedBy_13 (by decide) ?_
    exact W.zret (v := 1) hx hb hr rfl (fun t9 h9 w9 => ⟨1, rfl, (tkB_1 (by simp [hasB, c_2])), h9⟩) (fun q hq => absurd hq List.not_mem_nil) dX3_isBlockedBy_17
set_option maxHeartbeats 4000000 in
set_option maxRecDepth 100000 in
theorem c_X3_isInTreeOf (l : Launch) (A : Nat → Prop) (D : va_G) (ac : Nat → ClassId) (dE : Nat) (G : TG) {h0 : Nat} {α : Nat → Nat → Nat} {M : TS} {nv : Nat} (hP : PX ac dE h0 α M nv G) (hW : W0 M) (t r : Nat) (ht : t < nT M) (hr0 : r < nT M) : Met l yX3_isInTreeOf wsX3_isInTreeOf ({ frames := 0, cells := 0, slots := 0, locals := 60 } : Room) (va_Pc [.ref (α 1 t), .ref (α 1 r)] (tkX A D ac dE G)) (vp_Si (fun z => tkB z (isIn M t r))) 0 0 (fun _ => False) := by
  refine Met.ofW (cc := cX3_isInTreeOf) (maxL := 3) (ret := (some .boolean)) (by decide) rfl ?_
  intro p e s m args below meth c s₁ B hml hv
  obtain ⟨rfl, ⟨hM, hK, hA, hF⟩, hO⟩ := hv
  have hS : va_S A s.heap s.heap [] := va_S.rf
  have hx := B.exec
  have hb := B.bytes
  have hr := B.returns
  have hts := atoms_spec (ws := wsX3_isInTreeOf) B.pre
  have hown : s.vm.findClass RX3 = some m.cls := findClass_of_methodNamed B.named
  have hlocks := B.notSynchronized
  have S0 : CallFix p m c cX3_isInTreeOf 3 s ([.ref (α 1 t), .ref (α 1 r)] : List Value).toArray wsX3_isInTreeOf RX3 := ⟨hx, hb, hml, hown, hts⟩
  have inX3 : ∀ w ∈ wsX30, w ∈ wsX3_isInTreeOf := by decide +kernel
  have hl := lv_entry ([.ref (α 1 t), .ref (α 1 r)]) (n := 3) (Nat.le_of_ble_eq_true rfl)
  rw [lg_entry_eq]
  generalize (lg_sl ([.ref (α 1 t), .ref (α 1 r)]) ++ List.replicate (3 - (lg_sl ([.ref (α 1 t), .ref (α 1 r)])).length) Slot.unset).toArray = ls at hl ⊢
  have hl : lv_has ls 3 [(0, .ref (α 1 t)), (1, .ref (α 1 r))] := hl
  have bT := hW.t.2
  have bE := hW.e.2
  have bV := hW.v.2
  refine lv_aload_n hx hb dX3_isInTreeOf_0 rfl (lv_at hl 0 rfl) ?_
  refine lv_astore_n (lv' := [(2, .ref (α 1 t)), (0, .ref (α 1 t)), (1, .ref (α 1 r))]) hx hb dX3_isInTreeOf_1 rfl hl (by decide) rfl (fun ls hl => ?_)
  refine tk_d1 (Wf := W p l e _ s m _ below meth c _ _ _ _ _) (fun q (x : Option Nat) ls => lv_has ls 3 [(0, .ref (α 1 t)), (1, .ref (α 1 r)), (2, va_rf x)] ∧ ((x = none ∧ isIn M t r = false) ∨ ∃ d : Nat, q = d + 1 ∧ d < nT M ∧ x = some (α 1 d) ∧ isIn M t r = isIn M d r)) (fun q x ls hinv ih => ?_) (t + 1) (some (α 1 t)) ls ⟨(lv_sub hl [1, 2, 0] rfl), Or.inr ⟨t, rfl, ht, rfl, rfl⟩⟩
  obtain ⟨hl, hinv⟩ := hinv
  rcases hinv with ⟨rfl, hno⟩ | ⟨d, rfl, hd, rfl, heq⟩
  · skip
    refine lv_aload_nN hx hb dX3_isInTreeOf_2 rfl (lv_at hl 2 rfl) ?_
    refine lv_ifnullN (tgt := 21) hx hb dX3_isInTreeOf_3 (by decide) ?_
    refine lv_iconst (v := 0) hx hb dX3_isInTreeOf_21 (by decide) ?_
    exact W.zret (v := 0) hx hb hr rfl (fun t9 h9 w9 => ⟨0, rfl, (tkB_0 hno), h9⟩) (fun q hq => absurd hq List.not_mem_nil) dX3_isInTreeOf_22
  · skip
    refine lv_aload_n hx hb dX3_isInTreeOf_2 rfl (lv_at hl 2 rfl) ?_
    refine lv_ifnull hx hb dX3_isInTreeOf_3 ?_
    refine lv_aload_n hx hb dX3_isInTreeOf_6 rfl (lv_at hl 2 rfl) ?_
    refine lv_aload_n hx hb dX3_isInTreeOf_7 rfl (lv_at hl 1 rfl) ?_
    refine lv_acmp_ne (rx := (some (α 1 d))) (ry := (some (α 1 r))) (tgt := 13) hx hb dX3_isInTreeOf_8 (by decide) (fun c_1 => ?_) (fun c_1 => ?_)
    · have c_1 := mt (hP.tskE hd hr0).mpr c_1
      refine lv_aload_n hx hb dX3_isInTreeOf_13 rfl (lv_at hl 2 rfl) ?_
      refine tk_get hx hb hts inX3 hown hK hM (hP.t hd) rfl 1 (by decide) (hts (.fieldLink RX3 15 "TicketForge$Task" "parent" "LTicketForge$Task;") (by decide +kernel)) (fun _ h9 => h9) rfl dX3_isInTreeOf_14 ?_
      refine tk_astore_n (lv' := [(2, va_rf (parR α M d)), (0, .ref (α 1 t)), (1, .ref (α 1 r))]) hx hb dX3_isInTreeOf_17 rfl hl (by decide) rfl (fun ls hl => ?_)
      refine lv_goto (tgt := 2) hx hb dX3_isInTreeOf_18 (by decide) ?_
      rcases hW.p d hd with hp | ⟨u, hu, eu⟩
      · rw [parR_n hp] at hl
        exact ih 0 none ls (by omega) ⟨(lv_sub hl [1, 2, 0] rfl), Or.inl ⟨rfl, by rw [heq]; exact isIn_top c_1 hp⟩⟩
      · rw [parR_s (by omega) eu] at hl
        exact ih (u + 1) (some (α 1 u)) ls (by omega) ⟨(lv_sub hl [1, 2, 0] rfl), Or.inr ⟨u, rfl, by omega, rfl, by rw [heq]; exact isIn_up (by omega) hW.p hd c_1 hu eu⟩⟩
    · have c_1 := (hP.tskE hd hr0).mp c_1
      refine lv_iconst (v := 1) hx hb dX3_isInTreeOf_11 (by decide) ?_
      exact W.zret (v := 1) hx hb hr rfl (fun t9 h9 w9 => ⟨1, rfl, (tkB_1 (by rw [heq, c_1]; exact isIn_self M r)), h9⟩) (fun q hq => absurd hq List.not_mem_nil) dX3_isInTreeOf_12
theorem tk_in_of {x : Int32} {n : Nat} (hn : n < 2 ^ 31) (h : tkOk n x = true) : vp_in x n := by
  obtain ⟨t, ht, rfl⟩ := tkOk_ex hn h
  exact vp_in_nI ht hn
set_option maxHeartbeats 4000000 in
set_option maxRecDepth 100000 in
theorem c_X2_rateOf (l : Launch) (A : Nat → Prop) (D : va_G) (ac : Nat → ClassId) (dE : Nat) (G : TG) {q ra : Nat} {a b c0 : Int32} {f : Nat → Int32} (hq : G q = some (.inr (5, rF ra a b c0))) (ha : G ra = some (.inl (ac 1, 4, .inl f))) (x : Int32) : Met l yX2_rateOf wsX2_rateOf ({ frames := 0, cells := 0, slots := 0, locals := 60 } : Room) (va_Pc [.ref q, .int x] (tkX A D ac dE G)) (vp_Si (fun z => z = rateF f x)) 0 0 (fun _ => False) := by
  refine Met.ofW (cc := cX2_rateOf) (maxL := 2) (ret := (some .int)) (by decide) rfl ?_
  intro p e s m args below meth c s₁ B hml hv
  obtain ⟨rfl, ⟨hM, hK, hA, hF⟩, hO⟩ := hv
  have hS : va_S A s.heap s.heap [] := va_S.rf
  have hx := B.exec
  have hb := B.bytes
  have hr := B.returns
  have hts := atoms_spec (ws := wsX2_rateOf) B.pre
  have hown : s.vm.findClass RX2 = some m.cls := findClass_of_methodNamed B.named
  have hlocks := B.notSynchronized
  have S0 : CallFix p m c cX2_rateOf 2 s ([.ref q, .int x] : List Value).toArray wsX2_rateOf RX2 := ⟨hx, hb, hml, hown, hts⟩
  have inX2 : ∀ w ∈ wsX20, w ∈ wsX2_rateOf := by decide +kernel
  have hl := lv_entry ([.ref q, .int x]) (n := 2) (Nat.le_of_ble_eq_true rfl)
  rw [lg_entry_eq]
  generalize (lg_sl ([.ref q, .int x]) ++ List.replicate (2 - (lg_sl ([.ref q, .int x])).length) Slot.unset).toArray = ls at hl ⊢
  have hl : lv_has ls 2 [(0, .ref q), (1, .int x)] := hl
  refine lv_iload_n hx hb dX2_rateOf_0 rfl (lv_at hl 1 rfl) ?_
  refine lv_if_lt (tgt := 22) hx hb dX2_rateOf_1 (by decide) (fun c_1 => ?_) (fun c_1 => ?_)
  · skip
    refine lv_iconst (v := 0) hx hb dX2_rateOf_22 (by decide) ?_
    exact W.iret (v := 0) hx hb hr (fun t9 h9 w9 => ⟨0, rfl, (by rw [rateF, if_neg (by rw [tkOk_lo c_1]; decide)]), h9⟩) (fun q hq => absurd hq List.not_mem_nil) dX2_rateOf_23
  · skip
    refine lv_iload_n hx hb dX2_rateOf_4 rfl (lv_at hl 1 rfl) ?_
    refine lv_aload_n hx hb dX2_rateOf_5 rfl (lv_at hl 0 rfl) ?_
    refine tk_get hx hb hts inX2 hown hK hM hq rfl 0 (by decide) (hts (.fieldLink RX2 7 "TicketForge$Rules" "rates" "[I") (by decide +kernel)) (fun _ h9 => h9) rfl dX2_rateOf_6 ?_
    refine tk_alen (v := 4) hx hb hK hM 1 ha rfl rfl dX2_rateOf_9 ?_
    refine lv_icmp_ge (tgt := 22) hx hb dX2_rateOf_10 (by decide) (fun c_2 => ?_) (fun c_2 => ?_)
    · skip
      refine lv_iconst (v := 0) hx hb dX2_rateOf_22 (by decide) ?_
      exact W.iret (v := 0) hx hb hr (fun t9 h9 w9 => ⟨0, rfl, (by rw [rateF, if_neg (by rw [tkOk_hi c_2]; decide)]), h9⟩) (fun q hq => absurd hq List.not_mem_nil) dX2_rateOf_23
    · skip
      refine lv_aload_n hx hb dX2_rateOf_13 rfl (lv_at hl 0 rfl) ?_
      refine tk_get hx hb hts inX2 hown hK hM hq rfl 0 (by decide) (hts (.fieldLink RX2 7 "TicketForge$Rules" "rates" "[I") (by decide +kernel)) (fun _ h9 => h9) rfl dX2_rateOf_14 ?_
      refine lv_iload_n hx hb dX2_rateOf_17 rfl (lv_at hl 1 rfl) ?_
      refine tk_iald hx hb hK hM 1 ha rfl (tk_in_of (by decide) (tkOk_in c_1 c_2)) dX2_rateOf_18 ?_
      refine lv_goto (tgt := 23) hx hb dX2_rateOf_19 (by decide) ?_
      exact W.iret (v := (f (x).toNatClampNeg)) hx hb hr (fun t9 h9 w9 => ⟨(f (x).toNatClampNeg), rfl, (by rw [rateF, if_pos (tkOk_in c_1 c_2)]), h9⟩) (fun q hq => absurd hq List.not_mem_nil) dX2_rateOf_23
set_option maxHeartbeats 4000000 in
set_option maxRecDepth 100000 in
theorem c_X2_fullPrice (l : Launch) (A : Nat → Prop) (D : va_G) (ac : Nat → ClassId) (dE : Nat) (G : TG) {h0 : Nat} {α : Nat → Nat → Nat} {M : TS} {nv : Nat} (hP : PX ac dE h0 α M nv G) {q ra : Nat} {a b c0 : Int32} {f : Nat → Int32} (hq : G q = some (.inr (5, rF ra a b c0))) (ha : G ra = some (.inl (ac 1, 4, .inl f))) (k : Nat) (hk : k < nE M) : Met l yX2_fullPrice wsX2_fullPrice ({ frames := 1, cells := 0, slots := 0, locals := 100 } : Room) (va_Pc [.ref q, .ref (α 2 k)] (tkX A D ac dE G)) (vp_Si (fun z => z = M 12 k * rateF f (M 10 k))) 0 0 (fun _ => False) := by
  refine Met.ofW (cc := cX2_fullPrice) (maxL := 2) (ret := (some .int)) (by decide) rfl ?_
  intro p e s m args below meth c s₁ B hml hv
  obtain ⟨rfl, ⟨hM, hK, hA, hF⟩, hO⟩ := hv
  have hS : va_S A s.heap s.heap [] := va_S.rf
  have hx := B.exec
  have hb := B.bytes
  have hr := B.returns
  have hts := atoms_spec (ws := wsX2_fullPrice) B.pre
  have hown : s.vm.findClass RX2 = some m.cls := findClass_of_methodNamed B.named
  have hlocks := B.notSynchronized
  have S0 : CallFix p m c cX2_fullPrice 2 s ([.ref q, .ref (α 2 k)] : List Value).toArray wsX2_fullPrice RX2 := ⟨hx, hb, hml, hown, hts⟩
  have inX0 : ∀ w ∈ wsX00, w ∈ wsX2_fullPrice := by decide +kernel
  have hl := lv_entry ([.ref q, .ref (α 2 k)]) (n := 2) (Nat.le_of_ble_eq_true rfl)
  rw [lg_entry_eq]
  generalize (lg_sl ([.ref q, .ref (α 2 k)]) ++ List.replicate (2 - (lg_sl ([.ref q, .ref (α 2 k)])).length) Slot.unset).toArray = ls at hl ⊢
  have hl : lv_has ls 2 [(0, .ref q), (1, .ref (α 2 k))] := hl
  refine lv_aload_n hx hb dX2_fullPrice_0 rfl (lv_at hl 1 rfl) ?_
  refine tk_get hx hb hts inX0 hown hK hM (hP.e hk) rfl 3 (by decide) (hts (.fieldLink RX2 31 "TicketForge$Entry" "hours" "I") (by decide +kernel)) (fun _ h9 => h9) rfl dX2_fullPrice_1 ?_
  refine lv_aload_n hx hb dX2_fullPrice_4 rfl (lv_at hl 0 rfl) ?_
  refine lv_aload_n hx hb dX2_fullPrice_5 rfl (lv_at hl 1 rfl) ?_
  refine tk_get hx hb hts inX0 hown hK hM (hP.e hk) rfl 1 (by decide) (hts (.fieldLink RX2 36 "TicketForge$Entry" "person" "I") (by decide +kernel)) (fun _ h9 => h9) rfl dX2_fullPrice_6 ?_
  refine tk_cVi (As := [.int (M 10 k)]) S0 (c_X2_rateOf l A D ac dE _ hq ha (M 10 k)) (cwV 1 hts gX2_fullPrice_X2_rateOf rfl rfl rfl (by decide +kernel) ⟨Nat.le_of_ble_eq_true rfl, Nat.le_of_ble_eq_true rfl⟩) (tkX.blind) (tkX.at hM hK hA hF hO hS) (tk_recv hK hM hq rfl) rfl hl.1 rfl (Nat.le_of_ble_eq_true rfl) dX2_fullPrice_9 ⟨Nat.zero_le _, Nat.zero_le _⟩ (fun r_1 hr_1 => ?_)
  refine lv_imul hx hb dX2_fullPrice_12 ?_
  exact W.iret (v := ((M 12 k) * r_1)) hx hb hr (fun t9 h9 w9 => ⟨((M 12 k) * r_1), rfl, (by rw [hr_1]), h9⟩) (fun q hq => absurd hq List.not_mem_nil) dX2_fullPrice_13
set_option maxHeartbeats 4000000 in
set_option maxRecDepth 100000 in
theorem c_X2_discounted (l : Launch) (A : Nat → Prop) (D : va_G) (ac : Nat → ClassId) (dE : Nat) (G : TG) {q ra : Nat} {a b c0 : Int32} (hq : G q = some (.inr (5, rF ra a b c0))) (x y : Int32) : Met l yX2_discounted wsX2_discounted ({ frames := 0, cells := 0, slots := 0, locals := 60 } : Room) (va_Pc [.ref q, .int x, .int y] (tkX A D ac dE G)) (vp_Si (fun z => z = disc b c0 x y)) 0 0 (fun _ => False) := by
  refine Met.ofW (cc := cX2_discounted) (maxL := 3) (ret := (some .int)) (by decide) rfl ?_
  intro p e s m args below meth c s₁ B hml hv
  obtain ⟨rfl, ⟨hM, hK, hA, hF⟩, hO⟩ := hv
  have hS : va_S A s.heap s.heap [] := va_S.rf
  have hx := B.exec
  have hb := B.bytes
  have hr := B.returns
  have hts := atoms_spec (ws := wsX2_discounted) B.pre
  have hown : s.vm.findClass RX2 = some m.cls := findClass_of_methodNamed B.named
  have hlocks := B.notSynchronized
  have S0 : CallFix p m c cX2_discounted 3 s ([.ref q, .int x, .int y] : List Value).toArray wsX2_discounted RX2 := ⟨hx, hb, hml, hown, hts⟩
  have inX2 : ∀ w ∈ wsX20, w ∈ wsX2_discounted := by decide +kernel
  have hl := lv_entry ([.ref q, .int x, .int y]) (n := 3) (Nat.le_of_ble_eq_true rfl)
  rw [lg_entry_eq]
  generalize (lg_sl ([.ref q, .int x, .int y]) ++ List.replicate (3 - (lg_sl ([.ref q, .int x, .int y])).length) Slot.unset).toArray = ls at hl ⊢
  have hl : lv_has ls 3 [(0, .ref q), (1, .int x), (2, .int y)] := hl
  refine lv_iload_n hx hb dX2_discounted_0 rfl (lv_at hl 2 rfl) ?_
  refine lv_aload_n hx hb dX2_discounted_1 rfl (lv_at hl 0 rfl) ?_
  refine tk_get hx hb hts inX2 hown hK hM hq rfl 2 (by decide) (hts (.fieldLink RX2 17 "TicketForge$Rules" "discountFrom" "I") (by decide +kernel)) (fun _ h9 => h9) rfl dX2_discounted_2 ?_
  refine lv_icmp_lt (tgt := 23) hx hb dX2_discounted_5 (by decide) (fun c_1 => ?_) (fun c_1 => ?_)
  · skip
    refine lv_iload_n hx hb dX2_discounted_23 rfl (lv_at hl 1 rfl) ?_
    exact W.iret (v := x) hx hb hr (fun t9 h9 w9 => ⟨x, rfl, (by rw [disc, if_neg (Int32.not_le.mpr c_1)]), h9⟩) (fun q hq => absurd hq List.not_mem_nil) dX2_discounted_24
  · skip
    refine lv_iload_n hx hb dX2_discounted_8 rfl (lv_at hl 1 rfl) ?_
    refine lv_bipush (v := 100) hx hb dX2_discounted_9 (by decide) ?_
    refine lv_aload_n hx hb dX2_discounted_11 rfl (lv_at hl 0 rfl) ?_
    refine tk_get hx hb hts inX2 hown hK hM hq rfl 3 (by decide) (hts (.fieldLink RX2 20 "TicketForge$Rules" "discountPercent" "I") (by decide +kernel)) (fun _ h9 => h9) rfl dX2_discounted_12 ?_
    refine lv_isub hx hb dX2_discounted_15 ?_
    refine lv_imul hx hb dX2_discounted_16 ?_
    refine lv_bipush (v := 100) hx hb dX2_discounted_17 (by decide) ?_
    refine lv_idiv hx hb dX2_discounted_19 (by decide) ?_
    refine lv_goto (tgt := 24) hx hb dX2_discounted_20 (by decide) ?_
    exact W.iret (v := ((x * (100 - c0)) / 100)) hx hb hr (fun t9 h9 w9 => ⟨((x * (100 - c0)) / 100), rfl, (by rw [disc, if_pos (Int32.not_lt.mp c_1)]), h9⟩) (fun q hq => absurd hq List.not_mem_nil) dX2_discounted_24
