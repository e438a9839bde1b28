/-! constructors: lists, the class -/
section TKMS
variable {p : Program} {l : Launch} {e : Env} {R : Room} {s : State} {m : MethodId} {args : Array Value} {below : List Frame} {meth : Method} {c : Code} {H : Heap} {locs : List Loc} {cells slots : Nat} {Q : State → Prop}
variable {y : MethodName} {bytes cc : ByteArray} {maxL nL mc ms n index pc : Nat} {ret : Option FieldType} {ws : List Cond} {rm : Room} {Ts : List Cond} {own C : String} {b : Addr} {As rest st0 : List Value} {ls : Array Slot} {I : State → Prop} {A : Nat → Prop} {D : va_G} {H0 : Heap}
theorem tk_mSv {post : TG → Prop} (S : CallFix p m c cc nL s args Ts own) (hM : Met l y ws rm (va_Pc As I) (va_Qv post (fun (G' : TG) t => tkM A D G' t.heap) A) mc ms A) (cw : CallB R s args own index y bytes maxL ret ws rm mc ms n ∧ (Cond.static y).before args s = true) (hbl : ∀ U g mk a, I U → I (U.calling g mk a)) (hI : ∀ U : State, U.heap = H → s.WarmedH U.vm → I U)
    (hn : As.length = n) (hsize : ls.size = nL) (hst : st0 = As.reverse ++ rest) (hW : (rest.map fun v => v.category).sum ≤ 8) (hdg : decode cc pc = .ok (.invokestatic index, 3)) (hf : cells + mc ≤ R.cells ∧ slots + ms ≤ R.slots) (hS : va_S A H0 H locs)
    (kk : ∀ (G' : TG) (H1 : Heap) (locs1 : List Loc), post G' → tkM A D G' H1 → va_S A H0 H1 locs1 → W p l e R s m args below meth c H1 locs1 (cells + mc) (slots + ms) Q (F0 m (pc + 3) ls rest)) : W p l e R s m args below meth c H locs cells slots Q (F0 m pc ls st0) :=
  va_callv (va_runS (rest := rest) S hM cw ⟨fun a U g mk q => ⟨q.1, hbl U g mk a q.2⟩, fun U hU hW => ⟨rfl, hI U hU hW⟩⟩ rfl hn hsize hst (lv_room hW) hdg hf) hS (fun q _ h => h) (fun q h => h) (fun u t H1 locs1 ht _ hp hB _ _ hS1 => kk u H1 locs1 hp (by rw [← ht]; exact hB) hS1)
end TKMS
set_option maxHeartbeats 4000000 in
set_option maxRecDepth 100000 in
theorem c_Jxa1e45_init_da8c8 (l : Launch) (A : Nat → Prop) (D : va_G) (ac : Nat → ClassId) (dE : Nat) (G : TG) {q : Nat} : Met l yJxa1e45_init_da8c8 wsJxa1e45_init_da8c8 ({ frames := 1, cells := 0, slots := 0, locals := 100 } : Room) (va_Pc [.ref q] (tkX A D ac dE G)) (va_Qv (fun G9 => G9 = G) (fun (G9 : TG) t => tkM A D G9 t.heap) A) 0 0 A := by
  refine Met.ofW (cc := cJxa1e45_init_da8c8) (maxL := 1) (ret := none) (by decide) rfl ?_
  intro p e s m args below meth c s₁ B hml hv
  obtain ⟨rfl, ⟨hM, hK, hA, hF⟩, hO⟩ := hv
  have hS : va_S A s.heap s.heap [] := va_S.rf
  have hin : meth.name = "<init>" := (name_of_methodNamed B.named B.method).1
  have hx := B.exec
  have hb := B.bytes
  have hr := B.returns
  have hts := atoms_spec (ws := wsJxa1e45_init_da8c8) B.pre
  have hown : s.vm.findClass RJxa1e45 = some m.cls := findClass_of_methodNamed B.named
  have hlocks := B.notSynchronized
  have S0 : CallFix p m c cJxa1e45_init_da8c8 1 s ([.ref q] : List Value).toArray wsJxa1e45_init_da8c8 RJxa1e45 := ⟨hx, hb, hml, hown, hts⟩
  have hl := lv_entry ([.ref q]) (n := 1) (Nat.le_of_ble_eq_true rfl)
  rw [lg_entry_eq]
  generalize (lg_sl ([.ref q]) ++ List.replicate (1 - (lg_sl ([.ref q])).length) Slot.unset).toArray = ls at hl ⊢
  have hl : lv_has ls 1 [(0, .ref q)] := hl
  refine lv_aload_n hx hb dJxa1e45_init_da8c8_0 rfl (lv_at hl 0 rfl) ?_
  refine W.objInit hx hb hown (hts (.methodLink RJxa1e45 1 objectInit) (by decide +kernel)) (hts (.instanceMethod objectInit) (by decide +kernel)) (hts (.code objectInit ⟨#[0xb1]⟩ 1 none) (by decide +kernel)) rfl (hl.1.trans hml.symm) rfl dJxa1e45_init_da8c8_1 (Nat.le_of_ble_eq_true rfl) (Nat.le_of_ble_eq_true rfl) ?_
  exact W.vret hx hb hr (fun t9 h9 w9 => ⟨⟨_, rfl, rfl, (by show tkM A D _ _; rw [h9]; exact hM)⟩, hS.F h9⟩) hS.2.2 dJxa1e45_init_da8c8_4
set_option maxHeartbeats 4000000 in
set_option maxRecDepth 100000 in
theorem c_Jxc12de_init_da8c8 (l : Launch) (A : Nat → Prop) (D : va_G) (ac : Nat → ClassId) (dE : Nat) (G : TG) {q : Nat} (hq : G q = some (.inr (2, [.int 0, .null, .int 0]))) : Met l yJxc12de_init_da8c8 wsJxc12de_init_da8c8 ({ frames := 2, cells := 0, slots := 0, locals := 140 } : Room) (va_Pc [.ref q] (tkX A D ac dE G)) (va_Qv (fun G9 => G9 = va_up G q (some (.inr (2, [.int 0, .null, .int 0])))) (fun (G9 : TG) t => tkM A D G9 t.heap) A) 0 0 A := by
  refine Met.ofW (cc := cJxc12de_init_da8c8) (maxL := 1) (ret := none) (by decide) rfl ?_
  intro p e s m args below meth c s₁ B hml hv
  obtain ⟨rfl, ⟨hM, hK, hA, hF⟩, hO⟩ := hv
  have hS : va_S A s.heap s.heap [] := va_S.rf
  have hin : meth.name = "<init>" := (name_of_methodNamed B.named B.method).1
  have hx := B.exec
  have hb := B.bytes
  have hr := B.returns
  have hts := atoms_spec (ws := wsJxc12de_init_da8c8) B.pre
  have hown : s.vm.findClass RJxc12de = some m.cls := findClass_of_methodNamed B.named
  have hlocks := B.notSynchronized
  have S0 : CallFix p m c cJxc12de_init_da8c8 1 s ([.ref q] : List Value).toArray wsJxc12de_init_da8c8 RJxc12de := ⟨hx, hb, hml, hown, hts⟩
  have inJx4a65c : ∀ w ∈ wsJx4a65c0, w ∈ wsJxc12de_init_da8c8 := by decide +kernel
  have hl := lv_entry ([.ref q]) (n := 1) (Nat.le_of_ble_eq_true rfl)
  rw [lg_entry_eq]
  generalize (lg_sl ([.ref q]) ++ List.replicate (1 - (lg_sl ([.ref q])).length) Slot.unset).toArray = ls at hl ⊢
  have hl : lv_has ls 1 [(0, .ref q)] := hl
  refine lv_aload_n hx hb dJxc12de_init_da8c8_0 rfl (lv_at hl 0 rfl) ?_
  refine tk_mIv (As := []) S0 (c_Jxa1e45_init_da8c8 l A D ac dE _) (cwI 0 hts gJxc12de_init_da8c8_Jxa1e45_init_da8c8 rfl rfl rfl (hts (.initialized RJxa1e45) (by decide +kernel)) (hts (.methodLink RJxc12de 1 yJxa1e45_init_da8c8) (by decide +kernel)) (hts (.instanceMethod yJxa1e45_init_da8c8) (by decide +kernel)) rfl (by decide +kernel) ⟨Nat.le_of_ble_eq_true rfl, Nat.le_of_ble_eq_true rfl⟩) (tkX.blind) (tkX.at hM hK hA hF hO hS) rfl hl.1 rfl (Nat.le_of_ble_eq_true rfl) dJxc12de_init_da8c8_1 ⟨Nat.le_of_ble_eq_true rfl, Nat.le_of_ble_eq_true rfl⟩ hS (fun G9 H locs hG9 hM hS => ?_)
  rw [hG9] at hM
  refine lv_aload_n hx hb dJxc12de_init_da8c8_4 rfl (lv_at hl 0 rfl) ?_
  refine lv_iconst (v := 0) hx hb dJxc12de_init_da8c8_5 (by decide) ?_
  refine tk_put (ty := .int) (v := .int 0) hx hb hts inJx4a65c tyJx4a65c tyJx4a65c_ok nmJx4a65c hown hK hM hS hq rfl 0 (by decide) (hts (.fieldLink RJxc12de 7 "java/util/AbstractList" "modCount" "I") (by decide +kernel)) (fun _ h9 => h9) rfl (by decide +kernel) rfl rfl (Nat.le_of_ble_eq_true rfl) dJxc12de_init_da8c8_6 (fun H locs hM hS => ?_)
  refine W.widen (k := 0) (n := 0) (Nat.le_of_ble_eq_true rfl) (Nat.le_of_ble_eq_true rfl) ?_
  exact W.vret hx hb hr (fun t9 h9 w9 => ⟨⟨_, rfl, rfl, (by show tkM A D _ _; rw [h9]; exact hM)⟩, hS.F h9⟩) hS.2.2 dJxc12de_init_da8c8_9
set_option maxHeartbeats 4000000 in
set_option maxRecDepth 100000 in
theorem c_Jx4a65c_init_da8c8 (l : Launch) (A : Nat → Prop) (D : va_G) (ac : Nat → ClassId) (dE : Nat) (G : TG) {q : Nat} (hq : G q = some (.inr (2, [.int 0, .null, .int 0]))) : Met l yJx4a65c_init_da8c8 wsJx4a65c_init_da8c8 ({ frames := 3, cells := 0, slots := 0, locals := 180 } : Room) (va_Pc [.ref q] (tkX A D ac dE G)) (va_Qv (fun G9 => G9 = va_up G q (some (.inr (2, [.int 0, .ref dE, .int 0])))) (fun (G9 : TG) t => tkM A D G9 t.heap) A) 0 0 A := by
  refine Met.ofW (cc := cJx4a65c_init_da8c8) (maxL := 1) (ret := none) (by decide) rfl ?_
  intro p e s m args below meth c s₁ B hml hv
  obtain ⟨rfl, ⟨hM, hK, hA, hF⟩, hO⟩ := hv
  have hS : va_S A s.heap s.heap [] := va_S.rf
  have hin : meth.name = "<init>" := (name_of_methodNamed B.named B.method).1
  have hx := B.exec
  have hb := B.bytes
  have hr := B.returns
  have hts := atoms_spec (ws := wsJx4a65c_init_da8c8) B.pre
  have hown : s.vm.findClass RJx4a65c = some m.cls := findClass_of_methodNamed B.named
  have hlocks := B.notSynchronized
  have S0 : CallFix p m c cJx4a65c_init_da8c8 1 s ([.ref q] : List Value).toArray wsJx4a65c_init_da8c8 RJx4a65c := ⟨hx, hb, hml, hown, hts⟩
  have inJx4a65c : ∀ w ∈ wsJx4a65c0, w ∈ wsJx4a65c_init_da8c8 := by decide +kernel
  have hl := lv_entry ([.ref q]) (n := 1) (Nat.le_of_ble_eq_true rfl)
  rw [lg_entry_eq]
  generalize (lg_sl ([.ref q]) ++ List.replicate (1 - (lg_sl ([.ref q])).length) Slot.unset).toArray = ls at hl ⊢
  have hl : lv_has ls 1 [(0, .ref q)] := hl
  refine lv_aload_n hx hb dJx4a65c_init_da8c8_0 rfl (lv_at hl 0 rfl) ?_
  refine tk_mIv (As := []) S0 (c_Jxc12de_init_da8c8 l A D ac dE _ hq) (cwI 0 hts gJx4a65c_init_da8c8_Jxc12de_init_da8c8 rfl rfl rfl (hts (.initialized RJxc12de) (by decide +kernel)) (hts (.methodLink RJx4a65c 1 yJxc12de_init_da8c8) (by decide +kernel)) (hts (.instanceMethod yJxc12de_init_da8c8) (by decide +kernel)) rfl (by decide +kernel) ⟨Nat.le_of_ble_eq_true rfl, Nat.le_of_ble_eq_true rfl⟩) (tkX.blind) (tkX.at hM hK hA hF hO hS) rfl hl.1 rfl (Nat.le_of_ble_eq_true rfl) dJx4a65c_init_da8c8_1 ⟨Nat.le_of_ble_eq_true rfl, Nat.le_of_ble_eq_true rfl⟩ hS (fun G9 H locs hG9 hM hS => ?_)
  subst hG9
  refine lv_aload_n hx hb dJx4a65c_init_da8c8_4 rfl (lv_at hl 0 rfl) ?_
  refine va_gets (v := .ref dE) hx hb hO.1 hS hown (hts (.fieldLink RJx4a65c 39 "java/util/ArrayList" "DEFAULTCAPACITY_EMPTY_ELEMENTDATA" "[Ljava/lang/Object;") (by decide +kernel)) (fun _ h9 => h9) dJx4a65c_init_da8c8_5 ?_
  refine tk_put (ty := (.array (.object "java/lang/Object"))) (v := .ref dE) hx hb hts inJx4a65c tyJx4a65c tyJx4a65c_ok nmJx4a65c hown hK hM hS (va_up_self _ _ _) rfl 1 (by decide) (hts (.fieldLink RJx4a65c 9 "java/util/ArrayList" "elementData" "[Ljava/lang/Object;") (by decide +kernel)) (fun _ h9 => h9) rfl (by decide +kernel) rfl rfl (Nat.le_of_ble_eq_true rfl) dJx4a65c_init_da8c8_8 (fun H locs hM hS => ?_)
  rw [va_up2] at hM
  refine W.widen (k := 0) (n := 0) (Nat.le_of_ble_eq_true rfl) (Nat.le_of_ble_eq_true rfl) ?_
  exact W.vret hx hb hr (fun t9 h9 w9 => ⟨⟨_, rfl, rfl, (by show tkM A D _ _; rw [h9]; exact hM)⟩, hS.F h9⟩) hS.2.2 dJx4a65c_init_da8c8_11
def al0 (dE q1 q2 q3 q4 q5 : Nat) : Nat → Nat → Nat := fun i j => if i = 0 then (if j = 0 then q1 else if j = 1 then q2 else if j = 2 then q3 else if j = 3 then q5 else if j = 4 then q4 else dE) else 0
theorem PX.first {ac : Nat → ClassId} {dE h0 q1 q2 q3 q4 q5 : Nat} {G : TG} (e0 : G h0 = some (.inr (7, [.ref q1, .ref q2, .ref q3, .ref q5, .int 40, .int 0, .int 0]))) (e1 : G q1 = some (.inr (2, [.int 0, .ref dE, .int 0]))) (e2 : G q2 = some (.inr (2, [.int 0, .ref dE, .int 0]))) (e3 : G q3 = some (.inr (2, [.int 0, .ref dE, .int 0]))) (e4 : G q4 = some (.inl (ac 1, 4, .inl (fillF (fun _ => 0) 50 4)))) (e5 : G q5 = some (.inr (5, [.ref q4, .int 40, .int 0, .int 0]))) (n12 : q1 ≠ q2) (n13 : q1 ≠ q3) (n23 : q2 ≠ q3) : PX ac dE h0 (al0 dE q1 q2 q3 q4 q5) (MI 4) (nV (MI 4)) G := by
  have eT : nT (MI 4) = 0 := rfl
  have eE : nE (MI 4) = 0 := rfl
  have eV : nV (MI 4) = 0 := rfl
  refine ⟨⟨e0, ⟨⟨0, by rw [eT]; exact e1⟩, Or.inl ⟨eT, rfl⟩⟩, ⟨⟨0, by rw [eE]; exact e2⟩, Or.inl ⟨eE, rfl⟩⟩, ⟨⟨0, by rw [eV]; exact e3⟩, Or.inl ⟨eV, rfl⟩⟩⟩, ⟨e5, e4⟩, ?_, ?_, ?_, ⟨?_, ?_, ?_⟩, ⟨?_, ?_, n12, n13, n23⟩, ?_, ?_, ?_⟩
  · intro i hi; rw [eT] at hi; exact absurd hi (Nat.not_lt_zero _)
  · intro i hi; rw [eE] at hi; exact absurd hi (Nat.not_lt_zero _)
  · intro i hi; rw [eV] at hi; exact absurd hi (Nat.not_lt_zero _)
  · intro i j hi; rw [eT] at hi; exact absurd hi (Nat.not_lt_zero _)
  · intro i j hi; rw [eE] at hi; exact absurd hi (Nat.not_lt_zero _)
  · intro i j hi; rw [eV] at hi; exact absurd hi (Nat.not_lt_zero _)
  · intro i hi; rw [eV] at hi; exact absurd hi (Nat.not_lt_zero _)
  · intro i hi; rw [eV] at hi; exact absurd hi (Nat.not_lt_zero _)
  · intro hi; rw [eT] at hi; exact absurd hi (Nat.not_lt_zero _)
  · intro hi; rw [eT] at hi; exact absurd hi (Nat.not_lt_zero _)
  · intro hi; rw [eE] at hi; exact absurd hi (Nat.not_lt_zero _)
set_option maxHeartbeats 4000000 in
set_option maxRecDepth 100000 in
theorem c_X4_init (l : Launch) (A : Nat → Prop) (D : va_G) (ac : Nat → ClassId) (dE : Nat) (G : TG) {h0 : Nat} (hq : G h0 = some (.inr (7, [.null, .null, .null, .null, .int 0, .int 0, .int 0]))) : Met l yX4_init wsX4_init ({ frames := 4, cells := 5, slots := 17, locals := 220 } : Room) (va_Pc [.ref h0] (tkX A D ac dE G)) (va_Qv (fun G9 => ∃ α : Nat → Nat → Nat, PX ac dE h0 α (MI 4) (nV (MI 4)) G9) (fun (G9 : TG) t => tkM A D G9 t.heap) A) 5 17 A := by
  refine Met.ofW (cc := cX4_init) (maxL := 2) (ret := none) (by decide) rfl ?_
  intro p e s m args below meth c s₁ B hml hv
  obtain ⟨rfl, ⟨hM, hK, hA, hF⟩, hO⟩ := hv
  have hS : va_S A s.heap s.heap [] := va_S.rf
  have hin : meth.name = "<init>" := (name_of_methodNamed B.named B.method).1
  have hx := B.exec
  have hb := B.bytes
  have hr := B.returns
  have hts := atoms_spec (ws := wsX4_init) B.pre
  have hown : s.vm.findClass RX4 = some m.cls := findClass_of_methodNamed B.named
  have hlocks := B.notSynchronized
  have S0 : CallFix p m c cX4_init 2 s ([.ref h0] : List Value).toArray wsX4_init RX4 := ⟨hx, hb, hml, hown, hts⟩
  have inX4 : ∀ w ∈ wsX40, w ∈ wsX4_init := by decide +kernel
  have inJx4a65c : ∀ w ∈ wsJx4a65c0, w ∈ wsX4_init := by decide +kernel
  have inX2 : ∀ w ∈ wsX20, w ∈ wsX4_init := by decide +kernel
  have hl := lv_entry ([.ref h0]) (n := 2) (Nat.le_of_ble_eq_true rfl)
  rw [lg_entry_eq]
  generalize (lg_sl ([.ref h0]) ++ List.replicate (2 - (lg_sl ([.ref h0])).length) Slot.unset).toArray = ls at hl ⊢
  have hl : lv_has ls 2 [(0, .ref h0)] := hl
  refine lv_aload_n hx hb dX4_init_0 rfl (lv_at hl 0 rfl) ?_
  refine W.objInit hx hb hown (hts (.methodLink RX4 3 objectInit) (by decide +kernel)) (hts (.instanceMethod objectInit) (by decide +kernel)) (hts (.code objectInit ⟨#[0xb1]⟩ 1 none) (by decide +kernel)) rfl (hl.1.trans hml.symm) rfl dX4_init_1 (Nat.le_of_ble_eq_true rfl) (Nat.le_of_ble_eq_true rfl) ?_
  refine lv_aload_n hx hb dX4_init_4 rfl (lv_at hl 0 rfl) ?_
  refine tk_new hx hb hts inJx4a65c tyJx4a65c tyJx4a65c_ok hown (hts (.classLink RX4 9 RJx4a65c) (by decide +kernel)) (hts (.instantiable RJx4a65c 3) (by decide +kernel)) (hts (.initialized RJx4a65c) (by decide +kernel)) hK hM hS hA (ci := 2) rfl (fs := [.int 0, .null, .int 0]) (by decide) (Nat.le_of_ble_eq_true rfl) (Nat.le_of_ble_eq_true rfl) dX4_init_5 (fun q1 H hn hz hM hS => ?_)
  have d_q1 : h0 ≠ q1 := fun h9 => by rw [h9] at hq; rw [hq] at hn; cases hn
  have hq := (va_up_ne _ (some (.inr (2, [.int 0, .null, .int 0]))) d_q1).trans hq
  refine lv_dup hx hb dX4_init_8 rfl ?_
  refine tk_mIv (As := []) S0 (c_Jx4a65c_init_da8c8 l A D ac dE _ (va_up_self _ _ _)) (cwI 0 hts gX4_init_Jx4a65c_init_da8c8 rfl rfl rfl (hts (.initialized RJx4a65c) (by decide +kernel)) (hts (.methodLink RX4 11 yJx4a65c_init_da8c8) (by decide +kernel)) (hts (.instanceMethod yJx4a65c_init_da8c8) (by decide +kernel)) rfl (by decide +kernel) ⟨Nat.le_of_ble_eq_true rfl, Nat.le_of_ble_eq_true rfl⟩) (tkX.blind) (tkX.at hM hK hA hF hO hS) rfl hl.1 rfl (Nat.le_of_ble_eq_true rfl) dX4_init_9 ⟨Nat.le_of_ble_eq_true rfl, Nat.le_of_ble_eq_true rfl⟩ hS (fun G9 H locs hG9 hM hS => ?_)
  subst hG9
  rw [va_up2] at hM
  rw [va_up_ne _ _ d_q1] at hq
  have hq := (va_up_ne _ (some (.inr (2, [.int 0, .ref dE, .int 0]))) d_q1).trans hq
  refine tk_putF (ty := (.object "java/util/ArrayList")) (v := .ref q1) hx hb hts inX4 tyX4 tyX4_ok nmX4 hown hK hM hS hq rfl 0 (by decide) (hts (.fieldLink RX4 12 "TicketForge" "taskList" "Ljava/util/ArrayList;") (by decide +kernel)) (fun _ h9 => h9) rfl hin rfl (by decide +kernel) rfl rfl (Nat.le_of_ble_eq_true rfl) dX4_init_12 (fun H locs hM hS => ?_)
  obtain ⟨G1, hM, hq, f_q1⟩ : ∃ G9 : TG, tkM A D G9 H ∧ G9 h0 = some (.inr (7, [.ref q1, .null, .null, .null, .int 0, .int 0, .int 0])) ∧ G9 q1 = some (.inr (2, [.int 0, .ref dE, .int 0])) := ⟨_, hM, va_up_self _ _ _, (va_up_ne _ _ (Ne.symm d_q1)).trans (va_up_self _ _ _)⟩
  refine lv_aload_n hx hb dX4_init_15 rfl (lv_at hl 0 rfl) ?_
  refine tk_new hx hb hts inJx4a65c tyJx4a65c tyJx4a65c_ok hown (hts (.classLink RX4 9 RJx4a65c) (by decide +kernel)) (hts (.instantiable RJx4a65c 3) (by decide +kernel)) (hts (.initialized RJx4a65c) (by decide +kernel)) hK hM hS hA (ci := 2) rfl (fs := [.int 0, .null, .int 0]) (by decide) (Nat.le_of_ble_eq_true rfl) (Nat.le_of_ble_eq_true rfl) dX4_init_16 (fun q2 H hn hz hM hS => ?_)
  have d_q2 : h0 ≠ q2 := fun h9 => by rw [h9] at hq; rw [hq] at hn; cases hn
  have hq := (va_up_ne _ (some (.inr (2, [.int 0, .null, .int 0]))) d_q2).trans hq
  have d_q1_q2 : q1 ≠ q2 := fun h9 => by rw [h9] at f_q1; rw [f_q1] at hn; cases hn
  have f_q1 := (va_up_ne _ (some (.inr (2, [.int 0, .null, .int 0]))) d_q1_q2).trans f_q1
  refine lv_dup hx hb dX4_init_19 rfl ?_
  refine tk_mIv (As := []) S0 (c_Jx4a65c_init_da8c8 l A D ac dE _ (va_up_self _ _ _)) (cwI 0 hts gX4_init_Jx4a65c_init_da8c8 rfl rfl rfl (hts (.initialized RJx4a65c) (by decide +kernel)) (hts (.methodLink RX4 11 yJx4a65c_init_da8c8) (by decide +kernel)) (hts (.instanceMethod yJx4a65c_init_da8c8) (by decide +kernel)) rfl (by decide +kernel) ⟨Nat.le_of_ble_eq_true rfl, Nat.le_of_ble_eq_true rfl⟩) (tkX.blind) (tkX.at hM hK hA hF hO hS) rfl hl.1 rfl (Nat.le_of_ble_eq_true rfl) dX4_init_20 ⟨Nat.le_of_ble_eq_true rfl, Nat.le_of_ble_eq_true rfl⟩ hS (fun G9 H locs hG9 hM hS => ?_)
  subst hG9
  rw [va_up2] at hM
  rw [va_up_ne _ _ d_q2] at hq
  rw [va_up_ne _ _ d_q1_q2] at f_q1
  have hq := (va_up_ne _ (some (.inr (2, [.int 0, .ref dE, .int 0]))) d_q2).trans hq
  have f_q1 := (va_up_ne _ (some (.inr (2, [.int 0, .ref dE, .int 0]))) d_q1_q2).trans f_q1
  refine tk_putF (ty := (.object "java/util/ArrayList")) (v := .ref q2) hx hb hts inX4 tyX4 tyX4_ok nmX4 hown hK hM hS hq rfl 1 (by decide) (hts (.fieldLink RX4 16 "TicketForge" "entryList" "Ljava/util/ArrayList;") (by decide +kernel)) (fun _ h9 => h9) rfl hin rfl (by decide +kernel) rfl rfl (Nat.le_of_ble_eq_true rfl) dX4_init_23 (fun H locs hM hS => ?_)
  have f_q1 := (va_up_ne _ (some (.inr (7, [.ref q1, .ref q2, .null, .null, .int 0, .int 0, .int 0]))) (Ne.symm d_q1)).trans f_q1
  obtain ⟨G2, hM, hq, f_q1, f_q2⟩ : ∃ G9 : TG, tkM A D G9 H ∧ G9 h0 = some (.inr (7, [.ref q1, .ref q2, .null, .null, .int 0, .int 0, .int 0])) ∧ G9 q1 = some (.inr (2, [.int 0, .ref dE, .int 0])) ∧ G9 q2 = some (.inr (2, [.int 0, .ref dE, .int 0])) := ⟨_, hM, va_up_self _ _ _, f_q1, (va_up_ne _ _ (Ne.symm d_q2)).trans (va_up_self _ _ _)⟩
  refine lv_aload_n hx hb dX4_init_26 rfl (lv_at hl 0 rfl) ?_
  refine tk_new hx hb hts inJx4a65c tyJx4a65c tyJx4a65c_ok hown (hts (.classLink RX4 9 RJx4a65c) (by decide +kernel)) (hts (.instantiable RJx4a65c 3) (by decide +kernel)) (hts (.initialized RJx4a65c) (by decide +kernel)) hK hM hS hA (ci := 2) rfl (fs := [.int 0, .null, .int 0]) (by decide) (Nat.le_of_ble_eq_true rfl) (Nat.le_of_ble_eq_true rfl) dX4_init_27 (fun q3 H hn hz hM hS => ?_)
  have d_q3 : h0 ≠ q3 := fun h9 => by rw [h9] at hq; rw [hq] at hn; cases hn
  have hq := (va_up_ne _ (some (.inr (2, [.int 0, .null, .int 0]))) d_q3).trans hq
  have d_q1_q3 : q1 ≠ q3 := fun h9 => by rw [h9] at f_q1; rw [f_q1] at hn; cases hn
  have f_q1 := (va_up_ne _ (some (.inr (2, [.int 0, .null, .int 0]))) d_q1_q3).trans f_q1
  have d_q2_q3 : q2 ≠ q3 := fun h9 => by rw [h9] at f_q2; rw [f_q2] at hn; cases hn
  have f_q2 := (va_up_ne _ (some (.inr (2, [.int 0, .null, .int 0]))) d_q2_q3).trans f_q2
  refine lv_dup hx hb dX4_init_30 rfl ?_
  refine tk_mIv (As := []) S0 (c_Jx4a65c_init_da8c8 l A D ac dE _ (va_up_self _ _ _)) (cwI 0 hts gX4_init_Jx4a65c_init_da8c8 rfl rfl rfl (hts (.initialized RJx4a65c) (by decide +kernel)) (hts (.methodLink RX4 11 yJx4a65c_init_da8c8) (by decide +kernel)) (hts (.instanceMethod yJx4a65c_init_da8c8) (by decide +kernel)) rfl (by decide +kernel) ⟨Nat.le_of_ble_eq_true rfl, Nat.le_of_ble_eq_true rfl⟩) (tkX.blind) (tkX.at hM hK hA hF hO hS) rfl hl.1 rfl (Nat.le_of_ble_eq_true rfl) dX4_init_31 ⟨Nat.le_of_ble_eq_true rfl, Nat.le_of_ble_eq_true rfl⟩ hS (fun G9 H locs hG9 hM hS => ?_)
  subst hG9
  rw [va_up2] at hM
  rw [va_up_ne _ _ d_q3] at hq
  rw [va_up_ne _ _ d_q1_q3] at f_q1
  rw [va_up_ne _ _ d_q2_q3] at f_q2
  have hq := (va_up_ne _ (some (.inr (2, [.int 0, .ref dE, .int 0]))) d_q3).trans hq
  have f_q1 := (va_up_ne _ (some (.inr (2, [.int 0, .ref dE, .int 0]))) d_q1_q3).trans f_q1
  have f_q2 := (va_up_ne _ (some (.inr (2, [.int 0, .ref dE, .int 0]))) d_q2_q3).trans f_q2
  refine tk_putF (ty := (.object "java/util/ArrayList")) (v := .ref q3) hx hb hts inX4 tyX4 tyX4_ok nmX4 hown hK hM hS hq rfl 2 (by decide) (hts (.fieldLink RX4 19 "TicketForge" "invoiceList" "Ljava/util/ArrayList;") (by decide +kernel)) (fun _ h9 => h9) rfl hin rfl (by decide +kernel) rfl rfl (Nat.le_of_ble_eq_true rfl) dX4_init_34 (fun H locs hM hS => ?_)
  have f_q1 := (va_up_ne _ (some (.inr (7, [.ref q1, .ref q2, .ref q3, .null, .int 0, .int 0, .int 0]))) (Ne.symm d_q1)).trans f_q1
  have f_q2 := (va_up_ne _ (some (.inr (7, [.ref q1, .ref q2, .ref q3, .null, .int 0, .int 0, .int 0]))) (Ne.symm d_q2)).trans f_q2
  obtain ⟨G3, hM, hq, f_q1, f_q2, f_q3⟩ : ∃ G9 : TG, tkM A D G9 H ∧ G9 h0 = some (.inr (7, [.ref q1, .ref q2, .ref q3, .null, .int 0, .int 0, .int 0])) ∧ G9 q1 = some (.inr (2, [.int 0, .ref dE, .int 0])) ∧ G9 q2 = some (.inr (2, [.int 0, .ref dE, .int 0])) ∧ G9 q3 = some (.inr (2, [.int 0, .ref dE, .int 0])) := ⟨_, hM, va_up_self _ _ _, f_q1, f_q2, (va_up_ne _ _ (Ne.symm d_q3)).trans (va_up_self _ _ _)⟩
  refine lv_iconst (v := 4) hx hb dX4_init_37 (by decide) ?_
  refine tk_newint (N' := 4) hx hb (hts (.arrayClass .int) (by decide +kernel)) hK hM hS hA (by decide) (by decide) (Nat.le_of_ble_eq_true rfl) (Nat.le_of_ble_eq_true rfl) (Nat.le_of_ble_eq_true rfl) dX4_init_38 (fun q4 H hn hz hM hS => ?_)
  have d4_h0 : h0 ≠ q4 := fun h9 => by rw [h9] at hq; rw [hq] at hn; cases hn
  have d4_q1 : q1 ≠ q4 := fun h9 => by rw [h9] at f_q1; rw [f_q1] at hn; cases hn
  have d4_q2 : q2 ≠ q4 := fun h9 => by rw [h9] at f_q2; rw [f_q2] at hn; cases hn
  have d4_q3 : q3 ≠ q4 := fun h9 => by rw [h9] at f_q3; rw [f_q3] at hn; cases hn
  refine lv_astore_n (lv' := [(1, .ref q4), (0, .ref h0)]) hx hb dX4_init_40 rfl hl (by decide) rfl (fun ls hl => ?_)
  refine lv_aload_n hx hb dX4_init_41 rfl (lv_at hl 0 rfl) ?_
  refine lv_bipush (v := 50) hx hb dX4_init_42 (by decide) ?_
  refine tk_mSv (As := [.ref q4, .int 50]) S0 (c_J7_fill_53178 l A D ac dE _ (va_up_self _ _ _) (by decide) 50) (va_cwS 2 hts gX4_init_J7_fill_53178 rfl rfl rfl (by decide +kernel) ⟨Nat.le_of_ble_eq_true rfl, Nat.le_of_ble_eq_true rfl⟩) (tkX.blind) (tkX.at hM hK hA hF hO hS) rfl hl.1 rfl (Nat.le_of_ble_eq_true rfl) dX4_init_44 ⟨Nat.le_of_ble_eq_true rfl, Nat.le_of_ble_eq_true rfl⟩ hS (fun G9 H locs hG9 hM hS => ?_)
  subst hG9
  rw [va_up2] at hM
  have hq := (va_up_ne _ (some (.inl (ac 1, 4, .inl (fillF (fun _ => 0) 50 4)))) d4_h0).trans hq
  have f_q1 := (va_up_ne _ (some (.inl (ac 1, 4, .inl (fillF (fun _ => 0) 50 4)))) d4_q1).trans f_q1
  have f_q2 := (va_up_ne _ (some (.inl (ac 1, 4, .inl (fillF (fun _ => 0) 50 4)))) d4_q2).trans f_q2
  have f_q3 := (va_up_ne _ (some (.inl (ac 1, 4, .inl (fillF (fun _ => 0) 50 4)))) d4_q3).trans f_q3
  have f_q4 := va_up_self G3 q4 (some (.inl (ac 1, 4, .inl (fillF (fun _ => 0) 50 4))))
  obtain ⟨G4, hM, hq, f_q1, f_q2, f_q3, f_q4⟩ : ∃ G9 : TG, tkM A D G9 H ∧ G9 h0 = some (.inr (7, [.ref q1, .ref q2, .ref q3, .null, .int 0, .int 0, .int 0])) ∧ G9 q1 = some (.inr (2, [.int 0, .ref dE, .int 0])) ∧ G9 q2 = some (.inr (2, [.int 0, .ref dE, .int 0])) ∧ G9 q3 = some (.inr (2, [.int 0, .ref dE, .int 0])) ∧ G9 q4 = some (.inl (ac 1, 4, .inl (fillF (fun _ => 0) 50 4))) := ⟨_, hM, hq, f_q1, f_q2, f_q3, f_q4⟩
  refine lv_aload_n hx hb dX4_init_47 rfl (lv_at hl 1 rfl) ?_
  refine tk_new hx hb hts inX2 tyX2 tyX2_ok hown (hts (.classLink RX4 28 RX2) (by decide +kernel)) (hts (.instantiable RX2 4) (by decide +kernel)) (hts (.initialized RX2) (by decide +kernel)) hK hM hS hA (ci := 5) rfl (fs := [.null, .int 0, .int 0, .int 0]) (by decide) (Nat.le_of_ble_eq_true rfl) (Nat.le_of_ble_eq_true rfl) dX4_init_48 (fun q5 H hn hz hM hS => ?_)
  have d5_h0 : h0 ≠ q5 := fun h9 => by rw [h9] at hq; rw [hq] at hn; cases hn
  have d5_q1 : q1 ≠ q5 := fun h9 => by rw [h9] at f_q1; rw [f_q1] at hn; cases hn
  have d5_q2 : q2 ≠ q5 := fun h9 => by rw [h9] at f_q2; rw [f_q2] at hn; cases hn
  have d5_q3 : q3 ≠ q5 := fun h9 => by rw [h9] at f_q3; rw [f_q3] at hn; cases hn
  have d5_q4 : q4 ≠ q5 := fun h9 => by rw [h9] at f_q4; rw [f_q4] at hn; cases hn
  refine lv_dup hx hb dX4_init_51 rfl ?_
  refine lv_aload_n hx hb dX4_init_52 rfl (lv_at hl 0 rfl) ?_
  refine lv_bipush (v := 40) hx hb dX4_init_53 (by decide) ?_
  refine lv_iconst (v := 0) hx hb dX4_init_55 (by decide) ?_
  refine lv_iconst (v := 0) hx hb dX4_init_56 (by decide) ?_
  refine tk_mIv (As := [.ref q4, .int 40, .int 0, .int 0]) S0 (c_X2_init l A D ac dE _ (va_up_self _ _ _) q4 40 0 0) (cwI 4 hts gX4_init_X2_init rfl rfl rfl (hts (.initialized RX2) (by decide +kernel)) (hts (.methodLink RX4 30 yX2_init) (by decide +kernel)) (hts (.instanceMethod yX2_init) (by decide +kernel)) rfl (by decide +kernel) ⟨Nat.le_of_ble_eq_true rfl, Nat.le_of_ble_eq_true rfl⟩) (tkX.blind) (tkX.at hM hK hA hF hO hS) rfl hl.1 rfl (Nat.le_of_ble_eq_true rfl) dX4_init_57 ⟨Nat.le_of_ble_eq_true rfl, Nat.le_of_ble_eq_true rfl⟩ hS (fun G9 H locs hG9 hM hS => ?_)
  subst hG9
  rw [va_up2] at hM
  have hq := (va_up_ne _ (some (.inr (5, [.ref q4, .int 40, .int 0, .int 0]))) d5_h0).trans hq
  have f_q1 := (va_up_ne _ (some (.inr (5, [.ref q4, .int 40, .int 0, .int 0]))) d5_q1).trans f_q1
  have f_q2 := (va_up_ne _ (some (.inr (5, [.ref q4, .int 40, .int 0, .int 0]))) d5_q2).trans f_q2
  have f_q3 := (va_up_ne _ (some (.inr (5, [.ref q4, .int 40, .int 0, .int 0]))) d5_q3).trans f_q3
  have f_q4 := (va_up_ne _ (some (.inr (5, [.ref q4, .int 40, .int 0, .int 0]))) d5_q4).trans f_q4
  have f_q5 := va_up_self G4 q5 (some (.inr (5, [.ref q4, .int 40, .int 0, .int 0])))
  obtain ⟨G5, hM, hq, f_q1, f_q2, f_q3, f_q4, f_q5⟩ : ∃ G9 : TG, tkM A D G9 H ∧ G9 h0 = some (.inr (7, [.ref q1, .ref q2, .ref q3, .null, .int 0, .int 0, .int 0])) ∧ G9 q1 = some (.inr (2, [.int 0, .ref dE, .int 0])) ∧ G9 q2 = some (.inr (2, [.int 0, .ref dE, .int 0])) ∧ G9 q3 = some (.inr (2, [.int 0, .ref dE, .int 0])) ∧ G9 q4 = some (.inl (ac 1, 4, .inl (fillF (fun _ => 0) 50 4))) ∧ G9 q5 = some (.inr (5, [.ref q4, .int 40, .int 0, .int 0])) := ⟨_, hM, hq, f_q1, f_q2, f_q3, f_q4, f_q5⟩
  refine tk_putF (ty := (.object "TicketForge$Rules")) (v := .ref q5) hx hb hts inX4 tyX4 tyX4_ok nmX4 hown hK hM hS hq rfl 3 (by decide) (hts (.fieldLink RX4 33 "TicketForge" "rules" "LTicketForge$Rules;") (by decide +kernel)) (fun _ h9 => h9) rfl hin rfl (by decide +kernel) rfl rfl (Nat.le_of_ble_eq_true rfl) dX4_init_60 (fun H locs hM hS => ?_)
  have f_q1 := (va_up_ne _ (some (.inr (7, [.ref q1, .ref q2, .ref q3, .ref q5, .int 0, .int 0, .int 0]))) (Ne.symm d_q1)).trans f_q1
  have f_q2 := (va_up_ne _ (some (.inr (7, [.ref q1, .ref q2, .ref q3, .ref q5, .int 0, .int 0, .int 0]))) (Ne.symm d_q2)).trans f_q2
  have f_q3 := (va_up_ne _ (some (.inr (7, [.ref q1, .ref q2, .ref q3, .ref q5, .int 0, .int 0, .int 0]))) (Ne.symm d_q3)).trans f_q3
  have f_q4 := (va_up_ne _ (some (.inr (7, [.ref q1, .ref q2, .ref q3, .ref q5, .int 0, .int 0, .int 0]))) (Ne.symm d4_h0)).trans f_q4
  have f_q5 := (va_up_ne _ (some (.inr (7, [.ref q1, .ref q2, .ref q3, .ref q5, .int 0, .int 0, .int 0]))) (Ne.symm d5_h0)).trans f_q5
  have hq := va_up_self G5 h0 (some (.inr (7, [.ref q1, .ref q2, .ref q3, .ref q5, .int 0, .int 0, .int 0])))
  obtain ⟨G6, hM, hq, f_q1, f_q2, f_q3, f_q4, f_q5⟩ : ∃ G9 : TG, tkM A D G9 H ∧ G9 h0 = some (.inr (7, [.ref q1, .ref q2, .ref q3, .ref q5, .int 0, .int 0, .int 0])) ∧ G9 q1 = some (.inr (2, [.int 0, .ref dE, .int 0])) ∧ G9 q2 = some (.inr (2, [.int 0, .ref dE, .int 0])) ∧ G9 q3 = some (.inr (2, [.int 0, .ref dE, .int 0])) ∧ G9 q4 = some (.inl (ac 1, 4, .inl (fillF (fun _ => 0) 50 4))) ∧ G9 q5 = some (.inr (5, [.ref q4, .int 40, .int 0, .int 0])) := ⟨_, hM, hq, f_q1, f_q2, f_q3, f_q4, f_q5⟩
  refine lv_aload_n hx hb dX4_init_63 rfl (lv_at hl 1 rfl) ?_
  refine lv_bipush (v := 40) hx hb dX4_init_64 (by decide) ?_
  refine tk_put (ty := .int) (v := .int 40) hx hb hts inX4 tyX4 tyX4_ok nmX4 hown hK hM hS hq rfl 4 (by decide) (hts (.fieldLink RX4 37 "TicketForge" "greatestCap" "I") (by decide +kernel)) (fun _ h9 => h9) rfl (by decide +kernel) rfl rfl (Nat.le_of_ble_eq_true rfl) dX4_init_66 (fun H locs hM hS => ?_)
  have f_q1 := (va_up_ne _ (some (.inr (7, [.ref q1, .ref q2, .ref q3, .ref q5, .int 40, .int 0, .int 0]))) (Ne.symm d_q1)).trans f_q1
  have f_q2 := (va_up_ne _ (some (.inr (7, [.ref q1, .ref q2, .ref q3, .ref q5, .int 40, .int 0, .int 0]))) (Ne.symm d_q2)).trans f_q2
  have f_q3 := (va_up_ne _ (some (.inr (7, [.ref q1, .ref q2, .ref q3, .ref q5, .int 40, .int 0, .int 0]))) (Ne.symm d_q3)).trans f_q3
  have f_q4 := (va_up_ne _ (some (.inr (7, [.ref q1, .ref q2, .ref q3, .ref q5, .int 40, .int 0, .int 0]))) (Ne.symm d4_h0)).trans f_q4
  have f_q5 := (va_up_ne _ (some (.inr (7, [.ref q1, .ref q2, .ref q3, .ref q5, .int 40, .int 0, .int 0]))) (Ne.symm d5_h0)).trans f_q5
  have hq := va_up_self G6 h0 (some (.inr (7, [.ref q1, .ref q2, .ref q3, .ref q5, .int 40, .int 0, .int 0])))
  obtain ⟨G7, hM, hq, f_q1, f_q2, f_q3, f_q4, f_q5⟩ : ∃ G9 : TG, tkM A D G9 H ∧ G9 h0 = some (.inr (7, [.ref q1, .ref q2, .ref q3, .ref q5, .int 40, .int 0, .int 0])) ∧ G9 q1 = some (.inr (2, [.int 0, .ref dE, .int 0])) ∧ G9 q2 = some (.inr (2, [.int 0, .ref dE, .int 0])) ∧ G9 q3 = some (.inr (2, [.int 0, .ref dE, .int 0])) ∧ G9 q4 = some (.inl (ac 1, 4, .inl (fillF (fun _ => 0) 50 4))) ∧ G9 q5 = some (.inr (5, [.ref q4, .int 40, .int 0, .int 0])) := ⟨_, hM, hq, f_q1, f_q2, f_q3, f_q4, f_q5⟩
  refine lv_aload_n hx hb dX4_init_69 rfl (lv_at hl 1 rfl) ?_
  refine lv_iconst (v := 0) hx hb dX4_init_70 (by decide) ?_
  refine tk_put (ty := .int) (v := .int 0) hx hb hts inX4 tyX4 tyX4_ok nmX4 hown hK hM hS hq rfl 5 (by decide) (hts (.fieldLink RX4 41 "TicketForge" "blockCount" "I") (by decide +kernel)) (fun _ h9 => h9) rfl (by decide +kernel) rfl rfl (Nat.le_of_ble_eq_true rfl) dX4_init_71 (fun H locs hM hS => ?_)
  have f_q1 := (va_up_ne _ (some (.inr (7, [.ref q1, .ref q2, .ref q3, .ref q5, .int 40, .int 0, .int 0]))) (Ne.symm d_q1)).trans f_q1
  have f_q2 := (va_up_ne _ (some (.inr (7, [.ref q1, .ref q2, .ref q3, .ref q5, .int 40, .int 0, .int 0]))) (Ne.symm d_q2)).trans f_q2
  have f_q3 := (va_up_ne _ (some (.inr (7, [.ref q1, .ref q2, .ref q3, .ref q5, .int 40, .int 0, .int 0]))) (Ne.symm d_q3)).trans f_q3
  have f_q4 := (va_up_ne _ (some (.inr (7, [.ref q1, .ref q2, .ref q3, .ref q5, .int 40, .int 0, .int 0]))) (Ne.symm d4_h0)).trans f_q4
  have f_q5 := (va_up_ne _ (some (.inr (7, [.ref q1, .ref q2, .ref q3, .ref q5, .int 40, .int 0, .int 0]))) (Ne.symm d5_h0)).trans f_q5
  have hq := va_up_self G7 h0 (some (.inr (7, [.ref q1, .ref q2, .ref q3, .ref q5, .int 40, .int 0, .int 0])))
  obtain ⟨G8, hM, hq, f_q1, f_q2, f_q3, f_q4, f_q5⟩ : ∃ G9 : TG, tkM A D G9 H ∧ G9 h0 = some (.inr (7, [.ref q1, .ref q2, .ref q3, .ref q5, .int 40, .int 0, .int 0])) ∧ G9 q1 = some (.inr (2, [.int 0, .ref dE, .int 0])) ∧ G9 q2 = some (.inr (2, [.int 0, .ref dE, .int 0])) ∧ G9 q3 = some (.inr (2, [.int 0, .ref dE, .int 0])) ∧ G9 q4 = some (.inl (ac 1, 4, .inl (fillF (fun _ => 0) 50 4))) ∧ G9 q5 = some (.inr (5, [.ref q4, .int 40, .int 0, .int 0])) := ⟨_, hM, hq, f_q1, f_q2, f_q3, f_q4, f_q5⟩
  refine lv_aload_n hx hb dX4_init_74 rfl (lv_at hl 1 rfl) ?_
  refine lv_iconst (v := 0) hx hb dX4_init_75 (by decide) ?_
  refine tk_put (ty := .int) (v := .int 0) hx hb hts inX4 tyX4 tyX4_ok nmX4 hown hK hM hS hq rfl 6 (by decide) (hts (.fieldLink RX4 44 "TicketForge" "lockedWeeks" "I") (by decide +kernel)) (fun _ h9 => h9) rfl (by decide +kernel) rfl rfl (Nat.le_of_ble_eq_true rfl) dX4_init_76 (fun H locs hM hS => ?_)
  have f_q1 := (va_up_ne _ (some (.inr (7, [.ref q1, .ref q2, .ref q3, .ref q5, .int 40, .int 0, .int 0]))) (Ne.symm d_q1)).trans f_q1
  have f_q2 := (va_up_ne _ (some (.inr (7, [.ref q1, .ref q2, .ref q3, .ref q5, .int 40, .int 0, .int 0]))) (Ne.symm d_q2)).trans f_q2
  have f_q3 := (va_up_ne _ (some (.inr (7, [.ref q1, .ref q2, .ref q3, .ref q5, .int 40, .int 0, .int 0]))) (Ne.symm d_q3)).trans f_q3
  have f_q4 := (va_up_ne _ (some (.inr (7, [.ref q1, .ref q2, .ref q3, .ref q5, .int 40, .int 0, .int 0]))) (Ne.symm d4_h0)).trans f_q4
  have f_q5 := (va_up_ne _ (some (.inr (7, [.ref q1, .ref q2, .ref q3, .ref q5, .int 40, .int 0, .int 0]))) (Ne.symm d5_h0)).trans f_q5
  have hq := va_up_self G8 h0 (some (.inr (7, [.ref q1, .ref q2, .ref q3, .ref q5, .int 40, .int 0, .int 0])))
  obtain ⟨G9, hM, hq, f_q1, f_q2, f_q3, f_q4, f_q5⟩ : ∃ G9 : TG, tkM A D G9 H ∧ G9 h0 = some (.inr (7, [.ref q1, .ref q2, .ref q3, .ref q5, .int 40, .int 0, .int 0])) ∧ G9 q1 = some (.inr (2, [.int 0, .ref dE, .int 0])) ∧ G9 q2 = some (.inr (2, [.int 0, .ref dE, .int 0])) ∧ G9 q3 = some (.inr (2, [.int 0, .ref dE, .int 0])) ∧ G9 q4 = some (.inl (ac 1, 4, .inl (fillF (fun _ => 0) 50 4))) ∧ G9 q5 = some (.inr (5, [.ref q4, .int 40, .int 0, .int 0])) := ⟨_, hM, hq, f_q1, f_q2, f_q3, f_q4, f_q5⟩
  refine W.widen (k := 5) (n := 17) (Nat.le_of_ble_eq_true rfl) (Nat.le_of_ble_eq_true rfl) ?_
  exact W.vret hx hb hr (fun t9 h9 w9 => ⟨⟨_, rfl, ⟨_, PX.first hq f_q1 f_q2 f_q3 f_q4 f_q5 d_q1_q2 d_q1_q3 d_q2_q3⟩, (by show tkM A D _ _; rw [h9]; exact hM)⟩, hS.F h9⟩) hS.2.2 dX4_init_79
