/-! constructors, copies, fills, bits -/
def fillF (f : Nat → Int32) (v : Int32) : Nat → Nat → Int32
  | 0 => f
  | n + 1 => upd (fillF f v n) n v
def bc1 (x : Int32) : Int32 := x - (UInt32.toInt32 (Int32.toUInt32 x >>> (Int32.toUInt32 1 &&& Int32.toUInt32 31)) &&& 1431655765)
def bc2 (x : Int32) : Int32 := (x &&& 858993459) + (UInt32.toInt32 (Int32.toUInt32 x >>> (Int32.toUInt32 2 &&& Int32.toUInt32 31)) &&& 858993459)
def bc3 (x : Int32) : Int32 := (x + UInt32.toInt32 (Int32.toUInt32 x >>> (Int32.toUInt32 4 &&& Int32.toUInt32 31))) &&& 252645135
def bc4 (x : Int32) : Int32 := x + UInt32.toInt32 (Int32.toUInt32 x >>> (Int32.toUInt32 8 &&& Int32.toUInt32 31))
def bc5 (x : Int32) : Int32 := x + UInt32.toInt32 (Int32.toUInt32 x >>> (Int32.toUInt32 16 &&& Int32.toUInt32 31))
def bcI (x : Int32) : Int32 := bc5 (bc4 (bc3 (bc2 (bc1 x)))) &&& 63
section TKCL
variable {p : Program} {l : Launch} {e : Env} {R : Room} {s : State} {m : MethodId} {args : Array Value} {below : List Frame} {meth : Method} {c : Code} {H : Heap} {locs : List Loc} {cells slots : Nat} {Q : State → Prop}
variable {cc : ByteArray} {pc : Nat} {ls : Array Slot} {rest : List Value} {D : va_G} {A A1 : Nat → Prop} {a : Nat} {ac : Nat → ClassId} {G : TG} {H0 H2 : Heap} {dE : Nat}
theorem tk_clone (hexec : p.tables.exec = Jvm.exec) (hb : c.code = cc) (hml : c.maxLocals = ls.size) {own : String} {index : Nat} (hown : s.vm.findClass own = some m.cls)
    (hlink : (Cond.methodLink own index ⟨"[I", "clone", "()Ljava/lang/Object;"⟩).before args s = true) (hsame : (Cond.sameMethod "[I" "java/lang/Object" "clone" "()Ljava/lang/Object;").before args s = true)
    (hnat : (Cond.native ⟨"java/lang/Object", "clone", "()Ljava/lang/Object;"⟩).before args s = true) (hinst : (Cond.instanceMethod ⟨"java/lang/Object", "clone", "()Ljava/lang/Object;"⟩).before args s = true)
    (hsel : (Cond.selects "[I" ⟨"[I", "clone", "()Ljava/lang/Object;"⟩ ⟨"java/lang/Object", "clone", "()Ljava/lang/Object;"⟩).before args s = true) (hO : tkO ac A1 dE s H2)
    (hK : va_K D vwCl (tkT ac) s) (hM : tkM A D G H) (hS : va_S A H0 H locs) (hA : ∀ q, H0.size ≤ q → A q) {n : Nat} {f : Nat → Int32} (he : G a = some (.inl (ac 1, n, .inl f)))
    (hframes : 1 ≤ R.frames) (hlocals : (rest.map fun v => v.category).sum + 14 ≤ R.locals) (hcells : cells + 1 ≤ R.cells) (hslots : slots + n ≤ R.slots) (hdg : decode cc pc = .ok (.invokevirtual index, 3))
    (kk : ∀ (q : Nat) (H1 : Heap), G q = none → tkM A D (va_up G q (some (.inl (ac 1, n, .inl f)))) H1 → va_S A H0 H1 locs → W p l e R s m args below meth c H1 locs (cells + 1) (slots + n) Q (F0 m (pc + 3) ls (.ref q :: rest))) : W p l e R s m args below meth c H locs cells slots Q (F0 m pc ls (.ref a :: rest)) := by
  obtain ⟨ws, hP, hD, hG⟩ := hM
  obtain ⟨q0, h0⟩ := hG _ _ he
  have h1 := va_nm_int (hK.2 1 _ rfl).2
  refine va_clone hexec hb hml hown hlink hsame hnat hinst hsel hO.2.2.2.2.1 hK hP hD hS hA q0 1 h0 rfl h1 (va_fit (fun i hi => rfl)) hframes hlocals hcells hslots hdg (fun q H1 hK1 hP1 hD1 hS1 => ?_)
  obtain ⟨g1, g2⟩ := tk_push hD1 hG
  exact kk q H1 g1 ⟨_, hP1, hD1, g2⟩ hS1
theorem tk_castI (hexec : p.tables.exec = Jvm.exec) (hb : c.code = cc) {own : String} {index : Nat} (hown : s.vm.findClass own = some m.cls) (hlink : (Cond.classLink own index "[I").before args s = true) (hK : va_K D vwCl (tkT ac) s) (hM : tkM A D G H) {x : vp_A} (he : G a = some (.inl (ac 1, x))) (hdg : decode cc pc = .ok (.checkcast index, 3))
    (k : W p l e R s m args below meth c H locs cells slots Q (F0 m (pc + 3) ls (.ref a :: rest))) : W p l e R s m args below meth c H locs cells slots Q (F0 m pc ls (.ref a :: rest)) := by
  have h1 := va_nm_int (hK.2 1 _ rfl).2
  exact va_castA hexec hb hown hlink (hM.one he) 0 rfl h1 hdg k
end TKCL
set_option maxHeartbeats 1000000 in
set_option maxRecDepth 100000 in
theorem c_J6_bitCount_0f7a4 (l : Launch) (A : Nat → Prop) (D : va_G) (ac : Nat → ClassId) (dE : Nat) (G : TG) (x : Int32) : Met l yJ6_bitCount_0f7a4 wsJ6_bitCount_0f7a4 ({ frames := 0, cells := 0, slots := 0, locals := 60 } : Room) (va_Pc [.int x] (tkX A D ac dE G)) (vp_Si (fun z => z = bcI x)) 0 0 (fun _ => False) := by
  refine Met.ofW (cc := cJ6_bitCount_0f7a4) (maxL := 1) (ret := (some .int)) (by decide) rfl ?_
  intro p e s m args below meth c s₁ B hml hv
  obtain ⟨rfl, ⟨hM, hK, hA, hF⟩, hO⟩ := hv
  have hS : va_S A s.heap s.heap [] := va_S.rf
  have hx := B.exec
  have hb := B.bytes
  have hr := B.returns
  have hts := atoms_spec (ws := wsJ6_bitCount_0f7a4) B.pre
  have hown : s.vm.findClass RJ6 = some m.cls := findClass_of_methodNamed B.named
  have hlocks := B.notSynchronized
  have S0 : CallFix p m c cJ6_bitCount_0f7a4 1 s ([.int x] : List Value).toArray wsJ6_bitCount_0f7a4 RJ6 := ⟨hx, hb, hml, hown, hts⟩
  have hl := lv_entry ([.int x]) (n := 1) (Nat.le_of_ble_eq_true rfl)
  rw [lg_entry_eq]
  generalize (lg_sl ([.int x]) ++ List.replicate (1 - (lg_sl ([.int x])).length) Slot.unset).toArray = ls at hl ⊢
  have hl : lv_has ls 1 [(0, .int x)] := hl
  refine lv_iload_n hx hb dJ6_bitCount_0f7a4_0 rfl (lv_at hl 0 rfl) ?_
  refine lv_iload_n hx hb dJ6_bitCount_0f7a4_1 rfl (lv_at hl 0 rfl) ?_
  refine lv_iconst (v := 1) hx hb dJ6_bitCount_0f7a4_2 (by decide) ?_
  refine lv_iushr hx hb dJ6_bitCount_0f7a4_3 rfl ?_
  refine lv_ldcw hx hb hown (hts (.constant RJ6 265 (1431655765)) (by decide +kernel)) dJ6_bitCount_0f7a4_4 ?_
  refine lv_iand hx hb dJ6_bitCount_0f7a4_7 ?_
  refine lv_isub hx hb dJ6_bitCount_0f7a4_8 ?_
  refine lv_istore_n (lv' := [(0, .int (x - ((UInt32.toInt32 (Int32.toUInt32 x >>> (Int32.toUInt32 1 &&& Int32.toUInt32 31))) &&& 1431655765)))]) hx hb dJ6_bitCount_0f7a4_9 rfl hl (by decide) rfl (fun ls hl => ?_)
  obtain ⟨v1, hv1⟩ : ∃ v, v = bc1 x := ⟨_, rfl⟩
  have hl : lv_has ls 1 [(0, .int v1)] := by rw [hv1]; exact hl
  refine lv_iload_n hx hb dJ6_bitCount_0f7a4_10 rfl (lv_at hl 0 rfl) ?_
  refine lv_ldcw hx hb hown (hts (.constant RJ6 266 (858993459)) (by decide +kernel)) dJ6_bitCount_0f7a4_11 ?_
  refine lv_iand hx hb dJ6_bitCount_0f7a4_14 ?_
  refine lv_iload_n hx hb dJ6_bitCount_0f7a4_15 rfl (lv_at hl 0 rfl) ?_
  refine lv_iconst (v := 2) hx hb dJ6_bitCount_0f7a4_16 (by decide) ?_
  refine lv_iushr hx hb dJ6_bitCount_0f7a4_17 rfl ?_
  refine lv_ldcw hx hb hown (hts (.constant RJ6 266 (858993459)) (by decide +kernel)) dJ6_bitCount_0f7a4_18 ?_
  refine lv_iand hx hb dJ6_bitCount_0f7a4_21 ?_
  refine lv_iadd hx hb dJ6_bitCount_0f7a4_22 ?_
  refine lv_istore_n (lv' := [(0, .int ((v1 &&& 858993459) + ((UInt32.toInt32 (Int32.toUInt32 v1 >>> (Int32.toUInt32 2 &&& Int32.toUInt32 31))) &&& 858993459)))]) hx hb dJ6_bitCount_0f7a4_23 rfl hl (by decide) rfl (fun ls hl => ?_)
  obtain ⟨v2, hv2⟩ : ∃ v, v = bc2 v1 := ⟨_, rfl⟩
  have hl : lv_has ls 1 [(0, .int v2)] := by rw [hv2]; exact hl
  refine lv_iload_n hx hb dJ6_bitCount_0f7a4_24 rfl (lv_at hl 0 rfl) ?_
  refine lv_iload_n hx hb dJ6_bitCount_0f7a4_25 rfl (lv_at hl 0 rfl) ?_
  refine lv_iconst (v := 4) hx hb dJ6_bitCount_0f7a4_26 (by decide) ?_
  refine lv_iushr hx hb dJ6_bitCount_0f7a4_27 rfl ?_
  refine lv_iadd hx hb dJ6_bitCount_0f7a4_28 ?_
  refine lv_ldcw hx hb hown (hts (.constant RJ6 267 (252645135)) (by decide +kernel)) dJ6_bitCount_0f7a4_29 ?_
  refine lv_iand hx hb dJ6_bitCount_0f7a4_32 ?_
  refine lv_istore_n (lv' := [(0, .int ((v2 + (UInt32.toInt32 (Int32.toUInt32 v2 >>> (Int32.toUInt32 4 &&& Int32.toUInt32 31)))) &&& 252645135))]) hx hb dJ6_bitCount_0f7a4_33 rfl hl (by decide) rfl (fun ls hl => ?_)
  obtain ⟨v3, hv3⟩ : ∃ v, v = bc3 v2 := ⟨_, rfl⟩
  have hl : lv_has ls 1 [(0, .int v3)] := by rw [hv3]; exact hl
  refine lv_iload_n hx hb dJ6_bitCount_0f7a4_34 rfl (lv_at hl 0 rfl) ?_
  refine lv_iload_n hx hb dJ6_bitCount_0f7a4_35 rfl (lv_at hl 0 rfl) ?_
  refine lv_bipush (v := 8) hx hb dJ6_bitCount_0f7a4_36 (by decide) ?_
  refine lv_iushr hx hb dJ6_bitCount_0f7a4_38 rfl ?_
  refine lv_iadd hx hb dJ6_bitCount_0f7a4_39 ?_
  refine lv_istore_n (lv' := [(0, .int (v3 + (UInt32.toInt32 (Int32.toUInt32 v3 >>> (Int32.toUInt32 8 &&& Int32.toUInt32 31)))))]) hx hb dJ6_bitCount_0f7a4_40 rfl hl (by decide) rfl (fun ls hl => ?_)
  obtain ⟨v4, hv4⟩ : ∃ v, v = bc4 v3 := ⟨_, rfl⟩
  have hl : lv_has ls 1 [(0, .int v4)] := by rw [hv4]; exact hl
  refine lv_iload_n hx hb dJ6_bitCount_0f7a4_41 rfl (lv_at hl 0 rfl) ?_
  refine lv_iload_n hx hb dJ6_bitCount_0f7a4_42 rfl (lv_at hl 0 rfl) ?_
  refine lv_bipush (v := 16) hx hb dJ6_bitCount_0f7a4_43 (by decide) ?_
  refine lv_iushr hx hb dJ6_bitCount_0f7a4_45 rfl ?_
  refine lv_iadd hx hb dJ6_bitCount_0f7a4_46 ?_
  refine lv_istore_n (lv' := [(0, .int (v4 + (UInt32.toInt32 (Int32.toUInt32 v4 >>> (Int32.toUInt32 16 &&& Int32.toUInt32 31)))))]) hx hb dJ6_bitCount_0f7a4_47 rfl hl (by decide) rfl (fun ls hl => ?_)
  obtain ⟨v5, hv5⟩ : ∃ v, v = bc5 v4 := ⟨_, rfl⟩
  have hl : lv_has ls 1 [(0, .int v5)] := by rw [hv5]; exact hl
  refine lv_iload_n hx hb dJ6_bitCount_0f7a4_48 rfl (lv_at hl 0 rfl) ?_
  refine lv_bipush (v := 63) hx hb dJ6_bitCount_0f7a4_49 (by decide) ?_
  refine lv_iand hx hb dJ6_bitCount_0f7a4_51 ?_
  exact W.iret (v := (v5 &&& 63)) hx hb hr (fun t9 h9 w9 => ⟨(v5 &&& 63), rfl, (by rw [bcI, ← hv1, ← hv2, ← hv3, ← hv4, ← hv5]), h9⟩) (fun q hq => absurd hq List.not_mem_nil) dJ6_bitCount_0f7a4_52
set_option maxHeartbeats 1000000 in
set_option maxRecDepth 100000 in
theorem c_J7_fill_53178 (l : Launch) (A : Nat → Prop) (D : va_G) (ac : Nat → ClassId) (dE : Nat) (G : TG) {a n : Nat} {f : Nat → Int32} (ha : G a = some (.inl (ac 1, n, .inl f))) (hn : n < 1000) (v : Int32) : Met l yJ7_fill_53178 wsJ7_fill_53178 ({ frames := 0, cells := 0, slots := 0, locals := 60 } : Room) (va_Pc [.ref a, .int v] (tkX A D ac dE G)) (va_Qv (fun G9 => G9 = va_up G a (some (.inl (ac 1, n, .inl (fillF f v n))))) (fun (G9 : TG) t => tkM A D G9 t.heap) A) 0 0 A := by
  refine Met.ofW (cc := cJ7_fill_53178) (maxL := 4) (ret := none) (by decide) rfl ?_
  intro p e s m args below meth c s₁ B hml hv
  obtain ⟨rfl, ⟨hM, hK, hA, hF⟩, hO⟩ := hv
  have hS : va_S A s.heap s.heap [] := va_S.rf
  have hx := B.exec
  have hb := B.bytes
  have hr := B.returns
  have hts := atoms_spec (ws := wsJ7_fill_53178) B.pre
  have hown : s.vm.findClass RJ7 = some m.cls := findClass_of_methodNamed B.named
  have hlocks := B.notSynchronized
  have S0 : CallFix p m c cJ7_fill_53178 4 s ([.ref a, .int v] : List Value).toArray wsJ7_fill_53178 RJ7 := ⟨hx, hb, hml, hown, hts⟩
  have hl := lv_entry ([.ref a, .int v]) (n := 4) (Nat.le_of_ble_eq_true rfl)
  rw [lg_entry_eq]
  generalize (lg_sl ([.ref a, .int v]) ++ List.replicate (4 - (lg_sl ([.ref a, .int v])).length) Slot.unset).toArray = ls at hl ⊢
  have hl : lv_has ls 4 [(0, .ref a), (1, .int v)] := hl
  refine lv_iconst (v := 0) hx hb dJ7_fill_53178_0 (by decide) ?_
  refine lv_istore_n (lv' := [(2, .int 0), (0, .ref a), (1, .int v)]) hx hb dJ7_fill_53178_1 rfl hl (by decide) rfl (fun ls hl => ?_)
  refine lv_aload_n hx hb dJ7_fill_53178_2 rfl (lv_at hl 1 rfl) ?_
  refine tk_alen (v := (nI n)) hx hb hK hM 1 ha rfl rfl dJ7_fill_53178_3 ?_
  refine lv_istore_n (lv' := [(3, .int (nI n)), (2, .int 0), (0, .ref a), (1, .int v)]) hx hb dJ7_fill_53178_4 rfl hl (by decide) rfl (fun ls hl => ?_)
  have hM0 : tkM A D (va_up G a (some (.inl (ac 1, n, .inl (fillF f v 0))))) s.heap := by
    rw [show va_up G a (some (.inl (ac 1, n, .inl (fillF f v 0)))) = G from by
      funext b
      by_cases h9 : b = a
      · rw [h9, va_up_self, ha]; rfl
      · rw [va_up_ne _ _ h9]]
    exact hM
  refine tk_g1 (Wf := fun H locs g => W p l e _ s m _ below meth c H locs _ _ _ g) n (fun i (_ : Unit) H locs ls => lv_has ls 4 [(0, .ref a), (1, .int v), (3, .int (nI n)), (2, .int (nI i))] ∧ tkM A D (va_up G a (some (.inl (ac 1, n, .inl (fillF f v i))))) H ∧ va_S A s.heap H locs) (fun i _ H locs ls hi hinv ih => ?_) () _ _ ls ⟨(lv_sub hl [2, 3, 0, 1] rfl), hM0, hS⟩
  obtain ⟨hl, hM, hS⟩ := hinv
  refine lv_iload_n hx hb dJ7_fill_53178_5 rfl (lv_at hl 3 rfl) ?_
  refine lv_iload_n hx hb dJ7_fill_53178_6 rfl (lv_at hl 2 rfl) ?_
  refine lv_icmp_ge (tgt := 20) hx hb dJ7_fill_53178_7 (by decide) (fun c_1 => ?_) (fun c_1 => ?_)
  · have hge := tk_ge (by omega) (by omega) c_1
    refine W.widen (k := 0) (n := 0) (Nat.le_of_ble_eq_true rfl) (Nat.le_of_ble_eq_true rfl) ?_
    exact W.vret hx hb hr (fun t9 h9 w9 => ⟨⟨_, rfl, (show va_up G a (some (.inl (ac 1, n, .inl (fillF f v i)))) = _ from by rw [show i = n from Nat.le_antisymm hi hge]), (by show tkM A D _ _; rw [h9]; exact hM)⟩, hS.F h9⟩) hS.2.2 dJ7_fill_53178_20
  · have hlt := tk_lt (by omega) (by omega) c_1
    refine lv_aload_n hx hb dJ7_fill_53178_10 rfl (lv_at hl 0 rfl) ?_
    refine lv_iload_n hx hb dJ7_fill_53178_11 rfl (lv_at hl 3 rfl) ?_
    refine lv_iload_n hx hb dJ7_fill_53178_12 rfl (lv_at hl 1 rfl) ?_
    refine tk_iast hx hb hK hM hS 1 (va_up_self _ _ _) rfl (vp_in_nI (by omega) (by omega)) dJ7_fill_53178_13 (fun H locs hM hS => ?_)
    rw [show (nI i).toNatClampNeg = i from nI_clamp (by omega)] at hM
    refine lv_iinc (v := (nI (i + 1))) (lv' := [(2, .int (nI (i + 1))), (0, .ref a), (1, .int v), (3, .int (nI n))]) hx hb dJ7_fill_53178_14 hl (k := 3) rfl (nI_1 i) (by decide) rfl (fun ls hl => ?_)
    refine lv_goto (tgt := 5) hx hb dJ7_fill_53178_17 (by decide) ?_
    rw [va_up2] at hM
    exact ih () _ _ ls (by omega) ⟨(lv_sub hl [1, 2, 3, 0] rfl), hM, hS⟩
set_option maxHeartbeats 1000000 in
set_option maxRecDepth 100000 in
theorem c_X3_init_n (l : Launch) (A : Nat → Prop) (D : va_G) (ac : Nat → ClassId) (dE : Nat) (G : TG) {q : Nat} (hq : G q = some (.inr (6, [.int 0, .null, .int 0, .int 0, .int 0, .int 0]))) (a : Int32) (b c0 : Int32) : Met l yX3_init wsX3_init ({ frames := 1, cells := 0, slots := 0, locals := 100 } : Room) (va_Pc [.ref q, .int a, .null, .int b, .int c0] (tkX A D ac dE G)) (va_Qv (fun G9 => G9 = va_up G q (some (.inr (6, [.int a, .null, .int b, .int c0, .int 111, .int 0])))) (fun (G9 : TG) t => tkM A D G9 t.heap) A) 0 0 A := by
  refine Met.ofW (cc := cX3_init) (maxL := 5) (ret := none) (by decide) rfl ?_
  intro p e s m args below meth c s₁ B hml hv
  obtain ⟨rfl, ⟨hM, hK, hA, hF⟩, hO⟩ := hv
  have hS : va_S A s.heap s.heap [] := va_S.rf
  have hin : meth.name = "<init>" := (name_of_methodNamed B.named B.method).1
  have hx := B.exec
  have hb := B.bytes
  have hr := B.returns
  have hts := atoms_spec (ws := wsX3_init) B.pre
  have hown : s.vm.findClass RX3 = some m.cls := findClass_of_methodNamed B.named
  have hlocks := B.notSynchronized
  have S0 : CallFix p m c cX3_init 5 s ([.ref q, .int a, .null, .int b, .int c0] : List Value).toArray wsX3_init RX3 := ⟨hx, hb, hml, hown, hts⟩
  have inX3 : ∀ w ∈ wsX30, w ∈ wsX3_init := by decide +kernel
  have hl := lv_entry ([.ref q, .int a, .null, .int b, .int c0]) (n := 5) (Nat.le_of_ble_eq_true rfl)
  rw [lg_entry_eq]
  generalize (lg_sl ([.ref q, .int a, .null, .int b, .int c0]) ++ List.replicate (5 - (lg_sl ([.ref q, .int a, .null, .int b, .int c0])).length) Slot.unset).toArray = ls at hl ⊢
  have hl : lv_has ls 5 [(0, .ref q), (1, .int a), (2, .null), (3, .int b), (4, .int c0)] := hl
  refine lv_aload_n hx hb dX3_init_0 rfl (lv_at hl 0 rfl) ?_
  refine W.objInit hx hb hown (hts (.methodLink RX3 3 objectInit) (by decide +kernel)) (hts (.instanceMethod objectInit) (by decide +kernel)) (hts (.code objectInit ⟨#[0xb1]⟩ 1 none) (by decide +kernel)) rfl (hl.1.trans hml.symm) rfl dX3_init_1 (Nat.le_of_ble_eq_true rfl) (Nat.le_of_ble_eq_true rfl) ?_
  refine lv_aload_n hx hb dX3_init_4 rfl (lv_at hl 0 rfl) ?_
  refine lv_iload_n hx hb dX3_init_5 rfl (lv_at hl 1 rfl) ?_
  refine tk_putF (ty := .int) hx hb hts inX3 tyX3 tyX3_ok nmX3 hown hK hM hS hq rfl 0 (by decide) (hts (.fieldLink RX3 9 "TicketForge$Task" "number" "I") (by decide +kernel)) (fun _ h9 => h9) rfl hin rfl (by decide +kernel) rfl rfl (Nat.le_of_ble_eq_true rfl) dX3_init_6 (fun H locs hM hS => ?_)
  refine lv_aload_n hx hb dX3_init_9 rfl (lv_at hl 0 rfl) ?_
  refine lv_aload_nN hx hb dX3_init_10 rfl (lv_at hl 2 rfl) ?_
  refine tk_putF (ty := (.object "TicketForge$Task")) hx hb hts inX3 tyX3 tyX3_ok nmX3 hown hK hM hS (va_up_self _ _ _) rfl 1 (by decide) (hts (.fieldLink RX3 15 "TicketForge$Task" "parent" "LTicketForge$Task;") (by decide +kernel)) (fun _ h9 => h9) rfl hin rfl (by decide +kernel) rfl rfl (Nat.le_of_ble_eq_true rfl) dX3_init_11 (fun H locs hM hS => ?_)
  rw [va_up2] at hM
  refine lv_aload_n hx hb dX3_init_14 rfl (lv_at hl 0 rfl) ?_
  refine lv_iload_n hx hb dX3_init_15 rfl (lv_at hl 3 rfl) ?_
  refine tk_putF (ty := .int) hx hb hts inX3 tyX3 tyX3_ok nmX3 hown hK hM hS (va_up_self _ _ _) rfl 2 (by decide) (hts (.fieldLink RX3 19 "TicketForge$Task" "estimate" "I") (by decide +kernel)) (fun _ h9 => h9) rfl hin rfl (by decide +kernel) rfl rfl (Nat.le_of_ble_eq_true rfl) dX3_init_16 (fun H locs hM hS => ?_)
  rw [va_up2] at hM
  refine lv_aload_n hx hb dX3_init_19 rfl (lv_at hl 0 rfl) ?_
  refine lv_iload hx hb dX3_init_20 (lv_at hl 4 rfl) ?_
  refine tk_putF (ty := .int) hx hb hts inX3 tyX3 tyX3_ok nmX3 hown hK hM hS (va_up_self _ _ _) rfl 3 (by decide) (hts (.fieldLink RX3 22 "TicketForge$Task" "budget" "I") (by decide +kernel)) (fun _ h9 => h9) rfl hin rfl (by decide +kernel) rfl rfl (Nat.le_of_ble_eq_true rfl) dX3_init_22 (fun H locs hM hS => ?_)
  rw [va_up2] at hM
  refine lv_aload_n hx hb dX3_init_25 rfl (lv_at hl 0 rfl) ?_
  refine lv_bipush (v := 111) hx hb dX3_init_26 (by decide) ?_
  refine tk_put (ty := .char) hx hb hts inX3 tyX3 tyX3_ok nmX3 hown hK hM hS (va_up_self _ _ _) rfl 4 (by decide) (hts (.fieldLink RX3 25 "TicketForge$Task" "state" "C") (by decide +kernel)) (fun _ h9 => h9) rfl (by decide +kernel) rfl rfl (Nat.le_of_ble_eq_true rfl) dX3_init_28 (fun H locs hM hS => ?_)
  rw [va_up2] at hM
  refine lv_aload_n hx hb dX3_init_31 rfl (lv_at hl 0 rfl) ?_
  refine lv_iconst (v := 0) hx hb dX3_init_32 (by decide) ?_
  refine tk_put (ty := .int) hx hb hts inX3 tyX3 tyX3_ok nmX3 hown hK hM hS (va_up_self _ _ _) rfl 5 (by decide) (hts (.fieldLink RX3 29 "TicketForge$Task" "blockers" "I") (by decide +kernel)) (fun _ h9 => h9) rfl (by decide +kernel) rfl rfl (Nat.le_of_ble_eq_true rfl) dX3_init_33 (fun H locs hM hS => ?_)
  rw [va_up2] at hM
  refine W.widen (k := 0) (n := 0) (Nat.le_of_ble_eq_true rfl) (Nat.le_of_ble_eq_true rfl) ?_
  exact W.vret hx hb hr (fun t9 h9 w9 => ⟨⟨_, rfl, rfl, (by show tkM A D _ _; rw [h9]; exact hM)⟩, hS.F h9⟩) hS.2.2 dX3_init_36
set_option maxHeartbeats 1000000 in
set_option maxRecDepth 100000 in
theorem c_X3_init_s (l : Launch) (A : Nat → Prop) (D : va_G) (ac : Nat → ClassId) (dE : Nat) (G : TG) {q : Nat} (hq : G q = some (.inr (6, [.int 0, .null, .int 0, .int 0, .int 0, .int 0]))) (a : Int32) (pp : Nat) (b c0 : Int32) : Met l yX3_init wsX3_init ({ frames := 1, cells := 0, slots := 0, locals := 100 } : Room) (va_Pc [.ref q, .int a, .ref pp, .int b, .int c0] (tkX A D ac dE G)) (va_Qv (fun G9 => G9 = va_up G q (some (.inr (6, [.int a, .ref pp, .int b, .int c0, .int 111, .int 0])))) (fun (G9 : TG) t => tkM A D G9 t.heap) A) 0 0 A := by
  refine Met.ofW (cc := cX3_init) (maxL := 5) (ret := none) (by decide) rfl ?_
  intro p e s m args below meth c s₁ B hml hv
  obtain ⟨rfl, ⟨hM, hK, hA, hF⟩, hO⟩ := hv
  have hS : va_S A s.heap s.heap [] := va_S.rf
  have hin : meth.name = "<init>" := (name_of_methodNamed B.named B.method).1
  have hx := B.exec
  have hb := B.bytes
  have hr := B.returns
  have hts := atoms_spec (ws := wsX3_init) B.pre
  have hown : s.vm.findClass RX3 = some m.cls := findClass_of_methodNamed B.named
  have hlocks := B.notSynchronized
  have S0 : CallFix p m c cX3_init 5 s ([.ref q, .int a, .ref pp, .int b, .int c0] : List Value).toArray wsX3_init RX3 := ⟨hx, hb, hml, hown, hts⟩
  have inX3 : ∀ w ∈ wsX30, w ∈ wsX3_init := by decide +kernel
  have hl := lv_entry ([.ref q, .int a, .ref pp, .int b, .int c0]) (n := 5) (Nat.le_of_ble_eq_true rfl)
  rw [lg_entry_eq]
  generalize (lg_sl ([.ref q, .int a, .ref pp, .int b, .int c0]) ++ List.replicate (5 - (lg_sl ([.ref q, .int a, .ref pp, .int b, .int c0])).length) Slot.unset).toArray = ls at hl ⊢
  have hl : lv_has ls 5 [(0, .ref q), (1, .int a), (2, .ref pp), (3, .int b), (4, .int c0)] := hl
  refine lv_aload_n hx hb dX3_init_0 rfl (lv_at hl 0 rfl) ?_
  refine W.objInit hx hb hown (hts (.methodLink RX3 3 objectInit) (by decide +kernel)) (hts (.instanceMethod objectInit) (by decide +kernel)) (hts (.code objectInit ⟨#[0xb1]⟩ 1 none) (by decide +kernel)) rfl (hl.1.trans hml.symm) rfl dX3_init_1 (Nat.le_of_ble_eq_true rfl) (Nat.le_of_ble_eq_true rfl) ?_
  refine lv_aload_n hx hb dX3_init_4 rfl (lv_at hl 0 rfl) ?_
  refine lv_iload_n hx hb dX3_init_5 rfl (lv_at hl 1 rfl) ?_
  refine tk_putF (ty := .int) hx hb hts inX3 tyX3 tyX3_ok nmX3 hown hK hM hS hq rfl 0 (by decide) (hts (.fieldLink RX3 9 "TicketForge$Task" "number" "I") (by decide +kernel)) (fun _ h9 => h9) rfl hin rfl (by decide +kernel) rfl rfl (Nat.le_of_ble_eq_true rfl) dX3_init_6 (fun H locs hM hS => ?_)
  refine lv_aload_n hx hb dX3_init_9 rfl (lv_at hl 0 rfl) ?_
  refine lv_aload_n hx hb dX3_init_10 rfl (lv_at hl 2 rfl) ?_
  refine tk_putF (ty := (.object "TicketForge$Task")) hx hb hts inX3 tyX3 tyX3_ok nmX3 hown hK hM hS (va_up_self _ _ _) rfl 1 (by decide) (hts (.fieldLink RX3 15 "TicketForge$Task" "parent" "LTicketForge$Task;") (by decide +kernel)) (fun _ h9 => h9) rfl hin rfl (by decide +kernel) rfl rfl (Nat.le_of_ble_eq_true rfl) dX3_init_11 (fun H locs hM hS => ?_)
  rw [va_up2] at hM
  refine lv_aload_n hx hb dX3_init_14 rfl (lv_at hl 0 rfl) ?_
  refine lv_iload_n hx hb dX3_init_15 rfl (lv_at hl 3 rfl) ?_
  refine tk_putF (ty := .int) hx hb hts inX3 tyX3 tyX3_ok nmX3 hown hK hM hS (va_up_self _ _ _) rfl 2 (by decide) (hts (.fieldLink RX3 19 "TicketForge$Task" "estimate" "I") (by decide +kernel)) (fun _ h9 => h9) rfl hin rfl (by decide +kernel) rfl rfl (Nat.le_of_ble_eq_true rfl) dX3_init_16 (fun H locs hM hS => ?_)
  rw [va_up2] at hM
  refine lv_aload_n hx hb dX3_init_19 rfl (lv_at hl 0 rfl) ?_
  refine lv_iload hx hb dX3_init_20 (lv_at hl 4 rfl) ?_
  refine tk_putF (ty := .int) hx hb hts inX3 tyX3 tyX3_ok nmX3 hown hK hM hS (va_up_self _ _ _) rfl 3 (by decide) (hts (.fieldLink RX3 22 "TicketForge$Task" "budget" "I") (by decide +kernel)) (fun _ h9 => h9) rfl hin rfl (by decide +kernel) rfl rfl (Nat.le_of_ble_eq_true rfl) dX3_init_22 (fun H locs hM hS => ?_)
  rw [va_up2] at hM
  refine lv_aload_n hx hb dX3_init_25 rfl (lv_at hl 0 rfl) ?_
  refine lv_bipush (v := 111) hx hb dX3_init_26 (by decide) ?_
  refine tk_put (ty := .char) hx hb hts inX3 tyX3 tyX3_ok nmX3 hown hK hM hS (va_up_self _ _ _) rfl 4 (by decide) (hts (.fieldLink RX3 25 "TicketForge$Task" "state" "C") (by decide +kernel)) (fun _ h9 => h9) rfl (by decide +kernel) rfl rfl (Nat.le_of_ble_eq_true rfl) dX3_init_28 (fun H locs hM hS => ?_)
  rw [va_up2] at hM
  refine lv_aload_n hx hb dX3_init_31 rfl (lv_at hl 0 rfl) ?_
  refine lv_iconst (v := 0) hx hb dX3_init_32 (by decide) ?_
  refine tk_put (ty := .int) hx hb hts inX3 tyX3 tyX3_ok nmX3 hown hK hM hS (va_up_self _ _ _) rfl 5 (by decide) (hts (.fieldLink RX3 29 "TicketForge$Task" "blockers" "I") (by decide +kernel)) (fun _ h9 => h9) rfl (by decide +kernel) rfl rfl (Nat.le_of_ble_eq_true rfl) dX3_init_33 (fun H locs hM hS => ?_)
  rw [va_up2] at hM
  refine W.widen (k := 0) (n := 0) (Nat.le_of_ble_eq_true rfl) (Nat.le_of_ble_eq_true rfl) ?_
  exact W.vret hx hb hr (fun t9 h9 w9 => ⟨⟨_, rfl, rfl, (by show tkM A D _ _; rw [h9]; exact hM)⟩, hS.F h9⟩) hS.2.2 dX3_init_36
set_option maxHeartbeats 1000000 in
set_option maxRecDepth 100000 in
theorem c_X0_init (l : Launch) (A : Nat → Prop) (D : va_G) (ac : Nat → ClassId) (dE : Nat) (G : TG) {q : Nat} (hq : G q = some (.inr (3, [.null, .int 0, .int 0, .int 0, .int 0, .int 0, .null]))) (tt : Nat) (a b c0 : Int32) : Met l yX0_init wsX0_init ({ frames := 1, cells := 0, slots := 0, locals := 100 } : Room) (va_Pc [.ref q, .ref tt, .int a, .int b, .int c0] (tkX A D ac dE G)) (va_Qv (fun G9 => G9 = va_up G q (some (.inr (3, [.ref tt, .int a, .int b, .int c0, .int 110, .int 0, .null])))) (fun (G9 : TG) t => tkM A D G9 t.heap) A) 0 0 A := by
  refine Met.ofW (cc := cX0_init) (maxL := 5) (ret := none) (by decide) rfl ?_
  intro p e s m args below meth c s₁ B hml hv
  obtain ⟨rfl, ⟨hM, hK, hA, hF⟩, hO⟩ := hv
  have hS : va_S A s.heap s.heap [] := va_S.rf
  have hin : meth.name = "<init>" := (name_of_methodNamed B.named B.method).1
  have hx := B.exec
  have hb := B.bytes
  have hr := B.returns
  have hts := atoms_spec (ws := wsX0_init) B.pre
  have hown : s.vm.findClass RX0 = some m.cls := findClass_of_methodNamed B.named
  have hlocks := B.notSynchronized
  have S0 : CallFix p m c cX0_init 5 s ([.ref q, .ref tt, .int a, .int b, .int c0] : List Value).toArray wsX0_init RX0 := ⟨hx, hb, hml, hown, hts⟩
  have inX0 : ∀ w ∈ wsX00, w ∈ wsX0_init := by decide +kernel
  have hl := lv_entry ([.ref q, .ref tt, .int a, .int b, .int c0]) (n := 5) (Nat.le_of_ble_eq_true rfl)
  rw [lg_entry_eq]
  generalize (lg_sl ([.ref q, .ref tt, .int a, .int b, .int c0]) ++ List.replicate (5 - (lg_sl ([.ref q, .ref tt, .int a, .int b, .int c0])).length) Slot.unset).toArray = ls at hl ⊢
  have hl : lv_has ls 5 [(0, .ref q), (1, .ref tt), (2, .int a), (3, .int b), (4, .int c0)] := hl
  refine lv_aload_n hx hb dX0_init_0 rfl (lv_at hl 0 rfl) ?_
  refine W.objInit hx hb hown (hts (.methodLink RX0 3 objectInit) (by decide +kernel)) (hts (.instanceMethod objectInit) (by decide +kernel)) (hts (.code objectInit ⟨#[0xb1]⟩ 1 none) (by decide +kernel)) rfl (hl.1.trans hml.symm) rfl dX0_init_1 (Nat.le_of_ble_eq_true rfl) (Nat.le_of_ble_eq_true rfl) ?_
  refine lv_aload_n hx hb dX0_init_4 rfl (lv_at hl 0 rfl) ?_
  refine lv_aload_n hx hb dX0_init_5 rfl (lv_at hl 1 rfl) ?_
  refine tk_putF (ty := (.object "TicketForge$Task")) hx hb hts inX0 tyX0 tyX0_ok nmX0 hown hK hM hS hq rfl 0 (by decide) (hts (.fieldLink RX0 9 "TicketForge$Entry" "task" "LTicketForge$Task;") (by decide +kernel)) (fun _ h9 => h9) rfl hin rfl (by decide +kernel) rfl rfl (Nat.le_of_ble_eq_true rfl) dX0_init_6 (fun H locs hM hS => ?_)
  refine lv_aload_n hx hb dX0_init_9 rfl (lv_at hl 0 rfl) ?_
  refine lv_iload_n hx hb dX0_init_10 rfl (lv_at hl 2 rfl) ?_
  refine tk_putF (ty := .int) hx hb hts inX0 tyX0 tyX0_ok nmX0 hown hK hM hS (va_up_self _ _ _) rfl 1 (by decide) (hts (.fieldLink RX0 15 "TicketForge$Entry" "person" "I") (by decide +kernel)) (fun _ h9 => h9) rfl hin rfl (by decide +kernel) rfl rfl (Nat.le_of_ble_eq_true rfl) dX0_init_11 (fun H locs hM hS => ?_)
  rw [va_up2] at hM
  refine lv_aload_n hx hb dX0_init_14 rfl (lv_at hl 0 rfl) ?_
  refine lv_iload_n hx hb dX0_init_15 rfl (lv_at hl 3 rfl) ?_
  refine tk_putF (ty := .int) hx hb hts inX0 tyX0 tyX0_ok nmX0 hown hK hM hS (va_up_self _ _ _) rfl 2 (by decide) (hts (.fieldLink RX0 19 "TicketForge$Entry" "week" "I") (by decide +kernel)) (fun _ h9 => h9) rfl hin rfl (by decide +kernel) rfl rfl (Nat.le_of_ble_eq_true rfl) dX0_init_16 (fun H locs hM hS => ?_)
  rw [va_up2] at hM
  refine lv_aload_n hx hb dX0_init_19 rfl (lv_at hl 0 rfl) ?_
  refine lv_iload hx hb dX0_init_20 (lv_at hl 4 rfl) ?_
  refine tk_putF (ty := .int) hx hb hts inX0 tyX0 tyX0_ok nmX0 hown hK hM hS (va_up_self _ _ _) rfl 3 (by decide) (hts (.fieldLink RX0 22 "TicketForge$Entry" "hours" "I") (by decide +kernel)) (fun _ h9 => h9) rfl hin rfl (by decide +kernel) rfl rfl (Nat.le_of_ble_eq_true rfl) dX0_init_22 (fun H locs hM hS => ?_)
  rw [va_up2] at hM
  refine lv_aload_n hx hb dX0_init_25 rfl (lv_at hl 0 rfl) ?_
  refine lv_bipush (v := 110) hx hb dX0_init_26 (by decide) ?_
  refine tk_put (ty := .char) hx hb hts inX0 tyX0 tyX0_ok nmX0 hown hK hM hS (va_up_self _ _ _) rfl 4 (by decide) (hts (.fieldLink RX0 25 "TicketForge$Entry" "state" "C") (by decide +kernel)) (fun _ h9 => h9) rfl (by decide +kernel) rfl rfl (Nat.le_of_ble_eq_true rfl) dX0_init_28 (fun H locs hM hS => ?_)
  rw [va_up2] at hM
  refine lv_aload_n hx hb dX0_init_31 rfl (lv_at hl 0 rfl) ?_
  refine lv_iconst (v := 0) hx hb dX0_init_32 (by decide) ?_
  refine tk_put (ty := .int) hx hb hts inX0 tyX0 tyX0_ok nmX0 hown hK hM hS (va_up_self _ _ _) rfl 5 (by decide) (hts (.fieldLink RX0 29 "TicketForge$Entry" "price" "I") (by decide +kernel)) (fun _ h9 => h9) rfl (by decide +kernel) rfl rfl (Nat.le_of_ble_eq_true rfl) dX0_init_33 (fun H locs hM hS => ?_)
  rw [va_up2] at hM
  refine lv_aload_n hx hb dX0_init_36 rfl (lv_at hl 0 rfl) ?_
  refine lv_null hx hb dX0_init_37 ?_
  refine tk_put (ty := (.object "TicketForge$Invoice")) hx hb hts inX0 tyX0 tyX0_ok nmX0 hown hK hM hS (va_up_self _ _ _) rfl 6 (by decide) (hts (.fieldLink RX0 32 "TicketForge$Entry" "invoice" "LTicketForge$Invoice;") (by decide +kernel)) (fun _ h9 => h9) rfl (by decide +kernel) rfl rfl (Nat.le_of_ble_eq_true rfl) dX0_init_38 (fun H locs hM hS => ?_)
  rw [va_up2] at hM
  refine W.widen (k := 0) (n := 0) (Nat.le_of_ble_eq_true rfl) (Nat.le_of_ble_eq_true rfl) ?_
  exact W.vret hx hb hr (fun t9 h9 w9 => ⟨⟨_, rfl, rfl, (by show tkM A D _ _; rw [h9]; exact hM)⟩, hS.F h9⟩) hS.2.2 dX0_init_41
set_option maxHeartbeats 1000000 in
set_option maxRecDepth 100000 in
theorem c_X1_init (l : Launch) (A : Nat → Prop) (D : va_G) (ac : Nat → ClassId) (dE : Nat) (G : TG) {q : Nat} (hq : G q = some (.inr (4, [.int 0, .null, .int 0, .int 0]))) (a : Int32) (rr : Nat) : Met l yX1_init wsX1_init ({ frames := 1, cells := 0, slots := 0, locals := 100 } : Room) (va_Pc [.ref q, .int a, .ref rr] (tkX A D ac dE G)) (va_Qv (fun G9 => G9 = va_up G q (some (.inr (4, [.int a, .ref rr, .int 0, .int 0])))) (fun (G9 : TG) t => tkM A D G9 t.heap) A) 0 0 A := by
  refine Met.ofW (cc := cX1_init) (maxL := 3) (ret := none) (by decide) rfl ?_
  intro p e s m args below meth c s₁ B hml hv
  obtain ⟨rfl, ⟨hM, hK, hA, hF⟩, hO⟩ := hv
  have hS : va_S A s.heap s.heap [] := va_S.rf
  have hin : meth.name = "<init>" := (name_of_methodNamed B.named B.method).1
  have hx := B.exec
  have hb := B.bytes
  have hr := B.returns
  have hts := atoms_spec (ws := wsX1_init) B.pre
  have hown : s.vm.findClass RX1 = some m.cls := findClass_of_methodNamed B.named
  have hlocks := B.notSynchronized
  have S0 : CallFix p m c cX1_init 3 s ([.ref q, .int a, .ref rr] : List Value).toArray wsX1_init RX1 := ⟨hx, hb, hml, hown, hts⟩
  have inX1 : ∀ w ∈ wsX10, w ∈ wsX1_init := by decide +kernel
  have hl := lv_entry ([.ref q, .int a, .ref rr]) (n := 3) (Nat.le_of_ble_eq_true rfl)
  rw [lg_entry_eq]
  generalize (lg_sl ([.ref q, .int a, .ref rr]) ++ List.replicate (3 - (lg_sl ([.ref q, .int a, .ref rr])).length) Slot.unset).toArray = ls at hl ⊢
  have hl : lv_has ls 3 [(0, .ref q), (1, .int a), (2, .ref rr)] := hl
  refine lv_aload_n hx hb dX1_init_0 rfl (lv_at hl 0 rfl) ?_
  refine W.objInit hx hb hown (hts (.methodLink RX1 1 objectInit) (by decide +kernel)) (hts (.instanceMethod objectInit) (by decide +kernel)) (hts (.code objectInit ⟨#[0xb1]⟩ 1 none) (by decide +kernel)) rfl (hl.1.trans hml.symm) rfl dX1_init_1 (Nat.le_of_ble_eq_true rfl) (Nat.le_of_ble_eq_true rfl) ?_
  refine lv_aload_n hx hb dX1_init_4 rfl (lv_at hl 0 rfl) ?_
  refine lv_iload_n hx hb dX1_init_5 rfl (lv_at hl 1 rfl) ?_
  refine tk_putF (ty := .int) hx hb hts inX1 tyX1 tyX1_ok nmX1 hown hK hM hS hq rfl 0 (by decide) (hts (.fieldLink RX1 7 "TicketForge$Invoice" "number" "I") (by decide +kernel)) (fun _ h9 => h9) rfl hin rfl (by decide +kernel) rfl rfl (Nat.le_of_ble_eq_true rfl) dX1_init_6 (fun H locs hM hS => ?_)
  refine lv_aload_n hx hb dX1_init_9 rfl (lv_at hl 0 rfl) ?_
  refine lv_aload_n hx hb dX1_init_10 rfl (lv_at hl 2 rfl) ?_
  refine tk_putF (ty := (.object "TicketForge$Rules")) hx hb hts inX1 tyX1 tyX1_ok nmX1 hown hK hM hS (va_up_self _ _ _) rfl 1 (by decide) (hts (.fieldLink RX1 13 "TicketForge$Invoice" "rules" "LTicketForge$Rules;") (by decide +kernel)) (fun _ h9 => h9) rfl hin rfl (by decide +kernel) rfl rfl (Nat.le_of_ble_eq_true rfl) dX1_init_11 (fun H locs hM hS => ?_)
  rw [va_up2] at hM
  refine lv_aload_n hx hb dX1_init_14 rfl (lv_at hl 0 rfl) ?_
  refine lv_iconst (v := 0) hx hb dX1_init_15 (by decide) ?_
  refine tk_put (ty := .int) hx hb hts inX1 tyX1 tyX1_ok nmX1 hown hK hM hS (va_up_self _ _ _) rfl 2 (by decide) (hts (.fieldLink RX1 17 "TicketForge$Invoice" "total" "I") (by decide +kernel)) (fun _ h9 => h9) rfl (by decide +kernel) rfl rfl (Nat.le_of_ble_eq_true rfl) dX1_init_16 (fun H locs hM hS => ?_)
  rw [va_up2] at hM
  refine lv_aload_n hx hb dX1_init_19 rfl (lv_at hl 0 rfl) ?_
  refine lv_iconst (v := 0) hx hb dX1_init_20 (by decide) ?_
  refine tk_put (ty := .int) hx hb hts inX1 tyX1 tyX1_ok nmX1 hown hK hM hS (va_up_self _ _ _) rfl 3 (by decide) (hts (.fieldLink RX1 20 "TicketForge$Invoice" "credited" "I") (by decide +kernel)) (fun _ h9 => h9) rfl (by decide +kernel) rfl rfl (Nat.le_of_ble_eq_true rfl) dX1_init_21 (fun H locs hM hS => ?_)
  rw [va_up2] at hM
  refine W.widen (k := 0) (n := 0) (Nat.le_of_ble_eq_true rfl) (Nat.le_of_ble_eq_true rfl) ?_
  exact W.vret hx hb hr (fun t9 h9 w9 => ⟨⟨_, rfl, rfl, (by show tkM A D _ _; rw [h9]; exact hM)⟩, hS.F h9⟩) hS.2.2 dX1_init_24
set_option maxHeartbeats 1000000 in
set_option maxRecDepth 100000 in
theorem c_X2_init (l : Launch) (A : Nat → Prop) (D : va_G) (ac : Nat → ClassId) (dE : Nat) (G : TG) {q : Nat} (hq : G q = some (.inr (5, [.null, .int 0, .int 0, .int 0]))) (ra : Nat) (a b c0 : Int32) : Met l yX2_init wsX2_init ({ frames := 1, cells := 0, slots := 0, locals := 100 } : Room) (va_Pc [.ref q, .ref ra, .int a, .int b, .int c0] (tkX A D ac dE G)) (va_Qv (fun G9 => G9 = va_up G q (some (.inr (5, [.ref ra, .int a, .int b, .int c0])))) (fun (G9 : TG) t => tkM A D G9 t.heap) A) 0 0 A := by
  refine Met.ofW (cc := cX2_init) (maxL := 5) (ret := none) (by decide) rfl ?_
  intro p e s m args below meth c s₁ B hml hv
  obtain ⟨rfl, ⟨hM, hK, hA, hF⟩, hO⟩ := hv
  have hS : va_S A s.heap s.heap [] := va_S.rf
  have hin : meth.name = "<init>" := (name_of_methodNamed B.named B.method).1
  have hx := B.exec
  have hb := B.bytes
  have hr := B.returns
  have hts := atoms_spec (ws := wsX2_init) B.pre
  have hown : s.vm.findClass RX2 = some m.cls := findClass_of_methodNamed B.named
  have hlocks := B.notSynchronized
  have S0 : CallFix p m c cX2_init 5 s ([.ref q, .ref ra, .int a, .int b, .int c0] : List Value).toArray wsX2_init RX2 := ⟨hx, hb, hml, hown, hts⟩
  have inX2 : ∀ w ∈ wsX20, w ∈ wsX2_init := by decide +kernel
  have hl := lv_entry ([.ref q, .ref ra, .int a, .int b, .int c0]) (n := 5) (Nat.le_of_ble_eq_true rfl)
  rw [lg_entry_eq]
  generalize (lg_sl ([.ref q, .ref ra, .int a, .int b, .int c0]) ++ List.replicate (5 - (lg_sl ([.ref q, .ref ra, .int a, .int b, .int c0])).length) Slot.unset).toArray = ls at hl ⊢
  have hl : lv_has ls 5 [(0, .ref q), (1, .ref ra), (2, .int a), (3, .int b), (4, .int c0)] := hl
  refine lv_aload_n hx hb dX2_init_0 rfl (lv_at hl 0 rfl) ?_
  refine W.objInit hx hb hown (hts (.methodLink RX2 1 objectInit) (by decide +kernel)) (hts (.instanceMethod objectInit) (by decide +kernel)) (hts (.code objectInit ⟨#[0xb1]⟩ 1 none) (by decide +kernel)) rfl (hl.1.trans hml.symm) rfl dX2_init_1 (Nat.le_of_ble_eq_true rfl) (Nat.le_of_ble_eq_true rfl) ?_
  refine lv_aload_n hx hb dX2_init_4 rfl (lv_at hl 0 rfl) ?_
  refine lv_aload_n hx hb dX2_init_5 rfl (lv_at hl 1 rfl) ?_
  refine tk_putF (ty := (.array .int)) hx hb hts inX2 tyX2 tyX2_ok nmX2 hown hK hM hS hq rfl 0 (by decide) (hts (.fieldLink RX2 7 "TicketForge$Rules" "rates" "[I") (by decide +kernel)) (fun _ h9 => h9) rfl hin rfl (by decide +kernel) rfl rfl (Nat.le_of_ble_eq_true rfl) dX2_init_6 (fun H locs hM hS => ?_)
  refine lv_aload_n hx hb dX2_init_9 rfl (lv_at hl 0 rfl) ?_
  refine lv_iload_n hx hb dX2_init_10 rfl (lv_at hl 2 rfl) ?_
  refine tk_put (ty := .int) hx hb hts inX2 tyX2 tyX2_ok nmX2 hown hK hM hS (va_up_self _ _ _) rfl 1 (by decide) (hts (.fieldLink RX2 13 "TicketForge$Rules" "cap" "I") (by decide +kernel)) (fun _ h9 => h9) rfl (by decide +kernel) rfl rfl (Nat.le_of_ble_eq_true rfl) dX2_init_11 (fun H locs hM hS => ?_)
  rw [va_up2] at hM
  refine lv_aload_n hx hb dX2_init_14 rfl (lv_at hl 0 rfl) ?_
  refine lv_iload_n hx hb dX2_init_15 rfl (lv_at hl 3 rfl) ?_
  refine tk_put (ty := .int) hx hb hts inX2 tyX2 tyX2_ok nmX2 hown hK hM hS (va_up_self _ _ _) rfl 2 (by decide) (hts (.fieldLink RX2 17 "TicketForge$Rules" "discountFrom" "I") (by decide +kernel)) (fun _ h9 => h9) rfl (by decide +kernel) rfl rfl (Nat.le_of_ble_eq_true rfl) dX2_init_16 (fun H locs hM hS => ?_)
  rw [va_up2] at hM
  refine lv_aload_n hx hb dX2_init_19 rfl (lv_at hl 0 rfl) ?_
  refine lv_iload hx hb dX2_init_20 (lv_at hl 4 rfl) ?_
  refine tk_put (ty := .int) hx hb hts inX2 tyX2 tyX2_ok nmX2 hown hK hM hS (va_up_self _ _ _) rfl 3 (by decide) (hts (.fieldLink RX2 20 "TicketForge$Rules" "discountPercent" "I") (by decide +kernel)) (fun _ h9 => h9) rfl (by decide +kernel) rfl rfl (Nat.le_of_ble_eq_true rfl) dX2_init_22 (fun H locs hM hS => ?_)
  rw [va_up2] at hM
  refine W.widen (k := 0) (n := 0) (Nat.le_of_ble_eq_true rfl) (Nat.le_of_ble_eq_true rfl) ?_
  exact W.vret hx hb hr (fun t9 h9 w9 => ⟨⟨_, rfl, rfl, (by show tkM A D _ _; rw [h9]; exact hM)⟩, hS.F h9⟩) hS.2.2 dX2_init_25
set_option maxHeartbeats 1000000 in
set_option maxRecDepth 100000 in
theorem c_X2_copy (l : Launch) (A : Nat → Prop) (D : va_G) (ac : Nat → ClassId) (dE : Nat) (G : TG) {q ra : Nat} {a b c0 : Int32} {f : Nat → Int32} (hq : G q = some (.inr (5, rF ra a b c0))) (ha : G ra = some (.inl (ac 1, 4, .inl f))) : Met l yX2_copy wsX2_copy ({ frames := 2, cells := 2, slots := 8, locals := 140 } : Room) (va_Pc [.ref q] (tkX A D ac dE G)) (va_Qq (fun r G9 => ∃ d9 e9 : Nat, r = some d9 ∧ G d9 = none ∧ G e9 = none ∧ d9 ≠ e9 ∧ G9 d9 = some (.inr (5, rF e9 a b c0)) ∧ G9 e9 = some (.inl (ac 1, 4, .inl f)) ∧ ∀ z, z ≠ d9 → z ≠ e9 → G9 z = G z) (fun (G9 : TG) t => tkM A D G9 t.heap) A) 2 8 A := by
  refine Met.ofW (cc := cX2_copy) (maxL := 1) (ret := (some (.object "TicketForge$Rules"))) (by decide) rfl ?_
  intro p e s m args below meth c s₁ B hml hv
  obtain ⟨rfl, ⟨hM, hK, hA, hF⟩, hO⟩ := hv
  have hS : va_S A s.heap s.heap [] := va_S.rf
  have hx := B.exec
  have hb := B.bytes
  have hr := B.returns
  have hts := atoms_spec (ws := wsX2_copy) B.pre
  have hown : s.vm.findClass RX2 = some m.cls := findClass_of_methodNamed B.named
  have hlocks := B.notSynchronized
  have S0 : CallFix p m c cX2_copy 1 s ([.ref q] : List Value).toArray wsX2_copy RX2 := ⟨hx, hb, hml, hown, hts⟩
  have inX2 : ∀ w ∈ wsX20, w ∈ wsX2_copy := by decide +kernel
  have hl := lv_entry ([.ref q]) (n := 1) (Nat.le_of_ble_eq_true rfl)
  rw [lg_entry_eq]
  generalize (lg_sl ([.ref q]) ++ List.replicate (1 - (lg_sl ([.ref q])).length) Slot.unset).toArray = ls at hl ⊢
  have hl : lv_has ls 1 [(0, .ref q)] := hl
  refine tk_new hx hb hts inX2 tyX2 tyX2_ok hown (hts (.classLink RX2 8 RX2) (by decide +kernel)) (hts (.instantiable RX2 4) (by decide +kernel)) (hts (.initialized RX2) (by decide +kernel)) hK hM hS hA (ci := 5) rfl (fs := [.null, .int 0, .int 0, .int 0]) (by decide) (Nat.le_of_ble_eq_true rfl) (Nat.le_of_ble_eq_true rfl) dX2_copy_0 (fun d9 H hn9 hz9 hM hS => ?_)
  have hda : q ≠ d9 := fun h9 => by rw [h9, hn9] at hq; cases hq
  have hdr : ra ≠ d9 := fun h9 => by rw [h9, hn9] at ha; cases ha
  have hq1 := (va_up_ne G (some (.inr (5, [.null, .int 0, .int 0, .int 0]))) hda).trans hq
  have ha1 := (va_up_ne G (some (.inr (5, [.null, .int 0, .int 0, .int 0]))) hdr).trans ha
  refine lv_dup hx hb dX2_copy_3 rfl ?_
  refine lv_aload_n hx hb dX2_copy_4 rfl (lv_at hl 0 rfl) ?_
  refine tk_get hx hb hts inX2 hown hK hM hq1 rfl 0 (by decide) (hts (.fieldLink RX2 7 "TicketForge$Rules" "rates" "[I") (by decide +kernel)) (fun _ h9 => h9) rfl dX2_copy_5 ?_
  refine tk_clone hx hb (by rw [hml]; exact hl.1.symm) hown (hts (.methodLink RX2 23 ⟨"[I", "clone", "()Ljava/lang/Object;"⟩) (by decide +kernel)) (hts (.sameMethod "[I" "java/lang/Object" "clone" "()Ljava/lang/Object;") (by decide +kernel)) (hts (.native ⟨"java/lang/Object", "clone", "()Ljava/lang/Object;"⟩) (by decide +kernel)) (hts (.instanceMethod ⟨"java/lang/Object", "clone", "()Ljava/lang/Object;"⟩) (by decide +kernel)) (hts (.selects "[I" ⟨"[I", "clone", "()Ljava/lang/Object;"⟩ ⟨"java/lang/Object", "clone", "()Ljava/lang/Object;"⟩) (by decide +kernel)) hO hK hM hS hA ha1 (Nat.le_of_ble_eq_true rfl) (Nat.le_of_ble_eq_true rfl) (Nat.le_of_ble_eq_true rfl) (Nat.le_of_ble_eq_true rfl) dX2_copy_8 (fun e9 H he9 hM hS => ?_)
  have hed : d9 ≠ e9 := fun h9 => by rw [← h9, va_up_self] at he9; cases he9
  have heq : q ≠ e9 := fun h9 => by rw [← h9, hq1] at he9; cases he9
  have hq2 := (va_up_ne (va_up G d9 (some (.inr (5, [.null, .int 0, .int 0, .int 0])))) (some (.inl (ac 1, 4, .inl f))) heq).trans hq1
  have hd2 := (va_up_ne (va_up G d9 (some (.inr (5, [.null, .int 0, .int 0, .int 0])))) (some (.inl (ac 1, 4, .inl f))) hed).trans (va_up_self _ _ _)
  refine tk_castI hx hb hown (hts (.classLink RX2 24 "[I") (by decide +kernel)) hK hM (va_up_self _ _ _) dX2_copy_11 ?_
  refine lv_aload_n hx hb dX2_copy_14 rfl (lv_at hl 0 rfl) ?_
  refine tk_get hx hb hts inX2 hown hK hM hq2 rfl 1 (by decide) (hts (.fieldLink RX2 13 "TicketForge$Rules" "cap" "I") (by decide +kernel)) (fun _ h9 => h9) rfl dX2_copy_15 ?_
  refine lv_aload_n hx hb dX2_copy_18 rfl (lv_at hl 0 rfl) ?_
  refine tk_get hx hb hts inX2 hown hK hM hq2 rfl 2 (by decide) (hts (.fieldLink RX2 17 "TicketForge$Rules" "discountFrom" "I") (by decide +kernel)) (fun _ h9 => h9) rfl dX2_copy_19 ?_
  refine lv_aload_n hx hb dX2_copy_22 rfl (lv_at hl 0 rfl) ?_
  refine tk_get hx hb hts inX2 hown hK hM hq2 rfl 3 (by decide) (hts (.fieldLink RX2 20 "TicketForge$Rules" "discountPercent" "I") (by decide +kernel)) (fun _ h9 => h9) rfl dX2_copy_23 ?_
  refine tk_mIv (As := [.ref e9, .int a, .int b, .int c0]) S0 (c_X2_init l A D ac dE _ hd2 e9 a b c0) (cwI 4 hts gX2_copy_X2_init rfl rfl rfl (hts (.initialized RX2) (by decide +kernel)) (hts (.methodLink RX2 28 yX2_init) (by decide +kernel)) (hts (.instanceMethod yX2_init) (by decide +kernel)) rfl (by decide +kernel) ⟨Nat.le_of_ble_eq_true rfl, Nat.le_of_ble_eq_true rfl⟩) (tkX.blind) (tkX.at hM hK hA hF hO hS) rfl hl.1 rfl (Nat.le_of_ble_eq_true rfl) dX2_copy_26 ⟨Nat.le_of_ble_eq_true rfl, Nat.le_of_ble_eq_true rfl⟩ hS (fun G9 H locs hG9 hM hS => ?_)
  subst hG9
  refine W.widen (k := 2) (n := 8) (Nat.le_of_ble_eq_true rfl) (Nat.le_of_ble_eq_true rfl) ?_
  exact W.aret (v := .ref d9) hx hb hr (Or.inl ⟨_, rfl⟩) (va_rf_or (some d9)) (fun t9 h9 w9 => ⟨⟨(some d9), _, rfl, ⟨d9, e9, rfl, hn9, (by rw [va_up_ne _ _ (Ne.symm hed)] at he9; exact he9), hed, va_up_self _ _ _, (va_up_ne _ _ (Ne.symm hed)).trans (va_up_self _ _ _), fun z h1 h2 => (va_up_ne _ _ h1).trans ((va_up_ne _ _ h2).trans (va_up_ne _ _ h1))⟩, (by show tkM A D _ _; rw [h9]; exact hM)⟩, hS.F h9⟩) hS.2.2 dX2_copy_29
