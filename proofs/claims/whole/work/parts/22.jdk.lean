/-! lists grow -/
theorem tk_arecv {ac : Nat → ClassId} {A : Nat → Prop} {D : va_G} {G : TG} {s : State} {H : Heap} {a : Nat} {x : vp_A} (hK : va_K D vwCl (tkT ac) s) (hM : tkM A D G H) (he : G a = some (.inl (ac 3, x))) : ∃ cell : Cell, H[a]? = some cell ∧ cell.vm.isStatics = false ∧ s.vm.findClass "[Ljava/lang/Object;" = some cell.cls := by
  obtain ⟨_, _, _, _, _, h1⟩ := (hK.2 3 _ rfl).2
  refine ⟨vp_cell (ac 3) x, hM.one he 0 _ rfl, ?_, ?_⟩
  · obtain ⟨n, f | f | f | f | f⟩ := x <;> rfl
  · rw [show (vp_cell (ac 3) x).cls = ac 3 from by obtain ⟨n, f | f | f | f | f⟩ := x <;> rfl]
    exact h1
theorem shr1 : ∀ n : Fin 64, nI n.val >>> ((1 : Int32) &&& 31) = nI (n.val / 2) := by decide +kernel
theorem sub1 (n : Nat) (hn : n < 64) : nI (n + 1) - nI n = nI 1 := by
  have := (by decide +kernel : ∀ n : Fin 64, nI (n.val + 1) - nI n.val = nI 1) ⟨n, hn⟩
  exact this
/-- what a grown list is: q refers to d, which has room -/
def GrP (ac : Nat → ClassId) (G G9 : TG) (q n : Nat) (mc : Int32) (g : Nat → Option Nat) (d : Nat) : Prop := G d = none ∧ ∃ (cap : Nat) (g' : Nat → Option Nat), G9 = va_up (va_up G d (some (.inl (ac 3, cap, .inr (.inr (.inr (.inr g'))))))) q (some (.inr (2, [.int mc, .ref d, .int (nI n)]))) ∧ n < cap ∧ cap ≤ 90 ∧ ∀ i, i < n → g' i = g i
/-- what an addition is -/
def AdP (ac : Nat → ClassId) (dE : Nat) (G G9 : TG) (q d n : Nat) (f : Nat → Nat) (x : Nat) : Prop := ∃ d' : Nat, LX ac dE q d' (n + 1) (va_up f n x) G9 ∧ (∀ a e, G a = some e → a ≠ q → a ≠ d' → G9 a = some e) ∧ ((d' = d ∧ 0 < n) ∨ G d' = none)
set_option maxHeartbeats 4000000 in
set_option maxRecDepth 100000 in
theorem c_J8_newLength_cabcc (l : Launch) (A : Nat → Prop) (D : va_G) (ac : Nat → ClassId) (dE : Nat) (G : TG) (a b c0 : Nat) (h1 : 1 ≤ b) (hs : a + b + c0 < 2 ^ 30) : Met l yJ8_newLength_cabcc wsJ8_newLength_cabcc ({ frames := 1, cells := 0, slots := 0, locals := 100 } : Room) (va_Pc [.int (nI a), .int (nI b), .int (nI c0)] (tkX A D ac dE G)) (vp_Si (fun z => ∃ k : Nat, z = nI k ∧ a + b ≤ k ∧ k ≤ a + b + c0)) 0 0 (fun _ => False) := by
  refine Met.ofW (cc := cJ8_newLength_cabcc) (maxL := 4) (ret := (some .int)) (by decide) rfl ?_
  intro p e s m args below meth c s₁ B hml hv
  obtain ⟨rfl, ⟨hM, hK, hA, hF⟩, hO⟩ := hv
  have hS : va_S A s.heap s.heap [] := va_S.rf
  have hx := B.exec
  have hb := B.bytes
  have hr := B.returns
  have hts := atoms_spec (ws := wsJ8_newLength_cabcc) B.pre
  have hown : s.vm.findClass RJ8 = some m.cls := findClass_of_methodNamed B.named
  have hlocks := B.notSynchronized
  have S0 : CallFix p m c cJ8_newLength_cabcc 4 s ([.int (nI a), .int (nI b), .int (nI c0)] : List Value).toArray wsJ8_newLength_cabcc RJ8 := ⟨hx, hb, hml, hown, hts⟩
  have hl := lv_entry ([.int (nI a), .int (nI b), .int (nI c0)]) (n := 4) (Nat.le_of_ble_eq_true rfl)
  rw [lg_entry_eq]
  generalize (lg_sl ([.int (nI a), .int (nI b), .int (nI c0)]) ++ List.replicate (4 - (lg_sl ([.int (nI a), .int (nI b), .int (nI c0)])).length) Slot.unset).toArray = ls at hl ⊢
  have hl : lv_has ls 4 [(0, .int (nI a)), (1, .int (nI b)), (2, .int (nI c0))] := hl
  refine lv_iload_n hx hb dJ8_newLength_cabcc_0 rfl (lv_at hl 0 rfl) ?_
  refine lv_iload_n hx hb dJ8_newLength_cabcc_1 rfl (lv_at hl 1 rfl) ?_
  refine lv_iload_n hx hb dJ8_newLength_cabcc_2 rfl (lv_at hl 2 rfl) ?_
  refine va_mmax hx hb (by rw [hml]; exact hl.1.symm) hown (hts (.methodLink RJ8 194 Lib.Math.max.name) (by decide +kernel)) (hts (.static Lib.Math.max.name) (by decide +kernel)) (hts (.initialized "java/lang/Math") (by decide +kernel)) (hts (.code Lib.Math.max.name Lib.Math.max.code 2 (some .int)) (by decide +kernel)) (Nat.le_of_ble_eq_true rfl) (Nat.le_of_ble_eq_true rfl) (Nat.zero_le _) (Nat.zero_le _) dJ8_newLength_cabcc_3 ?_
  obtain ⟨k, hk0, hk1, hk2⟩ : ∃ k : Nat, (if nI b < nI c0 then nI c0 else nI b) = nI k ∧ b ≤ k ∧ k ≤ b + c0 := by
    by_cases h9 : nI b < nI c0
    · exact ⟨c0, if_pos h9, by have := (nI_ltI (by omega) (by omega)).mp h9; omega, by omega⟩
    · exact ⟨b, if_neg h9, by omega, by omega⟩
  rw [hk0]
  refine lv_iadd hx hb dJ8_newLength_cabcc_6 ?_
  rw [nI_add]
  refine lv_istore_n (lv' := [(3, .int (nI (a + k))), (0, .int (nI a)), (1, .int (nI b)), (2, .int (nI c0))]) hx hb dJ8_newLength_cabcc_7 rfl hl (by decide) rfl (fun ls hl => ?_)
  refine lv_iconst (v := 0) hx hb dJ8_newLength_cabcc_8 (by decide) ?_
  refine lv_iload_n hx hb dJ8_newLength_cabcc_9 rfl (lv_at hl 0 rfl) ?_
  refine lv_icmp_ge (tgt := 21) hx hb dJ8_newLength_cabcc_10 (by decide) (fun c_1 => absurd c_1 (fun h9 => by have := (nI_leI (a := a + k) (b := 0) (by omega) (by omega)).mp h9; omega)) (fun c_1 => ?_)
  refine lv_iload_n hx hb dJ8_newLength_cabcc_13 rfl (lv_at hl 0 rfl) ?_
  refine lv_ldc hx hb hown (hts (.constant RJ8 200 (2147483639)) (by decide +kernel)) dJ8_newLength_cabcc_14 ?_
  refine lv_icmp_gt (tgt := 21) hx hb dJ8_newLength_cabcc_16 (by decide) (fun c_2 => absurd c_2 (fun h9 => by have := (nI_ltI (a := 2147483639) (b := a + k) (by omega) (by omega)).mp h9; omega)) (fun c_2 => ?_)
  refine lv_iload_n hx hb dJ8_newLength_cabcc_19 rfl (lv_at hl 0 rfl) ?_
  exact W.iret (v := (nI (a + k))) hx hb hr (fun t9 h9 w9 => ⟨(nI (a + k)), rfl, ⟨_, rfl, by omega, by omega⟩, h9⟩) (fun q hq => absurd hq List.not_mem_nil) dJ8_newLength_cabcc_20
set_option maxHeartbeats 4000000 in
set_option maxRecDepth 100000 in
theorem c_J7_copyOf_6403c (l : Launch) (A : Nat → Prop) (D : va_G) (ac : Nat → ClassId) (dE : Nat) (G : TG) {mi a0 n0 k : Nat} {f : Nat → Option Nat} (he0 : G a0 = some (.inl (ac 3, n0, .inr (.inr (.inr (.inr f)))))) (hk0 : n0 ≤ k) (hk : k ≤ 90) (hel : ∀ i, i < n0 → ∀ y, f i = some y → XOb G y) : Met l yJ7_copyOf_6403c wsJ7_copyOf_6403c ({ frames := 1, cells := 1, slots := 90, locals := 100 } : Room) (va_Pc [.ref a0, .int (nI k), .ref mi] (tkY A D ac dE mi G)) (va_Qq (fun r G9 => ∃ (d : Nat) (g : Nat → Option Nat), r = some d ∧ G d = none ∧ G9 = va_up G d (some (.inl (ac 3, k, .inr (.inr (.inr (.inr g)))))) ∧ ∀ i, i < n0 → g i = f i) (fun (G9 : TG) t => tkM A D G9 t.heap) A) 1 90 A := by
  refine Met.ofW (cc := cJ7_copyOf_6403c) (maxL := 4) (ret := (some (.array (.object "java/lang/Object")))) (by decide) rfl ?_
  intro p e s m args below meth c s₁ B hml hv
  obtain ⟨rfl, ⟨⟨hM, hK, hA, hF⟩, hO⟩, hMi⟩ := hv
  have hS : va_S A s.heap s.heap [] := va_S.rf
  have hx := B.exec
  have hb := B.bytes
  have hr := B.returns
  have hts := atoms_spec (ws := wsJ7_copyOf_6403c) B.pre
  have hown : s.vm.findClass RJ7 = some m.cls := findClass_of_methodNamed B.named
  have hlocks := B.notSynchronized
  have S0 : CallFix p m c cJ7_copyOf_6403c 4 s ([.ref a0, .int (nI k), .ref mi] : List Value).toArray wsJ7_copyOf_6403c RJ7 := ⟨hx, hb, hml, hown, hts⟩
  have hl := lv_entry ([.ref a0, .int (nI k), .ref mi]) (n := 4) (Nat.le_of_ble_eq_true rfl)
  rw [lg_entry_eq]
  generalize (lg_sl ([.ref a0, .int (nI k), .ref mi]) ++ List.replicate (4 - (lg_sl ([.ref a0, .int (nI k), .ref mi])).length) Slot.unset).toArray = ls at hl ⊢
  have hl : lv_has ls 4 [(0, .ref a0), (1, .int (nI k)), (2, .ref mi)] := hl
  refine lv_aload_n hx hb dJ7_copyOf_6403c_0 rfl (lv_at hl 2 rfl) ?_
  refine va_ldcM hx hb hown (hts (.classLink RJ7 110 "[Ljava/lang/Object;") (by decide +kernel)) hMi dJ7_copyOf_6403c_1 ?_
  refine lv_acmp_ne (rx := (some mi)) (ry := (some mi)) (tgt := 13) hx hb dJ7_copyOf_6403c_3 (by decide) (fun c_1 => absurd rfl c_1) (fun c_1 => ?_)
  refine lv_iload_n hx hb dJ7_copyOf_6403c_6 rfl (lv_at hl 1 rfl) ?_
  refine tk_newq hx hb hown (hts (.classLink RJ7 2 "java/lang/Object") (by decide +kernel)) hO.2.2.1 hK 3 rfl hM hS hA (nI_pos (by omega)) (nI_clamp (by omega)) (by omega) (Nat.le_of_ble_eq_true rfl) (by show 0 + k ≤ 90; omega) dJ7_copyOf_6403c_7 (fun d9 H hn9 hM hS => ?_)
  have hd9 : a0 ≠ d9 := fun h9 => by rw [h9, hn9] at he0; cases he0
  have he0b := (va_up_ne G (some (.inl (ac 3, k, .inr (.inr (.inr (.inr (fun _ => none))))))) hd9).trans he0
  refine lv_goto (tgt := 24) hx hb dJ7_copyOf_6403c_10 (by decide) ?_
  refine lv_astore_n (lv' := [(3, .ref d9), (0, .ref a0), (1, .int (nI k)), (2, .ref mi)]) hx hb dJ7_copyOf_6403c_24 rfl hl (by decide) rfl (fun ls hl => ?_)
  refine lv_aload_n hx hb dJ7_copyOf_6403c_25 rfl (lv_at hl 1 rfl) ?_
  refine lv_iconst (v := 0) hx hb dJ7_copyOf_6403c_26 (by decide) ?_
  refine lv_aload_n hx hb dJ7_copyOf_6403c_27 rfl (lv_at hl 0 rfl) ?_
  refine lv_iconst (v := 0) hx hb dJ7_copyOf_6403c_28 (by decide) ?_
  refine lv_aload_n hx hb dJ7_copyOf_6403c_29 rfl (lv_at hl 1 rfl) ?_
  refine tk_alen (v := (nI n0)) hx hb hK hM 3 he0b rfl rfl dJ7_copyOf_6403c_30 ?_
  refine lv_iload_n hx hb dJ7_copyOf_6403c_31 rfl (lv_at hl 2 rfl) ?_
  refine va_mmin hx hb (by rw [hml]; exact hl.1.symm) hown (hts (.methodLink RJ7 304 Lib.Math.min.name) (by decide +kernel)) (hts (.static Lib.Math.min.name) (by decide +kernel)) (hts (.initialized "java/lang/Math") (by decide +kernel)) (hts (.code Lib.Math.min.name Lib.Math.min.code 2 (some .int)) (by decide +kernel)) (Nat.le_of_ble_eq_true rfl) (Nat.le_of_ble_eq_true rfl) (Nat.le_of_ble_eq_true rfl) (by show 0 + k ≤ 90; omega) dJ7_copyOf_6403c_32 ?_
  rw [show (if nI k < nI n0 then nI k else nI n0) = nI n0 from if_neg (fun h9 => by have := (nI_ltI (by omega) (by omega)).mp h9; omega)]
  refine tk_cpy hx hb (by rw [hml]; exact hl.1.symm) hown (hts (.methodLink RJ7 150 arraycopyName) (by decide +kernel)) (hts (.native arraycopyName) (by decide +kernel)) (hts (.static arraycopyName) (by decide +kernel)) (hts (.initialized "java/lang/System") (by decide +kernel)) hK hM hS hO he0b (va_up_self _ _ _) (Nat.le_refl _) hk0 (by omega) (fun i hi y hy => (hel i hi y hy).up (fun h9 => by obtain ⟨ci, fs, C, T, N, g1, -⟩ := hel i hi y hy; rw [h9, hn9] at g1; cases g1)) (Nat.le_of_ble_eq_true rfl) (by decide +kernel) dJ7_copyOf_6403c_35 (fun H locs hM hS => ?_)
  rw [va_up2] at hM
  refine lv_aload_n hx hb dJ7_copyOf_6403c_38 rfl (lv_at hl 0 rfl) ?_
  refine W.widen (k := 1) (n := 90) (Nat.le_of_ble_eq_true rfl) (by show 0 + k ≤ 90; omega) ?_
  exact W.aret (v := .ref d9) hx hb hr (Or.inr ⟨_, rfl⟩) (va_rf_or (some d9)) (fun t9 h9 w9 => ⟨⟨(some d9), _, rfl, ⟨d9, _, rfl, hn9, rfl, fun i hi => cpy_lt hi⟩, (by show tkM A D _ _; rw [h9]; exact hM)⟩, hS.F h9⟩) hS.2.2 dJ7_copyOf_6403c_39
set_option maxHeartbeats 4000000 in
set_option maxRecDepth 100000 in
theorem c_J7_copyOf_1904c (l : Launch) (A : Nat → Prop) (D : va_G) (ac : Nat → ClassId) (dE : Nat) (G : TG) {a0 n0 k : Nat} {f : Nat → Option Nat} (he0 : G a0 = some (.inl (ac 3, n0, .inr (.inr (.inr (.inr f)))))) (hk0 : n0 ≤ k) (hk : k ≤ 90) (hel : ∀ i, i < n0 → ∀ y, f i = some y → XOb G y) : Met l yJ7_copyOf_1904c wsJ7_copyOf_1904c ({ frames := 2, cells := 1, slots := 90, locals := 140 } : Room) (va_Pc [.ref a0, .int (nI k)] (tkX A D ac dE G)) (va_Qq (fun r G9 => ∃ (d : Nat) (g : Nat → Option Nat), r = some d ∧ G d = none ∧ G9 = va_up G d (some (.inl (ac 3, k, .inr (.inr (.inr (.inr g)))))) ∧ ∀ i, i < n0 → g i = f i) (fun (G9 : TG) t => tkM A D G9 t.heap) A) 1 90 A := by
  refine Met.ofW (cc := cJ7_copyOf_1904c) (maxL := 2) (ret := (some (.array (.object "java/lang/Object")))) (by decide) rfl ?_
  intro p e s m args below meth c s₁ B hml hv
  obtain ⟨rfl, ⟨hM, hK, hA, hF⟩, hO⟩ := hv
  have hS : va_S A s.heap s.heap [] := va_S.rf
  have hx := B.exec
  have hb := B.bytes
  have hr := B.returns
  have hts := atoms_spec (ws := wsJ7_copyOf_1904c) B.pre
  have hown : s.vm.findClass RJ7 = some m.cls := findClass_of_methodNamed B.named
  have hlocks := B.notSynchronized
  have S0 : CallFix p m c cJ7_copyOf_1904c 2 s ([.ref a0, .int (nI k)] : List Value).toArray wsJ7_copyOf_1904c RJ7 := ⟨hx, hb, hml, hown, hts⟩
  have hl := lv_entry ([.ref a0, .int (nI k)]) (n := 2) (Nat.le_of_ble_eq_true rfl)
  rw [lg_entry_eq]
  generalize (lg_sl ([.ref a0, .int (nI k)]) ++ List.replicate (2 - (lg_sl ([.ref a0, .int (nI k)])).length) Slot.unset).toArray = ls at hl ⊢
  have hl : lv_has ls 2 [(0, .ref a0), (1, .int (nI k))] := hl
  refine lv_aload_n hx hb dJ7_copyOf_1904c_0 rfl (lv_at hl 0 rfl) ?_
  refine lv_iload_n hx hb dJ7_copyOf_1904c_1 rfl (lv_at hl 1 rfl) ?_
  refine lv_aload_n hx hb dJ7_copyOf_1904c_2 rfl (lv_at hl 0 rfl) ?_
  obtain ⟨mi, hMi⟩ := hO.2.2.2.2.2.1
  refine va_getC (C := "[Ljava/lang/Object;") hx hb (by rw [hml]; exact hl.1.symm) hown (hts (.methodLink RJ7 86 ⟨"java/lang/Object", "getClass", "()Ljava/lang/Class;"⟩) (by decide +kernel)) (va_Dc.use hO.2.2.2.2.2.2.1) (hts (.selects "[Ljava/lang/Object;" ⟨"java/lang/Object", "getClass", "()Ljava/lang/Class;"⟩ ⟨"java/lang/Object", "getClass", "()Ljava/lang/Class;"⟩) (by decide +kernel)) (hts (.instanceMethod ⟨"java/lang/Object", "getClass", "()Ljava/lang/Class;"⟩) (by decide +kernel)) (hts (.native ⟨"java/lang/Object", "getClass", "()Ljava/lang/Class;"⟩) (by decide +kernel)) hMi (tk_arecv hK hM he0) (Nat.le_of_ble_eq_true rfl) (Nat.le_of_ble_eq_true rfl) dJ7_copyOf_1904c_3 ?_
  refine va_callq (A1 := A) (free := A) (va_runS (As := [.ref a0, .int (nI k), .ref mi]) (rest := []) S0 (c_J7_copyOf_6403c l A D ac dE G he0 hk0 hk hel) (va_cwS 3 hts gJ7_copyOf_1904c_J7_copyOf_6403c rfl rfl rfl (by decide +kernel) ⟨Nat.le_of_ble_eq_true rfl, Nat.le_of_ble_eq_true rfl⟩) ⟨fun a U g mk q => ⟨q.1, tkY.blind U g mk a q.2⟩, fun U hU hW => ⟨rfl, tkY.at hM hK hA hF hO hS hMi U hU hW⟩⟩ rfl rfl hl.1 rfl (lv_room (Nat.le_of_ble_eq_true rfl)) dJ7_copyOf_1904c_6 ⟨Nat.le_of_ble_eq_true rfl, Nat.le_of_ble_eq_true rfl⟩) hS (fun q _ h => h) (fun q h => h) (fun r u t H locs ht _ hp hB _ _ hS => ?_)
  rw [← ht] at hS ⊢
  obtain ⟨d, g, rfl, hn9, rfl, hg9⟩ := hp
  have hM : tkM A D _ t.heap := hB
  refine W.widen (k := 1) (n := 90) (Nat.le_of_ble_eq_true rfl) (Nat.le_of_ble_eq_true rfl) ?_
  exact W.aret (v := .ref d) hx hb hr (Or.inr ⟨_, rfl⟩) (va_rf_or (some d)) (fun t9 h9 w9 => ⟨⟨(some d), _, rfl, ⟨d, g, rfl, hn9, rfl, hg9⟩, (by show tkM A D _ _; rw [h9]; exact hM)⟩, hS.F h9⟩) hS.2.2 dJ7_copyOf_1904c_9
