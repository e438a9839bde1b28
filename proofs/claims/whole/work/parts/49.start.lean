/-! the start of the law -/
section LWNEW
variable {p : Program} {l : Launch} {e : Env} {R : Room} {s : State} {m : MethodId} {args : Array Value} {below : List Frame} {meth : Method} {c : Code} {H : Heap} {locs : List Loc} {cells slots : Nat} {Q : State → Prop}
variable {cc : ByteArray} {pc : Nat} {ls : Array Slot} {rest : List Value} {A : Nat → Prop} {D : va_G} {H0 : Heap} {tys : List (ClassId × FieldType)}
theorem lw_newa (hx : p.tables.exec = Jvm.exec) (hb : c.code = cc) {atype : ArrayType} (harr : (Cond.arrayClass (newarray.typeOf atype)).before args s = true) {ty : FieldType} (hty : newarray.typeOf atype = ty) (hK : va_K D vwCl tys s) (t0 : Nat) {cI : ClassId} (ht : tys[t0]? = some (cI, ty)) (hra : ∀ cA : ClassId, va_RA s cA ty → s.vm.findClass ("[" ++ ty.toString) = some cA) (hS : va_S A H0 H locs)
    {n : Int32} {N' : Nat} {a0 : vp_A} (ha : ∀ cA : ClassId, vp_cell cA a0 = arrV cA N' (fun _ => defaultValue ty)) (hn : ¬ n < 0) (hN : n.toNatClampNeg = N') (hbytes : N' * componentBytes ty ≤ 536870912) (hcells : cells + 1 ≤ R.cells) (hslots : slots + N' ≤ R.slots) (hdg : decode cc pc = .ok (.newarray atype, 2))
    (kk : ∀ (H1 : Heap), H1.size = H.size + 1 → (∀ q : Nat, q < H.size → H1[q]? = H[q]?) → tkM (fun q => q = H.size) D (va_up (fun _ => none) H.size (some (.inl (cI, a0)))) H1 → va_S A H0 H1 locs → W p l e R s m args below meth c H1 locs (cells + 1) (slots + N') Q (F0 m (pc + 2) ls (.ref H.size :: rest))) : W p l e R s m args below meth c H locs cells slots Q (F0 m pc ls (.int n :: rest)) := by
  subst hty
  refine va_newaK hx hb harr rfl hdg rfl hn hN hbytes hcells hslots rfl fun H1 cA e1 z1 o1 hAr hNm => ?_
  have hcA : cA = cI := Option.some.inj (hNm.symm.trans (hra _ (hK.2 t0 _ ht).2))
  subst hcA
  refine kk H1 z1 o1 ⟨[(H.size, .inl (cA, a0))], fun k x hx => ?_, ⟨fun i j x y hx hy hxy => ?_, fun k x hx => ?_⟩, fun a e0 he => ?_⟩ ⟨Nat.le_trans hS.1 (by omega), fun x h1 h2 => (o1 x (Nat.lt_of_lt_of_le h1 hS.1)).trans (hS.2.1 x h1 h2), hS.2.2⟩
  · have hz : k < 1 := (List.getElem?_eq_some_iff.mp hx).1
    rw [show k = 0 by omega] at hx
    cases hx
    show H1[H.size]? = some (vp_cell _ _)
    rw [ha]
    exact e1
  · have h1 : i < 1 := (List.getElem?_eq_some_iff.mp hx).1
    have h2 : j < 1 := (List.getElem?_eq_some_iff.mp hy).1
    omega
  · have hz : k < 1 := (List.getElem?_eq_some_iff.mp hx).1
    rw [show k = 0 by omega] at hx
    cases hx
    rfl
  · by_cases hq : a = H.size
    · subst hq
      rw [va_up_self] at he
      cases he
      exact ⟨0, rfl⟩
    · rw [va_up_ne _ _ hq] at he
      cases he
end LWNEW
set_option maxHeartbeats 4000000 in
set_option maxRecDepth 100000 in
theorem whole_start {p : Program} {e : Env} {s : State} {m : MethodId} {below : List Frame} {meth : Method} {c : Code} (l : Launch) (hflags : l.flags = flags0) {b L : Nat} {xs : Nat → Int32} (hL : L ≤ 2560) (C0 : lw_At p s m meth c b L xs) : W p l e room_1 s m #[Value.ref b] below meth c s.heap [] 0 0 (lw_Z below #[Value.ref b] s) (entryFrame m ([Value.ref b] : List Value).toArray 9) := by
  obtain ⟨hx, hb, hr, hml, hown, hts0, hX, hbl, hlocks, hgv⟩ := id C0
  have hts : ∀ w ∈ wsL_law, w.before #[Value.ref b] s = true := fun w h => hts0 w (wsL_law_in w h)
  have hst : l.stackTraces = false := by
    unfold Launch.stackTraces
    rw [hflags]
    decide +kernel
  obtain ⟨D, ac, hK⟩ := st_K hts0
  have hF : tkF (lw_A s) s s.heap := st_F hts0 hgv
  obtain ⟨dE, hO⟩ := st_O ac hts0 hgv
  have hN : tkN s := st_N hgv
  have S0 : CallFix p m c code 9 s #[Value.ref b] wsL_law RL := ⟨hx, hb, hml, hown, hts⟩
  have hA : ∀ q : Nat, s.heap.size ≤ q → lw_A s q := fun _ h => h
  have hS : va_S (lw_A s) s.heap s.heap [] := va_S.rf
  have hM0 : tkM (lw_A s) D (fun _ => none) s.heap := tkM.nil
  have hl := lv_entry ([.ref b]) (n := 9) (Nat.le_of_ble_eq_true rfl)
  rw [lg_entry_eq]
  generalize (lg_sl ([.ref b]) ++ List.replicate (9 - (lg_sl ([.ref b])).length) Slot.unset).toArray = ls at hl ⊢
  have hl : lv_has ls 9 [(0, .ref b)] := hl
  refine tk_new hx hb hts0 lwi_X4 tyX4 tyX4_ok hown (hts0 (.classLink RL 8 RX4) (wsL_lw_1 _ (by decide +kernel))) (hts0 (.instantiable RX4 7) (wsL_lw_1 _ (by decide +kernel))) (hts0 (.initialized RX4) (wsL_lw_1 _ (by decide +kernel))) hK hM0 hS hA (ci := 7) rfl (fs := [.null, .null, .null, .null, .int 0, .int 0, .int 0]) (by decide) (Nat.le_of_ble_eq_true rfl) (Nat.le_of_ble_eq_true rfl) dL_law_0 (fun h0 H hn0 hz0 hM hS => ?_)
  refine lv_dup hx hb dL_law_3 rfl ?_
  refine tk_mIv (As := []) S0 (c_X4_init l (lw_A s) D ac dE _ (va_up_self _ _ _)) (cwI 0 hts gL_law_X4_init rfl rfl rfl (hts (.initialized RX4) (by decide +kernel)) (hts (.methodLink RL 122 yX4_init) (by decide +kernel)) (hts (.instanceMethod yX4_init) (by decide +kernel)) rfl (by decide +kernel) ⟨Nat.le_of_ble_eq_true rfl, Nat.le_of_ble_eq_true rfl⟩) (tkX.blind) (tkX.at hM hK hA hF hO hS) rfl hl.1 rfl (Nat.le_of_ble_eq_true rfl) dL_law_4 ⟨Nat.le_of_ble_eq_true rfl, Nat.le_of_ble_eq_true rfl⟩ hS (fun GX HX locs hPX hMX hSX => ?_)
  obtain ⟨α, hPX⟩ := hPX
  have hS := hSX
  refine lv_astore_n (lv' := [(1, .ref h0), (0, .ref b)]) hx hb dL_law_7 rfl hl (by decide) rfl (fun ls hl => ?_)
  refine tk_new hx hb hts0 lwi_X5 tyX5 tyX5_ok hown (hts0 (.classLink RL 123 RX5) (wsL_lw_1 _ (by decide +kernel))) (hts0 (.instantiable RX5 26) (wsL_lw_1 _ (by decide +kernel))) (hts0 (.initialized RX5) (wsL_lw_1 _ (by decide +kernel))) hK hMX hS hA (ci := 8) rfl (fs := [.null, .null, .null, .null, .null, .null, .null, .null, .null, .null, .null, .null, .null, .null, .null, .null, .null, .null, .int 0, .int 0, .int 0, .int 0, .int 0, .int 0, .int 0, .int 0]) (by decide) (Nat.le_of_ble_eq_true rfl) (Nat.le_of_ble_eq_true rfl) dL_law_8 (fun m0 H5 hn5 hz5 hM5 hS => ?_)
  have hm5 : m0 < H5.size := hM5.lt (va_up_self _ _ _)
  have hX5 : tkM (lw_A s) D GX H5 := hM5.sub (fun a e0 he => by
    by_cases h : a = m0
    · rw [h, hn5] at he; cases he
    · rw [va_up_ne _ _ h]; exact he)
  have hXlt : ∀ a e0, GX a = some e0 → a < HX.size := fun a e0 he => hMX.lt he
  have hMm : tkM (fun q => HX.size ≤ q) D (va_up (fun _ => none) m0 (some (.inr (8, [.null, .null, .null, .null, .null, .null, .null, .null, .null, .null, .null, .null, .null, .null, .null, .null, .null, .null, .int 0, .int 0, .int 0, .int 0, .int 0, .int 0, .int 0, .int 0])))) H5 := (hM5.one_o (va_up_self _ _ _)).weaken (fun q hq => by rw [hq]; exact hz5)
  refine lv_dup hx hb dL_law_11 rfl ?_
  refine va_callv (A1 := fun q => HX.size ≤ q) (free := fun q => HX.size ≤ q) (va_runI (As := []) (rest := [.ref m0]) S0 (c_X5_init l (fun q => HX.size ≤ q) D ac _ (va_up_self _ _ _)) (cwI 0 hts gL_law_X5_init rfl rfl rfl (hts (.initialized RX5) (by decide +kernel)) (hts (.methodLink RL 125 yX5_init) (by decide +kernel)) (hts (.instanceMethod yX5_init) (by decide +kernel)) rfl (by decide +kernel) ⟨Nat.le_of_ble_eq_true rfl, Nat.le_of_ble_eq_true rfl⟩) ⟨fun a U g mk q => ⟨q.1, tkJ.blind U g mk a q.2.1, q.2.2⟩, fun U hU hW => ⟨rfl, tkJ.at hMm hK U hU hW, fun q h => Nat.le_trans (Nat.le_trans hz5 (Nat.le_of_lt hm5)) (by rw [← hU]; exact h)⟩⟩ rfl rfl hl.1 rfl (lv_room (Nat.le_of_ble_eq_true rfl)) dL_law_12 ⟨Nat.le_of_ble_eq_true rfl, Nat.le_of_ble_eq_true rfl⟩) hS (fun q _ h => Nat.le_trans hSX.1 h) (fun q h => Nat.le_trans hSX.1 h) (fun GM t H6 locs ht hal hR hB hz6 hk6 hS => ?_)
  obtain ⟨am, hR⟩ := hR
  have hMM6 : tkM (fun q => HX.size ≤ q) D GM H6 := by rw [← ht]; exact hB
  have hX6 : tkM (fun q => lw_A s q ∧ q < HX.size) D GX H6 := (hX5.part (B := fun q => lw_A s q ∧ q < HX.size) (fun a e0 he => ⟨he, hX5.isA he, hXlt a e0 he⟩)).kept (fun q h2 h3 => hk6 q h2 (Nat.not_le.mpr h3.2))
  refine lv_astore_n (lv' := [(2, .ref m0), (1, .ref h0), (0, .ref b)]) hx hb dL_law_15 rfl hl (by decide) rfl (fun ls hl => ?_)
  refine lv_iconst (v := 1) hx hb dL_law_16 (by decide) ?_
  refine lw_newa (atype := .long) (ty := .long) (a0 := (1, .inr (.inl (fun _ => 0)))) (N' := 1) hx hb (hts (.arrayClass .long) (by decide +kernel)) rfl hK 4 rfl (fun _ h9 => h9) hS (fun _ => rfl) (by decide) rfl (by decide) (Nat.le_of_ble_eq_true rfl) (Nat.le_of_ble_eq_true rfl) dL_law_17 (fun H7 hz7 hk7 hM7 hS => ?_)
  have hX7 := hX6.keptE hk7
  have hMM7 := hMM6.keptE hk7
  refine lv_astore_n (lv' := [(3, .ref H6.size), (2, .ref m0), (1, .ref h0), (0, .ref b)]) hx hb dL_law_19 rfl hl (by decide) rfl (fun ls hl => ?_)
  refine lv_iconst (v := 1) hx hb dL_law_20 (by decide) ?_
  refine lw_newa (atype := .double) (ty := .double) (a0 := (1, .inr (.inr (.inr (.inl (fun _ => 0)))))) (N' := 1) hx hb (hts (.arrayClass .double) (by decide +kernel)) rfl hK 5 rfl (fun _ h9 => h9) hS (fun _ => rfl) (by decide) rfl (by decide) (Nat.le_of_ble_eq_true rfl) (Nat.le_of_ble_eq_true rfl) dL_law_21 (fun H8 hz8 hk8 hM8 hS => ?_)
  have hX8 := hX7.keptE hk8
  have hMM8 := hMM7.keptE hk8
  have hM78 := hM7.keptE hk8
  refine lv_astore (lv' := [(4, .ref H7.size), (3, .ref H6.size), (2, .ref m0), (1, .ref h0), (0, .ref b)]) hx hb dL_law_23 hl (by decide) rfl (fun ls hl => ?_)
  refine lv_iconst (v := 0) hx hb dL_law_25 (by decide) ?_
  refine lv_istore (lv' := [(5, .int (nI 0)), (4, .ref H7.size), (3, .ref H6.size), (2, .ref m0), (1, .ref h0), (0, .ref b)]) hx hb dL_law_26 hl (by decide) rfl (fun ls hl => ?_)
  have hsX : s.heap.size ≤ HX.size := hSX.1
  have h56 : HX.size ≤ H6.size := Nat.le_trans (Nat.le_trans hz5 (Nat.le_of_lt hm5)) hz6
  have hMlt : ∀ a e0, GM a = some e0 → a < H6.size := fun a e0 he => hMM6.lt he
  have X0 : lw_X p l s m c b L xs D ac dE (fun q => lw_A s q ∧ (q < HX.size ∨ H8.size ≤ q)) (fun q => HX.size ≤ q ∧ q < H6.size) H6.size H7.size H8.size := by
    refine ⟨⟨hx, hb, hml, hown, hts, hX, hbl, hst⟩, ⟨hK, hF, hO, hN⟩, ⟨fun q h => h.1, fun q h => Nat.le_trans hsX h.1, Nat.le_trans hsX h56, ?_⟩, ⟨?_, ?_, ?_, fun q h => ⟨?_, ?_, ?_⟩⟩, fun q h => ⟨?_, Or.inr h⟩⟩
    · show s.heap.size ≤ H7.size
      omega
    · rintro ⟨-, h | h⟩ <;> omega
    · rintro ⟨-, h | h⟩ <;> omega
    · omega
    · rintro ⟨-, h9 | h9⟩ <;> omega
    · have := h.2; omega
    · have := h.2; omega
    · show s.heap.size ≤ q
      omega
  have I0 : lw_I s D ac dE h0 m0 am (fun q => lw_A s q ∧ (q < HX.size ∨ H8.size ≤ q)) (fun q => HX.size ≤ q ∧ q < H6.size) H6.size H7.size H8.size (MI 4) H8 locs :=
    ⟨IV_0, ⟨α, GX, hPX, hX8.weaken (fun q h => ⟨h.1, Or.inl h.2⟩)⟩, ⟨0, GM, hR, hMM8.part (fun a e0 he => ⟨he, hMM6.isA he, hMlt a e0 he⟩)⟩, ⟨_, hM78⟩, ⟨_, hM8⟩, hS, Nat.le_refl _⟩
  refine W.widen (k := 100 + 20 * 0) (n := 5000 + 500 * 0) (by decide) (by decide) ?_
  exact law_loop X0 hr hlocks hL 514 0 0 (MI 4) H8 locs ls rfl (by omega) (by omega) I0 (lv_sub hl [5, 4, 3, 2, 1, 0] rfl)
