/-! the law: cases -/
set_option maxHeartbeats 4000000 in
set_option maxRecDepth 100000 in
theorem law_addTask {p : Program} {l : Launch} {e : Env} {s : State} {m : MethodId} {below : List Frame} {meth : Method} {c : Code} {b L : Nat} {xs : Nat → Int32} {D : va_G} {ac : Nat → ClassId} {dE h0 m0 : Nat} {am : Nat → Nat} {AX AM : Nat → Prop} {o1 o2 N0 i cells slots : Nat} {M : TS} {H : Heap} {locs : List Loc} {ls : Array Slot} (X0 : lw_X p l s m c b L xs D ac dE AX AM o1 o2 N0) (I0 : lw_I s D ac dE h0 m0 am AX AM o1 o2 N0 M H locs) (hL : L ≤ 2560) (hi : i + 5 ≤ L) (hc : cells + 20 ≤ 603072) (hs : slots + 500 ≤ 7211114) (hl : lv_has ls 9 [(0, .ref b), (1, .ref h0), (2, .ref m0), (3, .ref o1), (4, .ref o2), (5, .int (nI i))])
    (kk : ∀ (M : TS) (H : Heap) (locs : List Loc) (ls : Array Slot), lw_I s D ac dE h0 m0 am AX AM o1 o2 N0 M H locs → lv_has ls 9 [(0, .ref b), (1, .ref h0), (2, .ref m0), (3, .ref o1), (4, .ref o2), (5, .int (nI i))] → W p l e room_1 s m #[Value.ref b] below meth c H locs (cells + 20) (slots + 500) (lw_Z below #[Value.ref b] s) (F0 m 2164 ls [])) : W p l e room_1 s m #[Value.ref b] below meth c H locs cells slots (lw_Z below #[Value.ref b] s) (F0 m 204 ls []) := by
  obtain ⟨⟨hx, hb, hml, hown, hts, hX, hbl, hst⟩, ⟨hK, hF, hO, hN⟩, ⟨aX, aM, a1, a2⟩, ⟨n1, n2, n12, nM⟩, hA⟩ := X0
  obtain ⟨hI, ⟨α, GX, hP, hMX⟩, ⟨th, GM, hR, hMM⟩, ⟨f1, hM1⟩, ⟨f2, hM2⟩, hS, hN0⟩ := I0
  have S0 : CallFix p m c code 9 s #[Value.ref b] wsL_law RL := ⟨hx, hb, hml, hown, hts⟩
  have hbA : ¬ lw_A s b := Nat.not_le.mpr hbl
  have hAX : ∀ q, H.size ≤ q → AX q := fun q h => hA q (Nat.le_trans hN0 h)
  refine lv_aload_n hx hb dL_law_204 rfl (lv_at hl 1 rfl) ?_
  refine lv_aload_n hx hb dL_law_205 rfl (lv_at hl 0 rfl) ?_
  refine lv_iload hx hb dL_law_206 (lv_at hl 5 rfl) ?_
  refine lv_iconst (v := 1) hx hb dL_law_208 (by decide) ?_
  refine lv_iadd hx hb dL_law_209 ?_
  refine va_sld hx hb hX hbl hbA hS (lw_in (k := 1) (by omega) hL) dL_law_210 ?_
  refine lv_aload_n hx hb dL_law_211 rfl (lv_at hl 0 rfl) ?_
  refine lv_iload hx hb dL_law_212 (lv_at hl 5 rfl) ?_
  refine lv_iconst (v := 2) hx hb dL_law_214 (by decide) ?_
  refine lv_iadd hx hb dL_law_215 ?_
  refine va_sld hx hb hX hbl hbA hS (lw_in (k := 2) (by omega) hL) dL_law_216 ?_
  refine lv_aload_n hx hb dL_law_217 rfl (lv_at hl 0 rfl) ?_
  refine lv_iload hx hb dL_law_218 (lv_at hl 5 rfl) ?_
  refine lv_iconst (v := 3) hx hb dL_law_220 (by decide) ?_
  refine lv_iadd hx hb dL_law_221 ?_
  refine va_sld hx hb hX hbl hbA hS (lw_in (k := 3) (by omega) hL) dL_law_222 ?_
  refine lv_aload_n hx hb dL_law_223 rfl (lv_at hl 3 rfl) ?_
  refine vx_calli (A1 := fun q => AX q ∨ q = o1) (free := fun q => AX q ∨ q = o1) (vx_runSX (As := [.ref h0, .int (xs (nI i + 1).toNatClampNeg), .int (xs (nI i + 2).toNatClampNeg), .int (xs (nI i + 3).toNatClampNeg), .ref o1]) (rest := []) S0 (c_L_addTask l hst AX o1 D ac dE _ hP hI f1 (xs (nI i + 1).toNatClampNeg) (xs (nI i + 2).toNatClampNeg) (xs (nI i + 3).toNatClampNeg)) (vx_cwSW 5 hts gL_law_L_addTask rfl rfl rfl (by decide +kernel) ⟨Nat.le_of_ble_eq_true rfl, Nat.le_of_ble_eq_true rfl⟩) ⟨fun a U g mk q => ⟨q.1, tkW.blind U g mk a q.2⟩, fun U hU hW => ⟨rfl, tkW.law hMX hM1 n1 hN hK hAX aX hF hO hS U hU hW⟩⟩ rfl rfl hl.1 rfl (lv_room (Nat.le_of_ble_eq_true rfl)) dL_law_224 ⟨by show _ ≤ 603072; omega, by show _ ≤ 7211114; omega⟩) hS (fun q _ h => h.elim (fun h => aX q h) (fun h => by rw [h]; exact a1)) (fun q h => h.elim (fun h => aX q h) (fun h => by rw [h]; exact a1)) (fun q _ h => h.elim) (fun _ _ _ _ _ _ _ _ _ _ h => h.elim) (fun r u t H9 locs ht hal hp hBB hz hq hS => ?_)
  rw [ht] at hBB
  obtain ⟨G9, f9⟩ := u
  obtain ⟨hr9, hv9, α9, hP9⟩ := hp
  obtain ⟨hMX, hM1⟩ := hBB
  dsimp only at hv9 hP9 hMX hM1
  have hM2 := hM2.kept (H1 := H9) (fun q h2 h3 => hq q h2 (fun z => z.elim (fun z => n2 (by rw [← h3]; exact z)) (fun z => n12 (z.symm.trans h3))))
  have hMM := hMM.kept (H1 := H9) (fun q h2 h3 => hq q h2 (fun z => z.elim (nM q h3).1 (nM q h3).2.1))
  have hN0 := Nat.le_trans hN0 hz
  clear hq hz hAX
  refine lv_istore (lv' := [(6, .int r), (0, .ref b), (1, .ref h0), (2, .ref m0), (3, .ref o1), (4, .ref o2), (5, .int (nI i))]) hx hb dL_law_227 hl (by decide) rfl (fun ls hl => ?_)
  refine lv_aload_n hx hb dL_law_229 rfl (lv_at hl 3 rfl) ?_
  refine lv_aload_n hx hb dL_law_230 rfl (lv_at hl 1 rfl) ?_
  refine lv_iload hx hb dL_law_231 (lv_at hl 6 rfl) ?_
  refine lv_iconst (v := 1) hx hb dL_law_233 (by decide) ?_
  refine lv_iadd hx hb dL_law_234 ?_
  refine va_sld hx hb hX hbl hbA hS (lw_in (k := 1) (by omega) hL) dL_law_235 ?_
  refine lv_aload_n hx hb dL_law_236 rfl (lv_at hl 1 rfl) ?_
  refine lv_iload hx hb dL_law_237 (lv_at hl 6 rfl) ?_
  refine lv_iconst (v := 2) hx hb dL_law_239 (by decide) ?_
  refine lv_iadd hx hb dL_law_240 ?_
  refine va_sld hx hb hX hbl hbA hS (lw_in (k := 2) (by omega) hL) dL_law_241 ?_
  refine lv_aload_n hx hb dL_law_242 rfl (lv_at hl 1 rfl) ?_
  refine lv_iload hx hb dL_law_243 (lv_at hl 6 rfl) ?_
  refine lv_iconst (v := 3) hx hb dL_law_245 (by decide) ?_
  refine lv_iadd hx hb dL_law_246 ?_
  refine va_sld hx hb hX hbl hbA hS (lw_in (k := 3) (by omega) hL) dL_law_247 ?_
  refine va_calli (A1 := AM) (free := AM) (va_runV (As := [.int (xs (nI i + 1).toNatClampNeg), .int (xs (nI i + 2).toNatClampNeg), .int (xs (nI i + 3).toNatClampNeg)]) (rest := []) S0 (c_X5_addTask l AM D ac _ hR hI.w (xs (nI i + 1).toNatClampNeg) (xs (nI i + 2).toNatClampNeg) (xs (nI i + 3).toNatClampNeg)) (cwV 3 hts gL_law_X5_addTask rfl rfl rfl (by decide +kernel) ⟨Nat.le_of_ble_eq_true rfl, Nat.le_of_ble_eq_true rfl⟩) ⟨fun a U g mk q => ⟨q.1, tkJ.blind U g mk a q.2⟩, tk_recv hK hMM hR.1 rfl, fun U hU hW => ⟨rfl, tkJ.at hMM hK U hU hW⟩⟩ rfl rfl hl.1 rfl (lv_room (Nat.le_of_ble_eq_true rfl)) dL_law_248 ⟨by show _ ≤ 603072; omega, by show _ ≤ 7211114; omega⟩) hS (fun q _ h => aM q h) (fun q h => aM q h) (fun r2 G2 t H2 locs ht hal hp2 hBB hz hq hS => ?_)
  have hMM : tkM AM D G2 H2 := by rw [← ht]; exact hBB
  have hMX := hMX.kept (H1 := H2) (fun q h2 h3 => hq q h2 (fun z => (nM q z).1 h3))
  have hM1 := hM1.kept (H1 := H2) (fun q h2 h3 => hq q h2 (fun z => (nM q z).2.1 h3))
  have hM2 := hM2.kept (H1 := H2) (fun q h2 h3 => hq q h2 (fun z => (nM q z).2.2 h3))
  have hN0 := Nat.le_trans hN0 hz
  clear hq hz hBB
  obtain ⟨hR2, hr2⟩ := hp2
  refine lv_istore (lv' := [(7, .int r2), (6, .int r), (0, .ref b), (1, .ref h0), (2, .ref m0), (3, .ref o1), (4, .ref o2), (5, .int (nI i))]) hx hb dL_law_251 hl (by decide) rfl (fun ls hl => ?_)
  refine lv_aload_n hx hb dL_law_253 rfl (lv_at hl 4 rfl) ?_
  refine tk_cVi (As := []) S0 (c_X5_thrown l AM D ac _ hR2) (cwV 0 hts gL_law_X5_thrown rfl rfl rfl (by decide +kernel) ⟨Nat.le_of_ble_eq_true rfl, Nat.le_of_ble_eq_true rfl⟩) (tkJ.blind) (tkJ.at hMM hK) (tk_recv hK hMM hR2.1 rfl) rfl hl.1 rfl (Nat.le_of_ble_eq_true rfl) dL_law_254 ⟨by show _ ≤ 603072; omega, by show _ ≤ 7211114; omega⟩ (fun r3 hr3 => ?_)
  refine lv_iload hx hb dL_law_257 (lv_at hl 1 rfl) ?_
  refine lv_icmp_eq (tgt := 264) hx hb dL_law_259 (by decide) (fun _ => ?_) (fun c9 => absurd (hr3.trans hr9.symm) c9)
  refine lv_iload hx hb dL_law_264 (lv_at hl 1 rfl) ?_
  refine lv_if_ne (tgt := 281) hx hb dL_law_266 (by decide) (fun _ => ?_) (fun c9 => ?_)
  · refine lv_goto (tgt := 2164) hx hb dL_law_281 (by decide) ?_
    refine W.widen (k := cells + 20) (n := slots + 500) (by omega) (by omega) ?_
    exact kk (S_addTask M (xs (nI i + 1).toNatClampNeg) (xs (nI i + 2).toNatClampNeg) (xs (nI i + 3).toNatClampNeg)).2.1 _ _ ls ⟨keep_addTask hI (xs (nI i + 1).toNatClampNeg) (xs (nI i + 2).toNatClampNeg) (xs (nI i + 3).toNatClampNeg), ⟨_, _, hP9, hMX⟩, ⟨_, _, hR2, hMM⟩, ⟨_, hM1⟩, ⟨_, hM2⟩, hS, hN0⟩ (lv_sub hl [2, 3, 4, 5, 6, 7] rfl)
  · have hv9 := hv9 (hr9.symm.trans c9)
    refine lv_aload_n hx hb dL_law_269 rfl (lv_at hl 5 rfl) ?_
    refine lv_iconst (v := 0) hx hb dL_law_270 (by decide) ?_
    refine tk_lald hx hb hK hM1 4 (va_up_self _ _ _) rfl (by unfold vp_in; decide) dL_law_271 ?_
    refine lv_iload hx hb dL_law_272 (lv_at hl 0 rfl) ?_
    refine lv_i2l hx hb dL_law_274 rfl ?_
    have hv9 : f9 (0 : Int32).toNatClampNeg = r2.toInt64 := by rw [hr2]; exact hv9
    rw [hv9]
    refine W.lcmp hx hb dL_law_275 ?_
    refine lv_if_eq (tgt := 281) hx hb dL_law_276 (by decide) (fun _ => ?_) (fun c8 => absurd (lself _) c8)
    refine lv_goto (tgt := 2164) hx hb dL_law_281 (by decide) ?_
    refine W.widen (k := cells + 20) (n := slots + 500) (by omega) (by omega) ?_
    exact kk (S_addTask M (xs (nI i + 1).toNatClampNeg) (xs (nI i + 2).toNatClampNeg) (xs (nI i + 3).toNatClampNeg)).2.1 _ _ ls ⟨keep_addTask hI (xs (nI i + 1).toNatClampNeg) (xs (nI i + 2).toNatClampNeg) (xs (nI i + 3).toNatClampNeg), ⟨_, _, hP9, hMX⟩, ⟨_, _, hR2, hMM⟩, ⟨_, hM1⟩, ⟨_, hM2⟩, hS, hN0⟩ (lv_sub hl [2, 3, 4, 5, 6, 7] rfl)
set_option maxHeartbeats 4000000 in
set_option maxRecDepth 100000 in
theorem law_block {p : Program} {l : Launch} {e : Env} {s : State} {m : MethodId} {below : List Frame} {meth : Method} {c : Code} {b L : Nat} {xs : Nat → Int32} {D : va_G} {ac : Nat → ClassId} {dE h0 m0 : Nat} {am : Nat → Nat} {AX AM : Nat → Prop} {o1 o2 N0 i cells slots : Nat} {M : TS} {H : Heap} {locs : List Loc} {ls : Array Slot} (X0 : lw_X p l s m c b L xs D ac dE AX AM o1 o2 N0) (I0 : lw_I s D ac dE h0 m0 am AX AM o1 o2 N0 M H locs) (hL : L ≤ 2560) (hi : i + 5 ≤ L) (hc : cells + 20 ≤ 603072) (hs : slots + 500 ≤ 7211114) (hl : lv_has ls 9 [(0, .ref b), (1, .ref h0), (2, .ref m0), (3, .ref o1), (4, .ref o2), (5, .int (nI i))])
    (kk : ∀ (M : TS) (H : Heap) (locs : List Loc) (ls : Array Slot), lw_I s D ac dE h0 m0 am AX AM o1 o2 N0 M H locs → lv_has ls 9 [(0, .ref b), (1, .ref h0), (2, .ref m0), (3, .ref o1), (4, .ref o2), (5, .int (nI i))] → W p l e room_1 s m #[Value.ref b] below meth c H locs (cells + 20) (slots + 500) (lw_Z below #[Value.ref b] s) (F0 m 2164 ls [])) : W p l e room_1 s m #[Value.ref b] below meth c H locs cells slots (lw_Z below #[Value.ref b] s) (F0 m 284 ls []) := by
  obtain ⟨⟨hx, hb, hml, hown, hts, hX, hbl, hst⟩, ⟨hK, hF, hO, hN⟩, ⟨aX, aM, a1, a2⟩, ⟨n1, n2, n12, nM⟩, hA⟩ := X0
  obtain ⟨hI, ⟨α, GX, hP, hMX⟩, ⟨th, GM, hR, hMM⟩, ⟨f1, hM1⟩, ⟨f2, hM2⟩, hS, hN0⟩ := I0
  have S0 : CallFix p m c code 9 s #[Value.ref b] wsL_law RL := ⟨hx, hb, hml, hown, hts⟩
  have hbA : ¬ lw_A s b := Nat.not_le.mpr hbl
  have hAX : ∀ q, H.size ≤ q → AX q := fun q h => hA q (Nat.le_trans hN0 h)
  refine lv_aload_n hx hb dL_law_284 rfl (lv_at hl 1 rfl) ?_
  refine lv_aload_n hx hb dL_law_285 rfl (lv_at hl 0 rfl) ?_
  refine lv_iload hx hb dL_law_286 (lv_at hl 5 rfl) ?_
  refine lv_iconst (v := 1) hx hb dL_law_288 (by decide) ?_
  refine lv_iadd hx hb dL_law_289 ?_
  refine va_sld hx hb hX hbl hbA hS (lw_in (k := 1) (by omega) hL) dL_law_290 ?_
  refine lv_aload_n hx hb dL_law_291 rfl (lv_at hl 0 rfl) ?_
  refine lv_iload hx hb dL_law_292 (lv_at hl 5 rfl) ?_
  refine lv_iconst (v := 2) hx hb dL_law_294 (by decide) ?_
  refine lv_iadd hx hb dL_law_295 ?_
  refine va_sld hx hb hX hbl hbA hS (lw_in (k := 2) (by omega) hL) dL_law_296 ?_
  refine lv_aload_n hx hb dL_law_297 rfl (lv_at hl 3 rfl) ?_
  refine vx_calli (A1 := fun q => AX q ∨ q = o1) (free := fun q => AX q ∨ q = o1) (vx_runSX (As := [.ref h0, .int (xs (nI i + 1).toNatClampNeg), .int (xs (nI i + 2).toNatClampNeg), .ref o1]) (rest := []) S0 (c_L_block l hst AX o1 D ac dE _ hP hI f1 (xs (nI i + 1).toNatClampNeg) (xs (nI i + 2).toNatClampNeg)) (vx_cwSW 4 hts gL_law_L_block rfl rfl rfl (by decide +kernel) ⟨Nat.le_of_ble_eq_true rfl, Nat.le_of_ble_eq_true rfl⟩) ⟨fun a U g mk q => ⟨q.1, tkW.blind U g mk a q.2⟩, fun U hU hW => ⟨rfl, tkW.law hMX hM1 n1 hN hK hAX aX hF hO hS U hU hW⟩⟩ rfl rfl hl.1 rfl (lv_room (Nat.le_of_ble_eq_true rfl)) dL_law_298 ⟨by show _ ≤ 603072; omega, by show _ ≤ 7211114; omega⟩) hS (fun q _ h => h.elim (fun h => aX q h) (fun h => by rw [h]; exact a1)) (fun q h => h.elim (fun h => aX q h) (fun h => by rw [h]; exact a1)) (fun q _ h => h.elim) (fun _ _ _ _ _ _ _ _ _ _ h => h.elim) (fun r u t H9 locs ht hal hp hBB hz hq hS => ?_)
  rw [ht] at hBB
  obtain ⟨G9, f9⟩ := u
  obtain ⟨hr9, hv9, α9, hP9⟩ := hp
  obtain ⟨hMX, hM1⟩ := hBB
  dsimp only at hv9 hP9 hMX hM1
  have hM2 := hM2.kept (H1 := H9) (fun q h2 h3 => hq q h2 (fun z => z.elim (fun z => n2 (by rw [← h3]; exact z)) (fun z => n12 (z.symm.trans h3))))
  have hMM := hMM.kept (H1 := H9) (fun q h2 h3 => hq q h2 (fun z => z.elim (nM q h3).1 (nM q h3).2.1))
  have hN0 := Nat.le_trans hN0 hz
  clear hq hz hAX
  refine lv_istore (lv' := [(6, .int r), (0, .ref b), (1, .ref h0), (2, .ref m0), (3, .ref o1), (4, .ref o2), (5, .int (nI i))]) hx hb dL_law_301 hl (by decide) rfl (fun ls hl => ?_)
  refine lv_aload_n hx hb dL_law_303 rfl (lv_at hl 3 rfl) ?_
  refine lv_aload_n hx hb dL_law_304 rfl (lv_at hl 1 rfl) ?_
  refine lv_iload hx hb dL_law_305 (lv_at hl 6 rfl) ?_
  refine lv_iconst (v := 1) hx hb dL_law_307 (by decide) ?_
  refine lv_iadd hx hb dL_law_308 ?_
  refine va_sld hx hb hX hbl hbA hS (lw_in (k := 1) (by omega) hL) dL_law_309 ?_
  refine lv_aload_n hx hb dL_law_310 rfl (lv_at hl 1 rfl) ?_
  refine lv_iload hx hb dL_law_311 (lv_at hl 6 rfl) ?_
  refine lv_iconst (v := 2) hx hb dL_law_313 (by decide) ?_
  refine lv_iadd hx hb dL_law_314 ?_
  refine va_sld hx hb hX hbl hbA hS (lw_in (k := 2) (by omega) hL) dL_law_315 ?_
  refine va_calli (A1 := AM) (free := AM) (va_runV (As := [.int (xs (nI i + 1).toNatClampNeg), .int (xs (nI i + 2).toNatClampNeg)]) (rest := []) S0 (c_X5_block l AM D ac _ hR hI.w (xs (nI i + 1).toNatClampNeg) (xs (nI i + 2).toNatClampNeg)) (cwV 2 hts gL_law_X5_block rfl rfl rfl (by decide +kernel) ⟨Nat.le_of_ble_eq_true rfl, Nat.le_of_ble_eq_true rfl⟩) ⟨fun a U g mk q => ⟨q.1, tkJ.blind U g mk a q.2⟩, tk_recv hK hMM hR.1 rfl, fun U hU hW => ⟨rfl, tkJ.at hMM hK U hU hW⟩⟩ rfl rfl hl.1 rfl (lv_room (Nat.le_of_ble_eq_true rfl)) dL_law_316 ⟨by show _ ≤ 603072; omega, by show _ ≤ 7211114; omega⟩) hS (fun q _ h => aM q h) (fun q h => aM q h) (fun r2 G2 t H2 locs ht hal hp2 hBB hz hq hS => ?_)
  have hMM : tkM AM D G2 H2 := by rw [← ht]; exact hBB
  have hMX := hMX.kept (H1 := H2) (fun q h2 h3 => hq q h2 (fun z => (nM q z).1 h3))
  have hM1 := hM1.kept (H1 := H2) (fun q h2 h3 => hq q h2 (fun z => (nM q z).2.1 h3))
  have hM2 := hM2.kept (H1 := H2) (fun q h2 h3 => hq q h2 (fun z => (nM q z).2.2 h3))
  have hN0 := Nat.le_trans hN0 hz
  clear hq hz hBB
  obtain ⟨⟨ar, hR2⟩, hr2⟩ := hp2
  have hP9 : PX ac dE h0 α9 (va_up (S_block M (xs (nI i + 1).toNatClampNeg) (xs (nI i + 2).toNatClampNeg)).2.1 8 ar) (nV (va_up (S_block M (xs (nI i + 1).toNatClampNeg) (xs (nI i + 2).toNatClampNeg)).2.1 8 ar)) G9 := (hP9.cg (fun f _ _ h8 _ => va_up_ne _ _ h8)).nvE rfl
  refine lv_istore (lv' := [(7, .int r2), (6, .int r), (0, .ref b), (1, .ref h0), (2, .ref m0), (3, .ref o1), (4, .ref o2), (5, .int (nI i))]) hx hb dL_law_319 hl (by decide) rfl (fun ls hl => ?_)
  refine lv_aload_n hx hb dL_law_321 rfl (lv_at hl 4 rfl) ?_
  refine tk_cVi (As := []) S0 (c_X5_thrown l AM D ac _ hR2) (cwV 0 hts gL_law_X5_thrown rfl rfl rfl (by decide +kernel) ⟨Nat.le_of_ble_eq_true rfl, Nat.le_of_ble_eq_true rfl⟩) (tkJ.blind) (tkJ.at hMM hK) (tk_recv hK hMM hR2.1 rfl) rfl hl.1 rfl (Nat.le_of_ble_eq_true rfl) dL_law_322 ⟨by show _ ≤ 603072; omega, by show _ ≤ 7211114; omega⟩ (fun r3 hr3 => ?_)
  refine lv_iload hx hb dL_law_325 (lv_at hl 1 rfl) ?_
  refine lv_icmp_eq (tgt := 332) hx hb dL_law_327 (by decide) (fun _ => ?_) (fun c9 => absurd (hr3.trans hr9.symm) c9)
  refine lv_iload hx hb dL_law_332 (lv_at hl 1 rfl) ?_
  refine lv_if_ne (tgt := 349) hx hb dL_law_334 (by decide) (fun _ => ?_) (fun c9 => ?_)
  · refine lv_goto (tgt := 2164) hx hb dL_law_349 (by decide) ?_
    refine W.widen (k := cells + 20) (n := slots + 500) (by omega) (by omega) ?_
    exact kk (va_up (S_block M (xs (nI i + 1).toNatClampNeg) (xs (nI i + 2).toNatClampNeg)).2.1 8 ar) _ _ ls ⟨(keep_block hI (xs (nI i + 1).toNatClampNeg) (xs (nI i + 2).toNatClampNeg)).v8 ar, ⟨_, _, hP9, hMX⟩, ⟨_, _, hR2, hMM⟩, ⟨_, hM1⟩, ⟨_, hM2⟩, hS, hN0⟩ (lv_sub hl [2, 3, 4, 5, 6, 7] rfl)
  · have hv9 := hv9 (hr9.symm.trans c9)
    refine lv_aload_n hx hb dL_law_337 rfl (lv_at hl 5 rfl) ?_
    refine lv_iconst (v := 0) hx hb dL_law_338 (by decide) ?_
    refine tk_lald hx hb hK hM1 4 (va_up_self _ _ _) rfl (by unfold vp_in; decide) dL_law_339 ?_
    refine lv_iload hx hb dL_law_340 (lv_at hl 0 rfl) ?_
    refine lv_i2l hx hb dL_law_342 rfl ?_
    have hv9 : f9 (0 : Int32).toNatClampNeg = r2.toInt64 := by rw [hr2]; exact hv9
    rw [hv9]
    refine W.lcmp hx hb dL_law_343 ?_
    refine lv_if_eq (tgt := 349) hx hb dL_law_344 (by decide) (fun _ => ?_) (fun c8 => absurd (lself _) c8)
    refine lv_goto (tgt := 2164) hx hb dL_law_349 (by decide) ?_
    refine W.widen (k := cells + 20) (n := slots + 500) (by omega) (by omega) ?_
    exact kk (va_up (S_block M (xs (nI i + 1).toNatClampNeg) (xs (nI i + 2).toNatClampNeg)).2.1 8 ar) _ _ ls ⟨(keep_block hI (xs (nI i + 1).toNatClampNeg) (xs (nI i + 2).toNatClampNeg)).v8 ar, ⟨_, _, hP9, hMX⟩, ⟨_, _, hR2, hMM⟩, ⟨_, hM1⟩, ⟨_, hM2⟩, hS, hN0⟩ (lv_sub hl [2, 3, 4, 5, 6, 7] rfl)
set_option maxHeartbeats 4000000 in
set_option maxRecDepth 100000 in
theorem law_begin {p : Program} {l : Launch} {e : Env} {s : State} {m : MethodId} {below : List Frame} {meth : Method} {c : Code} {b L : Nat} {xs : Nat → Int32} {D : va_G} {ac : Nat → ClassId} {dE h0 m0 : Nat} {am : Nat → Nat} {AX AM : Nat → Prop} {o1 o2 N0 i cells slots : Nat} {M : TS} {H : Heap} {locs : List Loc} {ls : Array Slot} (X0 : lw_X p l s m c b L xs D ac dE AX AM o1 o2 N0) (I0 : lw_I s D ac dE h0 m0 am AX AM o1 o2 N0 M H locs) (hL : L ≤ 2560) (hi : i + 5 ≤ L) (hc : cells + 20 ≤ 603072) (hs : slots + 500 ≤ 7211114) (hl : lv_has ls 9 [(0, .ref b), (1, .ref h0), (2, .ref m0), (3, .ref o1), (4, .ref o2), (5, .int (nI i))])
    (kk : ∀ (M : TS) (H : Heap) (locs : List Loc) (ls : Array Slot), lw_I s D ac dE h0 m0 am AX AM o1 o2 N0 M H locs → lv_has ls 9 [(0, .ref b), (1, .ref h0), (2, .ref m0), (3, .ref o1), (4, .ref o2), (5, .int (nI i))] → W p l e room_1 s m #[Value.ref b] below meth c H locs (cells + 20) (slots + 500) (lw_Z below #[Value.ref b] s) (F0 m 2164 ls [])) : W p l e room_1 s m #[Value.ref b] below meth c H locs cells slots (lw_Z below #[Value.ref b] s) (F0 m 352 ls []) := by
  obtain ⟨⟨hx, hb, hml, hown, hts, hX, hbl, hst⟩, ⟨hK, hF, hO, hN⟩, ⟨aX, aM, a1, a2⟩, ⟨n1, n2, n12, nM⟩, hA⟩ := X0
  obtain ⟨hI, ⟨α, GX, hP, hMX⟩, ⟨th, GM, hR, hMM⟩, ⟨f1, hM1⟩, ⟨f2, hM2⟩, hS, hN0⟩ := I0
  have S0 : CallFix p m c code 9 s #[Value.ref b] wsL_law RL := ⟨hx, hb, hml, hown, hts⟩
  have hbA : ¬ lw_A s b := Nat.not_le.mpr hbl
  have hAX : ∀ q, H.size ≤ q → AX q := fun q h => hA q (Nat.le_trans hN0 h)
  refine lv_aload_n hx hb dL_law_352 rfl (lv_at hl 1 rfl) ?_
  refine lv_aload_n hx hb dL_law_353 rfl (lv_at hl 0 rfl) ?_
  refine lv_iload hx hb dL_law_354 (lv_at hl 5 rfl) ?_
  refine lv_iconst (v := 1) hx hb dL_law_356 (by decide) ?_
  refine lv_iadd hx hb dL_law_357 ?_
  refine va_sld hx hb hX hbl hbA hS (lw_in (k := 1) (by omega) hL) dL_law_358 ?_
  refine lv_aload_n hx hb dL_law_359 rfl (lv_at hl 3 rfl) ?_
  refine vx_calli (A1 := fun q => AX q ∨ q = o1) (free := fun q => AX q ∨ q = o1) (vx_runSX (As := [.ref h0, .int (xs (nI i + 1).toNatClampNeg), .ref o1]) (rest := []) S0 (c_L_begin l hst AX o1 D ac dE _ hP hI f1 (xs (nI i + 1).toNatClampNeg)) (vx_cwSW 3 hts gL_law_L_begin rfl rfl rfl (by decide +kernel) ⟨Nat.le_of_ble_eq_true rfl, Nat.le_of_ble_eq_true rfl⟩) ⟨fun a U g mk q => ⟨q.1, tkW.blind U g mk a q.2⟩, fun U hU hW => ⟨rfl, tkW.law hMX hM1 n1 hN hK hAX aX hF hO hS U hU hW⟩⟩ rfl rfl hl.1 rfl (lv_room (Nat.le_of_ble_eq_true rfl)) dL_law_360 ⟨by show _ ≤ 603072; omega, by show _ ≤ 7211114; omega⟩) hS (fun q _ h => h.elim (fun h => aX q h) (fun h => by rw [h]; exact a1)) (fun q h => h.elim (fun h => aX q h) (fun h => by rw [h]; exact a1)) (fun q _ h => h.elim) (fun _ _ _ _ _ _ _ _ _ _ h => h.elim) (fun r u t H9 locs ht hal hp hBB hz hq hS => ?_)
  rw [ht] at hBB
  obtain ⟨G9, f9⟩ := u
  obtain ⟨hr9, hv9, α9, hP9⟩ := hp
  obtain ⟨hMX, hM1⟩ := hBB
  dsimp only at hv9 hP9 hMX hM1
  have hM2 := hM2.kept (H1 := H9) (fun q h2 h3 => hq q h2 (fun z => z.elim (fun z => n2 (by rw [← h3]; exact z)) (fun z => n12 (z.symm.trans h3))))
  have hMM := hMM.kept (H1 := H9) (fun q h2 h3 => hq q h2 (fun z => z.elim (nM q h3).1 (nM q h3).2.1))
  have hN0 := Nat.le_trans hN0 hz
  clear hq hz hAX
  refine lv_istore (lv' := [(6, .int r), (0, .ref b), (1, .ref h0), (2, .ref m0), (3, .ref o1), (4, .ref o2), (5, .int (nI i))]) hx hb dL_law_363 hl (by decide) rfl (fun ls hl => ?_)
  refine lv_aload_n hx hb dL_law_365 rfl (lv_at hl 3 rfl) ?_
  refine lv_aload_n hx hb dL_law_366 rfl (lv_at hl 1 rfl) ?_
  refine lv_iload hx hb dL_law_367 (lv_at hl 6 rfl) ?_
  refine lv_iconst (v := 1) hx hb dL_law_369 (by decide) ?_
  refine lv_iadd hx hb dL_law_370 ?_
  refine va_sld hx hb hX hbl hbA hS (lw_in (k := 1) (by omega) hL) dL_law_371 ?_
  refine va_calli (A1 := AM) (free := AM) (va_runV (As := [.int (xs (nI i + 1).toNatClampNeg)]) (rest := []) S0 (c_X5_begin l AM D ac _ hR hI.w (xs (nI i + 1).toNatClampNeg)) (cwV 1 hts gL_law_X5_begin rfl rfl rfl (by decide +kernel) ⟨Nat.le_of_ble_eq_true rfl, Nat.le_of_ble_eq_true rfl⟩) ⟨fun a U g mk q => ⟨q.1, tkJ.blind U g mk a q.2⟩, tk_recv hK hMM hR.1 rfl, fun U hU hW => ⟨rfl, tkJ.at hMM hK U hU hW⟩⟩ rfl rfl hl.1 rfl (lv_room (Nat.le_of_ble_eq_true rfl)) dL_law_372 ⟨by show _ ≤ 603072; omega, by show _ ≤ 7211114; omega⟩) hS (fun q _ h => aM q h) (fun q h => aM q h) (fun r2 G2 t H2 locs ht hal hp2 hBB hz hq hS => ?_)
  have hMM : tkM AM D G2 H2 := by rw [← ht]; exact hBB
  have hMX := hMX.kept (H1 := H2) (fun q h2 h3 => hq q h2 (fun z => (nM q z).1 h3))
  have hM1 := hM1.kept (H1 := H2) (fun q h2 h3 => hq q h2 (fun z => (nM q z).2.1 h3))
  have hM2 := hM2.kept (H1 := H2) (fun q h2 h3 => hq q h2 (fun z => (nM q z).2.2 h3))
  have hN0 := Nat.le_trans hN0 hz
  clear hq hz hBB
  obtain ⟨hR2, hr2⟩ := hp2
  refine lv_istore (lv' := [(7, .int r2), (6, .int r), (0, .ref b), (1, .ref h0), (2, .ref m0), (3, .ref o1), (4, .ref o2), (5, .int (nI i))]) hx hb dL_law_375 hl (by decide) rfl (fun ls hl => ?_)
  refine lv_aload_n hx hb dL_law_377 rfl (lv_at hl 4 rfl) ?_
  refine tk_cVi (As := []) S0 (c_X5_thrown l AM D ac _ hR2) (cwV 0 hts gL_law_X5_thrown rfl rfl rfl (by decide +kernel) ⟨Nat.le_of_ble_eq_true rfl, Nat.le_of_ble_eq_true rfl⟩) (tkJ.blind) (tkJ.at hMM hK) (tk_recv hK hMM hR2.1 rfl) rfl hl.1 rfl (Nat.le_of_ble_eq_true rfl) dL_law_378 ⟨by show _ ≤ 603072; omega, by show _ ≤ 7211114; omega⟩ (fun r3 hr3 => ?_)
  refine lv_iload hx hb dL_law_381 (lv_at hl 1 rfl) ?_
  refine lv_icmp_eq (tgt := 388) hx hb dL_law_383 (by decide) (fun _ => ?_) (fun c9 => absurd (hr3.trans hr9.symm) c9)
  refine lv_iload hx hb dL_law_388 (lv_at hl 1 rfl) ?_
  refine lv_if_ne (tgt := 405) hx hb dL_law_390 (by decide) (fun _ => ?_) (fun c9 => ?_)
  · refine lv_goto (tgt := 2164) hx hb dL_law_405 (by decide) ?_
    refine W.widen (k := cells + 20) (n := slots + 500) (by omega) (by omega) ?_
    exact kk (S_begin M (xs (nI i + 1).toNatClampNeg)).2.1 _ _ ls ⟨keep_begin hI (xs (nI i + 1).toNatClampNeg), ⟨_, _, hP9, hMX⟩, ⟨_, _, hR2, hMM⟩, ⟨_, hM1⟩, ⟨_, hM2⟩, hS, hN0⟩ (lv_sub hl [2, 3, 4, 5, 6, 7] rfl)
  · have hv9 := hv9 (hr9.symm.trans c9)
    refine lv_aload_n hx hb dL_law_393 rfl (lv_at hl 5 rfl) ?_
    refine lv_iconst (v := 0) hx hb dL_law_394 (by decide) ?_
    refine tk_lald hx hb hK hM1 4 (va_up_self _ _ _) rfl (by unfold vp_in; decide) dL_law_395 ?_
    refine lv_iload hx hb dL_law_396 (lv_at hl 0 rfl) ?_
    refine lv_i2l hx hb dL_law_398 rfl ?_
    have hv9 : f9 (0 : Int32).toNatClampNeg = r2.toInt64 := by rw [hr2]; exact hv9
    rw [hv9]
    refine W.lcmp hx hb dL_law_399 ?_
    refine lv_if_eq (tgt := 405) hx hb dL_law_400 (by decide) (fun _ => ?_) (fun c8 => absurd (lself _) c8)
    refine lv_goto (tgt := 2164) hx hb dL_law_405 (by decide) ?_
    refine W.widen (k := cells + 20) (n := slots + 500) (by omega) (by omega) ?_
    exact kk (S_begin M (xs (nI i + 1).toNatClampNeg)).2.1 _ _ ls ⟨keep_begin hI (xs (nI i + 1).toNatClampNeg), ⟨_, _, hP9, hMX⟩, ⟨_, _, hR2, hMM⟩, ⟨_, hM1⟩, ⟨_, hM2⟩, hS, hN0⟩ (lv_sub hl [2, 3, 4, 5, 6, 7] rfl)
set_option maxHeartbeats 4000000 in
set_option maxRecDepth 100000 in
theorem law_propose {p : Program} {l : Launch} {e : Env} {s : State} {m : MethodId} {below : List Frame} {meth : Method} {c : Code} {b L : Nat} {xs : Nat → Int32} {D : va_G} {ac : Nat → ClassId} {dE h0 m0 : Nat} {am : Nat → Nat} {AX AM : Nat → Prop} {o1 o2 N0 i cells slots : Nat} {M : TS} {H : Heap} {locs : List Loc} {ls : Array Slot} (X0 : lw_X p l s m c b L xs D ac dE AX AM o1 o2 N0) (I0 : lw_I s D ac dE h0 m0 am AX AM o1 o2 N0 M H locs) (hL : L ≤ 2560) (hi : i + 5 ≤ L) (hc : cells + 20 ≤ 603072) (hs : slots + 500 ≤ 7211114) (hl : lv_has ls 9 [(0, .ref b), (1, .ref h0), (2, .ref m0), (3, .ref o1), (4, .ref o2), (5, .int (nI i))])
    (kk : ∀ (M : TS) (H : Heap) (locs : List Loc) (ls : Array Slot), lw_I s D ac dE h0 m0 am AX AM o1 o2 N0 M H locs → lv_has ls 9 [(0, .ref b), (1, .ref h0), (2, .ref m0), (3, .ref o1), (4, .ref o2), (5, .int (nI i))] → W p l e room_1 s m #[Value.ref b] below meth c H locs (cells + 20) (slots + 500) (lw_Z below #[Value.ref b] s) (F0 m 2164 ls [])) : W p l e room_1 s m #[Value.ref b] below meth c H locs cells slots (lw_Z below #[Value.ref b] s) (F0 m 408 ls []) := by
  obtain ⟨⟨hx, hb, hml, hown, hts, hX, hbl, hst⟩, ⟨hK, hF, hO, hN⟩, ⟨aX, aM, a1, a2⟩, ⟨n1, n2, n12, nM⟩, hA⟩ := X0
  obtain ⟨hI, ⟨α, GX, hP, hMX⟩, ⟨th, GM, hR, hMM⟩, ⟨f1, hM1⟩, ⟨f2, hM2⟩, hS, hN0⟩ := I0
  have S0 : CallFix p m c code 9 s #[Value.ref b] wsL_law RL := ⟨hx, hb, hml, hown, hts⟩
  have hbA : ¬ lw_A s b := Nat.not_le.mpr hbl
  have hAX : ∀ q, H.size ≤ q → AX q := fun q h => hA q (Nat.le_trans hN0 h)
  refine lv_aload_n hx hb dL_law_408 rfl (lv_at hl 1 rfl) ?_
  refine lv_aload_n hx hb dL_law_409 rfl (lv_at hl 0 rfl) ?_
  refine lv_iload hx hb dL_law_410 (lv_at hl 5 rfl) ?_
  refine lv_iconst (v := 1) hx hb dL_law_412 (by decide) ?_
  refine lv_iadd hx hb dL_law_413 ?_
  refine va_sld hx hb hX hbl hbA hS (lw_in (k := 1) (by omega) hL) dL_law_414 ?_
  refine lv_aload_n hx hb dL_law_415 rfl (lv_at hl 3 rfl) ?_
  refine vx_calli (A1 := fun q => AX q ∨ q = o1) (free := fun q => AX q ∨ q = o1) (vx_runSX (As := [.ref h0, .int (xs (nI i + 1).toNatClampNeg), .ref o1]) (rest := []) S0 (c_L_propose l hst AX o1 D ac dE _ hP hI f1 (xs (nI i + 1).toNatClampNeg)) (vx_cwSW 3 hts gL_law_L_propose rfl rfl rfl (by decide +kernel) ⟨Nat.le_of_ble_eq_true rfl, Nat.le_of_ble_eq_true rfl⟩) ⟨fun a U g mk q => ⟨q.1, tkW.blind U g mk a q.2⟩, fun U hU hW => ⟨rfl, tkW.law hMX hM1 n1 hN hK hAX aX hF hO hS U hU hW⟩⟩ rfl rfl hl.1 rfl (lv_room (Nat.le_of_ble_eq_true rfl)) dL_law_416 ⟨by show _ ≤ 603072; omega, by show _ ≤ 7211114; omega⟩) hS (fun q _ h => h.elim (fun h => aX q h) (fun h => by rw [h]; exact a1)) (fun q h => h.elim (fun h => aX q h) (fun h => by rw [h]; exact a1)) (fun q _ h => h.elim) (fun _ _ _ _ _ _ _ _ _ _ h => h.elim) (fun r u t H9 locs ht hal hp hBB hz hq hS => ?_)
  rw [ht] at hBB
  obtain ⟨G9, f9⟩ := u
  obtain ⟨hr9, hv9, α9, hP9⟩ := hp
  obtain ⟨hMX, hM1⟩ := hBB
  dsimp only at hv9 hP9 hMX hM1
  have hM2 := hM2.kept (H1 := H9) (fun q h2 h3 => hq q h2 (fun z => z.elim (fun z => n2 (by rw [← h3]; exact z)) (fun z => n12 (z.symm.trans h3))))
  have hMM := hMM.kept (H1 := H9) (fun q h2 h3 => hq q h2 (fun z => z.elim (nM q h3).1 (nM q h3).2.1))
  have hN0 := Nat.le_trans hN0 hz
  clear hq hz hAX
  refine lv_istore (lv' := [(6, .int r), (0, .ref b), (1, .ref h0), (2, .ref m0), (3, .ref o1), (4, .ref o2), (5, .int (nI i))]) hx hb dL_law_419 hl (by decide) rfl (fun ls hl => ?_)
  refine lv_aload_n hx hb dL_law_421 rfl (lv_at hl 3 rfl) ?_
  refine lv_aload_n hx hb dL_law_422 rfl (lv_at hl 1 rfl) ?_
  refine lv_iload hx hb dL_law_423 (lv_at hl 6 rfl) ?_
  refine lv_iconst (v := 1) hx hb dL_law_425 (by decide) ?_
  refine lv_iadd hx hb dL_law_426 ?_
  refine va_sld hx hb hX hbl hbA hS (lw_in (k := 1) (by omega) hL) dL_law_427 ?_
  refine va_calli (A1 := AM) (free := AM) (va_runV (As := [.int (xs (nI i + 1).toNatClampNeg)]) (rest := []) S0 (c_X5_propose l AM D ac _ hR hI.w (xs (nI i + 1).toNatClampNeg)) (cwV 1 hts gL_law_X5_propose rfl rfl rfl (by decide +kernel) ⟨Nat.le_of_ble_eq_true rfl, Nat.le_of_ble_eq_true rfl⟩) ⟨fun a U g mk q => ⟨q.1, tkJ.blind U g mk a q.2⟩, tk_recv hK hMM hR.1 rfl, fun U hU hW => ⟨rfl, tkJ.at hMM hK U hU hW⟩⟩ rfl rfl hl.1 rfl (lv_room (Nat.le_of_ble_eq_true rfl)) dL_law_428 ⟨by show _ ≤ 603072; omega, by show _ ≤ 7211114; omega⟩) hS (fun q _ h => aM q h) (fun q h => aM q h) (fun r2 G2 t H2 locs ht hal hp2 hBB hz hq hS => ?_)
  have hMM : tkM AM D G2 H2 := by rw [← ht]; exact hBB
  have hMX := hMX.kept (H1 := H2) (fun q h2 h3 => hq q h2 (fun z => (nM q z).1 h3))
  have hM1 := hM1.kept (H1 := H2) (fun q h2 h3 => hq q h2 (fun z => (nM q z).2.1 h3))
  have hM2 := hM2.kept (H1 := H2) (fun q h2 h3 => hq q h2 (fun z => (nM q z).2.2 h3))
  have hN0 := Nat.le_trans hN0 hz
  clear hq hz hBB
  obtain ⟨hR2, hr2⟩ := hp2
  refine lv_istore (lv' := [(7, .int r2), (6, .int r), (0, .ref b), (1, .ref h0), (2, .ref m0), (3, .ref o1), (4, .ref o2), (5, .int (nI i))]) hx hb dL_law_431 hl (by decide) rfl (fun ls hl => ?_)
  refine lv_aload_n hx hb dL_law_433 rfl (lv_at hl 4 rfl) ?_
  refine tk_cVi (As := []) S0 (c_X5_thrown l AM D ac _ hR2) (cwV 0 hts gL_law_X5_thrown rfl rfl rfl (by decide +kernel) ⟨Nat.le_of_ble_eq_true rfl, Nat.le_of_ble_eq_true rfl⟩) (tkJ.blind) (tkJ.at hMM hK) (tk_recv hK hMM hR2.1 rfl) rfl hl.1 rfl (Nat.le_of_ble_eq_true rfl) dL_law_434 ⟨by show _ ≤ 603072; omega, by show _ ≤ 7211114; omega⟩ (fun r3 hr3 => ?_)
  refine lv_iload hx hb dL_law_437 (lv_at hl 1 rfl) ?_
  refine lv_icmp_eq (tgt := 444) hx hb dL_law_439 (by decide) (fun _ => ?_) (fun c9 => absurd (hr3.trans hr9.symm) c9)
  refine lv_iload hx hb dL_law_444 (lv_at hl 1 rfl) ?_
  refine lv_if_ne (tgt := 461) hx hb dL_law_446 (by decide) (fun _ => ?_) (fun c9 => ?_)
  · refine lv_goto (tgt := 2164) hx hb dL_law_461 (by decide) ?_
    refine W.widen (k := cells + 20) (n := slots + 500) (by omega) (by omega) ?_
    exact kk (S_propose M (xs (nI i + 1).toNatClampNeg)).2.1 _ _ ls ⟨keep_propose hI (xs (nI i + 1).toNatClampNeg), ⟨_, _, hP9, hMX⟩, ⟨_, _, hR2, hMM⟩, ⟨_, hM1⟩, ⟨_, hM2⟩, hS, hN0⟩ (lv_sub hl [2, 3, 4, 5, 6, 7] rfl)
  · have hv9 := hv9 (hr9.symm.trans c9)
    refine lv_aload_n hx hb dL_law_449 rfl (lv_at hl 5 rfl) ?_
    refine lv_iconst (v := 0) hx hb dL_law_450 (by decide) ?_
    refine tk_lald hx hb hK hM1 4 (va_up_self _ _ _) rfl (by unfold vp_in; decide) dL_law_451 ?_
    refine lv_iload hx hb dL_law_452 (lv_at hl 0 rfl) ?_
    refine lv_i2l hx hb dL_law_454 rfl ?_
    have hv9 : f9 (0 : Int32).toNatClampNeg = r2.toInt64 := by rw [hr2]; exact hv9
    rw [hv9]
    refine W.lcmp hx hb dL_law_455 ?_
    refine lv_if_eq (tgt := 461) hx hb dL_law_456 (by decide) (fun _ => ?_) (fun c8 => absurd (lself _) c8)
    refine lv_goto (tgt := 2164) hx hb dL_law_461 (by decide) ?_
    refine W.widen (k := cells + 20) (n := slots + 500) (by omega) (by omega) ?_
    exact kk (S_propose M (xs (nI i + 1).toNatClampNeg)).2.1 _ _ ls ⟨keep_propose hI (xs (nI i + 1).toNatClampNeg), ⟨_, _, hP9, hMX⟩, ⟨_, _, hR2, hMM⟩, ⟨_, hM1⟩, ⟨_, hM2⟩, hS, hN0⟩ (lv_sub hl [2, 3, 4, 5, 6, 7] rfl)
set_option maxHeartbeats 4000000 in
set_option maxRecDepth 100000 in
theorem law_reject {p : Program} {l : Launch} {e : Env} {s : State} {m : MethodId} {below : List Frame} {meth : Method} {c : Code} {b L : Nat} {xs : Nat → Int32} {D : va_G} {ac : Nat → ClassId} {dE h0 m0 : Nat} {am : Nat → Nat} {AX AM : Nat → Prop} {o1 o2 N0 i cells slots : Nat} {M : TS} {H : Heap} {locs : List Loc} {ls : Array Slot} (X0 : lw_X p l s m c b L xs D ac dE AX AM o1 o2 N0) (I0 : lw_I s D ac dE h0 m0 am AX AM o1 o2 N0 M H locs) (hL : L ≤ 2560) (hi : i + 5 ≤ L) (hc : cells + 20 ≤ 603072) (hs : slots + 500 ≤ 7211114) (hl : lv_has ls 9 [(0, .ref b), (1, .ref h0), (2, .ref m0), (3, .ref o1), (4, .ref o2), (5, .int (nI i))])
    (kk : ∀ (M : TS) (H : Heap) (locs : List Loc) (ls : Array Slot), lw_I s D ac dE h0 m0 am AX AM o1 o2 N0 M H locs → lv_has ls 9 [(0, .ref b), (1, .ref h0), (2, .ref m0), (3, .ref o1), (4, .ref o2), (5, .int (nI i))] → W p l e room_1 s m #[Value.ref b] below meth c H locs (cells + 20) (slots + 500) (lw_Z below #[Value.ref b] s) (F0 m 2164 ls [])) : W p l e room_1 s m #[Value.ref b] below meth c H locs cells slots (lw_Z below #[Value.ref b] s) (F0 m 464 ls []) := by
  obtain ⟨⟨hx, hb, hml, hown, hts, hX, hbl, hst⟩, ⟨hK, hF, hO, hN⟩, ⟨aX, aM, a1, a2⟩, ⟨n1, n2, n12, nM⟩, hA⟩ := X0
  obtain ⟨hI, ⟨α, GX, hP, hMX⟩, ⟨th, GM, hR, hMM⟩, ⟨f1, hM1⟩, ⟨f2, hM2⟩, hS, hN0⟩ := I0
  have S0 : CallFix p m c code 9 s #[Value.ref b] wsL_law RL := ⟨hx, hb, hml, hown, hts⟩
  have hbA : ¬ lw_A s b := Nat.not_le.mpr hbl
  have hAX : ∀ q, H.size ≤ q → AX q := fun q h => hA q (Nat.le_trans hN0 h)
  refine lv_aload_n hx hb dL_law_464 rfl (lv_at hl 1 rfl) ?_
  refine lv_aload_n hx hb dL_law_465 rfl (lv_at hl 0 rfl) ?_
  refine lv_iload hx hb dL_law_466 (lv_at hl 5 rfl) ?_
  refine lv_iconst (v := 1) hx hb dL_law_468 (by decide) ?_
  refine lv_iadd hx hb dL_law_469 ?_
  refine va_sld hx hb hX hbl hbA hS (lw_in (k := 1) (by omega) hL) dL_law_470 ?_
  refine lv_aload_n hx hb dL_law_471 rfl (lv_at hl 3 rfl) ?_
  refine vx_calli (A1 := fun q => AX q ∨ q = o1) (free := fun q => AX q ∨ q = o1) (vx_runSX (As := [.ref h0, .int (xs (nI i + 1).toNatClampNeg), .ref o1]) (rest := []) S0 (c_L_reject l hst AX o1 D ac dE _ hP hI f1 (xs (nI i + 1).toNatClampNeg)) (vx_cwSW 3 hts gL_law_L_reject rfl rfl rfl (by decide +kernel) ⟨Nat.le_of_ble_eq_true rfl, Nat.le_of_ble_eq_true rfl⟩) ⟨fun a U g mk q => ⟨q.1, tkW.blind U g mk a q.2⟩, fun U hU hW => ⟨rfl, tkW.law hMX hM1 n1 hN hK hAX aX hF hO hS U hU hW⟩⟩ rfl rfl hl.1 rfl (lv_room (Nat.le_of_ble_eq_true rfl)) dL_law_472 ⟨by show _ ≤ 603072; omega, by show _ ≤ 7211114; omega⟩) hS (fun q _ h => h.elim (fun h => aX q h) (fun h => by rw [h]; exact a1)) (fun q h => h.elim (fun h => aX q h) (fun h => by rw [h]; exact a1)) (fun q _ h => h.elim) (fun _ _ _ _ _ _ _ _ _ _ h => h.elim) (fun r u t H9 locs ht hal hp hBB hz hq hS => ?_)
  rw [ht] at hBB
  obtain ⟨G9, f9⟩ := u
  obtain ⟨hr9, hv9, α9, hP9⟩ := hp
  obtain ⟨hMX, hM1⟩ := hBB
  dsimp only at hv9 hP9 hMX hM1
  have hM2 := hM2.kept (H1 := H9) (fun q h2 h3 => hq q h2 (fun z => z.elim (fun z => n2 (by rw [← h3]; exact z)) (fun z => n12 (z.symm.trans h3))))
  have hMM := hMM.kept (H1 := H9) (fun q h2 h3 => hq q h2 (fun z => z.elim (nM q h3).1 (nM q h3).2.1))
  have hN0 := Nat.le_trans hN0 hz
  clear hq hz hAX
  refine lv_istore (lv' := [(6, .int r), (0, .ref b), (1, .ref h0), (2, .ref m0), (3, .ref o1), (4, .ref o2), (5, .int (nI i))]) hx hb dL_law_475 hl (by decide) rfl (fun ls hl => ?_)
  refine lv_aload_n hx hb dL_law_477 rfl (lv_at hl 3 rfl) ?_
  refine lv_aload_n hx hb dL_law_478 rfl (lv_at hl 1 rfl) ?_
  refine lv_iload hx hb dL_law_479 (lv_at hl 6 rfl) ?_
  refine lv_iconst (v := 1) hx hb dL_law_481 (by decide) ?_
  refine lv_iadd hx hb dL_law_482 ?_
  refine va_sld hx hb hX hbl hbA hS (lw_in (k := 1) (by omega) hL) dL_law_483 ?_
  refine va_calli (A1 := AM) (free := AM) (va_runV (As := [.int (xs (nI i + 1).toNatClampNeg)]) (rest := []) S0 (c_X5_reject l AM D ac _ hR hI.w (xs (nI i + 1).toNatClampNeg)) (cwV 1 hts gL_law_X5_reject rfl rfl rfl (by decide +kernel) ⟨Nat.le_of_ble_eq_true rfl, Nat.le_of_ble_eq_true rfl⟩) ⟨fun a U g mk q => ⟨q.1, tkJ.blind U g mk a q.2⟩, tk_recv hK hMM hR.1 rfl, fun U hU hW => ⟨rfl, tkJ.at hMM hK U hU hW⟩⟩ rfl rfl hl.1 rfl (lv_room (Nat.le_of_ble_eq_true rfl)) dL_law_484 ⟨by show _ ≤ 603072; omega, by show _ ≤ 7211114; omega⟩) hS (fun q _ h => aM q h) (fun q h => aM q h) (fun r2 G2 t H2 locs ht hal hp2 hBB hz hq hS => ?_)
  have hMM : tkM AM D G2 H2 := by rw [← ht]; exact hBB
  have hMX := hMX.kept (H1 := H2) (fun q h2 h3 => hq q h2 (fun z => (nM q z).1 h3))
  have hM1 := hM1.kept (H1 := H2) (fun q h2 h3 => hq q h2 (fun z => (nM q z).2.1 h3))
  have hM2 := hM2.kept (H1 := H2) (fun q h2 h3 => hq q h2 (fun z => (nM q z).2.2 h3))
  have hN0 := Nat.le_trans hN0 hz
  clear hq hz hBB
  obtain ⟨hR2, hr2⟩ := hp2
  refine lv_istore (lv' := [(7, .int r2), (6, .int r), (0, .ref b), (1, .ref h0), (2, .ref m0), (3, .ref o1), (4, .ref o2), (5, .int (nI i))]) hx hb dL_law_487 hl (by decide) rfl (fun ls hl => ?_)
  refine lv_aload_n hx hb dL_law_489 rfl (lv_at hl 4 rfl) ?_
  refine tk_cVi (As := []) S0 (c_X5_thrown l AM D ac _ hR2) (cwV 0 hts gL_law_X5_thrown rfl rfl rfl (by decide +kernel) ⟨Nat.le_of_ble_eq_true rfl, Nat.le_of_ble_eq_true rfl⟩) (tkJ.blind) (tkJ.at hMM hK) (tk_recv hK hMM hR2.1 rfl) rfl hl.1 rfl (Nat.le_of_ble_eq_true rfl) dL_law_490 ⟨by show _ ≤ 603072; omega, by show _ ≤ 7211114; omega⟩ (fun r3 hr3 => ?_)
  refine lv_iload hx hb dL_law_493 (lv_at hl 1 rfl) ?_
  refine lv_icmp_eq (tgt := 500) hx hb dL_law_495 (by decide) (fun _ => ?_) (fun c9 => absurd (hr3.trans hr9.symm) c9)
  refine lv_iload hx hb dL_law_500 (lv_at hl 1 rfl) ?_
  refine lv_if_ne (tgt := 517) hx hb dL_law_502 (by decide) (fun _ => ?_) (fun c9 => ?_)
  · refine lv_goto (tgt := 2164) hx hb dL_law_517 (by decide) ?_
    refine W.widen (k := cells + 20) (n := slots + 500) (by omega) (by omega) ?_
    exact kk (S_reject M (xs (nI i + 1).toNatClampNeg)).2.1 _ _ ls ⟨keep_reject hI (xs (nI i + 1).toNatClampNeg), ⟨_, _, hP9, hMX⟩, ⟨_, _, hR2, hMM⟩, ⟨_, hM1⟩, ⟨_, hM2⟩, hS, hN0⟩ (lv_sub hl [2, 3, 4, 5, 6, 7] rfl)
  · have hv9 := hv9 (hr9.symm.trans c9)
    refine lv_aload_n hx hb dL_law_505 rfl (lv_at hl 5 rfl) ?_
    refine lv_iconst (v := 0) hx hb dL_law_506 (by decide) ?_
    refine tk_lald hx hb hK hM1 4 (va_up_self _ _ _) rfl (by unfold vp_in; decide) dL_law_507 ?_
    refine lv_iload hx hb dL_law_508 (lv_at hl 0 rfl) ?_
    refine lv_i2l hx hb dL_law_510 rfl ?_
    have hv9 : f9 (0 : Int32).toNatClampNeg = r2.toInt64 := by rw [hr2]; exact hv9
    rw [hv9]
    refine W.lcmp hx hb dL_law_511 ?_
    refine lv_if_eq (tgt := 517) hx hb dL_law_512 (by decide) (fun _ => ?_) (fun c8 => absurd (lself _) c8)
    refine lv_goto (tgt := 2164) hx hb dL_law_517 (by decide) ?_
    refine W.widen (k := cells + 20) (n := slots + 500) (by omega) (by omega) ?_
    exact kk (S_reject M (xs (nI i + 1).toNatClampNeg)).2.1 _ _ ls ⟨keep_reject hI (xs (nI i + 1).toNatClampNeg), ⟨_, _, hP9, hMX⟩, ⟨_, _, hR2, hMM⟩, ⟨_, hM1⟩, ⟨_, hM2⟩, hS, hN0⟩ (lv_sub hl [2, 3, 4, 5, 6, 7] rfl)
set_option maxHeartbeats 4000000 in
set_option maxRecDepth 100000 in
theorem law_merge {p : Program} {l : Launch} {e : Env} {s : State} {m : MethodId} {below : List Frame} {meth : Method} {c : Code} {b L : Nat} {xs : Nat → Int32} {D : va_G} {ac : Nat → ClassId} {dE h0 m0 : Nat} {am : Nat → Nat} {AX AM : Nat → Prop} {o1 o2 N0 i cells slots : Nat} {M : TS} {H : Heap} {locs : List Loc} {ls : Array Slot} (X0 : lw_X p l s m c b L xs D ac dE AX AM o1 o2 N0) (I0 : lw_I s D ac dE h0 m0 am AX AM o1 o2 N0 M H locs) (hL : L ≤ 2560) (hi : i + 5 ≤ L) (hc : cells + 20 ≤ 603072) (hs : slots + 500 ≤ 7211114) (hl : lv_has ls 9 [(0, .ref b), (1, .ref h0), (2, .ref m0), (3, .ref o1), (4, .ref o2), (5, .int (nI i))])
    (kk : ∀ (M : TS) (H : Heap) (locs : List Loc) (ls : Array Slot), lw_I s D ac dE h0 m0 am AX AM o1 o2 N0 M H locs → lv_has ls 9 [(0, .ref b), (1, .ref h0), (2, .ref m0), (3, .ref o1), (4, .ref o2), (5, .int (nI i))] → W p l e room_1 s m #[Value.ref b] below meth c H locs (cells + 20) (slots + 500) (lw_Z below #[Value.ref b] s) (F0 m 2164 ls [])) : W p l e room_1 s m #[Value.ref b] below meth c H locs cells slots (lw_Z below #[Value.ref b] s) (F0 m 520 ls []) := by
  obtain ⟨⟨hx, hb, hml, hown, hts, hX, hbl, hst⟩, ⟨hK, hF, hO, hN⟩, ⟨aX, aM, a1, a2⟩, ⟨n1, n2, n12, nM⟩, hA⟩ := X0
  obtain ⟨hI, ⟨α, GX, hP, hMX⟩, ⟨th, GM, hR, hMM⟩, ⟨f1, hM1⟩, ⟨f2, hM2⟩, hS, hN0⟩ := I0
  have S0 : CallFix p m c code 9 s #[Value.ref b] wsL_law RL := ⟨hx, hb, hml, hown, hts⟩
  have hbA : ¬ lw_A s b := Nat.not_le.mpr hbl
  have hAX : ∀ q, H.size ≤ q → AX q := fun q h => hA q (Nat.le_trans hN0 h)
  refine lv_aload_n hx hb dL_law_520 rfl (lv_at hl 1 rfl) ?_
  refine lv_aload_n hx hb dL_law_521 rfl (lv_at hl 0 rfl) ?_
  refine lv_iload hx hb dL_law_522 (lv_at hl 5 rfl) ?_
  refine lv_iconst (v := 1) hx hb dL_law_524 (by decide) ?_
  refine lv_iadd hx hb dL_law_525 ?_
  refine va_sld hx hb hX hbl hbA hS (lw_in (k := 1) (by omega) hL) dL_law_526 ?_
  refine lv_aload_n hx hb dL_law_527 rfl (lv_at hl 3 rfl) ?_
  refine vx_calli (A1 := fun q => AX q ∨ q = o1) (free := fun q => AX q ∨ q = o1) (vx_runSX (As := [.ref h0, .int (xs (nI i + 1).toNatClampNeg), .ref o1]) (rest := []) S0 (c_L_merge l hst AX o1 D ac dE _ hP hI f1 (xs (nI i + 1).toNatClampNeg)) (vx_cwSW 3 hts gL_law_L_merge rfl rfl rfl (by decide +kernel) ⟨Nat.le_of_ble_eq_true rfl, Nat.le_of_ble_eq_true rfl⟩) ⟨fun a U g mk q => ⟨q.1, tkW.blind U g mk a q.2⟩, fun U hU hW => ⟨rfl, tkW.law hMX hM1 n1 hN hK hAX aX hF hO hS U hU hW⟩⟩ rfl rfl hl.1 rfl (lv_room (Nat.le_of_ble_eq_true rfl)) dL_law_528 ⟨by show _ ≤ 603072; omega, by show _ ≤ 7211114; omega⟩) hS (fun q _ h => h.elim (fun h => aX q h) (fun h => by rw [h]; exact a1)) (fun q h => h.elim (fun h => aX q h) (fun h => by rw [h]; exact a1)) (fun q _ h => h.elim) (fun _ _ _ _ _ _ _ _ _ _ h => h.elim) (fun r u t H9 locs ht hal hp hBB hz hq hS => ?_)
  rw [ht] at hBB
  obtain ⟨G9, f9⟩ := u
  obtain ⟨hr9, hv9, α9, hP9⟩ := hp
  obtain ⟨hMX, hM1⟩ := hBB
  dsimp only at hv9 hP9 hMX hM1
  have hM2 := hM2.kept (H1 := H9) (fun q h2 h3 => hq q h2 (fun z => z.elim (fun z => n2 (by rw [← h3]; exact z)) (fun z => n12 (z.symm.trans h3))))
  have hMM := hMM.kept (H1 := H9) (fun q h2 h3 => hq q h2 (fun z => z.elim (nM q h3).1 (nM q h3).2.1))
  have hN0 := Nat.le_trans hN0 hz
  clear hq hz hAX
  refine lv_istore (lv' := [(6, .int r), (0, .ref b), (1, .ref h0), (2, .ref m0), (3, .ref o1), (4, .ref o2), (5, .int (nI i))]) hx hb dL_law_531 hl (by decide) rfl (fun ls hl => ?_)
  refine lv_aload_n hx hb dL_law_533 rfl (lv_at hl 3 rfl) ?_
  refine lv_aload_n hx hb dL_law_534 rfl (lv_at hl 1 rfl) ?_
  refine lv_iload hx hb dL_law_535 (lv_at hl 6 rfl) ?_
  refine lv_iconst (v := 1) hx hb dL_law_537 (by decide) ?_
  refine lv_iadd hx hb dL_law_538 ?_
  refine va_sld hx hb hX hbl hbA hS (lw_in (k := 1) (by omega) hL) dL_law_539 ?_
  refine va_calli (A1 := AM) (free := AM) (va_runV (As := [.int (xs (nI i + 1).toNatClampNeg)]) (rest := []) S0 (c_X5_merge l AM D ac _ hR hI.w (xs (nI i + 1).toNatClampNeg)) (cwV 1 hts gL_law_X5_merge rfl rfl rfl (by decide +kernel) ⟨Nat.le_of_ble_eq_true rfl, Nat.le_of_ble_eq_true rfl⟩) ⟨fun a U g mk q => ⟨q.1, tkJ.blind U g mk a q.2⟩, tk_recv hK hMM hR.1 rfl, fun U hU hW => ⟨rfl, tkJ.at hMM hK U hU hW⟩⟩ rfl rfl hl.1 rfl (lv_room (Nat.le_of_ble_eq_true rfl)) dL_law_540 ⟨by show _ ≤ 603072; omega, by show _ ≤ 7211114; omega⟩) hS (fun q _ h => aM q h) (fun q h => aM q h) (fun r2 G2 t H2 locs ht hal hp2 hBB hz hq hS => ?_)
  have hMM : tkM AM D G2 H2 := by rw [← ht]; exact hBB
  have hMX := hMX.kept (H1 := H2) (fun q h2 h3 => hq q h2 (fun z => (nM q z).1 h3))
  have hM1 := hM1.kept (H1 := H2) (fun q h2 h3 => hq q h2 (fun z => (nM q z).2.1 h3))
  have hM2 := hM2.kept (H1 := H2) (fun q h2 h3 => hq q h2 (fun z => (nM q z).2.2 h3))
  have hN0 := Nat.le_trans hN0 hz
  clear hq hz hBB
  obtain ⟨hR2, hr2⟩ := hp2
  refine lv_istore (lv' := [(7, .int r2), (6, .int r), (0, .ref b), (1, .ref h0), (2, .ref m0), (3, .ref o1), (4, .ref o2), (5, .int (nI i))]) hx hb dL_law_543 hl (by decide) rfl (fun ls hl => ?_)
  refine lv_aload_n hx hb dL_law_545 rfl (lv_at hl 4 rfl) ?_
  refine tk_cVi (As := []) S0 (c_X5_thrown l AM D ac _ hR2) (cwV 0 hts gL_law_X5_thrown rfl rfl rfl (by decide +kernel) ⟨Nat.le_of_ble_eq_true rfl, Nat.le_of_ble_eq_true rfl⟩) (tkJ.blind) (tkJ.at hMM hK) (tk_recv hK hMM hR2.1 rfl) rfl hl.1 rfl (Nat.le_of_ble_eq_true rfl) dL_law_546 ⟨by show _ ≤ 603072; omega, by show _ ≤ 7211114; omega⟩ (fun r3 hr3 => ?_)
  refine lv_iload hx hb dL_law_549 (lv_at hl 1 rfl) ?_
  refine lv_icmp_eq (tgt := 556) hx hb dL_law_551 (by decide) (fun _ => ?_) (fun c9 => absurd (hr3.trans hr9.symm) c9)
  refine lv_iload hx hb dL_law_556 (lv_at hl 1 rfl) ?_
  refine lv_if_ne (tgt := 573) hx hb dL_law_558 (by decide) (fun _ => ?_) (fun c9 => ?_)
  · refine lv_goto (tgt := 2164) hx hb dL_law_573 (by decide) ?_
    refine W.widen (k := cells + 20) (n := slots + 500) (by omega) (by omega) ?_
    exact kk (S_merge M (xs (nI i + 1).toNatClampNeg)).2.1 _ _ ls ⟨keep_merge hI (xs (nI i + 1).toNatClampNeg), ⟨_, _, hP9, hMX⟩, ⟨_, _, hR2, hMM⟩, ⟨_, hM1⟩, ⟨_, hM2⟩, hS, hN0⟩ (lv_sub hl [2, 3, 4, 5, 6, 7] rfl)
  · have hv9 := hv9 (hr9.symm.trans c9)
    refine lv_aload_n hx hb dL_law_561 rfl (lv_at hl 5 rfl) ?_
    refine lv_iconst (v := 0) hx hb dL_law_562 (by decide) ?_
    refine tk_lald hx hb hK hM1 4 (va_up_self _ _ _) rfl (by unfold vp_in; decide) dL_law_563 ?_
    refine lv_iload hx hb dL_law_564 (lv_at hl 0 rfl) ?_
    refine lv_i2l hx hb dL_law_566 rfl ?_
    have hv9 : f9 (0 : Int32).toNatClampNeg = r2.toInt64 := by rw [hr2]; exact hv9
    rw [hv9]
    refine W.lcmp hx hb dL_law_567 ?_
    refine lv_if_eq (tgt := 573) hx hb dL_law_568 (by decide) (fun _ => ?_) (fun c8 => absurd (lself _) c8)
    refine lv_goto (tgt := 2164) hx hb dL_law_573 (by decide) ?_
    refine W.widen (k := cells + 20) (n := slots + 500) (by omega) (by omega) ?_
    exact kk (S_merge M (xs (nI i + 1).toNatClampNeg)).2.1 _ _ ls ⟨keep_merge hI (xs (nI i + 1).toNatClampNeg), ⟨_, _, hP9, hMX⟩, ⟨_, _, hR2, hMM⟩, ⟨_, hM1⟩, ⟨_, hM2⟩, hS, hN0⟩ (lv_sub hl [2, 3, 4, 5, 6, 7] rfl)
set_option maxHeartbeats 4000000 in
set_option maxRecDepth 100000 in
theorem law_reopen {p : Program} {l : Launch} {e : Env} {s : State} {m : MethodId} {below : List Frame} {meth : Method} {c : Code} {b L : Nat} {xs : Nat → Int32} {D : va_G} {ac : Nat → ClassId} {dE h0 m0 : Nat} {am : Nat → Nat} {AX AM : Nat → Prop} {o1 o2 N0 i cells slots : Nat} {M : TS} {H : Heap} {locs : List Loc} {ls : Array Slot} (X0 : lw_X p l s m c b L xs D ac dE AX AM o1 o2 N0) (I0 : lw_I s D ac dE h0 m0 am AX AM o1 o2 N0 M H locs) (hL : L ≤ 2560) (hi : i + 5 ≤ L) (hc : cells + 20 ≤ 603072) (hs : slots + 500 ≤ 7211114) (hl : lv_has ls 9 [(0, .ref b), (1, .ref h0), (2, .ref m0), (3, .ref o1), (4, .ref o2), (5, .int (nI i))])
    (kk : ∀ (M : TS) (H : Heap) (locs : List Loc) (ls : Array Slot), lw_I s D ac dE h0 m0 am AX AM o1 o2 N0 M H locs → lv_has ls 9 [(0, .ref b), (1, .ref h0), (2, .ref m0), (3, .ref o1), (4, .ref o2), (5, .int (nI i))] → W p l e room_1 s m #[Value.ref b] below meth c H locs (cells + 20) (slots + 500) (lw_Z below #[Value.ref b] s) (F0 m 2164 ls [])) : W p l e room_1 s m #[Value.ref b] below meth c H locs cells slots (lw_Z below #[Value.ref b] s) (F0 m 576 ls []) := by
  obtain ⟨⟨hx, hb, hml, hown, hts, hX, hbl, hst⟩, ⟨hK, hF, hO, hN⟩, ⟨aX, aM, a1, a2⟩, ⟨n1, n2, n12, nM⟩, hA⟩ := X0
  obtain ⟨hI, ⟨α, GX, hP, hMX⟩, ⟨th, GM, hR, hMM⟩, ⟨f1, hM1⟩, ⟨f2, hM2⟩, hS, hN0⟩ := I0
  have S0 : CallFix p m c code 9 s #[Value.ref b] wsL_law RL := ⟨hx, hb, hml, hown, hts⟩
  have hbA : ¬ lw_A s b := Nat.not_le.mpr hbl
  have hAX : ∀ q, H.size ≤ q → AX q := fun q h => hA q (Nat.le_trans hN0 h)
  refine lv_aload_n hx hb dL_law_576 rfl (lv_at hl 1 rfl) ?_
  refine lv_aload_n hx hb dL_law_577 rfl (lv_at hl 0 rfl) ?_
  refine lv_iload hx hb dL_law_578 (lv_at hl 5 rfl) ?_
  refine lv_iconst (v := 1) hx hb dL_law_580 (by decide) ?_
  refine lv_iadd hx hb dL_law_581 ?_
  refine va_sld hx hb hX hbl hbA hS (lw_in (k := 1) (by omega) hL) dL_law_582 ?_
  refine lv_aload_n hx hb dL_law_583 rfl (lv_at hl 3 rfl) ?_
  refine vx_calli (A1 := fun q => AX q ∨ q = o1) (free := fun q => AX q ∨ q = o1) (vx_runSX (As := [.ref h0, .int (xs (nI i + 1).toNatClampNeg), .ref o1]) (rest := []) S0 (c_L_reopen l hst AX o1 D ac dE _ hP hI f1 (xs (nI i + 1).toNatClampNeg)) (vx_cwSW 3 hts gL_law_L_reopen rfl rfl rfl (by decide +kernel) ⟨Nat.le_of_ble_eq_true rfl, Nat.le_of_ble_eq_true rfl⟩) ⟨fun a U g mk q => ⟨q.1, tkW.blind U g mk a q.2⟩, fun U hU hW => ⟨rfl, tkW.law hMX hM1 n1 hN hK hAX aX hF hO hS U hU hW⟩⟩ rfl rfl hl.1 rfl (lv_room (Nat.le_of_ble_eq_true rfl)) dL_law_584 ⟨by show _ ≤ 603072; omega, by show _ ≤ 7211114; omega⟩) hS (fun q _ h => h.elim (fun h => aX q h) (fun h => by rw [h]; exact a1)) (fun q h => h.elim (fun h => aX q h) (fun h => by rw [h]; exact a1)) (fun q _ h => h.elim) (fun _ _ _ _ _ _ _ _ _ _ h => h.elim) (fun r u t H9 locs ht hal hp hBB hz hq hS => ?_)
  rw [ht] at hBB
  obtain ⟨G9, f9⟩ := u
  obtain ⟨hr9, hv9, α9, hP9⟩ := hp
  obtain ⟨hMX, hM1⟩ := hBB
  dsimp only at hv9 hP9 hMX hM1
  have hM2 := hM2.kept (H1 := H9) (fun q h2 h3 => hq q h2 (fun z => z.elim (fun z => n2 (by rw [← h3]; exact z)) (fun z => n12 (z.symm.trans h3))))
  have hMM := hMM.kept (H1 := H9) (fun q h2 h3 => hq q h2 (fun z => z.elim (nM q h3).1 (nM q h3).2.1))
  have hN0 := Nat.le_trans hN0 hz
  clear hq hz hAX
  refine lv_istore (lv' := [(6, .int r), (0, .ref b), (1, .ref h0), (2, .ref m0), (3, .ref o1), (4, .ref o2), (5, .int (nI i))]) hx hb dL_law_587 hl (by decide) rfl (fun ls hl => ?_)
  refine lv_aload_n hx hb dL_law_589 rfl (lv_at hl 3 rfl) ?_
  refine lv_aload_n hx hb dL_law_590 rfl (lv_at hl 1 rfl) ?_
  refine lv_iload hx hb dL_law_591 (lv_at hl 6 rfl) ?_
  refine lv_iconst (v := 1) hx hb dL_law_593 (by decide) ?_
  refine lv_iadd hx hb dL_law_594 ?_
  refine va_sld hx hb hX hbl hbA hS (lw_in (k := 1) (by omega) hL) dL_law_595 ?_
  refine va_calli (A1 := AM) (free := AM) (va_runV (As := [.int (xs (nI i + 1).toNatClampNeg)]) (rest := []) S0 (c_X5_reopen l AM D ac _ hR hI.w hI.w1 (xs (nI i + 1).toNatClampNeg)) (cwV 1 hts gL_law_X5_reopen rfl rfl rfl (by decide +kernel) ⟨Nat.le_of_ble_eq_true rfl, Nat.le_of_ble_eq_true rfl⟩) ⟨fun a U g mk q => ⟨q.1, tkJ.blind U g mk a q.2⟩, tk_recv hK hMM hR.1 rfl, fun U hU hW => ⟨rfl, tkJ.at hMM hK U hU hW⟩⟩ rfl rfl hl.1 rfl (lv_room (Nat.le_of_ble_eq_true rfl)) dL_law_596 ⟨by show _ ≤ 603072; omega, by show _ ≤ 7211114; omega⟩) hS (fun q _ h => aM q h) (fun q h => aM q h) (fun r2 G2 t H2 locs ht hal hp2 hBB hz hq hS => ?_)
  have hMM : tkM AM D G2 H2 := by rw [← ht]; exact hBB
  have hMX := hMX.kept (H1 := H2) (fun q h2 h3 => hq q h2 (fun z => (nM q z).1 h3))
  have hM1 := hM1.kept (H1 := H2) (fun q h2 h3 => hq q h2 (fun z => (nM q z).2.1 h3))
  have hM2 := hM2.kept (H1 := H2) (fun q h2 h3 => hq q h2 (fun z => (nM q z).2.2 h3))
  have hN0 := Nat.le_trans hN0 hz
  clear hq hz hBB
  obtain ⟨hR2, hr2⟩ := hp2
  refine lv_istore (lv' := [(7, .int r2), (6, .int r), (0, .ref b), (1, .ref h0), (2, .ref m0), (3, .ref o1), (4, .ref o2), (5, .int (nI i))]) hx hb dL_law_599 hl (by decide) rfl (fun ls hl => ?_)
  refine lv_aload_n hx hb dL_law_601 rfl (lv_at hl 4 rfl) ?_
  refine tk_cVi (As := []) S0 (c_X5_thrown l AM D ac _ hR2) (cwV 0 hts gL_law_X5_thrown rfl rfl rfl (by decide +kernel) ⟨Nat.le_of_ble_eq_true rfl, Nat.le_of_ble_eq_true rfl⟩) (tkJ.blind) (tkJ.at hMM hK) (tk_recv hK hMM hR2.1 rfl) rfl hl.1 rfl (Nat.le_of_ble_eq_true rfl) dL_law_602 ⟨by show _ ≤ 603072; omega, by show _ ≤ 7211114; omega⟩ (fun r3 hr3 => ?_)
  refine lv_iload hx hb dL_law_605 (lv_at hl 1 rfl) ?_
  refine lv_icmp_eq (tgt := 612) hx hb dL_law_607 (by decide) (fun _ => ?_) (fun c9 => absurd (hr3.trans hr9.symm) c9)
  refine lv_iload hx hb dL_law_612 (lv_at hl 1 rfl) ?_
  refine lv_if_ne (tgt := 629) hx hb dL_law_614 (by decide) (fun _ => ?_) (fun c9 => ?_)
  · refine lv_goto (tgt := 2164) hx hb dL_law_629 (by decide) ?_
    refine W.widen (k := cells + 20) (n := slots + 500) (by omega) (by omega) ?_
    exact kk (S_reopen M (xs (nI i + 1).toNatClampNeg)).2.1 _ _ ls ⟨keep_reopen hI (xs (nI i + 1).toNatClampNeg), ⟨_, _, hP9, hMX⟩, ⟨_, _, hR2, hMM⟩, ⟨_, hM1⟩, ⟨_, hM2⟩, hS, hN0⟩ (lv_sub hl [2, 3, 4, 5, 6, 7] rfl)
  · have hv9 := hv9 (hr9.symm.trans c9)
    refine lv_aload_n hx hb dL_law_617 rfl (lv_at hl 5 rfl) ?_
    refine lv_iconst (v := 0) hx hb dL_law_618 (by decide) ?_
    refine tk_lald hx hb hK hM1 4 (va_up_self _ _ _) rfl (by unfold vp_in; decide) dL_law_619 ?_
    refine lv_iload hx hb dL_law_620 (lv_at hl 0 rfl) ?_
    refine lv_i2l hx hb dL_law_622 rfl ?_
    have hv9 : f9 (0 : Int32).toNatClampNeg = r2.toInt64 := by rw [hr2]; exact hv9
    rw [hv9]
    refine W.lcmp hx hb dL_law_623 ?_
    refine lv_if_eq (tgt := 629) hx hb dL_law_624 (by decide) (fun _ => ?_) (fun c8 => absurd (lself _) c8)
    refine lv_goto (tgt := 2164) hx hb dL_law_629 (by decide) ?_
    refine W.widen (k := cells + 20) (n := slots + 500) (by omega) (by omega) ?_
    exact kk (S_reopen M (xs (nI i + 1).toNatClampNeg)).2.1 _ _ ls ⟨keep_reopen hI (xs (nI i + 1).toNatClampNeg), ⟨_, _, hP9, hMX⟩, ⟨_, _, hR2, hMM⟩, ⟨_, hM1⟩, ⟨_, hM2⟩, hS, hN0⟩ (lv_sub hl [2, 3, 4, 5, 6, 7] rfl)
set_option maxHeartbeats 4000000 in
set_option maxRecDepth 100000 in
theorem law_state {p : Program} {l : Launch} {e : Env} {s : State} {m : MethodId} {below : List Frame} {meth : Method} {c : Code} {b L : Nat} {xs : Nat → Int32} {D : va_G} {ac : Nat → ClassId} {dE h0 m0 : Nat} {am : Nat → Nat} {AX AM : Nat → Prop} {o1 o2 N0 i cells slots : Nat} {M : TS} {H : Heap} {locs : List Loc} {ls : Array Slot} (X0 : lw_X p l s m c b L xs D ac dE AX AM o1 o2 N0) (I0 : lw_I s D ac dE h0 m0 am AX AM o1 o2 N0 M H locs) (hL : L ≤ 2560) (hi : i + 5 ≤ L) (hc : cells + 20 ≤ 603072) (hs : slots + 500 ≤ 7211114) (hl : lv_has ls 9 [(0, .ref b), (1, .ref h0), (2, .ref m0), (3, .ref o1), (4, .ref o2), (5, .int (nI i))])
    (kk : ∀ (M : TS) (H : Heap) (locs : List Loc) (ls : Array Slot), lw_I s D ac dE h0 m0 am AX AM o1 o2 N0 M H locs → lv_has ls 9 [(0, .ref b), (1, .ref h0), (2, .ref m0), (3, .ref o1), (4, .ref o2), (5, .int (nI i))] → W p l e room_1 s m #[Value.ref b] below meth c H locs (cells + 20) (slots + 500) (lw_Z below #[Value.ref b] s) (F0 m 2164 ls [])) : W p l e room_1 s m #[Value.ref b] below meth c H locs cells slots (lw_Z below #[Value.ref b] s) (F0 m 632 ls []) := by
  obtain ⟨⟨hx, hb, hml, hown, hts, hX, hbl, hst⟩, ⟨hK, hF, hO, hN⟩, ⟨aX, aM, a1, a2⟩, ⟨n1, n2, n12, nM⟩, hA⟩ := X0
  obtain ⟨hI, ⟨α, GX, hP, hMX⟩, ⟨th, GM, hR, hMM⟩, ⟨f1, hM1⟩, ⟨f2, hM2⟩, hS, hN0⟩ := I0
  have S0 : CallFix p m c code 9 s #[Value.ref b] wsL_law RL := ⟨hx, hb, hml, hown, hts⟩
  have hbA : ¬ lw_A s b := Nat.not_le.mpr hbl
  have hAX : ∀ q, H.size ≤ q → AX q := fun q h => hA q (Nat.le_trans hN0 h)
  refine lv_aload_n hx hb dL_law_632 rfl (lv_at hl 1 rfl) ?_
  refine lv_aload_n hx hb dL_law_633 rfl (lv_at hl 0 rfl) ?_
  refine lv_iload hx hb dL_law_634 (lv_at hl 5 rfl) ?_
  refine lv_iconst (v := 1) hx hb dL_law_636 (by decide) ?_
  refine lv_iadd hx hb dL_law_637 ?_
  refine va_sld hx hb hX hbl hbA hS (lw_in (k := 1) (by omega) hL) dL_law_638 ?_
  refine lv_aload_n hx hb dL_law_639 rfl (lv_at hl 3 rfl) ?_
  refine vx_calli (A1 := fun q => AX q ∨ q = o1) (free := fun q => AX q ∨ q = o1) (vx_runSX (As := [.ref h0, .int (xs (nI i + 1).toNatClampNeg), .ref o1]) (rest := []) S0 (c_L_state l hst AX o1 D ac dE _ hP hI f1 (xs (nI i + 1).toNatClampNeg)) (vx_cwSW 3 hts gL_law_L_state rfl rfl rfl (by decide +kernel) ⟨Nat.le_of_ble_eq_true rfl, Nat.le_of_ble_eq_true rfl⟩) ⟨fun a U g mk q => ⟨q.1, tkW.blind U g mk a q.2⟩, fun U hU hW => ⟨rfl, tkW.law hMX hM1 n1 hN hK hAX aX hF hO hS U hU hW⟩⟩ rfl rfl hl.1 rfl (lv_room (Nat.le_of_ble_eq_true rfl)) dL_law_640 ⟨by show _ ≤ 603072; omega, by show _ ≤ 7211114; omega⟩) hS (fun q _ h => h.elim (fun h => aX q h) (fun h => by rw [h]; exact a1)) (fun q h => h.elim (fun h => aX q h) (fun h => by rw [h]; exact a1)) (fun q _ h => h.elim) (fun _ _ _ _ _ _ _ _ _ _ h => h.elim) (fun r u t H9 locs ht hal hp hBB hz hq hS => ?_)
  rw [ht] at hBB
  obtain ⟨G9, f9⟩ := u
  obtain ⟨hr9, hv9, α9, hP9⟩ := hp
  obtain ⟨hMX, hM1⟩ := hBB
  dsimp only at hv9 hP9 hMX hM1
  have hM2 := hM2.kept (H1 := H9) (fun q h2 h3 => hq q h2 (fun z => z.elim (fun z => n2 (by rw [← h3]; exact z)) (fun z => n12 (z.symm.trans h3))))
  have hMM := hMM.kept (H1 := H9) (fun q h2 h3 => hq q h2 (fun z => z.elim (nM q h3).1 (nM q h3).2.1))
  have hN0 := Nat.le_trans hN0 hz
  clear hq hz hAX
  refine lv_istore (lv' := [(6, .int r), (0, .ref b), (1, .ref h0), (2, .ref m0), (3, .ref o1), (4, .ref o2), (5, .int (nI i))]) hx hb dL_law_643 hl (by decide) rfl (fun ls hl => ?_)
  refine lv_aload_n hx hb dL_law_645 rfl (lv_at hl 3 rfl) ?_
  refine lv_aload_n hx hb dL_law_646 rfl (lv_at hl 1 rfl) ?_
  refine lv_iload hx hb dL_law_647 (lv_at hl 6 rfl) ?_
  refine lv_iconst (v := 1) hx hb dL_law_649 (by decide) ?_
  refine lv_iadd hx hb dL_law_650 ?_
  refine va_sld hx hb hX hbl hbA hS (lw_in (k := 1) (by omega) hL) dL_law_651 ?_
  refine va_calli (A1 := AM) (free := AM) (va_runV (As := [.int (xs (nI i + 1).toNatClampNeg)]) (rest := []) S0 (c_X5_state l AM D ac _ hR hI.w hI.w1 (xs (nI i + 1).toNatClampNeg)) (cwV 1 hts gL_law_X5_state rfl rfl rfl (by decide +kernel) ⟨Nat.le_of_ble_eq_true rfl, Nat.le_of_ble_eq_true rfl⟩) ⟨fun a U g mk q => ⟨q.1, tkJ.blind U g mk a q.2⟩, tk_recv hK hMM hR.1 rfl, fun U hU hW => ⟨rfl, tkJ.at hMM hK U hU hW⟩⟩ rfl rfl hl.1 rfl (lv_room (Nat.le_of_ble_eq_true rfl)) dL_law_652 ⟨by show _ ≤ 603072; omega, by show _ ≤ 7211114; omega⟩) hS (fun q _ h => aM q h) (fun q h => aM q h) (fun r2 G2 t H2 locs ht hal hp2 hBB hz hq hS => ?_)
  have hMM : tkM AM D G2 H2 := by rw [← ht]; exact hBB
  have hMX := hMX.kept (H1 := H2) (fun q h2 h3 => hq q h2 (fun z => (nM q z).1 h3))
  have hM1 := hM1.kept (H1 := H2) (fun q h2 h3 => hq q h2 (fun z => (nM q z).2.1 h3))
  have hM2 := hM2.kept (H1 := H2) (fun q h2 h3 => hq q h2 (fun z => (nM q z).2.2 h3))
  have hN0 := Nat.le_trans hN0 hz
  clear hq hz hBB
  obtain ⟨hR2, hr2⟩ := hp2
  refine lv_istore (lv' := [(7, .int r2), (6, .int r), (0, .ref b), (1, .ref h0), (2, .ref m0), (3, .ref o1), (4, .ref o2), (5, .int (nI i))]) hx hb dL_law_655 hl (by decide) rfl (fun ls hl => ?_)
  refine lv_aload_n hx hb dL_law_657 rfl (lv_at hl 4 rfl) ?_
  refine tk_cVi (As := []) S0 (c_X5_thrown l AM D ac _ hR2) (cwV 0 hts gL_law_X5_thrown rfl rfl rfl (by decide +kernel) ⟨Nat.le_of_ble_eq_true rfl, Nat.le_of_ble_eq_true rfl⟩) (tkJ.blind) (tkJ.at hMM hK) (tk_recv hK hMM hR2.1 rfl) rfl hl.1 rfl (Nat.le_of_ble_eq_true rfl) dL_law_658 ⟨by show _ ≤ 603072; omega, by show _ ≤ 7211114; omega⟩ (fun r3 hr3 => ?_)
  refine lv_iload hx hb dL_law_661 (lv_at hl 1 rfl) ?_
  refine lv_icmp_eq (tgt := 668) hx hb dL_law_663 (by decide) (fun _ => ?_) (fun c9 => absurd (hr3.trans hr9.symm) c9)
  refine lv_iload hx hb dL_law_668 (lv_at hl 1 rfl) ?_
  refine lv_if_ne (tgt := 685) hx hb dL_law_670 (by decide) (fun _ => ?_) (fun c9 => ?_)
  · refine lv_goto (tgt := 2164) hx hb dL_law_685 (by decide) ?_
    refine W.widen (k := cells + 20) (n := slots + 500) (by omega) (by omega) ?_
    exact kk (S_state M (xs (nI i + 1).toNatClampNeg)).2.1 _ _ ls ⟨(by rw [rd_state]; exact hI), ⟨_, _, hP9, hMX⟩, ⟨_, _, hR2, hMM⟩, ⟨_, hM1⟩, ⟨_, hM2⟩, hS, hN0⟩ (lv_sub hl [2, 3, 4, 5, 6, 7] rfl)
  · have hv9 := hv9 (hr9.symm.trans c9)
    refine lv_aload_n hx hb dL_law_673 rfl (lv_at hl 5 rfl) ?_
    refine lv_iconst (v := 0) hx hb dL_law_674 (by decide) ?_
    refine tk_lald hx hb hK hM1 4 (va_up_self _ _ _) rfl (by unfold vp_in; decide) dL_law_675 ?_
    refine lv_iload hx hb dL_law_676 (lv_at hl 0 rfl) ?_
    refine lv_i2l hx hb dL_law_678 rfl ?_
    have hv9 : f9 (0 : Int32).toNatClampNeg = r2.toInt64 := by rw [hr2]; exact hv9
    rw [hv9]
    refine W.lcmp hx hb dL_law_679 ?_
    refine lv_if_eq (tgt := 685) hx hb dL_law_680 (by decide) (fun _ => ?_) (fun c8 => absurd (lself _) c8)
    refine lv_goto (tgt := 2164) hx hb dL_law_685 (by decide) ?_
    refine W.widen (k := cells + 20) (n := slots + 500) (by omega) (by omega) ?_
    exact kk (S_state M (xs (nI i + 1).toNatClampNeg)).2.1 _ _ ls ⟨(by rw [rd_state]; exact hI), ⟨_, _, hP9, hMX⟩, ⟨_, _, hR2, hMM⟩, ⟨_, hM1⟩, ⟨_, hM2⟩, hS, hN0⟩ (lv_sub hl [2, 3, 4, 5, 6, 7] rfl)
set_option maxHeartbeats 4000000 in
set_option maxRecDepth 100000 in
theorem law_parent {p : Program} {l : Launch} {e : Env} {s : State} {m : MethodId} {below : List Frame} {meth : Method} {c : Code} {b L : Nat} {xs : Nat → Int32} {D : va_G} {ac : Nat → ClassId} {dE h0 m0 : Nat} {am : Nat → Nat} {AX AM : Nat → Prop} {o1 o2 N0 i cells slots : Nat} {M : TS} {H : Heap} {locs : List Loc} {ls : Array Slot} (X0 : lw_X p l s m c b L xs D ac dE AX AM o1 o2 N0) (I0 : lw_I s D ac dE h0 m0 am AX AM o1 o2 N0 M H locs) (hL : L ≤ 2560) (hi : i + 5 ≤ L) (hc : cells + 20 ≤ 603072) (hs : slots + 500 ≤ 7211114) (hl : lv_has ls 9 [(0, .ref b), (1, .ref h0), (2, .ref m0), (3, .ref o1), (4, .ref o2), (5, .int (nI i))])
    (kk : ∀ (M : TS) (H : Heap) (locs : List Loc) (ls : Array Slot), lw_I s D ac dE h0 m0 am AX AM o1 o2 N0 M H locs → lv_has ls 9 [(0, .ref b), (1, .ref h0), (2, .ref m0), (3, .ref o1), (4, .ref o2), (5, .int (nI i))] → W p l e room_1 s m #[Value.ref b] below meth c H locs (cells + 20) (slots + 500) (lw_Z below #[Value.ref b] s) (F0 m 2164 ls [])) : W p l e room_1 s m #[Value.ref b] below meth c H locs cells slots (lw_Z below #[Value.ref b] s) (F0 m 688 ls []) := by
  obtain ⟨⟨hx, hb, hml, hown, hts, hX, hbl, hst⟩, ⟨hK, hF, hO, hN⟩, ⟨aX, aM, a1, a2⟩, ⟨n1, n2, n12, nM⟩, hA⟩ := X0
  obtain ⟨hI, ⟨α, GX, hP, hMX⟩, ⟨th, GM, hR, hMM⟩, ⟨f1, hM1⟩, ⟨f2, hM2⟩, hS, hN0⟩ := I0
  have S0 : CallFix p m c code 9 s #[Value.ref b] wsL_law RL := ⟨hx, hb, hml, hown, hts⟩
  have hbA : ¬ lw_A s b := Nat.not_le.mpr hbl
  have hAX : ∀ q, H.size ≤ q → AX q := fun q h => hA q (Nat.le_trans hN0 h)
  refine lv_aload_n hx hb dL_law_688 rfl (lv_at hl 1 rfl) ?_
  refine lv_aload_n hx hb dL_law_689 rfl (lv_at hl 0 rfl) ?_
  refine lv_iload hx hb dL_law_690 (lv_at hl 5 rfl) ?_
  refine lv_iconst (v := 1) hx hb dL_law_692 (by decide) ?_
  refine lv_iadd hx hb dL_law_693 ?_
  refine va_sld hx hb hX hbl hbA hS (lw_in (k := 1) (by omega) hL) dL_law_694 ?_
  refine lv_aload_n hx hb dL_law_695 rfl (lv_at hl 3 rfl) ?_
  refine vx_calli (A1 := fun q => AX q ∨ q = o1) (free := fun q => AX q ∨ q = o1) (vx_runSX (As := [.ref h0, .int (xs (nI i + 1).toNatClampNeg), .ref o1]) (rest := []) S0 (c_L_parent l hst AX o1 D ac dE _ hP hI f1 (xs (nI i + 1).toNatClampNeg)) (vx_cwSW 3 hts gL_law_L_parent rfl rfl rfl (by decide +kernel) ⟨Nat.le_of_ble_eq_true rfl, Nat.le_of_ble_eq_true rfl⟩) ⟨fun a U g mk q => ⟨q.1, tkW.blind U g mk a q.2⟩, fun U hU hW => ⟨rfl, tkW.law hMX hM1 n1 hN hK hAX aX hF hO hS U hU hW⟩⟩ rfl rfl hl.1 rfl (lv_room (Nat.le_of_ble_eq_true rfl)) dL_law_696 ⟨by show _ ≤ 603072; omega, by show _ ≤ 7211114; omega⟩) hS (fun q _ h => h.elim (fun h => aX q h) (fun h => by rw [h]; exact a1)) (fun q h => h.elim (fun h => aX q h) (fun h => by rw [h]; exact a1)) (fun q _ h => h.elim) (fun _ _ _ _ _ _ _ _ _ _ h => h.elim) (fun r u t H9 locs ht hal hp hBB hz hq hS => ?_)
  rw [ht] at hBB
  obtain ⟨G9, f9⟩ := u
  obtain ⟨hr9, hv9, α9, hP9⟩ := hp
  obtain ⟨hMX, hM1⟩ := hBB
  dsimp only at hv9 hP9 hMX hM1
  have hM2 := hM2.kept (H1 := H9) (fun q h2 h3 => hq q h2 (fun z => z.elim (fun z => n2 (by rw [← h3]; exact z)) (fun z => n12 (z.symm.trans h3))))
  have hMM := hMM.kept (H1 := H9) (fun q h2 h3 => hq q h2 (fun z => z.elim (nM q h3).1 (nM q h3).2.1))
  have hN0 := Nat.le_trans hN0 hz
  clear hq hz hAX
  refine lv_istore (lv' := [(6, .int r), (0, .ref b), (1, .ref h0), (2, .ref m0), (3, .ref o1), (4, .ref o2), (5, .int (nI i))]) hx hb dL_law_699 hl (by decide) rfl (fun ls hl => ?_)
  refine lv_aload_n hx hb dL_law_701 rfl (lv_at hl 3 rfl) ?_
  refine lv_aload_n hx hb dL_law_702 rfl (lv_at hl 1 rfl) ?_
  refine lv_iload hx hb dL_law_703 (lv_at hl 6 rfl) ?_
  refine lv_iconst (v := 1) hx hb dL_law_705 (by decide) ?_
  refine lv_iadd hx hb dL_law_706 ?_
  refine va_sld hx hb hX hbl hbA hS (lw_in (k := 1) (by omega) hL) dL_law_707 ?_
  refine va_calli (A1 := AM) (free := AM) (va_runV (As := [.int (xs (nI i + 1).toNatClampNeg)]) (rest := []) S0 (c_X5_parent l AM D ac _ hR hI.w (xs (nI i + 1).toNatClampNeg)) (cwV 1 hts gL_law_X5_parent rfl rfl rfl (by decide +kernel) ⟨Nat.le_of_ble_eq_true rfl, Nat.le_of_ble_eq_true rfl⟩) ⟨fun a U g mk q => ⟨q.1, tkJ.blind U g mk a q.2⟩, tk_recv hK hMM hR.1 rfl, fun U hU hW => ⟨rfl, tkJ.at hMM hK U hU hW⟩⟩ rfl rfl hl.1 rfl (lv_room (Nat.le_of_ble_eq_true rfl)) dL_law_708 ⟨by show _ ≤ 603072; omega, by show _ ≤ 7211114; omega⟩) hS (fun q _ h => aM q h) (fun q h => aM q h) (fun r2 G2 t H2 locs ht hal hp2 hBB hz hq hS => ?_)
  have hMM : tkM AM D G2 H2 := by rw [← ht]; exact hBB
  have hMX := hMX.kept (H1 := H2) (fun q h2 h3 => hq q h2 (fun z => (nM q z).1 h3))
  have hM1 := hM1.kept (H1 := H2) (fun q h2 h3 => hq q h2 (fun z => (nM q z).2.1 h3))
  have hM2 := hM2.kept (H1 := H2) (fun q h2 h3 => hq q h2 (fun z => (nM q z).2.2 h3))
  have hN0 := Nat.le_trans hN0 hz
  clear hq hz hBB
  obtain ⟨hR2, hr2⟩ := hp2
  refine lv_istore (lv' := [(7, .int r2), (6, .int r), (0, .ref b), (1, .ref h0), (2, .ref m0), (3, .ref o1), (4, .ref o2), (5, .int (nI i))]) hx hb dL_law_711 hl (by decide) rfl (fun ls hl => ?_)
  refine lv_aload_n hx hb dL_law_713 rfl (lv_at hl 4 rfl) ?_
  refine tk_cVi (As := []) S0 (c_X5_thrown l AM D ac _ hR2) (cwV 0 hts gL_law_X5_thrown rfl rfl rfl (by decide +kernel) ⟨Nat.le_of_ble_eq_true rfl, Nat.le_of_ble_eq_true rfl⟩) (tkJ.blind) (tkJ.at hMM hK) (tk_recv hK hMM hR2.1 rfl) rfl hl.1 rfl (Nat.le_of_ble_eq_true rfl) dL_law_714 ⟨by show _ ≤ 603072; omega, by show _ ≤ 7211114; omega⟩ (fun r3 hr3 => ?_)
  refine lv_iload hx hb dL_law_717 (lv_at hl 1 rfl) ?_
  refine lv_icmp_eq (tgt := 724) hx hb dL_law_719 (by decide) (fun _ => ?_) (fun c9 => absurd (hr3.trans hr9.symm) c9)
  refine lv_iload hx hb dL_law_724 (lv_at hl 1 rfl) ?_
  refine lv_if_ne (tgt := 741) hx hb dL_law_726 (by decide) (fun _ => ?_) (fun c9 => ?_)
  · refine lv_goto (tgt := 2164) hx hb dL_law_741 (by decide) ?_
    refine W.widen (k := cells + 20) (n := slots + 500) (by omega) (by omega) ?_
    exact kk (S_parent M (xs (nI i + 1).toNatClampNeg)).2.1 _ _ ls ⟨(by rw [rd_parent]; exact hI), ⟨_, _, hP9, hMX⟩, ⟨_, _, hR2, hMM⟩, ⟨_, hM1⟩, ⟨_, hM2⟩, hS, hN0⟩ (lv_sub hl [2, 3, 4, 5, 6, 7] rfl)
  · have hv9 := hv9 (hr9.symm.trans c9)
    refine lv_aload_n hx hb dL_law_729 rfl (lv_at hl 5 rfl) ?_
    refine lv_iconst (v := 0) hx hb dL_law_730 (by decide) ?_
    refine tk_lald hx hb hK hM1 4 (va_up_self _ _ _) rfl (by unfold vp_in; decide) dL_law_731 ?_
    refine lv_iload hx hb dL_law_732 (lv_at hl 0 rfl) ?_
    refine lv_i2l hx hb dL_law_734 rfl ?_
    have hv9 : f9 (0 : Int32).toNatClampNeg = r2.toInt64 := by rw [hr2]; exact hv9
    rw [hv9]
    refine W.lcmp hx hb dL_law_735 ?_
    refine lv_if_eq (tgt := 741) hx hb dL_law_736 (by decide) (fun _ => ?_) (fun c8 => absurd (lself _) c8)
    refine lv_goto (tgt := 2164) hx hb dL_law_741 (by decide) ?_
    refine W.widen (k := cells + 20) (n := slots + 500) (by omega) (by omega) ?_
    exact kk (S_parent M (xs (nI i + 1).toNatClampNeg)).2.1 _ _ ls ⟨(by rw [rd_parent]; exact hI), ⟨_, _, hP9, hMX⟩, ⟨_, _, hR2, hMM⟩, ⟨_, hM1⟩, ⟨_, hM2⟩, hS, hN0⟩ (lv_sub hl [2, 3, 4, 5, 6, 7] rfl)
