/-! the law: cases -/
set_option maxHeartbeats 4000000 in
set_option maxRecDepth 100000 in
theorem law_hours {p : Program} {l : Launch} {e : Env} {s : State} {m : MethodId} {below : List Frame} {meth : Method} {c : Code} {b L : Nat} {xs : Nat → Int32} {D : va_G} {ac : Nat → ClassId} {dE h0 m0 : Nat} {am : Nat → Nat} {AX AM : Nat → Prop} {o1 o2 N0 i cells slots : Nat} {M : TS} {H : Heap} {locs : List Loc} {ls : Array Slot} (X0 : lw_X p l s m c b L xs D ac dE AX AM o1 o2 N0) (I0 : lw_I s D ac dE h0 m0 am AX AM o1 o2 N0 M H locs) (hL : L ≤ 2560) (hi : i + 5 ≤ L) (hc : cells + 20 ≤ 603072) (hs : slots + 500 ≤ 7211114) (hl : lv_has ls 9 [(0, .ref b), (1, .ref h0), (2, .ref m0), (3, .ref o1), (4, .ref o2), (5, .int (nI i))])
    (kk : ∀ (M : TS) (H : Heap) (locs : List Loc) (ls : Array Slot), lw_I s D ac dE h0 m0 am AX AM o1 o2 N0 M H locs → lv_has ls 9 [(0, .ref b), (1, .ref h0), (2, .ref m0), (3, .ref o1), (4, .ref o2), (5, .int (nI i))] → W p l e room_1 s m #[Value.ref b] below meth c H locs (cells + 20) (slots + 500) (lw_Z below #[Value.ref b] s) (F0 m 2164 ls [])) : W p l e room_1 s m #[Value.ref b] below meth c H locs cells slots (lw_Z below #[Value.ref b] s) (F0 m 1205 ls []) := by
  obtain ⟨⟨hx, hb, hml, hown, hts, hX, hbl, hst⟩, ⟨hK, hF, hO, hN⟩, ⟨aX, aM, a1, a2⟩, ⟨n1, n2, n12, nM⟩, hA⟩ := X0
  obtain ⟨hI, ⟨α, GX, hP, hMX⟩, ⟨th, GM, hR, hMM⟩, ⟨f1, hM1⟩, ⟨f2, hM2⟩, hS, hN0⟩ := I0
  have S0 : CallFix p m c code 9 s #[Value.ref b] wsL_law RL := ⟨hx, hb, hml, hown, hts⟩
  have hbA : ¬ lw_A s b := Nat.not_le.mpr hbl
  have hAX : ∀ q, H.size ≤ q → AX q := fun q h => hA q (Nat.le_trans hN0 h)
  refine lv_aload_n hx hb dL_law_1205 rfl (lv_at hl 1 rfl) ?_
  refine lv_aload_n hx hb dL_law_1206 rfl (lv_at hl 0 rfl) ?_
  refine lv_iload hx hb dL_law_1207 (lv_at hl 5 rfl) ?_
  refine lv_iconst (v := 1) hx hb dL_law_1209 (by decide) ?_
  refine lv_iadd hx hb dL_law_1210 ?_
  refine va_sld hx hb hX hbl hbA hS (lw_in (k := 1) (by omega) hL) dL_law_1211 ?_
  refine lv_aload_n hx hb dL_law_1212 rfl (lv_at hl 3 rfl) ?_
  refine vx_calli (A1 := fun q => AX q ∨ q = o1) (free := fun q => AX q ∨ q = o1) (vx_runSX (As := [.ref h0, .int (xs (nI i + 1).toNatClampNeg), .ref o1]) (rest := []) S0 (c_L_hours l hst AX o1 D ac dE _ hP hI f1 (xs (nI i + 1).toNatClampNeg)) (vx_cwSW 3 hts gL_law_L_hours rfl rfl rfl (by decide +kernel) ⟨Nat.le_of_ble_eq_true rfl, Nat.le_of_ble_eq_true rfl⟩) ⟨fun a U g mk q => ⟨q.1, tkW.blind U g mk a q.2⟩, fun U hU hW => ⟨rfl, tkW.law hMX hM1 n1 hN hK hAX aX hF hO hS U hU hW⟩⟩ rfl rfl hl.1 rfl (lv_room (Nat.le_of_ble_eq_true rfl)) dL_law_1213 ⟨by show _ ≤ 603072; omega, by show _ ≤ 7211114; omega⟩) hS (fun q _ h => h.elim (fun h => aX q h) (fun h => by rw [h]; exact a1)) (fun q h => h.elim (fun h => aX q h) (fun h => by rw [h]; exact a1)) (fun q _ h => h.elim) (fun _ _ _ _ _ _ _ _ _ _ h => h.elim) (fun r u t H9 locs ht hal hp hBB hz hq hS => ?_)
  rw [ht] at hBB
  obtain ⟨G9, f9⟩ := u
  obtain ⟨hr9, hv9, α9, hP9⟩ := hp
  obtain ⟨hMX, hM1⟩ := hBB
  dsimp only at hv9 hP9 hMX hM1
  have hM2 := hM2.kept (H1 := H9) (fun q h2 h3 => hq q h2 (fun z => z.elim (fun z => n2 (by rw [← h3]; exact z)) (fun z => n12 (z.symm.trans h3))))
  have hMM := hMM.kept (H1 := H9) (fun q h2 h3 => hq q h2 (fun z => z.elim (nM q h3).1 (nM q h3).2.1))
  have hN0 := Nat.le_trans hN0 hz
  clear hq hz hAX
  refine lv_istore (lv' := [(6, .int r), (0, .ref b), (1, .ref h0), (2, .ref m0), (3, .ref o1), (4, .ref o2), (5, .int (nI i))]) hx hb dL_law_1216 hl (by decide) rfl (fun ls hl => ?_)
  refine lv_aload_n hx hb dL_law_1218 rfl (lv_at hl 3 rfl) ?_
  refine lv_aload_n hx hb dL_law_1219 rfl (lv_at hl 1 rfl) ?_
  refine lv_iload hx hb dL_law_1220 (lv_at hl 6 rfl) ?_
  refine lv_iconst (v := 1) hx hb dL_law_1222 (by decide) ?_
  refine lv_iadd hx hb dL_law_1223 ?_
  refine va_sld hx hb hX hbl hbA hS (lw_in (k := 1) (by omega) hL) dL_law_1224 ?_
  refine va_calli (A1 := AM) (free := AM) (va_runV (As := [.int (xs (nI i + 1).toNatClampNeg)]) (rest := []) S0 (c_X5_hours l AM D ac _ hR hI.w (xs (nI i + 1).toNatClampNeg)) (cwV 1 hts gL_law_X5_hours rfl rfl rfl (by decide +kernel) ⟨Nat.le_of_ble_eq_true rfl, Nat.le_of_ble_eq_true rfl⟩) ⟨fun a U g mk q => ⟨q.1, tkJ.blind U g mk a q.2⟩, tk_recv hK hMM hR.1 rfl, fun U hU hW => ⟨rfl, tkJ.at hMM hK U hU hW⟩⟩ rfl rfl hl.1 rfl (lv_room (Nat.le_of_ble_eq_true rfl)) dL_law_1225 ⟨by show _ ≤ 603072; omega, by show _ ≤ 7211114; omega⟩) hS (fun q _ h => aM q h) (fun q h => aM q h) (fun r2 G2 t H2 locs ht hal hp2 hBB hz hq hS => ?_)
  have hMM : tkM AM D G2 H2 := by rw [← ht]; exact hBB
  have hMX := hMX.kept (H1 := H2) (fun q h2 h3 => hq q h2 (fun z => (nM q z).1 h3))
  have hM1 := hM1.kept (H1 := H2) (fun q h2 h3 => hq q h2 (fun z => (nM q z).2.1 h3))
  have hM2 := hM2.kept (H1 := H2) (fun q h2 h3 => hq q h2 (fun z => (nM q z).2.2 h3))
  have hN0 := Nat.le_trans hN0 hz
  clear hq hz hBB
  obtain ⟨hR2, hr2⟩ := hp2
  refine lv_istore (lv' := [(7, .int r2), (6, .int r), (0, .ref b), (1, .ref h0), (2, .ref m0), (3, .ref o1), (4, .ref o2), (5, .int (nI i))]) hx hb dL_law_1228 hl (by decide) rfl (fun ls hl => ?_)
  refine lv_aload_n hx hb dL_law_1230 rfl (lv_at hl 4 rfl) ?_
  refine tk_cVi (As := []) S0 (c_X5_thrown l AM D ac _ hR2) (cwV 0 hts gL_law_X5_thrown rfl rfl rfl (by decide +kernel) ⟨Nat.le_of_ble_eq_true rfl, Nat.le_of_ble_eq_true rfl⟩) (tkJ.blind) (tkJ.at hMM hK) (tk_recv hK hMM hR2.1 rfl) rfl hl.1 rfl (Nat.le_of_ble_eq_true rfl) dL_law_1231 ⟨by show _ ≤ 603072; omega, by show _ ≤ 7211114; omega⟩ (fun r3 hr3 => ?_)
  refine lv_iload hx hb dL_law_1234 (lv_at hl 1 rfl) ?_
  refine lv_icmp_eq (tgt := 1241) hx hb dL_law_1236 (by decide) (fun _ => ?_) (fun c9 => absurd (hr3.trans hr9.symm) c9)
  refine lv_iload hx hb dL_law_1241 (lv_at hl 1 rfl) ?_
  refine lv_if_ne (tgt := 1258) hx hb dL_law_1243 (by decide) (fun _ => ?_) (fun c9 => ?_)
  · refine lv_goto (tgt := 2164) hx hb dL_law_1258 (by decide) ?_
    refine W.widen (k := cells + 20) (n := slots + 500) (by omega) (by omega) ?_
    exact kk (S_hours M (xs (nI i + 1).toNatClampNeg)).2.1 _ _ ls ⟨(by rw [rd_hours]; exact hI), ⟨_, _, hP9, hMX⟩, ⟨_, _, hR2, hMM⟩, ⟨_, hM1⟩, ⟨_, hM2⟩, hS, hN0⟩ (lv_sub hl [2, 3, 4, 5, 6, 7] rfl)
  · have hv9 := hv9 (hr9.symm.trans c9)
    refine lv_aload_n hx hb dL_law_1246 rfl (lv_at hl 5 rfl) ?_
    refine lv_iconst (v := 0) hx hb dL_law_1247 (by decide) ?_
    refine tk_lald hx hb hK hM1 4 (va_up_self _ _ _) rfl (by unfold vp_in; decide) dL_law_1248 ?_
    refine lv_iload hx hb dL_law_1249 (lv_at hl 0 rfl) ?_
    refine lv_i2l hx hb dL_law_1251 rfl ?_
    have hv9 : f9 (0 : Int32).toNatClampNeg = r2.toInt64 := by rw [hr2]; exact hv9
    rw [hv9]
    refine W.lcmp hx hb dL_law_1252 ?_
    refine lv_if_eq (tgt := 1258) hx hb dL_law_1253 (by decide) (fun _ => ?_) (fun c8 => absurd (lself _) c8)
    refine lv_goto (tgt := 2164) hx hb dL_law_1258 (by decide) ?_
    refine W.widen (k := cells + 20) (n := slots + 500) (by omega) (by omega) ?_
    exact kk (S_hours M (xs (nI i + 1).toNatClampNeg)).2.1 _ _ ls ⟨(by rw [rd_hours]; exact hI), ⟨_, _, hP9, hMX⟩, ⟨_, _, hR2, hMM⟩, ⟨_, hM1⟩, ⟨_, hM2⟩, hS, hN0⟩ (lv_sub hl [2, 3, 4, 5, 6, 7] rfl)
set_option maxHeartbeats 4000000 in
set_option maxRecDepth 100000 in
theorem law_room {p : Program} {l : Launch} {e : Env} {s : State} {m : MethodId} {below : List Frame} {meth : Method} {c : Code} {b L : Nat} {xs : Nat → Int32} {D : va_G} {ac : Nat → ClassId} {dE h0 m0 : Nat} {am : Nat → Nat} {AX AM : Nat → Prop} {o1 o2 N0 i cells slots : Nat} {M : TS} {H : Heap} {locs : List Loc} {ls : Array Slot} (X0 : lw_X p l s m c b L xs D ac dE AX AM o1 o2 N0) (I0 : lw_I s D ac dE h0 m0 am AX AM o1 o2 N0 M H locs) (hL : L ≤ 2560) (hi : i + 5 ≤ L) (hc : cells + 20 ≤ 603072) (hs : slots + 500 ≤ 7211114) (hl : lv_has ls 9 [(0, .ref b), (1, .ref h0), (2, .ref m0), (3, .ref o1), (4, .ref o2), (5, .int (nI i))])
    (kk : ∀ (M : TS) (H : Heap) (locs : List Loc) (ls : Array Slot), lw_I s D ac dE h0 m0 am AX AM o1 o2 N0 M H locs → lv_has ls 9 [(0, .ref b), (1, .ref h0), (2, .ref m0), (3, .ref o1), (4, .ref o2), (5, .int (nI i))] → W p l e room_1 s m #[Value.ref b] below meth c H locs (cells + 20) (slots + 500) (lw_Z below #[Value.ref b] s) (F0 m 2164 ls [])) : W p l e room_1 s m #[Value.ref b] below meth c H locs cells slots (lw_Z below #[Value.ref b] s) (F0 m 1261 ls []) := by
  obtain ⟨⟨hx, hb, hml, hown, hts, hX, hbl, hst⟩, ⟨hK, hF, hO, hN⟩, ⟨aX, aM, a1, a2⟩, ⟨n1, n2, n12, nM⟩, hA⟩ := X0
  obtain ⟨hI, ⟨α, GX, hP, hMX⟩, ⟨th, GM, hR, hMM⟩, ⟨f1, hM1⟩, ⟨f2, hM2⟩, hS, hN0⟩ := I0
  have S0 : CallFix p m c code 9 s #[Value.ref b] wsL_law RL := ⟨hx, hb, hml, hown, hts⟩
  have hbA : ¬ lw_A s b := Nat.not_le.mpr hbl
  have hAX : ∀ q, H.size ≤ q → AX q := fun q h => hA q (Nat.le_trans hN0 h)
  refine lv_aload_n hx hb dL_law_1261 rfl (lv_at hl 1 rfl) ?_
  refine lv_aload_n hx hb dL_law_1262 rfl (lv_at hl 0 rfl) ?_
  refine lv_iload hx hb dL_law_1263 (lv_at hl 5 rfl) ?_
  refine lv_iconst (v := 1) hx hb dL_law_1265 (by decide) ?_
  refine lv_iadd hx hb dL_law_1266 ?_
  refine va_sld hx hb hX hbl hbA hS (lw_in (k := 1) (by omega) hL) dL_law_1267 ?_
  refine lv_aload_n hx hb dL_law_1268 rfl (lv_at hl 3 rfl) ?_
  refine vx_calli (A1 := fun q => AX q ∨ q = o1) (free := fun q => AX q ∨ q = o1) (vx_runSX (As := [.ref h0, .int (xs (nI i + 1).toNatClampNeg), .ref o1]) (rest := []) S0 (c_L_room l hst AX o1 D ac dE _ hP hI f1 (xs (nI i + 1).toNatClampNeg)) (vx_cwSW 3 hts gL_law_L_room rfl rfl rfl (by decide +kernel) ⟨Nat.le_of_ble_eq_true rfl, Nat.le_of_ble_eq_true rfl⟩) ⟨fun a U g mk q => ⟨q.1, tkW.blind U g mk a q.2⟩, fun U hU hW => ⟨rfl, tkW.law hMX hM1 n1 hN hK hAX aX hF hO hS U hU hW⟩⟩ rfl rfl hl.1 rfl (lv_room (Nat.le_of_ble_eq_true rfl)) dL_law_1269 ⟨by show _ ≤ 603072; omega, by show _ ≤ 7211114; omega⟩) hS (fun q _ h => h.elim (fun h => aX q h) (fun h => by rw [h]; exact a1)) (fun q h => h.elim (fun h => aX q h) (fun h => by rw [h]; exact a1)) (fun q _ h => h.elim) (fun _ _ _ _ _ _ _ _ _ _ h => h.elim) (fun r u t H9 locs ht hal hp hBB hz hq hS => ?_)
  rw [ht] at hBB
  obtain ⟨G9, f9⟩ := u
  obtain ⟨hr9, hv9, α9, hP9⟩ := hp
  obtain ⟨hMX, hM1⟩ := hBB
  dsimp only at hv9 hP9 hMX hM1
  have hM2 := hM2.kept (H1 := H9) (fun q h2 h3 => hq q h2 (fun z => z.elim (fun z => n2 (by rw [← h3]; exact z)) (fun z => n12 (z.symm.trans h3))))
  have hMM := hMM.kept (H1 := H9) (fun q h2 h3 => hq q h2 (fun z => z.elim (nM q h3).1 (nM q h3).2.1))
  have hN0 := Nat.le_trans hN0 hz
  clear hq hz hAX
  refine lv_istore (lv' := [(6, .int r), (0, .ref b), (1, .ref h0), (2, .ref m0), (3, .ref o1), (4, .ref o2), (5, .int (nI i))]) hx hb dL_law_1272 hl (by decide) rfl (fun ls hl => ?_)
  refine lv_aload_n hx hb dL_law_1274 rfl (lv_at hl 3 rfl) ?_
  refine lv_aload_n hx hb dL_law_1275 rfl (lv_at hl 1 rfl) ?_
  refine lv_iload hx hb dL_law_1276 (lv_at hl 6 rfl) ?_
  refine lv_iconst (v := 1) hx hb dL_law_1278 (by decide) ?_
  refine lv_iadd hx hb dL_law_1279 ?_
  refine va_sld hx hb hX hbl hbA hS (lw_in (k := 1) (by omega) hL) dL_law_1280 ?_
  refine va_calli (A1 := AM) (free := AM) (va_runV (As := [.int (xs (nI i + 1).toNatClampNeg)]) (rest := []) S0 (c_X5_room l AM D ac _ hR hI.w (xs (nI i + 1).toNatClampNeg)) (cwV 1 hts gL_law_X5_room rfl rfl rfl (by decide +kernel) ⟨Nat.le_of_ble_eq_true rfl, Nat.le_of_ble_eq_true rfl⟩) ⟨fun a U g mk q => ⟨q.1, tkJ.blind U g mk a q.2⟩, tk_recv hK hMM hR.1 rfl, fun U hU hW => ⟨rfl, tkJ.at hMM hK U hU hW⟩⟩ rfl rfl hl.1 rfl (lv_room (Nat.le_of_ble_eq_true rfl)) dL_law_1281 ⟨by show _ ≤ 603072; omega, by show _ ≤ 7211114; omega⟩) hS (fun q _ h => aM q h) (fun q h => aM q h) (fun r2 G2 t H2 locs ht hal hp2 hBB hz hq hS => ?_)
  have hMM : tkM AM D G2 H2 := by rw [← ht]; exact hBB
  have hMX := hMX.kept (H1 := H2) (fun q h2 h3 => hq q h2 (fun z => (nM q z).1 h3))
  have hM1 := hM1.kept (H1 := H2) (fun q h2 h3 => hq q h2 (fun z => (nM q z).2.1 h3))
  have hM2 := hM2.kept (H1 := H2) (fun q h2 h3 => hq q h2 (fun z => (nM q z).2.2 h3))
  have hN0 := Nat.le_trans hN0 hz
  clear hq hz hBB
  obtain ⟨hR2, hr2⟩ := hp2
  refine lv_istore (lv' := [(7, .int r2), (6, .int r), (0, .ref b), (1, .ref h0), (2, .ref m0), (3, .ref o1), (4, .ref o2), (5, .int (nI i))]) hx hb dL_law_1284 hl (by decide) rfl (fun ls hl => ?_)
  refine lv_aload_n hx hb dL_law_1286 rfl (lv_at hl 4 rfl) ?_
  refine tk_cVi (As := []) S0 (c_X5_thrown l AM D ac _ hR2) (cwV 0 hts gL_law_X5_thrown rfl rfl rfl (by decide +kernel) ⟨Nat.le_of_ble_eq_true rfl, Nat.le_of_ble_eq_true rfl⟩) (tkJ.blind) (tkJ.at hMM hK) (tk_recv hK hMM hR2.1 rfl) rfl hl.1 rfl (Nat.le_of_ble_eq_true rfl) dL_law_1287 ⟨by show _ ≤ 603072; omega, by show _ ≤ 7211114; omega⟩ (fun r3 hr3 => ?_)
  refine lv_iload hx hb dL_law_1290 (lv_at hl 1 rfl) ?_
  refine lv_icmp_eq (tgt := 1297) hx hb dL_law_1292 (by decide) (fun _ => ?_) (fun c9 => absurd (hr3.trans hr9.symm) c9)
  refine lv_iload hx hb dL_law_1297 (lv_at hl 1 rfl) ?_
  refine lv_if_ne (tgt := 1314) hx hb dL_law_1299 (by decide) (fun _ => ?_) (fun c9 => ?_)
  · refine lv_goto (tgt := 2164) hx hb dL_law_1314 (by decide) ?_
    refine W.widen (k := cells + 20) (n := slots + 500) (by omega) (by omega) ?_
    exact kk (S_room M (xs (nI i + 1).toNatClampNeg)).2.1 _ _ ls ⟨(by rw [rd_room]; exact hI), ⟨_, _, hP9, hMX⟩, ⟨_, _, hR2, hMM⟩, ⟨_, hM1⟩, ⟨_, hM2⟩, hS, hN0⟩ (lv_sub hl [2, 3, 4, 5, 6, 7] rfl)
  · have hv9 := hv9 (hr9.symm.trans c9)
    refine lv_aload_n hx hb dL_law_1302 rfl (lv_at hl 5 rfl) ?_
    refine lv_iconst (v := 0) hx hb dL_law_1303 (by decide) ?_
    refine tk_lald hx hb hK hM1 4 (va_up_self _ _ _) rfl (by unfold vp_in; decide) dL_law_1304 ?_
    refine lv_iload hx hb dL_law_1305 (lv_at hl 0 rfl) ?_
    refine lv_i2l hx hb dL_law_1307 rfl ?_
    have hv9 : f9 (0 : Int32).toNatClampNeg = r2.toInt64 := by rw [hr2]; exact hv9
    rw [hv9]
    refine W.lcmp hx hb dL_law_1308 ?_
    refine lv_if_eq (tgt := 1314) hx hb dL_law_1309 (by decide) (fun _ => ?_) (fun c8 => absurd (lself _) c8)
    refine lv_goto (tgt := 2164) hx hb dL_law_1314 (by decide) ?_
    refine W.widen (k := cells + 20) (n := slots + 500) (by omega) (by omega) ?_
    exact kk (S_room M (xs (nI i + 1).toNatClampNeg)).2.1 _ _ ls ⟨(by rw [rd_room]; exact hI), ⟨_, _, hP9, hMX⟩, ⟨_, _, hR2, hMM⟩, ⟨_, hM1⟩, ⟨_, hM2⟩, hS, hN0⟩ (lv_sub hl [2, 3, 4, 5, 6, 7] rfl)
set_option maxHeartbeats 4000000 in
set_option maxRecDepth 100000 in
theorem law_setRate {p : Program} {l : Launch} {e : Env} {s : State} {m : MethodId} {below : List Frame} {meth : Method} {c : Code} {b L : Nat} {xs : Nat → Int32} {D : va_G} {ac : Nat → ClassId} {dE h0 m0 : Nat} {am : Nat → Nat} {AX AM : Nat → Prop} {o1 o2 N0 i cells slots : Nat} {M : TS} {H : Heap} {locs : List Loc} {ls : Array Slot} (X0 : lw_X p l s m c b L xs D ac dE AX AM o1 o2 N0) (I0 : lw_I s D ac dE h0 m0 am AX AM o1 o2 N0 M H locs) (hL : L ≤ 2560) (hi : i + 5 ≤ L) (hc : cells + 20 ≤ 603072) (hs : slots + 500 ≤ 7211114) (hl : lv_has ls 9 [(0, .ref b), (1, .ref h0), (2, .ref m0), (3, .ref o1), (4, .ref o2), (5, .int (nI i))])
    (kk : ∀ (M : TS) (H : Heap) (locs : List Loc) (ls : Array Slot), lw_I s D ac dE h0 m0 am AX AM o1 o2 N0 M H locs → lv_has ls 9 [(0, .ref b), (1, .ref h0), (2, .ref m0), (3, .ref o1), (4, .ref o2), (5, .int (nI i))] → W p l e room_1 s m #[Value.ref b] below meth c H locs (cells + 20) (slots + 500) (lw_Z below #[Value.ref b] s) (F0 m 2164 ls [])) : W p l e room_1 s m #[Value.ref b] below meth c H locs cells slots (lw_Z below #[Value.ref b] s) (F0 m 1317 ls []) := by
  obtain ⟨⟨hx, hb, hml, hown, hts, hX, hbl, hst⟩, ⟨hK, hF, hO, hN⟩, ⟨aX, aM, a1, a2⟩, ⟨n1, n2, n12, nM⟩, hA⟩ := X0
  obtain ⟨hI, ⟨α, GX, hP, hMX⟩, ⟨th, GM, hR, hMM⟩, ⟨f1, hM1⟩, ⟨f2, hM2⟩, hS, hN0⟩ := I0
  have S0 : CallFix p m c code 9 s #[Value.ref b] wsL_law RL := ⟨hx, hb, hml, hown, hts⟩
  have hbA : ¬ lw_A s b := Nat.not_le.mpr hbl
  have hAX : ∀ q, H.size ≤ q → AX q := fun q h => hA q (Nat.le_trans hN0 h)
  refine lv_aload_n hx hb dL_law_1317 rfl (lv_at hl 1 rfl) ?_
  refine lv_aload_n hx hb dL_law_1318 rfl (lv_at hl 0 rfl) ?_
  refine lv_iload hx hb dL_law_1319 (lv_at hl 5 rfl) ?_
  refine lv_iconst (v := 1) hx hb dL_law_1321 (by decide) ?_
  refine lv_iadd hx hb dL_law_1322 ?_
  refine va_sld hx hb hX hbl hbA hS (lw_in (k := 1) (by omega) hL) dL_law_1323 ?_
  refine lv_aload_n hx hb dL_law_1324 rfl (lv_at hl 0 rfl) ?_
  refine lv_iload hx hb dL_law_1325 (lv_at hl 5 rfl) ?_
  refine lv_iconst (v := 2) hx hb dL_law_1327 (by decide) ?_
  refine lv_iadd hx hb dL_law_1328 ?_
  refine va_sld hx hb hX hbl hbA hS (lw_in (k := 2) (by omega) hL) dL_law_1329 ?_
  refine lv_aload_n hx hb dL_law_1330 rfl (lv_at hl 3 rfl) ?_
  refine vx_calli (A1 := fun q => AX q ∨ q = o1) (free := fun q => AX q ∨ q = o1) (vx_runSX (As := [.ref h0, .int (xs (nI i + 1).toNatClampNeg), .int (xs (nI i + 2).toNatClampNeg), .ref o1]) (rest := []) S0 (c_L_setRate l hst AX o1 D ac dE _ hP hI f1 (xs (nI i + 1).toNatClampNeg) (xs (nI i + 2).toNatClampNeg)) (vx_cwSW 4 hts gL_law_L_setRate rfl rfl rfl (by decide +kernel) ⟨Nat.le_of_ble_eq_true rfl, Nat.le_of_ble_eq_true rfl⟩) ⟨fun a U g mk q => ⟨q.1, tkW.blind U g mk a q.2⟩, fun U hU hW => ⟨rfl, tkW.law hMX hM1 n1 hN hK hAX aX hF hO hS U hU hW⟩⟩ rfl rfl hl.1 rfl (lv_room (Nat.le_of_ble_eq_true rfl)) dL_law_1331 ⟨by show _ ≤ 603072; omega, by show _ ≤ 7211114; omega⟩) hS (fun q _ h => h.elim (fun h => aX q h) (fun h => by rw [h]; exact a1)) (fun q h => h.elim (fun h => aX q h) (fun h => by rw [h]; exact a1)) (fun q _ h => h.elim) (fun _ _ _ _ _ _ _ _ _ _ h => h.elim) (fun r u t H9 locs ht hal hp hBB hz hq hS => ?_)
  rw [ht] at hBB
  obtain ⟨G9, f9⟩ := u
  obtain ⟨hr9, hv9, α9, hP9⟩ := hp
  obtain ⟨hMX, hM1⟩ := hBB
  dsimp only at hv9 hP9 hMX hM1
  have hM2 := hM2.kept (H1 := H9) (fun q h2 h3 => hq q h2 (fun z => z.elim (fun z => n2 (by rw [← h3]; exact z)) (fun z => n12 (z.symm.trans h3))))
  have hMM := hMM.kept (H1 := H9) (fun q h2 h3 => hq q h2 (fun z => z.elim (nM q h3).1 (nM q h3).2.1))
  have hN0 := Nat.le_trans hN0 hz
  clear hq hz hAX
  refine lv_istore (lv' := [(6, .int r), (0, .ref b), (1, .ref h0), (2, .ref m0), (3, .ref o1), (4, .ref o2), (5, .int (nI i))]) hx hb dL_law_1334 hl (by decide) rfl (fun ls hl => ?_)
  refine lv_aload_n hx hb dL_law_1336 rfl (lv_at hl 3 rfl) ?_
  refine lv_aload_n hx hb dL_law_1337 rfl (lv_at hl 1 rfl) ?_
  refine lv_iload hx hb dL_law_1338 (lv_at hl 6 rfl) ?_
  refine lv_iconst (v := 1) hx hb dL_law_1340 (by decide) ?_
  refine lv_iadd hx hb dL_law_1341 ?_
  refine va_sld hx hb hX hbl hbA hS (lw_in (k := 1) (by omega) hL) dL_law_1342 ?_
  refine lv_aload_n hx hb dL_law_1343 rfl (lv_at hl 1 rfl) ?_
  refine lv_iload hx hb dL_law_1344 (lv_at hl 6 rfl) ?_
  refine lv_iconst (v := 2) hx hb dL_law_1346 (by decide) ?_
  refine lv_iadd hx hb dL_law_1347 ?_
  refine va_sld hx hb hX hbl hbA hS (lw_in (k := 2) (by omega) hL) dL_law_1348 ?_
  refine va_calli (A1 := AM) (free := AM) (va_runV (As := [.int (xs (nI i + 1).toNatClampNeg), .int (xs (nI i + 2).toNatClampNeg)]) (rest := []) S0 (c_X5_setRate l AM D ac _ hR (xs (nI i + 1).toNatClampNeg) (xs (nI i + 2).toNatClampNeg)) (cwV 2 hts gL_law_X5_setRate rfl rfl rfl (by decide +kernel) ⟨Nat.le_of_ble_eq_true rfl, Nat.le_of_ble_eq_true rfl⟩) ⟨fun a U g mk q => ⟨q.1, tkJ.blind U g mk a q.2⟩, tk_recv hK hMM hR.1 rfl, fun U hU hW => ⟨rfl, tkJ.at hMM hK U hU hW⟩⟩ rfl rfl hl.1 rfl (lv_room (Nat.le_of_ble_eq_true rfl)) dL_law_1349 ⟨by show _ ≤ 603072; omega, by show _ ≤ 7211114; omega⟩) hS (fun q _ h => aM q h) (fun q h => aM q h) (fun r2 G2 t H2 locs ht hal hp2 hBB hz hq hS => ?_)
  have hMM : tkM AM D G2 H2 := by rw [← ht]; exact hBB
  have hMX := hMX.kept (H1 := H2) (fun q h2 h3 => hq q h2 (fun z => (nM q z).1 h3))
  have hM1 := hM1.kept (H1 := H2) (fun q h2 h3 => hq q h2 (fun z => (nM q z).2.1 h3))
  have hM2 := hM2.kept (H1 := H2) (fun q h2 h3 => hq q h2 (fun z => (nM q z).2.2 h3))
  have hN0 := Nat.le_trans hN0 hz
  clear hq hz hBB
  obtain ⟨hR2, hr2⟩ := hp2
  refine lv_istore (lv' := [(7, .int r2), (6, .int r), (0, .ref b), (1, .ref h0), (2, .ref m0), (3, .ref o1), (4, .ref o2), (5, .int (nI i))]) hx hb dL_law_1352 hl (by decide) rfl (fun ls hl => ?_)
  refine lv_aload_n hx hb dL_law_1354 rfl (lv_at hl 4 rfl) ?_
  refine tk_cVi (As := []) S0 (c_X5_thrown l AM D ac _ hR2) (cwV 0 hts gL_law_X5_thrown rfl rfl rfl (by decide +kernel) ⟨Nat.le_of_ble_eq_true rfl, Nat.le_of_ble_eq_true rfl⟩) (tkJ.blind) (tkJ.at hMM hK) (tk_recv hK hMM hR2.1 rfl) rfl hl.1 rfl (Nat.le_of_ble_eq_true rfl) dL_law_1355 ⟨by show _ ≤ 603072; omega, by show _ ≤ 7211114; omega⟩ (fun r3 hr3 => ?_)
  refine lv_iload hx hb dL_law_1358 (lv_at hl 1 rfl) ?_
  refine lv_icmp_eq (tgt := 1365) hx hb dL_law_1360 (by decide) (fun _ => ?_) (fun c9 => absurd (hr3.trans hr9.symm) c9)
  refine lv_iload hx hb dL_law_1365 (lv_at hl 1 rfl) ?_
  refine lv_if_ne (tgt := 1382) hx hb dL_law_1367 (by decide) (fun _ => ?_) (fun c9 => ?_)
  · refine lv_goto (tgt := 2164) hx hb dL_law_1382 (by decide) ?_
    refine W.widen (k := cells + 20) (n := slots + 500) (by omega) (by omega) ?_
    exact kk (S_setRate M (xs (nI i + 1).toNatClampNeg) (xs (nI i + 2).toNatClampNeg)).2.1 _ _ ls ⟨keep_setRate hI (xs (nI i + 1).toNatClampNeg) (xs (nI i + 2).toNatClampNeg), ⟨_, _, hP9, hMX⟩, ⟨_, _, hR2, hMM⟩, ⟨_, hM1⟩, ⟨_, hM2⟩, hS, hN0⟩ (lv_sub hl [2, 3, 4, 5, 6, 7] rfl)
  · have hv9 := hv9 (hr9.symm.trans c9)
    refine lv_aload_n hx hb dL_law_1370 rfl (lv_at hl 5 rfl) ?_
    refine lv_iconst (v := 0) hx hb dL_law_1371 (by decide) ?_
    refine tk_lald hx hb hK hM1 4 (va_up_self _ _ _) rfl (by unfold vp_in; decide) dL_law_1372 ?_
    refine lv_iload hx hb dL_law_1373 (lv_at hl 0 rfl) ?_
    refine lv_i2l hx hb dL_law_1375 rfl ?_
    have hv9 : f9 (0 : Int32).toNatClampNeg = r2.toInt64 := by rw [hr2]; exact hv9
    rw [hv9]
    refine W.lcmp hx hb dL_law_1376 ?_
    refine lv_if_eq (tgt := 1382) hx hb dL_law_1377 (by decide) (fun _ => ?_) (fun c8 => absurd (lself _) c8)
    refine lv_goto (tgt := 2164) hx hb dL_law_1382 (by decide) ?_
    refine W.widen (k := cells + 20) (n := slots + 500) (by omega) (by omega) ?_
    exact kk (S_setRate M (xs (nI i + 1).toNatClampNeg) (xs (nI i + 2).toNatClampNeg)).2.1 _ _ ls ⟨keep_setRate hI (xs (nI i + 1).toNatClampNeg) (xs (nI i + 2).toNatClampNeg), ⟨_, _, hP9, hMX⟩, ⟨_, _, hR2, hMM⟩, ⟨_, hM1⟩, ⟨_, hM2⟩, hS, hN0⟩ (lv_sub hl [2, 3, 4, 5, 6, 7] rfl)
set_option maxHeartbeats 4000000 in
set_option maxRecDepth 100000 in
theorem law_setCap {p : Program} {l : Launch} {e : Env} {s : State} {m : MethodId} {below : List Frame} {meth : Method} {c : Code} {b L : Nat} {xs : Nat → Int32} {D : va_G} {ac : Nat → ClassId} {dE h0 m0 : Nat} {am : Nat → Nat} {AX AM : Nat → Prop} {o1 o2 N0 i cells slots : Nat} {M : TS} {H : Heap} {locs : List Loc} {ls : Array Slot} (X0 : lw_X p l s m c b L xs D ac dE AX AM o1 o2 N0) (I0 : lw_I s D ac dE h0 m0 am AX AM o1 o2 N0 M H locs) (hL : L ≤ 2560) (hi : i + 5 ≤ L) (hc : cells + 20 ≤ 603072) (hs : slots + 500 ≤ 7211114) (hl : lv_has ls 9 [(0, .ref b), (1, .ref h0), (2, .ref m0), (3, .ref o1), (4, .ref o2), (5, .int (nI i))])
    (kk : ∀ (M : TS) (H : Heap) (locs : List Loc) (ls : Array Slot), lw_I s D ac dE h0 m0 am AX AM o1 o2 N0 M H locs → lv_has ls 9 [(0, .ref b), (1, .ref h0), (2, .ref m0), (3, .ref o1), (4, .ref o2), (5, .int (nI i))] → W p l e room_1 s m #[Value.ref b] below meth c H locs (cells + 20) (slots + 500) (lw_Z below #[Value.ref b] s) (F0 m 2164 ls [])) : W p l e room_1 s m #[Value.ref b] below meth c H locs cells slots (lw_Z below #[Value.ref b] s) (F0 m 1385 ls []) := by
  obtain ⟨⟨hx, hb, hml, hown, hts, hX, hbl, hst⟩, ⟨hK, hF, hO, hN⟩, ⟨aX, aM, a1, a2⟩, ⟨n1, n2, n12, nM⟩, hA⟩ := X0
  obtain ⟨hI, ⟨α, GX, hP, hMX⟩, ⟨th, GM, hR, hMM⟩, ⟨f1, hM1⟩, ⟨f2, hM2⟩, hS, hN0⟩ := I0
  have S0 : CallFix p m c code 9 s #[Value.ref b] wsL_law RL := ⟨hx, hb, hml, hown, hts⟩
  have hbA : ¬ lw_A s b := Nat.not_le.mpr hbl
  have hAX : ∀ q, H.size ≤ q → AX q := fun q h => hA q (Nat.le_trans hN0 h)
  refine lv_aload_n hx hb dL_law_1385 rfl (lv_at hl 1 rfl) ?_
  refine lv_aload_n hx hb dL_law_1386 rfl (lv_at hl 0 rfl) ?_
  refine lv_iload hx hb dL_law_1387 (lv_at hl 5 rfl) ?_
  refine lv_iconst (v := 1) hx hb dL_law_1389 (by decide) ?_
  refine lv_iadd hx hb dL_law_1390 ?_
  refine va_sld hx hb hX hbl hbA hS (lw_in (k := 1) (by omega) hL) dL_law_1391 ?_
  refine lv_aload_n hx hb dL_law_1392 rfl (lv_at hl 3 rfl) ?_
  refine vx_calli (A1 := fun q => AX q ∨ q = o1) (free := fun q => AX q ∨ q = o1) (vx_runSX (As := [.ref h0, .int (xs (nI i + 1).toNatClampNeg), .ref o1]) (rest := []) S0 (c_L_setCap l hst AX o1 D ac dE _ hP hI f1 (xs (nI i + 1).toNatClampNeg)) (vx_cwSW 3 hts gL_law_L_setCap rfl rfl rfl (by decide +kernel) ⟨Nat.le_of_ble_eq_true rfl, Nat.le_of_ble_eq_true rfl⟩) ⟨fun a U g mk q => ⟨q.1, tkW.blind U g mk a q.2⟩, fun U hU hW => ⟨rfl, tkW.law hMX hM1 n1 hN hK hAX aX hF hO hS U hU hW⟩⟩ rfl rfl hl.1 rfl (lv_room (Nat.le_of_ble_eq_true rfl)) dL_law_1393 ⟨by show _ ≤ 603072; omega, by show _ ≤ 7211114; omega⟩) hS (fun q _ h => h.elim (fun h => aX q h) (fun h => by rw [h]; exact a1)) (fun q h => h.elim (fun h => aX q h) (fun h => by rw [h]; exact a1)) (fun q _ h => h.elim) (fun _ _ _ _ _ _ _ _ _ _ h => h.elim) (fun r u t H9 locs ht hal hp hBB hz hq hS => ?_)
  rw [ht] at hBB
  obtain ⟨G9, f9⟩ := u
  obtain ⟨hr9, hv9, α9, hP9⟩ := hp
  obtain ⟨hMX, hM1⟩ := hBB
  dsimp only at hv9 hP9 hMX hM1
  have hM2 := hM2.kept (H1 := H9) (fun q h2 h3 => hq q h2 (fun z => z.elim (fun z => n2 (by rw [← h3]; exact z)) (fun z => n12 (z.symm.trans h3))))
  have hMM := hMM.kept (H1 := H9) (fun q h2 h3 => hq q h2 (fun z => z.elim (nM q h3).1 (nM q h3).2.1))
  have hN0 := Nat.le_trans hN0 hz
  clear hq hz hAX
  refine lv_istore (lv' := [(6, .int r), (0, .ref b), (1, .ref h0), (2, .ref m0), (3, .ref o1), (4, .ref o2), (5, .int (nI i))]) hx hb dL_law_1396 hl (by decide) rfl (fun ls hl => ?_)
  refine lv_aload_n hx hb dL_law_1398 rfl (lv_at hl 3 rfl) ?_
  refine lv_aload_n hx hb dL_law_1399 rfl (lv_at hl 1 rfl) ?_
  refine lv_iload hx hb dL_law_1400 (lv_at hl 6 rfl) ?_
  refine lv_iconst (v := 1) hx hb dL_law_1402 (by decide) ?_
  refine lv_iadd hx hb dL_law_1403 ?_
  refine va_sld hx hb hX hbl hbA hS (lw_in (k := 1) (by omega) hL) dL_law_1404 ?_
  refine va_calli (A1 := AM) (free := AM) (va_runV (As := [.int (xs (nI i + 1).toNatClampNeg)]) (rest := []) S0 (c_X5_setCap l AM D ac _ hR (xs (nI i + 1).toNatClampNeg)) (cwV 1 hts gL_law_X5_setCap rfl rfl rfl (by decide +kernel) ⟨Nat.le_of_ble_eq_true rfl, Nat.le_of_ble_eq_true rfl⟩) ⟨fun a U g mk q => ⟨q.1, tkJ.blind U g mk a q.2⟩, tk_recv hK hMM hR.1 rfl, fun U hU hW => ⟨rfl, tkJ.at hMM hK U hU hW⟩⟩ rfl rfl hl.1 rfl (lv_room (Nat.le_of_ble_eq_true rfl)) dL_law_1405 ⟨by show _ ≤ 603072; omega, by show _ ≤ 7211114; omega⟩) hS (fun q _ h => aM q h) (fun q h => aM q h) (fun r2 G2 t H2 locs ht hal hp2 hBB hz hq hS => ?_)
  have hMM : tkM AM D G2 H2 := by rw [← ht]; exact hBB
  have hMX := hMX.kept (H1 := H2) (fun q h2 h3 => hq q h2 (fun z => (nM q z).1 h3))
  have hM1 := hM1.kept (H1 := H2) (fun q h2 h3 => hq q h2 (fun z => (nM q z).2.1 h3))
  have hM2 := hM2.kept (H1 := H2) (fun q h2 h3 => hq q h2 (fun z => (nM q z).2.2 h3))
  have hN0 := Nat.le_trans hN0 hz
  clear hq hz hBB
  obtain ⟨hR2, hr2⟩ := hp2
  refine lv_istore (lv' := [(7, .int r2), (6, .int r), (0, .ref b), (1, .ref h0), (2, .ref m0), (3, .ref o1), (4, .ref o2), (5, .int (nI i))]) hx hb dL_law_1408 hl (by decide) rfl (fun ls hl => ?_)
  refine lv_aload_n hx hb dL_law_1410 rfl (lv_at hl 4 rfl) ?_
  refine tk_cVi (As := []) S0 (c_X5_thrown l AM D ac _ hR2) (cwV 0 hts gL_law_X5_thrown rfl rfl rfl (by decide +kernel) ⟨Nat.le_of_ble_eq_true rfl, Nat.le_of_ble_eq_true rfl⟩) (tkJ.blind) (tkJ.at hMM hK) (tk_recv hK hMM hR2.1 rfl) rfl hl.1 rfl (Nat.le_of_ble_eq_true rfl) dL_law_1411 ⟨by show _ ≤ 603072; omega, by show _ ≤ 7211114; omega⟩ (fun r3 hr3 => ?_)
  refine lv_iload hx hb dL_law_1414 (lv_at hl 1 rfl) ?_
  refine lv_icmp_eq (tgt := 1421) hx hb dL_law_1416 (by decide) (fun _ => ?_) (fun c9 => absurd (hr3.trans hr9.symm) c9)
  refine lv_iload hx hb dL_law_1421 (lv_at hl 1 rfl) ?_
  refine lv_if_ne (tgt := 1438) hx hb dL_law_1423 (by decide) (fun _ => ?_) (fun c9 => ?_)
  · refine lv_goto (tgt := 2164) hx hb dL_law_1438 (by decide) ?_
    refine W.widen (k := cells + 20) (n := slots + 500) (by omega) (by omega) ?_
    exact kk (S_setCap M (xs (nI i + 1).toNatClampNeg)).2.1 _ _ ls ⟨keep_setCap hI (xs (nI i + 1).toNatClampNeg), ⟨_, _, hP9, hMX⟩, ⟨_, _, hR2, hMM⟩, ⟨_, hM1⟩, ⟨_, hM2⟩, hS, hN0⟩ (lv_sub hl [2, 3, 4, 5, 6, 7] rfl)
  · have hv9 := hv9 (hr9.symm.trans c9)
    refine lv_aload_n hx hb dL_law_1426 rfl (lv_at hl 5 rfl) ?_
    refine lv_iconst (v := 0) hx hb dL_law_1427 (by decide) ?_
    refine tk_lald hx hb hK hM1 4 (va_up_self _ _ _) rfl (by unfold vp_in; decide) dL_law_1428 ?_
    refine lv_iload hx hb dL_law_1429 (lv_at hl 0 rfl) ?_
    refine lv_i2l hx hb dL_law_1431 rfl ?_
    have hv9 : f9 (0 : Int32).toNatClampNeg = r2.toInt64 := by rw [hr2]; exact hv9
    rw [hv9]
    refine W.lcmp hx hb dL_law_1432 ?_
    refine lv_if_eq (tgt := 1438) hx hb dL_law_1433 (by decide) (fun _ => ?_) (fun c8 => absurd (lself _) c8)
    refine lv_goto (tgt := 2164) hx hb dL_law_1438 (by decide) ?_
    refine W.widen (k := cells + 20) (n := slots + 500) (by omega) (by omega) ?_
    exact kk (S_setCap M (xs (nI i + 1).toNatClampNeg)).2.1 _ _ ls ⟨keep_setCap hI (xs (nI i + 1).toNatClampNeg), ⟨_, _, hP9, hMX⟩, ⟨_, _, hR2, hMM⟩, ⟨_, hM1⟩, ⟨_, hM2⟩, hS, hN0⟩ (lv_sub hl [2, 3, 4, 5, 6, 7] rfl)
set_option maxHeartbeats 4000000 in
set_option maxRecDepth 100000 in
theorem law_setDiscount {p : Program} {l : Launch} {e : Env} {s : State} {m : MethodId} {below : List Frame} {meth : Method} {c : Code} {b L : Nat} {xs : Nat → Int32} {D : va_G} {ac : Nat → ClassId} {dE h0 m0 : Nat} {am : Nat → Nat} {AX AM : Nat → Prop} {o1 o2 N0 i cells slots : Nat} {M : TS} {H : Heap} {locs : List Loc} {ls : Array Slot} (X0 : lw_X p l s m c b L xs D ac dE AX AM o1 o2 N0) (I0 : lw_I s D ac dE h0 m0 am AX AM o1 o2 N0 M H locs) (hL : L ≤ 2560) (hi : i + 5 ≤ L) (hc : cells + 20 ≤ 603072) (hs : slots + 500 ≤ 7211114) (hl : lv_has ls 9 [(0, .ref b), (1, .ref h0), (2, .ref m0), (3, .ref o1), (4, .ref o2), (5, .int (nI i))])
    (kk : ∀ (M : TS) (H : Heap) (locs : List Loc) (ls : Array Slot), lw_I s D ac dE h0 m0 am AX AM o1 o2 N0 M H locs → lv_has ls 9 [(0, .ref b), (1, .ref h0), (2, .ref m0), (3, .ref o1), (4, .ref o2), (5, .int (nI i))] → W p l e room_1 s m #[Value.ref b] below meth c H locs (cells + 20) (slots + 500) (lw_Z below #[Value.ref b] s) (F0 m 2164 ls [])) : W p l e room_1 s m #[Value.ref b] below meth c H locs cells slots (lw_Z below #[Value.ref b] s) (F0 m 1441 ls []) := by
  obtain ⟨⟨hx, hb, hml, hown, hts, hX, hbl, hst⟩, ⟨hK, hF, hO, hN⟩, ⟨aX, aM, a1, a2⟩, ⟨n1, n2, n12, nM⟩, hA⟩ := X0
  obtain ⟨hI, ⟨α, GX, hP, hMX⟩, ⟨th, GM, hR, hMM⟩, ⟨f1, hM1⟩, ⟨f2, hM2⟩, hS, hN0⟩ := I0
  have S0 : CallFix p m c code 9 s #[Value.ref b] wsL_law RL := ⟨hx, hb, hml, hown, hts⟩
  have hbA : ¬ lw_A s b := Nat.not_le.mpr hbl
  have hAX : ∀ q, H.size ≤ q → AX q := fun q h => hA q (Nat.le_trans hN0 h)
  refine lv_aload_n hx hb dL_law_1441 rfl (lv_at hl 1 rfl) ?_
  refine lv_aload_n hx hb dL_law_1442 rfl (lv_at hl 0 rfl) ?_
  refine lv_iload hx hb dL_law_1443 (lv_at hl 5 rfl) ?_
  refine lv_iconst (v := 1) hx hb dL_law_1445 (by decide) ?_
  refine lv_iadd hx hb dL_law_1446 ?_
  refine va_sld hx hb hX hbl hbA hS (lw_in (k := 1) (by omega) hL) dL_law_1447 ?_
  refine lv_aload_n hx hb dL_law_1448 rfl (lv_at hl 0 rfl) ?_
  refine lv_iload hx hb dL_law_1449 (lv_at hl 5 rfl) ?_
  refine lv_iconst (v := 2) hx hb dL_law_1451 (by decide) ?_
  refine lv_iadd hx hb dL_law_1452 ?_
  refine va_sld hx hb hX hbl hbA hS (lw_in (k := 2) (by omega) hL) dL_law_1453 ?_
  refine lv_aload_n hx hb dL_law_1454 rfl (lv_at hl 3 rfl) ?_
  refine vx_calli (A1 := fun q => AX q ∨ q = o1) (free := fun q => AX q ∨ q = o1) (vx_runSX (As := [.ref h0, .int (xs (nI i + 1).toNatClampNeg), .int (xs (nI i + 2).toNatClampNeg), .ref o1]) (rest := []) S0 (c_L_setDiscount l hst AX o1 D ac dE _ hP hI f1 (xs (nI i + 1).toNatClampNeg) (xs (nI i + 2).toNatClampNeg)) (vx_cwSW 4 hts gL_law_L_setDiscount rfl rfl rfl (by decide +kernel) ⟨Nat.le_of_ble_eq_true rfl, Nat.le_of_ble_eq_true rfl⟩) ⟨fun a U g mk q => ⟨q.1, tkW.blind U g mk a q.2⟩, fun U hU hW => ⟨rfl, tkW.law hMX hM1 n1 hN hK hAX aX hF hO hS U hU hW⟩⟩ rfl rfl hl.1 rfl (lv_room (Nat.le_of_ble_eq_true rfl)) dL_law_1455 ⟨by show _ ≤ 603072; omega, by show _ ≤ 7211114; omega⟩) hS (fun q _ h => h.elim (fun h => aX q h) (fun h => by rw [h]; exact a1)) (fun q h => h.elim (fun h => aX q h) (fun h => by rw [h]; exact a1)) (fun q _ h => h.elim) (fun _ _ _ _ _ _ _ _ _ _ h => h.elim) (fun r u t H9 locs ht hal hp hBB hz hq hS => ?_)
  rw [ht] at hBB
  obtain ⟨G9, f9⟩ := u
  obtain ⟨hr9, hv9, α9, hP9⟩ := hp
  obtain ⟨hMX, hM1⟩ := hBB
  dsimp only at hv9 hP9 hMX hM1
  have hM2 := hM2.kept (H1 := H9) (fun q h2 h3 => hq q h2 (fun z => z.elim (fun z => n2 (by rw [← h3]; exact z)) (fun z => n12 (z.symm.trans h3))))
  have hMM := hMM.kept (H1 := H9) (fun q h2 h3 => hq q h2 (fun z => z.elim (nM q h3).1 (nM q h3).2.1))
  have hN0 := Nat.le_trans hN0 hz
  clear hq hz hAX
  refine lv_istore (lv' := [(6, .int r), (0, .ref b), (1, .ref h0), (2, .ref m0), (3, .ref o1), (4, .ref o2), (5, .int (nI i))]) hx hb dL_law_1458 hl (by decide) rfl (fun ls hl => ?_)
  refine lv_aload_n hx hb dL_law_1460 rfl (lv_at hl 3 rfl) ?_
  refine lv_aload_n hx hb dL_law_1461 rfl (lv_at hl 1 rfl) ?_
  refine lv_iload hx hb dL_law_1462 (lv_at hl 6 rfl) ?_
  refine lv_iconst (v := 1) hx hb dL_law_1464 (by decide) ?_
  refine lv_iadd hx hb dL_law_1465 ?_
  refine va_sld hx hb hX hbl hbA hS (lw_in (k := 1) (by omega) hL) dL_law_1466 ?_
  refine lv_aload_n hx hb dL_law_1467 rfl (lv_at hl 1 rfl) ?_
  refine lv_iload hx hb dL_law_1468 (lv_at hl 6 rfl) ?_
  refine lv_iconst (v := 2) hx hb dL_law_1470 (by decide) ?_
  refine lv_iadd hx hb dL_law_1471 ?_
  refine va_sld hx hb hX hbl hbA hS (lw_in (k := 2) (by omega) hL) dL_law_1472 ?_
  refine va_calli (A1 := AM) (free := AM) (va_runV (As := [.int (xs (nI i + 1).toNatClampNeg), .int (xs (nI i + 2).toNatClampNeg)]) (rest := []) S0 (c_X5_setDiscount l AM D ac _ hR (xs (nI i + 1).toNatClampNeg) (xs (nI i + 2).toNatClampNeg)) (cwV 2 hts gL_law_X5_setDiscount rfl rfl rfl (by decide +kernel) ⟨Nat.le_of_ble_eq_true rfl, Nat.le_of_ble_eq_true rfl⟩) ⟨fun a U g mk q => ⟨q.1, tkJ.blind U g mk a q.2⟩, tk_recv hK hMM hR.1 rfl, fun U hU hW => ⟨rfl, tkJ.at hMM hK U hU hW⟩⟩ rfl rfl hl.1 rfl (lv_room (Nat.le_of_ble_eq_true rfl)) dL_law_1473 ⟨by show _ ≤ 603072; omega, by show _ ≤ 7211114; omega⟩) hS (fun q _ h => aM q h) (fun q h => aM q h) (fun r2 G2 t H2 locs ht hal hp2 hBB hz hq hS => ?_)
  have hMM : tkM AM D G2 H2 := by rw [← ht]; exact hBB
  have hMX := hMX.kept (H1 := H2) (fun q h2 h3 => hq q h2 (fun z => (nM q z).1 h3))
  have hM1 := hM1.kept (H1 := H2) (fun q h2 h3 => hq q h2 (fun z => (nM q z).2.1 h3))
  have hM2 := hM2.kept (H1 := H2) (fun q h2 h3 => hq q h2 (fun z => (nM q z).2.2 h3))
  have hN0 := Nat.le_trans hN0 hz
  clear hq hz hBB
  obtain ⟨hR2, hr2⟩ := hp2
  refine lv_istore (lv' := [(7, .int r2), (6, .int r), (0, .ref b), (1, .ref h0), (2, .ref m0), (3, .ref o1), (4, .ref o2), (5, .int (nI i))]) hx hb dL_law_1476 hl (by decide) rfl (fun ls hl => ?_)
  refine lv_aload_n hx hb dL_law_1478 rfl (lv_at hl 4 rfl) ?_
  refine tk_cVi (As := []) S0 (c_X5_thrown l AM D ac _ hR2) (cwV 0 hts gL_law_X5_thrown rfl rfl rfl (by decide +kernel) ⟨Nat.le_of_ble_eq_true rfl, Nat.le_of_ble_eq_true rfl⟩) (tkJ.blind) (tkJ.at hMM hK) (tk_recv hK hMM hR2.1 rfl) rfl hl.1 rfl (Nat.le_of_ble_eq_true rfl) dL_law_1479 ⟨by show _ ≤ 603072; omega, by show _ ≤ 7211114; omega⟩ (fun r3 hr3 => ?_)
  refine lv_iload hx hb dL_law_1482 (lv_at hl 1 rfl) ?_
  refine lv_icmp_eq (tgt := 1489) hx hb dL_law_1484 (by decide) (fun _ => ?_) (fun c9 => absurd (hr3.trans hr9.symm) c9)
  refine lv_iload hx hb dL_law_1489 (lv_at hl 1 rfl) ?_
  refine lv_if_ne (tgt := 1506) hx hb dL_law_1491 (by decide) (fun _ => ?_) (fun c9 => ?_)
  · refine lv_goto (tgt := 2164) hx hb dL_law_1506 (by decide) ?_
    refine W.widen (k := cells + 20) (n := slots + 500) (by omega) (by omega) ?_
    exact kk (S_setDiscount M (xs (nI i + 1).toNatClampNeg) (xs (nI i + 2).toNatClampNeg)).2.1 _ _ ls ⟨keep_setDiscount hI (xs (nI i + 1).toNatClampNeg) (xs (nI i + 2).toNatClampNeg), ⟨_, _, hP9, hMX⟩, ⟨_, _, hR2, hMM⟩, ⟨_, hM1⟩, ⟨_, hM2⟩, hS, hN0⟩ (lv_sub hl [2, 3, 4, 5, 6, 7] rfl)
  · have hv9 := hv9 (hr9.symm.trans c9)
    refine lv_aload_n hx hb dL_law_1494 rfl (lv_at hl 5 rfl) ?_
    refine lv_iconst (v := 0) hx hb dL_law_1495 (by decide) ?_
    refine tk_lald hx hb hK hM1 4 (va_up_self _ _ _) rfl (by unfold vp_in; decide) dL_law_1496 ?_
    refine lv_iload hx hb dL_law_1497 (lv_at hl 0 rfl) ?_
    refine lv_i2l hx hb dL_law_1499 rfl ?_
    have hv9 : f9 (0 : Int32).toNatClampNeg = r2.toInt64 := by rw [hr2]; exact hv9
    rw [hv9]
    refine W.lcmp hx hb dL_law_1500 ?_
    refine lv_if_eq (tgt := 1506) hx hb dL_law_1501 (by decide) (fun _ => ?_) (fun c8 => absurd (lself _) c8)
    refine lv_goto (tgt := 2164) hx hb dL_law_1506 (by decide) ?_
    refine W.widen (k := cells + 20) (n := slots + 500) (by omega) (by omega) ?_
    exact kk (S_setDiscount M (xs (nI i + 1).toNatClampNeg) (xs (nI i + 2).toNatClampNeg)).2.1 _ _ ls ⟨keep_setDiscount hI (xs (nI i + 1).toNatClampNeg) (xs (nI i + 2).toNatClampNeg), ⟨_, _, hP9, hMX⟩, ⟨_, _, hR2, hMM⟩, ⟨_, hM1⟩, ⟨_, hM2⟩, hS, hN0⟩ (lv_sub hl [2, 3, 4, 5, 6, 7] rfl)
set_option maxHeartbeats 4000000 in
set_option maxRecDepth 100000 in
theorem law_invoice {p : Program} {l : Launch} {e : Env} {s : State} {m : MethodId} {below : List Frame} {meth : Method} {c : Code} {b L : Nat} {xs : Nat → Int32} {D : va_G} {ac : Nat → ClassId} {dE h0 m0 : Nat} {am : Nat → Nat} {AX AM : Nat → Prop} {o1 o2 N0 i cells slots : Nat} {M : TS} {H : Heap} {locs : List Loc} {ls : Array Slot} (X0 : lw_X p l s m c b L xs D ac dE AX AM o1 o2 N0) (I0 : lw_I s D ac dE h0 m0 am AX AM o1 o2 N0 M H locs) (hL : L ≤ 2560) (hi : i + 5 ≤ L) (hc : cells + 20 ≤ 603072) (hs : slots + 500 ≤ 7211114) (hl : lv_has ls 9 [(0, .ref b), (1, .ref h0), (2, .ref m0), (3, .ref o1), (4, .ref o2), (5, .int (nI i))])
    (kk : ∀ (M : TS) (H : Heap) (locs : List Loc) (ls : Array Slot), lw_I s D ac dE h0 m0 am AX AM o1 o2 N0 M H locs → lv_has ls 9 [(0, .ref b), (1, .ref h0), (2, .ref m0), (3, .ref o1), (4, .ref o2), (5, .int (nI i))] → W p l e room_1 s m #[Value.ref b] below meth c H locs (cells + 20) (slots + 500) (lw_Z below #[Value.ref b] s) (F0 m 2164 ls [])) : W p l e room_1 s m #[Value.ref b] below meth c H locs cells slots (lw_Z below #[Value.ref b] s) (F0 m 1509 ls []) := by
  obtain ⟨⟨hx, hb, hml, hown, hts, hX, hbl, hst⟩, ⟨hK, hF, hO, hN⟩, ⟨aX, aM, a1, a2⟩, ⟨n1, n2, n12, nM⟩, hA⟩ := X0
  obtain ⟨hI, ⟨α, GX, hP, hMX⟩, ⟨th, GM, hR, hMM⟩, ⟨f1, hM1⟩, ⟨f2, hM2⟩, hS, hN0⟩ := I0
  have S0 : CallFix p m c code 9 s #[Value.ref b] wsL_law RL := ⟨hx, hb, hml, hown, hts⟩
  have hbA : ¬ lw_A s b := Nat.not_le.mpr hbl
  have hAX : ∀ q, H.size ≤ q → AX q := fun q h => hA q (Nat.le_trans hN0 h)
  refine lv_aload_n hx hb dL_law_1509 rfl (lv_at hl 1 rfl) ?_
  refine lv_aload_n hx hb dL_law_1510 rfl (lv_at hl 0 rfl) ?_
  refine lv_iload hx hb dL_law_1511 (lv_at hl 5 rfl) ?_
  refine lv_iconst (v := 1) hx hb dL_law_1513 (by decide) ?_
  refine lv_iadd hx hb dL_law_1514 ?_
  refine va_sld hx hb hX hbl hbA hS (lw_in (k := 1) (by omega) hL) dL_law_1515 ?_
  refine lv_aload_n hx hb dL_law_1516 rfl (lv_at hl 0 rfl) ?_
  refine lv_iload hx hb dL_law_1517 (lv_at hl 5 rfl) ?_
  refine lv_iconst (v := 2) hx hb dL_law_1519 (by decide) ?_
  refine lv_iadd hx hb dL_law_1520 ?_
  refine va_sld hx hb hX hbl hbA hS (lw_in (k := 2) (by omega) hL) dL_law_1521 ?_
  refine lv_aload_n hx hb dL_law_1522 rfl (lv_at hl 3 rfl) ?_
  refine vx_calli (A1 := fun q => AX q ∨ q = o1) (free := fun q => AX q ∨ q = o1) (vx_runSX (As := [.ref h0, .int (xs (nI i + 1).toNatClampNeg), .int (xs (nI i + 2).toNatClampNeg), .ref o1]) (rest := []) S0 (c_L_invoice l hst AX o1 D ac dE _ hP hI f1 (xs (nI i + 1).toNatClampNeg) (xs (nI i + 2).toNatClampNeg)) (vx_cwSW 4 hts gL_law_L_invoice rfl rfl rfl (by decide +kernel) ⟨Nat.le_of_ble_eq_true rfl, Nat.le_of_ble_eq_true rfl⟩) ⟨fun a U g mk q => ⟨q.1, tkW.blind U g mk a q.2⟩, fun U hU hW => ⟨rfl, tkW.law hMX hM1 n1 hN hK hAX aX hF hO hS U hU hW⟩⟩ rfl rfl hl.1 rfl (lv_room (Nat.le_of_ble_eq_true rfl)) dL_law_1523 ⟨by show _ ≤ 603072; omega, by show _ ≤ 7211114; omega⟩) hS (fun q _ h => h.elim (fun h => aX q h) (fun h => by rw [h]; exact a1)) (fun q h => h.elim (fun h => aX q h) (fun h => by rw [h]; exact a1)) (fun q _ h => h.elim) (fun _ _ _ _ _ _ _ _ _ _ h => h.elim) (fun r u t H9 locs ht hal hp hBB hz hq hS => ?_)
  rw [ht] at hBB
  obtain ⟨G9, f9⟩ := u
  obtain ⟨hr9, hv9, α9, hP9⟩ := hp
  obtain ⟨hMX, hM1⟩ := hBB
  dsimp only at hv9 hP9 hMX hM1
  have hM2 := hM2.kept (H1 := H9) (fun q h2 h3 => hq q h2 (fun z => z.elim (fun z => n2 (by rw [← h3]; exact z)) (fun z => n12 (z.symm.trans h3))))
  have hMM := hMM.kept (H1 := H9) (fun q h2 h3 => hq q h2 (fun z => z.elim (nM q h3).1 (nM q h3).2.1))
  have hN0 := Nat.le_trans hN0 hz
  clear hq hz hAX
  refine lv_istore (lv' := [(6, .int r), (0, .ref b), (1, .ref h0), (2, .ref m0), (3, .ref o1), (4, .ref o2), (5, .int (nI i))]) hx hb dL_law_1526 hl (by decide) rfl (fun ls hl => ?_)
  refine lv_aload_n hx hb dL_law_1528 rfl (lv_at hl 3 rfl) ?_
  refine lv_aload_n hx hb dL_law_1529 rfl (lv_at hl 1 rfl) ?_
  refine lv_iload hx hb dL_law_1530 (lv_at hl 6 rfl) ?_
  refine lv_iconst (v := 1) hx hb dL_law_1532 (by decide) ?_
  refine lv_iadd hx hb dL_law_1533 ?_
  refine va_sld hx hb hX hbl hbA hS (lw_in (k := 1) (by omega) hL) dL_law_1534 ?_
  refine lv_aload_n hx hb dL_law_1535 rfl (lv_at hl 1 rfl) ?_
  refine lv_iload hx hb dL_law_1536 (lv_at hl 6 rfl) ?_
  refine lv_iconst (v := 2) hx hb dL_law_1538 (by decide) ?_
  refine lv_iadd hx hb dL_law_1539 ?_
  refine va_sld hx hb hX hbl hbA hS (lw_in (k := 2) (by omega) hL) dL_law_1540 ?_
  refine va_calli (A1 := AM) (free := AM) (va_runV (As := [.int (xs (nI i + 1).toNatClampNeg), .int (xs (nI i + 2).toNatClampNeg)]) (rest := []) S0 (c_X5_invoice l AM D ac _ hR hI.w hI.w1 (xs (nI i + 1).toNatClampNeg) (xs (nI i + 2).toNatClampNeg)) (cwV 2 hts gL_law_X5_invoice rfl rfl rfl (by decide +kernel) ⟨Nat.le_of_ble_eq_true rfl, Nat.le_of_ble_eq_true rfl⟩) ⟨fun a U g mk q => ⟨q.1, tkJ.blind U g mk a q.2⟩, tk_recv hK hMM hR.1 rfl, fun U hU hW => ⟨rfl, tkJ.at hMM hK U hU hW⟩⟩ rfl rfl hl.1 rfl (lv_room (Nat.le_of_ble_eq_true rfl)) dL_law_1541 ⟨by show _ ≤ 603072; omega, by show _ ≤ 7211114; omega⟩) hS (fun q _ h => aM q h) (fun q h => aM q h) (fun r2 G2 t H2 locs ht hal hp2 hBB hz hq hS => ?_)
  have hMM : tkM AM D G2 H2 := by rw [← ht]; exact hBB
  have hMX := hMX.kept (H1 := H2) (fun q h2 h3 => hq q h2 (fun z => (nM q z).1 h3))
  have hM1 := hM1.kept (H1 := H2) (fun q h2 h3 => hq q h2 (fun z => (nM q z).2.1 h3))
  have hM2 := hM2.kept (H1 := H2) (fun q h2 h3 => hq q h2 (fun z => (nM q z).2.2 h3))
  have hN0 := Nat.le_trans hN0 hz
  clear hq hz hBB
  obtain ⟨hR2, hr2⟩ := hp2
  refine lv_istore (lv' := [(7, .int r2), (6, .int r), (0, .ref b), (1, .ref h0), (2, .ref m0), (3, .ref o1), (4, .ref o2), (5, .int (nI i))]) hx hb dL_law_1544 hl (by decide) rfl (fun ls hl => ?_)
  refine lv_aload_n hx hb dL_law_1546 rfl (lv_at hl 4 rfl) ?_
  refine tk_cVi (As := []) S0 (c_X5_thrown l AM D ac _ hR2) (cwV 0 hts gL_law_X5_thrown rfl rfl rfl (by decide +kernel) ⟨Nat.le_of_ble_eq_true rfl, Nat.le_of_ble_eq_true rfl⟩) (tkJ.blind) (tkJ.at hMM hK) (tk_recv hK hMM hR2.1 rfl) rfl hl.1 rfl (Nat.le_of_ble_eq_true rfl) dL_law_1547 ⟨by show _ ≤ 603072; omega, by show _ ≤ 7211114; omega⟩ (fun r3 hr3 => ?_)
  refine lv_iload hx hb dL_law_1550 (lv_at hl 1 rfl) ?_
  refine lv_icmp_eq (tgt := 1557) hx hb dL_law_1552 (by decide) (fun _ => ?_) (fun c9 => absurd (hr3.trans hr9.symm) c9)
  refine lv_iload hx hb dL_law_1557 (lv_at hl 1 rfl) ?_
  refine lv_if_ne (tgt := 1574) hx hb dL_law_1559 (by decide) (fun _ => ?_) (fun c9 => ?_)
  · refine lv_goto (tgt := 2164) hx hb dL_law_1574 (by decide) ?_
    refine W.widen (k := cells + 20) (n := slots + 500) (by omega) (by omega) ?_
    exact kk (S_invoice M (xs (nI i + 1).toNatClampNeg) (xs (nI i + 2).toNatClampNeg)).2.1 _ _ ls ⟨keep_invoice hI (xs (nI i + 1).toNatClampNeg) (xs (nI i + 2).toNatClampNeg), ⟨_, _, hP9, hMX⟩, ⟨_, _, hR2, hMM⟩, ⟨_, hM1⟩, ⟨_, hM2⟩, hS, hN0⟩ (lv_sub hl [2, 3, 4, 5, 6, 7] rfl)
  · have hv9 := hv9 (hr9.symm.trans c9)
    refine lv_aload_n hx hb dL_law_1562 rfl (lv_at hl 5 rfl) ?_
    refine lv_iconst (v := 0) hx hb dL_law_1563 (by decide) ?_
    refine tk_lald hx hb hK hM1 4 (va_up_self _ _ _) rfl (by unfold vp_in; decide) dL_law_1564 ?_
    refine lv_iload hx hb dL_law_1565 (lv_at hl 0 rfl) ?_
    refine lv_i2l hx hb dL_law_1567 rfl ?_
    have hv9 : f9 (0 : Int32).toNatClampNeg = r2.toInt64 := by rw [hr2]; exact hv9
    rw [hv9]
    refine W.lcmp hx hb dL_law_1568 ?_
    refine lv_if_eq (tgt := 1574) hx hb dL_law_1569 (by decide) (fun _ => ?_) (fun c8 => absurd (lself _) c8)
    refine lv_goto (tgt := 2164) hx hb dL_law_1574 (by decide) ?_
    refine W.widen (k := cells + 20) (n := slots + 500) (by omega) (by omega) ?_
    exact kk (S_invoice M (xs (nI i + 1).toNatClampNeg) (xs (nI i + 2).toNatClampNeg)).2.1 _ _ ls ⟨keep_invoice hI (xs (nI i + 1).toNatClampNeg) (xs (nI i + 2).toNatClampNeg), ⟨_, _, hP9, hMX⟩, ⟨_, _, hR2, hMM⟩, ⟨_, hM1⟩, ⟨_, hM2⟩, hS, hN0⟩ (lv_sub hl [2, 3, 4, 5, 6, 7] rfl)
set_option maxHeartbeats 4000000 in
set_option maxRecDepth 100000 in
theorem law_invoices {p : Program} {l : Launch} {e : Env} {s : State} {m : MethodId} {below : List Frame} {meth : Method} {c : Code} {b L : Nat} {xs : Nat → Int32} {D : va_G} {ac : Nat → ClassId} {dE h0 m0 : Nat} {am : Nat → Nat} {AX AM : Nat → Prop} {o1 o2 N0 i cells slots : Nat} {M : TS} {H : Heap} {locs : List Loc} {ls : Array Slot} (X0 : lw_X p l s m c b L xs D ac dE AX AM o1 o2 N0) (I0 : lw_I s D ac dE h0 m0 am AX AM o1 o2 N0 M H locs) (hL : L ≤ 2560) (hi : i + 5 ≤ L) (hc : cells + 20 ≤ 603072) (hs : slots + 500 ≤ 7211114) (hl : lv_has ls 9 [(0, .ref b), (1, .ref h0), (2, .ref m0), (3, .ref o1), (4, .ref o2), (5, .int (nI i))])
    (kk : ∀ (M : TS) (H : Heap) (locs : List Loc) (ls : Array Slot), lw_I s D ac dE h0 m0 am AX AM o1 o2 N0 M H locs → lv_has ls 9 [(0, .ref b), (1, .ref h0), (2, .ref m0), (3, .ref o1), (4, .ref o2), (5, .int (nI i))] → W p l e room_1 s m #[Value.ref b] below meth c H locs (cells + 20) (slots + 500) (lw_Z below #[Value.ref b] s) (F0 m 2164 ls [])) : W p l e room_1 s m #[Value.ref b] below meth c H locs cells slots (lw_Z below #[Value.ref b] s) (F0 m 1577 ls []) := by
  obtain ⟨⟨hx, hb, hml, hown, hts, hX, hbl, hst⟩, ⟨hK, hF, hO, hN⟩, ⟨aX, aM, a1, a2⟩, ⟨n1, n2, n12, nM⟩, hA⟩ := X0
  obtain ⟨hI, ⟨α, GX, hP, hMX⟩, ⟨th, GM, hR, hMM⟩, ⟨f1, hM1⟩, ⟨f2, hM2⟩, hS, hN0⟩ := I0
  have S0 : CallFix p m c code 9 s #[Value.ref b] wsL_law RL := ⟨hx, hb, hml, hown, hts⟩
  have hbA : ¬ lw_A s b := Nat.not_le.mpr hbl
  have hAX : ∀ q, H.size ≤ q → AX q := fun q h => hA q (Nat.le_trans hN0 h)
  refine lv_aload_n hx hb dL_law_1577 rfl (lv_at hl 1 rfl) ?_
  refine tk_cVi (As := []) S0 (c_X4_invoices (nv := 0) l AX D ac dE _ hP) (cwV 0 hts gL_law_X4_invoices rfl rfl rfl (by decide +kernel) ⟨Nat.le_of_ble_eq_true rfl, Nat.le_of_ble_eq_true rfl⟩) (tkX.blind) (fun U hU hW => tkX.law hMX hK hAX aX hF hO hS U hU hW) (tk_recv hK hMX hP.h rfl) rfl hl.1 rfl (Nat.le_of_ble_eq_true rfl) dL_law_1578 ⟨by show _ ≤ 603072; omega, by show _ ≤ 7211114; omega⟩ (fun r hr => ?_)
  refine lv_aload_n hx hb dL_law_1581 rfl (lv_at hl 2 rfl) ?_
  refine va_calli (A1 := AM) (free := AM) (va_runV (As := []) (rest := [.int r]) S0 (c_X5_invoices l AM D ac _ hR) (cwV 0 hts gL_law_X5_invoices rfl rfl rfl (by decide +kernel) ⟨Nat.le_of_ble_eq_true rfl, Nat.le_of_ble_eq_true rfl⟩) ⟨fun a U g mk q => ⟨q.1, tkJ.blind U g mk a q.2⟩, tk_recv hK hMM hR.1 rfl, fun U hU hW => ⟨rfl, tkJ.at hMM hK U hU hW⟩⟩ rfl rfl hl.1 rfl (lv_room (Nat.le_of_ble_eq_true rfl)) dL_law_1582 ⟨by show _ ≤ 603072; omega, by show _ ≤ 7211114; omega⟩) hS (fun q _ h => aM q h) (fun q h => aM q h) (fun r2 G2 t H2 locs ht hal hp2 hBB hz hq hS => ?_)
  have hMM : tkM AM D G2 H2 := by rw [← ht]; exact hBB
  have hMX := hMX.kept (H1 := H2) (fun q h2 h3 => hq q h2 (fun z => (nM q z).1 h3))
  have hM1 := hM1.kept (H1 := H2) (fun q h2 h3 => hq q h2 (fun z => (nM q z).2.1 h3))
  have hM2 := hM2.kept (H1 := H2) (fun q h2 h3 => hq q h2 (fun z => (nM q z).2.2 h3))
  have hN0 := Nat.le_trans hN0 hz
  obtain ⟨hR2, hr2⟩ := hp2
  refine W.widen (k := cells + 20) (n := slots + 500) (by omega) (by omega) ?_
  have hrr : r = r2 := by rw [hr, hr2]; exact hI.w.v.1.symm
  refine lv_icmp_eq (tgt := 2164) hx hb dL_law_1585 (by decide) (fun _ => ?_) (fun c8 => absurd hrr c8)
  exact kk M _ _ ls ⟨hI, ⟨_, _, hP, hMX⟩, ⟨_, _, hR2, hMM⟩, ⟨_, hM1⟩, ⟨_, hM2⟩, hS, hN0⟩ hl
set_option maxHeartbeats 4000000 in
set_option maxRecDepth 100000 in
theorem law_total {p : Program} {l : Launch} {e : Env} {s : State} {m : MethodId} {below : List Frame} {meth : Method} {c : Code} {b L : Nat} {xs : Nat → Int32} {D : va_G} {ac : Nat → ClassId} {dE h0 m0 : Nat} {am : Nat → Nat} {AX AM : Nat → Prop} {o1 o2 N0 i cells slots : Nat} {M : TS} {H : Heap} {locs : List Loc} {ls : Array Slot} (X0 : lw_X p l s m c b L xs D ac dE AX AM o1 o2 N0) (I0 : lw_I s D ac dE h0 m0 am AX AM o1 o2 N0 M H locs) (hL : L ≤ 2560) (hi : i + 5 ≤ L) (hc : cells + 20 ≤ 603072) (hs : slots + 500 ≤ 7211114) (hl : lv_has ls 9 [(0, .ref b), (1, .ref h0), (2, .ref m0), (3, .ref o1), (4, .ref o2), (5, .int (nI i))])
    (kk : ∀ (M : TS) (H : Heap) (locs : List Loc) (ls : Array Slot), lw_I s D ac dE h0 m0 am AX AM o1 o2 N0 M H locs → lv_has ls 9 [(0, .ref b), (1, .ref h0), (2, .ref m0), (3, .ref o1), (4, .ref o2), (5, .int (nI i))] → W p l e room_1 s m #[Value.ref b] below meth c H locs (cells + 20) (slots + 500) (lw_Z below #[Value.ref b] s) (F0 m 2164 ls [])) : W p l e room_1 s m #[Value.ref b] below meth c H locs cells slots (lw_Z below #[Value.ref b] s) (F0 m 1590 ls []) := by
  obtain ⟨⟨hx, hb, hml, hown, hts, hX, hbl, hst⟩, ⟨hK, hF, hO, hN⟩, ⟨aX, aM, a1, a2⟩, ⟨n1, n2, n12, nM⟩, hA⟩ := X0
  obtain ⟨hI, ⟨α, GX, hP, hMX⟩, ⟨th, GM, hR, hMM⟩, ⟨f1, hM1⟩, ⟨f2, hM2⟩, hS, hN0⟩ := I0
  have S0 : CallFix p m c code 9 s #[Value.ref b] wsL_law RL := ⟨hx, hb, hml, hown, hts⟩
  have hbA : ¬ lw_A s b := Nat.not_le.mpr hbl
  have hAX : ∀ q, H.size ≤ q → AX q := fun q h => hA q (Nat.le_trans hN0 h)
  refine lv_aload_n hx hb dL_law_1590 rfl (lv_at hl 1 rfl) ?_
  refine lv_aload_n hx hb dL_law_1591 rfl (lv_at hl 0 rfl) ?_
  refine lv_iload hx hb dL_law_1592 (lv_at hl 5 rfl) ?_
  refine lv_iconst (v := 1) hx hb dL_law_1594 (by decide) ?_
  refine lv_iadd hx hb dL_law_1595 ?_
  refine va_sld hx hb hX hbl hbA hS (lw_in (k := 1) (by omega) hL) dL_law_1596 ?_
  refine lv_aload_n hx hb dL_law_1597 rfl (lv_at hl 3 rfl) ?_
  refine vx_calli (A1 := fun q => AX q ∨ q = o1) (free := fun q => AX q ∨ q = o1) (vx_runSX (As := [.ref h0, .int (xs (nI i + 1).toNatClampNeg), .ref o1]) (rest := []) S0 (c_L_total l hst AX o1 D ac dE _ hP hI f1 (xs (nI i + 1).toNatClampNeg)) (vx_cwSW 3 hts gL_law_L_total rfl rfl rfl (by decide +kernel) ⟨Nat.le_of_ble_eq_true rfl, Nat.le_of_ble_eq_true rfl⟩) ⟨fun a U g mk q => ⟨q.1, tkW.blind U g mk a q.2⟩, fun U hU hW => ⟨rfl, tkW.law hMX hM1 n1 hN hK hAX aX hF hO hS U hU hW⟩⟩ rfl rfl hl.1 rfl (lv_room (Nat.le_of_ble_eq_true rfl)) dL_law_1598 ⟨by show _ ≤ 603072; omega, by show _ ≤ 7211114; omega⟩) hS (fun q _ h => h.elim (fun h => aX q h) (fun h => by rw [h]; exact a1)) (fun q h => h.elim (fun h => aX q h) (fun h => by rw [h]; exact a1)) (fun q _ h => h.elim) (fun _ _ _ _ _ _ _ _ _ _ h => h.elim) (fun r u t H9 locs ht hal hp hBB hz hq hS => ?_)
  rw [ht] at hBB
  obtain ⟨G9, f9⟩ := u
  obtain ⟨hr9, hv9, α9, hP9⟩ := hp
  obtain ⟨hMX, hM1⟩ := hBB
  dsimp only at hv9 hP9 hMX hM1
  have hM2 := hM2.kept (H1 := H9) (fun q h2 h3 => hq q h2 (fun z => z.elim (fun z => n2 (by rw [← h3]; exact z)) (fun z => n12 (z.symm.trans h3))))
  have hMM := hMM.kept (H1 := H9) (fun q h2 h3 => hq q h2 (fun z => z.elim (nM q h3).1 (nM q h3).2.1))
  have hN0 := Nat.le_trans hN0 hz
  clear hq hz hAX
  refine lv_istore (lv' := [(6, .int r), (0, .ref b), (1, .ref h0), (2, .ref m0), (3, .ref o1), (4, .ref o2), (5, .int (nI i))]) hx hb dL_law_1601 hl (by decide) rfl (fun ls hl => ?_)
  refine lv_aload_n hx hb dL_law_1603 rfl (lv_at hl 3 rfl) ?_
  refine lv_aload_n hx hb dL_law_1604 rfl (lv_at hl 1 rfl) ?_
  refine lv_iload hx hb dL_law_1605 (lv_at hl 6 rfl) ?_
  refine lv_iconst (v := 1) hx hb dL_law_1607 (by decide) ?_
  refine lv_iadd hx hb dL_law_1608 ?_
  refine va_sld hx hb hX hbl hbA hS (lw_in (k := 1) (by omega) hL) dL_law_1609 ?_
  refine va_calli (A1 := AM) (free := AM) (va_runV (As := [.int (xs (nI i + 1).toNatClampNeg)]) (rest := []) S0 (c_X5_total l AM D ac _ hR hI.w (xs (nI i + 1).toNatClampNeg)) (cwV 1 hts gL_law_X5_total rfl rfl rfl (by decide +kernel) ⟨Nat.le_of_ble_eq_true rfl, Nat.le_of_ble_eq_true rfl⟩) ⟨fun a U g mk q => ⟨q.1, tkJ.blind U g mk a q.2⟩, tk_recv hK hMM hR.1 rfl, fun U hU hW => ⟨rfl, tkJ.at hMM hK U hU hW⟩⟩ rfl rfl hl.1 rfl (lv_room (Nat.le_of_ble_eq_true rfl)) dL_law_1610 ⟨by show _ ≤ 603072; omega, by show _ ≤ 7211114; omega⟩) hS (fun q _ h => aM q h) (fun q h => aM q h) (fun r2 G2 t H2 locs ht hal hp2 hBB hz hq hS => ?_)
  have hMM : tkM AM D G2 H2 := by rw [← ht]; exact hBB
  have hMX := hMX.kept (H1 := H2) (fun q h2 h3 => hq q h2 (fun z => (nM q z).1 h3))
  have hM1 := hM1.kept (H1 := H2) (fun q h2 h3 => hq q h2 (fun z => (nM q z).2.1 h3))
  have hM2 := hM2.kept (H1 := H2) (fun q h2 h3 => hq q h2 (fun z => (nM q z).2.2 h3))
  have hN0 := Nat.le_trans hN0 hz
  clear hq hz hBB
  obtain ⟨hR2, hr2⟩ := hp2
  refine lv_istore (lv' := [(7, .int r2), (6, .int r), (0, .ref b), (1, .ref h0), (2, .ref m0), (3, .ref o1), (4, .ref o2), (5, .int (nI i))]) hx hb dL_law_1613 hl (by decide) rfl (fun ls hl => ?_)
  refine lv_aload_n hx hb dL_law_1615 rfl (lv_at hl 4 rfl) ?_
  refine tk_cVi (As := []) S0 (c_X5_thrown l AM D ac _ hR2) (cwV 0 hts gL_law_X5_thrown rfl rfl rfl (by decide +kernel) ⟨Nat.le_of_ble_eq_true rfl, Nat.le_of_ble_eq_true rfl⟩) (tkJ.blind) (tkJ.at hMM hK) (tk_recv hK hMM hR2.1 rfl) rfl hl.1 rfl (Nat.le_of_ble_eq_true rfl) dL_law_1616 ⟨by show _ ≤ 603072; omega, by show _ ≤ 7211114; omega⟩ (fun r3 hr3 => ?_)
  refine lv_iload hx hb dL_law_1619 (lv_at hl 1 rfl) ?_
  refine lv_icmp_eq (tgt := 1626) hx hb dL_law_1621 (by decide) (fun _ => ?_) (fun c9 => absurd (hr3.trans hr9.symm) c9)
  refine lv_iload hx hb dL_law_1626 (lv_at hl 1 rfl) ?_
  refine lv_if_ne (tgt := 1643) hx hb dL_law_1628 (by decide) (fun _ => ?_) (fun c9 => ?_)
  · refine lv_goto (tgt := 2164) hx hb dL_law_1643 (by decide) ?_
    refine W.widen (k := cells + 20) (n := slots + 500) (by omega) (by omega) ?_
    exact kk (S_total M (xs (nI i + 1).toNatClampNeg)).2.1 _ _ ls ⟨(by rw [rd_total]; exact hI), ⟨_, _, hP9, hMX⟩, ⟨_, _, hR2, hMM⟩, ⟨_, hM1⟩, ⟨_, hM2⟩, hS, hN0⟩ (lv_sub hl [2, 3, 4, 5, 6, 7] rfl)
  · have hv9 := hv9 (hr9.symm.trans c9)
    refine lv_aload_n hx hb dL_law_1631 rfl (lv_at hl 5 rfl) ?_
    refine lv_iconst (v := 0) hx hb dL_law_1632 (by decide) ?_
    refine tk_lald hx hb hK hM1 4 (va_up_self _ _ _) rfl (by unfold vp_in; decide) dL_law_1633 ?_
    refine lv_iload hx hb dL_law_1634 (lv_at hl 0 rfl) ?_
    refine lv_i2l hx hb dL_law_1636 rfl ?_
    have hv9 : f9 (0 : Int32).toNatClampNeg = r2.toInt64 := by rw [hr2]; exact hv9
    rw [hv9]
    refine W.lcmp hx hb dL_law_1637 ?_
    refine lv_if_eq (tgt := 1643) hx hb dL_law_1638 (by decide) (fun _ => ?_) (fun c8 => absurd (lself _) c8)
    refine lv_goto (tgt := 2164) hx hb dL_law_1643 (by decide) ?_
    refine W.widen (k := cells + 20) (n := slots + 500) (by omega) (by omega) ?_
    exact kk (S_total M (xs (nI i + 1).toNatClampNeg)).2.1 _ _ ls ⟨(by rw [rd_total]; exact hI), ⟨_, _, hP9, hMX⟩, ⟨_, _, hR2, hMM⟩, ⟨_, hM1⟩, ⟨_, hM2⟩, hS, hN0⟩ (lv_sub hl [2, 3, 4, 5, 6, 7] rfl)
set_option maxHeartbeats 4000000 in
set_option maxRecDepth 100000 in
theorem law_totalByRules {p : Program} {l : Launch} {e : Env} {s : State} {m : MethodId} {below : List Frame} {meth : Method} {c : Code} {b L : Nat} {xs : Nat → Int32} {D : va_G} {ac : Nat → ClassId} {dE h0 m0 : Nat} {am : Nat → Nat} {AX AM : Nat → Prop} {o1 o2 N0 i cells slots : Nat} {M : TS} {H : Heap} {locs : List Loc} {ls : Array Slot} (X0 : lw_X p l s m c b L xs D ac dE AX AM o1 o2 N0) (I0 : lw_I s D ac dE h0 m0 am AX AM o1 o2 N0 M H locs) (hL : L ≤ 2560) (hi : i + 5 ≤ L) (hc : cells + 20 ≤ 603072) (hs : slots + 500 ≤ 7211114) (hl : lv_has ls 9 [(0, .ref b), (1, .ref h0), (2, .ref m0), (3, .ref o1), (4, .ref o2), (5, .int (nI i))])
    (kk : ∀ (M : TS) (H : Heap) (locs : List Loc) (ls : Array Slot), lw_I s D ac dE h0 m0 am AX AM o1 o2 N0 M H locs → lv_has ls 9 [(0, .ref b), (1, .ref h0), (2, .ref m0), (3, .ref o1), (4, .ref o2), (5, .int (nI i))] → W p l e room_1 s m #[Value.ref b] below meth c H locs (cells + 20) (slots + 500) (lw_Z below #[Value.ref b] s) (F0 m 2164 ls [])) : W p l e room_1 s m #[Value.ref b] below meth c H locs cells slots (lw_Z below #[Value.ref b] s) (F0 m 1646 ls []) := by
  obtain ⟨⟨hx, hb, hml, hown, hts, hX, hbl, hst⟩, ⟨hK, hF, hO, hN⟩, ⟨aX, aM, a1, a2⟩, ⟨n1, n2, n12, nM⟩, hA⟩ := X0
  obtain ⟨hI, ⟨α, GX, hP, hMX⟩, ⟨th, GM, hR, hMM⟩, ⟨f1, hM1⟩, ⟨f2, hM2⟩, hS, hN0⟩ := I0
  have S0 : CallFix p m c code 9 s #[Value.ref b] wsL_law RL := ⟨hx, hb, hml, hown, hts⟩
  have hbA : ¬ lw_A s b := Nat.not_le.mpr hbl
  have hAX : ∀ q, H.size ≤ q → AX q := fun q h => hA q (Nat.le_trans hN0 h)
  refine lv_aload_n hx hb dL_law_1646 rfl (lv_at hl 1 rfl) ?_
  refine lv_aload_n hx hb dL_law_1647 rfl (lv_at hl 0 rfl) ?_
  refine lv_iload hx hb dL_law_1648 (lv_at hl 5 rfl) ?_
  refine lv_iconst (v := 1) hx hb dL_law_1650 (by decide) ?_
  refine lv_iadd hx hb dL_law_1651 ?_
  refine va_sld hx hb hX hbl hbA hS (lw_in (k := 1) (by omega) hL) dL_law_1652 ?_
  refine lv_aload_n hx hb dL_law_1653 rfl (lv_at hl 3 rfl) ?_
  refine vx_calli (A1 := fun q => AX q ∨ q = o1) (free := fun q => AX q ∨ q = o1) (vx_runSX (As := [.ref h0, .int (xs (nI i + 1).toNatClampNeg), .ref o1]) (rest := []) S0 (c_L_totalByRules l hst AX o1 D ac dE _ hP hI f1 (xs (nI i + 1).toNatClampNeg)) (vx_cwSW 3 hts gL_law_L_totalByRules rfl rfl rfl (by decide +kernel) ⟨Nat.le_of_ble_eq_true rfl, Nat.le_of_ble_eq_true rfl⟩) ⟨fun a U g mk q => ⟨q.1, tkW.blind U g mk a q.2⟩, fun U hU hW => ⟨rfl, tkW.law hMX hM1 n1 hN hK hAX aX hF hO hS U hU hW⟩⟩ rfl rfl hl.1 rfl (lv_room (Nat.le_of_ble_eq_true rfl)) dL_law_1654 ⟨by show _ ≤ 603072; omega, by show _ ≤ 7211114; omega⟩) hS (fun q _ h => h.elim (fun h => aX q h) (fun h => by rw [h]; exact a1)) (fun q h => h.elim (fun h => aX q h) (fun h => by rw [h]; exact a1)) (fun q _ h => h.elim) (fun _ _ _ _ _ _ _ _ _ _ h => h.elim) (fun r u t H9 locs ht hal hp hBB hz hq hS => ?_)
  rw [ht] at hBB
  obtain ⟨G9, f9⟩ := u
  obtain ⟨hr9, hv9, α9, hP9⟩ := hp
  obtain ⟨hMX, hM1⟩ := hBB
  dsimp only at hv9 hP9 hMX hM1
  have hM2 := hM2.kept (H1 := H9) (fun q h2 h3 => hq q h2 (fun z => z.elim (fun z => n2 (by rw [← h3]; exact z)) (fun z => n12 (z.symm.trans h3))))
  have hMM := hMM.kept (H1 := H9) (fun q h2 h3 => hq q h2 (fun z => z.elim (nM q h3).1 (nM q h3).2.1))
  have hN0 := Nat.le_trans hN0 hz
  clear hq hz hAX
  refine lv_istore (lv' := [(6, .int r), (0, .ref b), (1, .ref h0), (2, .ref m0), (3, .ref o1), (4, .ref o2), (5, .int (nI i))]) hx hb dL_law_1657 hl (by decide) rfl (fun ls hl => ?_)
  refine lv_aload_n hx hb dL_law_1659 rfl (lv_at hl 3 rfl) ?_
  refine lv_aload_n hx hb dL_law_1660 rfl (lv_at hl 1 rfl) ?_
  refine lv_iload hx hb dL_law_1661 (lv_at hl 6 rfl) ?_
  refine lv_iconst (v := 1) hx hb dL_law_1663 (by decide) ?_
  refine lv_iadd hx hb dL_law_1664 ?_
  refine va_sld hx hb hX hbl hbA hS (lw_in (k := 1) (by omega) hL) dL_law_1665 ?_
  refine va_calli (A1 := AM) (free := AM) (va_runV (As := [.int (xs (nI i + 1).toNatClampNeg)]) (rest := []) S0 (c_X5_totalByRules l AM D ac _ hR hI.w (xs (nI i + 1).toNatClampNeg)) (cwV 1 hts gL_law_X5_totalByRules rfl rfl rfl (by decide +kernel) ⟨Nat.le_of_ble_eq_true rfl, Nat.le_of_ble_eq_true rfl⟩) ⟨fun a U g mk q => ⟨q.1, tkJ.blind U g mk a q.2⟩, tk_recv hK hMM hR.1 rfl, fun U hU hW => ⟨rfl, tkJ.at hMM hK U hU hW⟩⟩ rfl rfl hl.1 rfl (lv_room (Nat.le_of_ble_eq_true rfl)) dL_law_1666 ⟨by show _ ≤ 603072; omega, by show _ ≤ 7211114; omega⟩) hS (fun q _ h => aM q h) (fun q h => aM q h) (fun r2 G2 t H2 locs ht hal hp2 hBB hz hq hS => ?_)
  have hMM : tkM AM D G2 H2 := by rw [← ht]; exact hBB
  have hMX := hMX.kept (H1 := H2) (fun q h2 h3 => hq q h2 (fun z => (nM q z).1 h3))
  have hM1 := hM1.kept (H1 := H2) (fun q h2 h3 => hq q h2 (fun z => (nM q z).2.1 h3))
  have hM2 := hM2.kept (H1 := H2) (fun q h2 h3 => hq q h2 (fun z => (nM q z).2.2 h3))
  have hN0 := Nat.le_trans hN0 hz
  clear hq hz hBB
  obtain ⟨hR2, hr2⟩ := hp2
  refine lv_istore (lv' := [(7, .int r2), (6, .int r), (0, .ref b), (1, .ref h0), (2, .ref m0), (3, .ref o1), (4, .ref o2), (5, .int (nI i))]) hx hb dL_law_1669 hl (by decide) rfl (fun ls hl => ?_)
  refine lv_aload_n hx hb dL_law_1671 rfl (lv_at hl 4 rfl) ?_
  refine tk_cVi (As := []) S0 (c_X5_thrown l AM D ac _ hR2) (cwV 0 hts gL_law_X5_thrown rfl rfl rfl (by decide +kernel) ⟨Nat.le_of_ble_eq_true rfl, Nat.le_of_ble_eq_true rfl⟩) (tkJ.blind) (tkJ.at hMM hK) (tk_recv hK hMM hR2.1 rfl) rfl hl.1 rfl (Nat.le_of_ble_eq_true rfl) dL_law_1672 ⟨by show _ ≤ 603072; omega, by show _ ≤ 7211114; omega⟩ (fun r3 hr3 => ?_)
  refine lv_iload hx hb dL_law_1675 (lv_at hl 1 rfl) ?_
  refine lv_icmp_eq (tgt := 1682) hx hb dL_law_1677 (by decide) (fun _ => ?_) (fun c9 => absurd (hr3.trans hr9.symm) c9)
  refine lv_iload hx hb dL_law_1682 (lv_at hl 1 rfl) ?_
  refine lv_if_ne (tgt := 1699) hx hb dL_law_1684 (by decide) (fun _ => ?_) (fun c9 => ?_)
  · refine lv_goto (tgt := 2164) hx hb dL_law_1699 (by decide) ?_
    refine W.widen (k := cells + 20) (n := slots + 500) (by omega) (by omega) ?_
    exact kk (S_total M (xs (nI i + 1).toNatClampNeg)).2.1 _ _ ls ⟨(by rw [rd_total]; exact hI), ⟨_, _, hP9, hMX⟩, ⟨_, _, hR2, hMM⟩, ⟨_, hM1⟩, ⟨_, hM2⟩, hS, hN0⟩ (lv_sub hl [2, 3, 4, 5, 6, 7] rfl)
  · have hv9 := hv9 (hr9.symm.trans c9)
    refine lv_aload_n hx hb dL_law_1687 rfl (lv_at hl 5 rfl) ?_
    refine lv_iconst (v := 0) hx hb dL_law_1688 (by decide) ?_
    refine tk_lald hx hb hK hM1 4 (va_up_self _ _ _) rfl (by unfold vp_in; decide) dL_law_1689 ?_
    refine lv_iload hx hb dL_law_1690 (lv_at hl 0 rfl) ?_
    refine lv_i2l hx hb dL_law_1692 rfl ?_
    have hv9 : f9 (0 : Int32).toNatClampNeg = r2.toInt64 := by rw [hr2]; exact hv9
    rw [hv9]
    refine W.lcmp hx hb dL_law_1693 ?_
    refine lv_if_eq (tgt := 1699) hx hb dL_law_1694 (by decide) (fun _ => ?_) (fun c8 => absurd (lself _) c8)
    refine lv_goto (tgt := 2164) hx hb dL_law_1699 (by decide) ?_
    refine W.widen (k := cells + 20) (n := slots + 500) (by omega) (by omega) ?_
    exact kk (S_total M (xs (nI i + 1).toNatClampNeg)).2.1 _ _ ls ⟨(by rw [rd_total]; exact hI), ⟨_, _, hP9, hMX⟩, ⟨_, _, hR2, hMM⟩, ⟨_, hM1⟩, ⟨_, hM2⟩, hS, hN0⟩ (lv_sub hl [2, 3, 4, 5, 6, 7] rfl)
