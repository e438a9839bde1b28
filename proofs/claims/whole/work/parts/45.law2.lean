/-! the law: cases -/
set_option maxHeartbeats 4000000 in
set_option maxRecDepth 100000 in
theorem law_treeSize {p : Program} {l : Launch} {e : Env} {s : State} {m : MethodId} {below : List Frame} {meth : Method} {c : Code} {b L : Nat} {xs : Nat → Int32} {D : va_G} {ac : Nat → ClassId} {dE h0 m0 : Nat} {am : Nat → Nat} {AX AM : Nat → Prop} {o1 o2 N0 i cells slots : Nat} {M : TS} {H : Heap} {locs : List Loc} {ls : Array Slot} (X0 : lw_X p l s m c b L xs D ac dE AX AM o1 o2 N0) (I0 : lw_I s D ac dE h0 m0 am AX AM o1 o2 N0 M H locs) (hL : L ≤ 2560) (hi : i + 5 ≤ L) (hc : cells + 20 ≤ 603072) (hs : slots + 500 ≤ 7211114) (hl : lv_has ls 9 [(0, .ref b), (1, .ref h0), (2, .ref m0), (3, .ref o1), (4, .ref o2), (5, .int (nI i))])
    (kk : ∀ (M : TS) (H : Heap) (locs : List Loc) (ls : Array Slot), lw_I s D ac dE h0 m0 am AX AM o1 o2 N0 M H locs → lv_has ls 9 [(0, .ref b), (1, .ref h0), (2, .ref m0), (3, .ref o1), (4, .ref o2), (5, .int (nI i))] → W p l e room_1 s m #[Value.ref b] below meth c H locs (cells + 20) (slots + 500) (lw_Z below #[Value.ref b] s) (F0 m 2164 ls [])) : W p l e room_1 s m #[Value.ref b] below meth c H locs cells slots (lw_Z below #[Value.ref b] s) (F0 m 744 ls []) := by
  obtain ⟨⟨hx, hb, hml, hown, hts, hX, hbl, hst⟩, ⟨hK, hF, hO, hN⟩, ⟨aX, aM, a1, a2⟩, ⟨n1, n2, n12, nM⟩, hA⟩ := X0
  obtain ⟨hI, ⟨α, GX, hP, hMX⟩, ⟨th, GM, hR, hMM⟩, ⟨f1, hM1⟩, ⟨f2, hM2⟩, hS, hN0⟩ := I0
  have S0 : CallFix p m c code 9 s #[Value.ref b] wsL_law RL := ⟨hx, hb, hml, hown, hts⟩
  have hbA : ¬ lw_A s b := Nat.not_le.mpr hbl
  have hAX : ∀ q, H.size ≤ q → AX q := fun q h => hA q (Nat.le_trans hN0 h)
  refine lv_aload_n hx hb dL_law_744 rfl (lv_at hl 1 rfl) ?_
  refine lv_aload_n hx hb dL_law_745 rfl (lv_at hl 0 rfl) ?_
  refine lv_iload hx hb dL_law_746 (lv_at hl 5 rfl) ?_
  refine lv_iconst (v := 1) hx hb dL_law_748 (by decide) ?_
  refine lv_iadd hx hb dL_law_749 ?_
  refine va_sld hx hb hX hbl hbA hS (lw_in (k := 1) (by omega) hL) dL_law_750 ?_
  refine lv_aload_n hx hb dL_law_751 rfl (lv_at hl 3 rfl) ?_
  refine vx_calli (A1 := fun q => AX q ∨ q = o1) (free := fun q => AX q ∨ q = o1) (vx_runSX (As := [.ref h0, .int (xs (nI i + 1).toNatClampNeg), .ref o1]) (rest := []) S0 (c_L_treeSize l hst AX o1 D ac dE _ hP hI f1 (xs (nI i + 1).toNatClampNeg)) (vx_cwSW 3 hts gL_law_L_treeSize rfl rfl rfl (by decide +kernel) ⟨Nat.le_of_ble_eq_true rfl, Nat.le_of_ble_eq_true rfl⟩) ⟨fun a U g mk q => ⟨q.1, tkW.blind U g mk a q.2⟩, fun U hU hW => ⟨rfl, tkW.law hMX hM1 n1 hN hK hAX aX hF hO hS U hU hW⟩⟩ rfl rfl hl.1 rfl (lv_room (Nat.le_of_ble_eq_true rfl)) dL_law_752 ⟨by show _ ≤ 603072; omega, by show _ ≤ 7211114; omega⟩) hS (fun q _ h => h.elim (fun h => aX q h) (fun h => by rw [h]; exact a1)) (fun q h => h.elim (fun h => aX q h) (fun h => by rw [h]; exact a1)) (fun q _ h => h.elim) (fun _ _ _ _ _ _ _ _ _ _ h => h.elim) (fun r u t H9 locs ht hal hp hBB hz hq hS => ?_)
  rw [ht] at hBB
  obtain ⟨G9, f9⟩ := u
  obtain ⟨hr9, hv9, α9, hP9⟩ := hp
  obtain ⟨hMX, hM1⟩ := hBB
  dsimp only at hv9 hP9 hMX hM1
  have hM2 := hM2.kept (H1 := H9) (fun q h2 h3 => hq q h2 (fun z => z.elim (fun z => n2 (by rw [← h3]; exact z)) (fun z => n12 (z.symm.trans h3))))
  have hMM := hMM.kept (H1 := H9) (fun q h2 h3 => hq q h2 (fun z => z.elim (nM q h3).1 (nM q h3).2.1))
  have hN0 := Nat.le_trans hN0 hz
  clear hq hz hAX
  refine lv_istore (lv' := [(6, .int r), (0, .ref b), (1, .ref h0), (2, .ref m0), (3, .ref o1), (4, .ref o2), (5, .int (nI i))]) hx hb dL_law_755 hl (by decide) rfl (fun ls hl => ?_)
  refine lv_aload_n hx hb dL_law_757 rfl (lv_at hl 3 rfl) ?_
  refine lv_aload_n hx hb dL_law_758 rfl (lv_at hl 1 rfl) ?_
  refine lv_iload hx hb dL_law_759 (lv_at hl 6 rfl) ?_
  refine lv_iconst (v := 1) hx hb dL_law_761 (by decide) ?_
  refine lv_iadd hx hb dL_law_762 ?_
  refine va_sld hx hb hX hbl hbA hS (lw_in (k := 1) (by omega) hL) dL_law_763 ?_
  refine va_calli (A1 := AM) (free := AM) (va_runV (As := [.int (xs (nI i + 1).toNatClampNeg)]) (rest := []) S0 (c_X5_treeSize l AM D ac _ hR hI.w (xs (nI i + 1).toNatClampNeg)) (cwV 1 hts gL_law_X5_treeSize rfl rfl rfl (by decide +kernel) ⟨Nat.le_of_ble_eq_true rfl, Nat.le_of_ble_eq_true rfl⟩) ⟨fun a U g mk q => ⟨q.1, tkJ.blind U g mk a q.2⟩, tk_recv hK hMM hR.1 rfl, fun U hU hW => ⟨rfl, tkJ.at hMM hK U hU hW⟩⟩ rfl rfl hl.1 rfl (lv_room (Nat.le_of_ble_eq_true rfl)) dL_law_764 ⟨by show _ ≤ 603072; omega, by show _ ≤ 7211114; omega⟩) hS (fun q _ h => aM q h) (fun q h => aM q h) (fun r2 G2 t H2 locs ht hal hp2 hBB hz hq hS => ?_)
  have hMM : tkM AM D G2 H2 := by rw [← ht]; exact hBB
  have hMX := hMX.kept (H1 := H2) (fun q h2 h3 => hq q h2 (fun z => (nM q z).1 h3))
  have hM1 := hM1.kept (H1 := H2) (fun q h2 h3 => hq q h2 (fun z => (nM q z).2.1 h3))
  have hM2 := hM2.kept (H1 := H2) (fun q h2 h3 => hq q h2 (fun z => (nM q z).2.2 h3))
  have hN0 := Nat.le_trans hN0 hz
  clear hq hz hBB
  obtain ⟨hR2, hr2⟩ := hp2
  refine lv_istore (lv' := [(7, .int r2), (6, .int r), (0, .ref b), (1, .ref h0), (2, .ref m0), (3, .ref o1), (4, .ref o2), (5, .int (nI i))]) hx hb dL_law_767 hl (by decide) rfl (fun ls hl => ?_)
  refine lv_aload_n hx hb dL_law_769 rfl (lv_at hl 4 rfl) ?_
  refine tk_cVi (As := []) S0 (c_X5_thrown l AM D ac _ hR2) (cwV 0 hts gL_law_X5_thrown rfl rfl rfl (by decide +kernel) ⟨Nat.le_of_ble_eq_true rfl, Nat.le_of_ble_eq_true rfl⟩) (tkJ.blind) (tkJ.at hMM hK) (tk_recv hK hMM hR2.1 rfl) rfl hl.1 rfl (Nat.le_of_ble_eq_true rfl) dL_law_770 ⟨by show _ ≤ 603072; omega, by show _ ≤ 7211114; omega⟩ (fun r3 hr3 => ?_)
  refine lv_iload hx hb dL_law_773 (lv_at hl 1 rfl) ?_
  refine lv_icmp_eq (tgt := 780) hx hb dL_law_775 (by decide) (fun _ => ?_) (fun c9 => absurd (hr3.trans hr9.symm) c9)
  refine lv_iload hx hb dL_law_780 (lv_at hl 1 rfl) ?_
  refine lv_if_ne (tgt := 797) hx hb dL_law_782 (by decide) (fun _ => ?_) (fun c9 => ?_)
  · refine lv_goto (tgt := 2164) hx hb dL_law_797 (by decide) ?_
    refine W.widen (k := cells + 20) (n := slots + 500) (by omega) (by omega) ?_
    exact kk (S_treeSize M (xs (nI i + 1).toNatClampNeg)).2.1 _ _ ls ⟨(by rw [rd_treeSize]; exact hI), ⟨_, _, hP9, hMX⟩, ⟨_, _, hR2, hMM⟩, ⟨_, hM1⟩, ⟨_, hM2⟩, hS, hN0⟩ (lv_sub hl [2, 3, 4, 5, 6, 7] rfl)
  · have hv9 := hv9 (hr9.symm.trans c9)
    refine lv_aload_n hx hb dL_law_785 rfl (lv_at hl 5 rfl) ?_
    refine lv_iconst (v := 0) hx hb dL_law_786 (by decide) ?_
    refine tk_lald hx hb hK hM1 4 (va_up_self _ _ _) rfl (by unfold vp_in; decide) dL_law_787 ?_
    refine lv_iload hx hb dL_law_788 (lv_at hl 0 rfl) ?_
    refine lv_i2l hx hb dL_law_790 rfl ?_
    have hv9 : f9 (0 : Int32).toNatClampNeg = r2.toInt64 := by rw [hr2]; exact hv9
    rw [hv9]
    refine W.lcmp hx hb dL_law_791 ?_
    refine lv_if_eq (tgt := 797) hx hb dL_law_792 (by decide) (fun _ => ?_) (fun c8 => absurd (lself _) c8)
    refine lv_goto (tgt := 2164) hx hb dL_law_797 (by decide) ?_
    refine W.widen (k := cells + 20) (n := slots + 500) (by omega) (by omega) ?_
    exact kk (S_treeSize M (xs (nI i + 1).toNatClampNeg)).2.1 _ _ ls ⟨(by rw [rd_treeSize]; exact hI), ⟨_, _, hP9, hMX⟩, ⟨_, _, hR2, hMM⟩, ⟨_, hM1⟩, ⟨_, hM2⟩, hS, hN0⟩ (lv_sub hl [2, 3, 4, 5, 6, 7] rfl)
set_option maxHeartbeats 4000000 in
set_option maxRecDepth 100000 in
theorem law_canBegin {p : Program} {l : Launch} {e : Env} {s : State} {m : MethodId} {below : List Frame} {meth : Method} {c : Code} {b L : Nat} {xs : Nat → Int32} {D : va_G} {ac : Nat → ClassId} {dE h0 m0 : Nat} {am : Nat → Nat} {AX AM : Nat → Prop} {o1 o2 N0 i cells slots : Nat} {M : TS} {H : Heap} {locs : List Loc} {ls : Array Slot} (X0 : lw_X p l s m c b L xs D ac dE AX AM o1 o2 N0) (I0 : lw_I s D ac dE h0 m0 am AX AM o1 o2 N0 M H locs) (hL : L ≤ 2560) (hi : i + 5 ≤ L) (hc : cells + 20 ≤ 603072) (hs : slots + 500 ≤ 7211114) (hl : lv_has ls 9 [(0, .ref b), (1, .ref h0), (2, .ref m0), (3, .ref o1), (4, .ref o2), (5, .int (nI i))])
    (kk : ∀ (M : TS) (H : Heap) (locs : List Loc) (ls : Array Slot), lw_I s D ac dE h0 m0 am AX AM o1 o2 N0 M H locs → lv_has ls 9 [(0, .ref b), (1, .ref h0), (2, .ref m0), (3, .ref o1), (4, .ref o2), (5, .int (nI i))] → W p l e room_1 s m #[Value.ref b] below meth c H locs (cells + 20) (slots + 500) (lw_Z below #[Value.ref b] s) (F0 m 2164 ls [])) : W p l e room_1 s m #[Value.ref b] below meth c H locs cells slots (lw_Z below #[Value.ref b] s) (F0 m 800 ls []) := by
  obtain ⟨⟨hx, hb, hml, hown, hts, hX, hbl, hst⟩, ⟨hK, hF, hO, hN⟩, ⟨aX, aM, a1, a2⟩, ⟨n1, n2, n12, nM⟩, hA⟩ := X0
  obtain ⟨hI, ⟨α, GX, hP, hMX⟩, ⟨th, GM, hR, hMM⟩, ⟨f1, hM1⟩, ⟨f2, hM2⟩, hS, hN0⟩ := I0
  have S0 : CallFix p m c code 9 s #[Value.ref b] wsL_law RL := ⟨hx, hb, hml, hown, hts⟩
  have hbA : ¬ lw_A s b := Nat.not_le.mpr hbl
  have hAX : ∀ q, H.size ≤ q → AX q := fun q h => hA q (Nat.le_trans hN0 h)
  refine lv_aload_n hx hb dL_law_800 rfl (lv_at hl 1 rfl) ?_
  refine lv_aload_n hx hb dL_law_801 rfl (lv_at hl 0 rfl) ?_
  refine lv_iload hx hb dL_law_802 (lv_at hl 5 rfl) ?_
  refine lv_iconst (v := 1) hx hb dL_law_804 (by decide) ?_
  refine lv_iadd hx hb dL_law_805 ?_
  refine va_sld hx hb hX hbl hbA hS (lw_in (k := 1) (by omega) hL) dL_law_806 ?_
  refine lv_aload_n hx hb dL_law_807 rfl (lv_at hl 3 rfl) ?_
  refine vx_calli (A1 := fun q => AX q ∨ q = o1) (free := fun q => AX q ∨ q = o1) (vx_runSX (As := [.ref h0, .int (xs (nI i + 1).toNatClampNeg), .ref o1]) (rest := []) S0 (c_L_canBegin l hst AX o1 D ac dE _ hP hI f1 (xs (nI i + 1).toNatClampNeg)) (vx_cwSW 3 hts gL_law_L_canBegin rfl rfl rfl (by decide +kernel) ⟨Nat.le_of_ble_eq_true rfl, Nat.le_of_ble_eq_true rfl⟩) ⟨fun a U g mk q => ⟨q.1, tkW.blind U g mk a q.2⟩, fun U hU hW => ⟨rfl, tkW.law hMX hM1 n1 hN hK hAX aX hF hO hS U hU hW⟩⟩ rfl rfl hl.1 rfl (lv_room (Nat.le_of_ble_eq_true rfl)) dL_law_808 ⟨by show _ ≤ 603072; omega, by show _ ≤ 7211114; omega⟩) hS (fun q _ h => h.elim (fun h => aX q h) (fun h => by rw [h]; exact a1)) (fun q h => h.elim (fun h => aX q h) (fun h => by rw [h]; exact a1)) (fun q _ h => h.elim) (fun _ _ _ _ _ _ _ _ _ _ h => h.elim) (fun r u t H9 locs ht hal hp hBB hz hq hS => ?_)
  rw [ht] at hBB
  obtain ⟨G9, f9⟩ := u
  obtain ⟨hr9, hv9, α9, hP9⟩ := hp
  obtain ⟨hMX, hM1⟩ := hBB
  dsimp only at hv9 hP9 hMX hM1
  have hM2 := hM2.kept (H1 := H9) (fun q h2 h3 => hq q h2 (fun z => z.elim (fun z => n2 (by rw [← h3]; exact z)) (fun z => n12 (z.symm.trans h3))))
  have hMM := hMM.kept (H1 := H9) (fun q h2 h3 => hq q h2 (fun z => z.elim (nM q h3).1 (nM q h3).2.1))
  have hN0 := Nat.le_trans hN0 hz
  clear hq hz hAX
  refine lv_istore (lv' := [(6, .int r), (0, .ref b), (1, .ref h0), (2, .ref m0), (3, .ref o1), (4, .ref o2), (5, .int (nI i))]) hx hb dL_law_811 hl (by decide) rfl (fun ls hl => ?_)
  refine lv_aload_n hx hb dL_law_813 rfl (lv_at hl 3 rfl) ?_
  refine lv_aload_n hx hb dL_law_814 rfl (lv_at hl 1 rfl) ?_
  refine lv_iload hx hb dL_law_815 (lv_at hl 6 rfl) ?_
  refine lv_iconst (v := 1) hx hb dL_law_817 (by decide) ?_
  refine lv_iadd hx hb dL_law_818 ?_
  refine va_sld hx hb hX hbl hbA hS (lw_in (k := 1) (by omega) hL) dL_law_819 ?_
  refine va_calli (A1 := AM) (free := AM) (va_runV (As := [.int (xs (nI i + 1).toNatClampNeg)]) (rest := []) S0 (c_X5_canBegin l AM D ac _ hR hI.w (xs (nI i + 1).toNatClampNeg)) (cwV 1 hts gL_law_X5_canBegin rfl rfl rfl (by decide +kernel) ⟨Nat.le_of_ble_eq_true rfl, Nat.le_of_ble_eq_true rfl⟩) ⟨fun a U g mk q => ⟨q.1, tkJ.blind U g mk a q.2⟩, tk_recv hK hMM hR.1 rfl, fun U hU hW => ⟨rfl, tkJ.at hMM hK U hU hW⟩⟩ rfl rfl hl.1 rfl (lv_room (Nat.le_of_ble_eq_true rfl)) dL_law_820 ⟨by show _ ≤ 603072; omega, by show _ ≤ 7211114; omega⟩) hS (fun q _ h => aM q h) (fun q h => aM q h) (fun r2 G2 t H2 locs ht hal hp2 hBB hz hq hS => ?_)
  have hMM : tkM AM D G2 H2 := by rw [← ht]; exact hBB
  have hMX := hMX.kept (H1 := H2) (fun q h2 h3 => hq q h2 (fun z => (nM q z).1 h3))
  have hM1 := hM1.kept (H1 := H2) (fun q h2 h3 => hq q h2 (fun z => (nM q z).2.1 h3))
  have hM2 := hM2.kept (H1 := H2) (fun q h2 h3 => hq q h2 (fun z => (nM q z).2.2 h3))
  have hN0 := Nat.le_trans hN0 hz
  clear hq hz hBB
  obtain ⟨hR2, hr2⟩ := hp2
  refine lv_istore (lv' := [(7, .int r2), (6, .int r), (0, .ref b), (1, .ref h0), (2, .ref m0), (3, .ref o1), (4, .ref o2), (5, .int (nI i))]) hx hb dL_law_823 hl (by decide) rfl (fun ls hl => ?_)
  refine lv_aload_n hx hb dL_law_825 rfl (lv_at hl 4 rfl) ?_
  refine tk_cVi (As := []) S0 (c_X5_thrown l AM D ac _ hR2) (cwV 0 hts gL_law_X5_thrown rfl rfl rfl (by decide +kernel) ⟨Nat.le_of_ble_eq_true rfl, Nat.le_of_ble_eq_true rfl⟩) (tkJ.blind) (tkJ.at hMM hK) (tk_recv hK hMM hR2.1 rfl) rfl hl.1 rfl (Nat.le_of_ble_eq_true rfl) dL_law_826 ⟨by show _ ≤ 603072; omega, by show _ ≤ 7211114; omega⟩ (fun r3 hr3 => ?_)
  refine lv_iload hx hb dL_law_829 (lv_at hl 1 rfl) ?_
  refine lv_icmp_eq (tgt := 836) hx hb dL_law_831 (by decide) (fun _ => ?_) (fun c9 => absurd (hr3.trans hr9.symm) c9)
  refine lv_iload hx hb dL_law_836 (lv_at hl 1 rfl) ?_
  refine lv_if_ne (tgt := 860) hx hb dL_law_838 (by decide) (fun _ => ?_) (fun c9 => ?_)
  · refine lv_goto (tgt := 2164) hx hb dL_law_860 (by decide) ?_
    refine W.widen (k := cells + 20) (n := slots + 500) (by omega) (by omega) ?_
    exact kk (S_canBegin M (xs (nI i + 1).toNatClampNeg)).2.1 _ _ ls ⟨(by rw [rd_canBegin]; exact hI), ⟨_, _, hP9, hMX⟩, ⟨_, _, hR2, hMM⟩, ⟨_, hM1⟩, ⟨_, hM2⟩, hS, hN0⟩ (lv_sub hl [2, 3, 4, 5, 6, 7] rfl)
  · have hv9 := hv9 (hr9.symm.trans c9)
    refine lv_aload_n hx hb dL_law_841 rfl (lv_at hl 5 rfl) ?_
    refine lv_iconst (v := 0) hx hb dL_law_842 (by decide) ?_
    refine tk_lald hx hb hK hM1 4 (va_up_self _ _ _) rfl (by unfold vp_in; decide) dL_law_843 ?_
    refine lv_iload hx hb dL_law_844 (lv_at hl 0 rfl) ?_
    rcases hr2 with ⟨rfl, hb2⟩ | ⟨rfl, hb2⟩
    · refine lv_if_eq (tgt := 853) hx hb dL_law_846 (by decide) (fun z => absurd z (by decide)) (fun _ => ?_)
      refine lv_lconst (v := 1) hx hb dL_law_849 (by decide) ?_
      refine lv_goto (tgt := 854) hx hb dL_law_850 (by decide) ?_
      have hv9 : f9 (0 : Int32).toNatClampNeg = 1 := by have h8 := hv9; rw [if_pos hb2] at h8; exact h8
      rw [hv9]
      refine W.lcmp hx hb dL_law_854 ?_
      refine lv_if_eq (tgt := 860) hx hb dL_law_855 (by decide) (fun _ => ?_) (fun c8 => absurd (lself _) c8)
      refine lv_goto (tgt := 2164) hx hb dL_law_860 (by decide) ?_
      refine W.widen (k := cells + 20) (n := slots + 500) (by omega) (by omega) ?_
      exact kk (S_canBegin M (xs (nI i + 1).toNatClampNeg)).2.1 _ _ ls ⟨(by rw [rd_canBegin]; exact hI), ⟨_, _, hP9, hMX⟩, ⟨_, _, hR2, hMM⟩, ⟨_, hM1⟩, ⟨_, hM2⟩, hS, hN0⟩ (lv_sub hl [2, 3, 4, 5, 6, 7] rfl)
    · refine lv_if_eq (tgt := 853) hx hb dL_law_846 (by decide) (fun _ => ?_) (fun z => absurd rfl z)
      refine lv_lconst (v := 0) hx hb dL_law_853 (by decide) ?_
      have hv9 : f9 (0 : Int32).toNatClampNeg = 0 := by have h8 := hv9; rw [hb2] at h8; exact h8
      rw [hv9]
      refine W.lcmp hx hb dL_law_854 ?_
      refine lv_if_eq (tgt := 860) hx hb dL_law_855 (by decide) (fun _ => ?_) (fun c8 => absurd (lself _) c8)
      refine lv_goto (tgt := 2164) hx hb dL_law_860 (by decide) ?_
      refine W.widen (k := cells + 20) (n := slots + 500) (by omega) (by omega) ?_
      exact kk (S_canBegin M (xs (nI i + 1).toNatClampNeg)).2.1 _ _ ls ⟨(by rw [rd_canBegin]; exact hI), ⟨_, _, hP9, hMX⟩, ⟨_, _, hR2, hMM⟩, ⟨_, hM1⟩, ⟨_, hM2⟩, hS, hN0⟩ (lv_sub hl [2, 3, 4, 5, 6, 7] rfl)
set_option maxHeartbeats 4000000 in
set_option maxRecDepth 100000 in
theorem law_tasks {p : Program} {l : Launch} {e : Env} {s : State} {m : MethodId} {below : List Frame} {meth : Method} {c : Code} {b L : Nat} {xs : Nat → Int32} {D : va_G} {ac : Nat → ClassId} {dE h0 m0 : Nat} {am : Nat → Nat} {AX AM : Nat → Prop} {o1 o2 N0 i cells slots : Nat} {M : TS} {H : Heap} {locs : List Loc} {ls : Array Slot} (X0 : lw_X p l s m c b L xs D ac dE AX AM o1 o2 N0) (I0 : lw_I s D ac dE h0 m0 am AX AM o1 o2 N0 M H locs) (hL : L ≤ 2560) (hi : i + 5 ≤ L) (hc : cells + 20 ≤ 603072) (hs : slots + 500 ≤ 7211114) (hl : lv_has ls 9 [(0, .ref b), (1, .ref h0), (2, .ref m0), (3, .ref o1), (4, .ref o2), (5, .int (nI i))])
    (kk : ∀ (M : TS) (H : Heap) (locs : List Loc) (ls : Array Slot), lw_I s D ac dE h0 m0 am AX AM o1 o2 N0 M H locs → lv_has ls 9 [(0, .ref b), (1, .ref h0), (2, .ref m0), (3, .ref o1), (4, .ref o2), (5, .int (nI i))] → W p l e room_1 s m #[Value.ref b] below meth c H locs (cells + 20) (slots + 500) (lw_Z below #[Value.ref b] s) (F0 m 2164 ls [])) : W p l e room_1 s m #[Value.ref b] below meth c H locs cells slots (lw_Z below #[Value.ref b] s) (F0 m 863 ls []) := by
  obtain ⟨⟨hx, hb, hml, hown, hts, hX, hbl, hst⟩, ⟨hK, hF, hO, hN⟩, ⟨aX, aM, a1, a2⟩, ⟨n1, n2, n12, nM⟩, hA⟩ := X0
  obtain ⟨hI, ⟨α, GX, hP, hMX⟩, ⟨th, GM, hR, hMM⟩, ⟨f1, hM1⟩, ⟨f2, hM2⟩, hS, hN0⟩ := I0
  have S0 : CallFix p m c code 9 s #[Value.ref b] wsL_law RL := ⟨hx, hb, hml, hown, hts⟩
  have hbA : ¬ lw_A s b := Nat.not_le.mpr hbl
  have hAX : ∀ q, H.size ≤ q → AX q := fun q h => hA q (Nat.le_trans hN0 h)
  refine lv_aload_n hx hb dL_law_863 rfl (lv_at hl 1 rfl) ?_
  refine tk_cVi (As := []) S0 (c_X4_tasks (nv := 0) l AX D ac dE _ hP) (cwV 0 hts gL_law_X4_tasks rfl rfl rfl (by decide +kernel) ⟨Nat.le_of_ble_eq_true rfl, Nat.le_of_ble_eq_true rfl⟩) (tkX.blind) (fun U hU hW => tkX.law hMX hK hAX aX hF hO hS U hU hW) (tk_recv hK hMX hP.h rfl) rfl hl.1 rfl (Nat.le_of_ble_eq_true rfl) dL_law_864 ⟨by show _ ≤ 603072; omega, by show _ ≤ 7211114; omega⟩ (fun r hr => ?_)
  refine lv_aload_n hx hb dL_law_867 rfl (lv_at hl 2 rfl) ?_
  refine va_calli (A1 := AM) (free := AM) (va_runV (As := []) (rest := [.int r]) S0 (c_X5_tasks l AM D ac _ hR) (cwV 0 hts gL_law_X5_tasks rfl rfl rfl (by decide +kernel) ⟨Nat.le_of_ble_eq_true rfl, Nat.le_of_ble_eq_true rfl⟩) ⟨fun a U g mk q => ⟨q.1, tkJ.blind U g mk a q.2⟩, tk_recv hK hMM hR.1 rfl, fun U hU hW => ⟨rfl, tkJ.at hMM hK U hU hW⟩⟩ rfl rfl hl.1 rfl (lv_room (Nat.le_of_ble_eq_true rfl)) dL_law_868 ⟨by show _ ≤ 603072; omega, by show _ ≤ 7211114; omega⟩) hS (fun q _ h => aM q h) (fun q h => aM q h) (fun r2 G2 t H2 locs ht hal hp2 hBB hz hq hS => ?_)
  have hMM : tkM AM D G2 H2 := by rw [← ht]; exact hBB
  have hMX := hMX.kept (H1 := H2) (fun q h2 h3 => hq q h2 (fun z => (nM q z).1 h3))
  have hM1 := hM1.kept (H1 := H2) (fun q h2 h3 => hq q h2 (fun z => (nM q z).2.1 h3))
  have hM2 := hM2.kept (H1 := H2) (fun q h2 h3 => hq q h2 (fun z => (nM q z).2.2 h3))
  have hN0 := Nat.le_trans hN0 hz
  obtain ⟨hR2, hr2⟩ := hp2
  refine W.widen (k := cells + 20) (n := slots + 500) (by omega) (by omega) ?_
  have hrr : r = r2 := by rw [hr, hr2]; exact hI.w.t.1.symm
  refine lv_icmp_eq (tgt := 2164) hx hb dL_law_871 (by decide) (fun _ => ?_) (fun c8 => absurd hrr c8)
  exact kk M _ _ ls ⟨hI, ⟨_, _, hP, hMX⟩, ⟨_, _, hR2, hMM⟩, ⟨_, hM1⟩, ⟨_, hM2⟩, hS, hN0⟩ hl
set_option maxHeartbeats 4000000 in
set_option maxRecDepth 100000 in
theorem law_note {p : Program} {l : Launch} {e : Env} {s : State} {m : MethodId} {below : List Frame} {meth : Method} {c : Code} {b L : Nat} {xs : Nat → Int32} {D : va_G} {ac : Nat → ClassId} {dE h0 m0 : Nat} {am : Nat → Nat} {AX AM : Nat → Prop} {o1 o2 N0 i cells slots : Nat} {M : TS} {H : Heap} {locs : List Loc} {ls : Array Slot} (X0 : lw_X p l s m c b L xs D ac dE AX AM o1 o2 N0) (I0 : lw_I s D ac dE h0 m0 am AX AM o1 o2 N0 M H locs) (hL : L ≤ 2560) (hi : i + 5 ≤ L) (hc : cells + 20 ≤ 603072) (hs : slots + 500 ≤ 7211114) (hl : lv_has ls 9 [(0, .ref b), (1, .ref h0), (2, .ref m0), (3, .ref o1), (4, .ref o2), (5, .int (nI i))])
    (kk : ∀ (M : TS) (H : Heap) (locs : List Loc) (ls : Array Slot), lw_I s D ac dE h0 m0 am AX AM o1 o2 N0 M H locs → lv_has ls 9 [(0, .ref b), (1, .ref h0), (2, .ref m0), (3, .ref o1), (4, .ref o2), (5, .int (nI i))] → W p l e room_1 s m #[Value.ref b] below meth c H locs (cells + 20) (slots + 500) (lw_Z below #[Value.ref b] s) (F0 m 2164 ls [])) : W p l e room_1 s m #[Value.ref b] below meth c H locs cells slots (lw_Z below #[Value.ref b] s) (F0 m 876 ls []) := by
  obtain ⟨⟨hx, hb, hml, hown, hts, hX, hbl, hst⟩, ⟨hK, hF, hO, hN⟩, ⟨aX, aM, a1, a2⟩, ⟨n1, n2, n12, nM⟩, hA⟩ := X0
  obtain ⟨hI, ⟨α, GX, hP, hMX⟩, ⟨th, GM, hR, hMM⟩, ⟨f1, hM1⟩, ⟨f2, hM2⟩, hS, hN0⟩ := I0
  have S0 : CallFix p m c code 9 s #[Value.ref b] wsL_law RL := ⟨hx, hb, hml, hown, hts⟩
  have hbA : ¬ lw_A s b := Nat.not_le.mpr hbl
  have hAX : ∀ q, H.size ≤ q → AX q := fun q h => hA q (Nat.le_trans hN0 h)
  refine lv_aload_n hx hb dL_law_876 rfl (lv_at hl 1 rfl) ?_
  refine lv_aload_n hx hb dL_law_877 rfl (lv_at hl 0 rfl) ?_
  refine lv_iload hx hb dL_law_878 (lv_at hl 5 rfl) ?_
  refine lv_iconst (v := 1) hx hb dL_law_880 (by decide) ?_
  refine lv_iadd hx hb dL_law_881 ?_
  refine va_sld hx hb hX hbl hbA hS (lw_in (k := 1) (by omega) hL) dL_law_882 ?_
  refine lv_aload_n hx hb dL_law_883 rfl (lv_at hl 0 rfl) ?_
  refine lv_iload hx hb dL_law_884 (lv_at hl 5 rfl) ?_
  refine lv_iconst (v := 2) hx hb dL_law_886 (by decide) ?_
  refine lv_iadd hx hb dL_law_887 ?_
  refine va_sld hx hb hX hbl hbA hS (lw_in (k := 2) (by omega) hL) dL_law_888 ?_
  refine lv_aload_n hx hb dL_law_889 rfl (lv_at hl 0 rfl) ?_
  refine lv_iload hx hb dL_law_890 (lv_at hl 5 rfl) ?_
  refine lv_iconst (v := 3) hx hb dL_law_892 (by decide) ?_
  refine lv_iadd hx hb dL_law_893 ?_
  refine va_sld hx hb hX hbl hbA hS (lw_in (k := 3) (by omega) hL) dL_law_894 ?_
  refine lv_aload_n hx hb dL_law_895 rfl (lv_at hl 0 rfl) ?_
  refine lv_iload hx hb dL_law_896 (lv_at hl 5 rfl) ?_
  refine lv_iconst (v := 4) hx hb dL_law_898 (by decide) ?_
  refine lv_iadd hx hb dL_law_899 ?_
  refine va_sld hx hb hX hbl hbA hS (lw_in (k := 4) (by omega) hL) dL_law_900 ?_
  refine lv_aload_n hx hb dL_law_901 rfl (lv_at hl 3 rfl) ?_
  refine vx_calli (A1 := fun q => AX q ∨ q = o1) (free := fun q => AX q ∨ q = o1) (vx_runSX (As := [.ref h0, .int (xs (nI i + 1).toNatClampNeg), .int (xs (nI i + 2).toNatClampNeg), .int (xs (nI i + 3).toNatClampNeg), .int (xs (nI i + 4).toNatClampNeg), .ref o1]) (rest := []) S0 (c_L_note l hst AX o1 D ac dE _ hP hI f1 (xs (nI i + 1).toNatClampNeg) (xs (nI i + 2).toNatClampNeg) (xs (nI i + 3).toNatClampNeg) (xs (nI i + 4).toNatClampNeg)) (vx_cwSW 6 hts gL_law_L_note rfl rfl rfl (by decide +kernel) ⟨Nat.le_of_ble_eq_true rfl, Nat.le_of_ble_eq_true rfl⟩) ⟨fun a U g mk q => ⟨q.1, tkW.blind U g mk a q.2⟩, fun U hU hW => ⟨rfl, tkW.law hMX hM1 n1 hN hK hAX aX hF hO hS U hU hW⟩⟩ rfl rfl hl.1 rfl (lv_room (Nat.le_of_ble_eq_true rfl)) dL_law_902 ⟨by show _ ≤ 603072; omega, by show _ ≤ 7211114; omega⟩) hS (fun q _ h => h.elim (fun h => aX q h) (fun h => by rw [h]; exact a1)) (fun q h => h.elim (fun h => aX q h) (fun h => by rw [h]; exact a1)) (fun q _ h => h.elim) (fun _ _ _ _ _ _ _ _ _ _ h => h.elim) (fun r u t H9 locs ht hal hp hBB hz hq hS => ?_)
  rw [ht] at hBB
  obtain ⟨G9, f9⟩ := u
  obtain ⟨hr9, hv9, α9, hP9⟩ := hp
  obtain ⟨hMX, hM1⟩ := hBB
  dsimp only at hv9 hP9 hMX hM1
  have hM2 := hM2.kept (H1 := H9) (fun q h2 h3 => hq q h2 (fun z => z.elim (fun z => n2 (by rw [← h3]; exact z)) (fun z => n12 (z.symm.trans h3))))
  have hMM := hMM.kept (H1 := H9) (fun q h2 h3 => hq q h2 (fun z => z.elim (nM q h3).1 (nM q h3).2.1))
  have hN0 := Nat.le_trans hN0 hz
  clear hq hz hAX
  refine lv_istore (lv' := [(6, .int r), (0, .ref b), (1, .ref h0), (2, .ref m0), (3, .ref o1), (4, .ref o2), (5, .int (nI i))]) hx hb dL_law_905 hl (by decide) rfl (fun ls hl => ?_)
  refine lv_aload_n hx hb dL_law_907 rfl (lv_at hl 3 rfl) ?_
  refine lv_aload_n hx hb dL_law_908 rfl (lv_at hl 1 rfl) ?_
  refine lv_iload hx hb dL_law_909 (lv_at hl 6 rfl) ?_
  refine lv_iconst (v := 1) hx hb dL_law_911 (by decide) ?_
  refine lv_iadd hx hb dL_law_912 ?_
  refine va_sld hx hb hX hbl hbA hS (lw_in (k := 1) (by omega) hL) dL_law_913 ?_
  refine lv_aload_n hx hb dL_law_914 rfl (lv_at hl 1 rfl) ?_
  refine lv_iload hx hb dL_law_915 (lv_at hl 6 rfl) ?_
  refine lv_iconst (v := 2) hx hb dL_law_917 (by decide) ?_
  refine lv_iadd hx hb dL_law_918 ?_
  refine va_sld hx hb hX hbl hbA hS (lw_in (k := 2) (by omega) hL) dL_law_919 ?_
  refine lv_aload_n hx hb dL_law_920 rfl (lv_at hl 1 rfl) ?_
  refine lv_iload hx hb dL_law_921 (lv_at hl 6 rfl) ?_
  refine lv_iconst (v := 3) hx hb dL_law_923 (by decide) ?_
  refine lv_iadd hx hb dL_law_924 ?_
  refine va_sld hx hb hX hbl hbA hS (lw_in (k := 3) (by omega) hL) dL_law_925 ?_
  refine lv_aload_n hx hb dL_law_926 rfl (lv_at hl 1 rfl) ?_
  refine lv_iload hx hb dL_law_927 (lv_at hl 6 rfl) ?_
  refine lv_iconst (v := 4) hx hb dL_law_929 (by decide) ?_
  refine lv_iadd hx hb dL_law_930 ?_
  refine va_sld hx hb hX hbl hbA hS (lw_in (k := 4) (by omega) hL) dL_law_931 ?_
  refine va_calli (A1 := AM) (free := AM) (va_runV (As := [.int (xs (nI i + 1).toNatClampNeg), .int (xs (nI i + 2).toNatClampNeg), .int (xs (nI i + 3).toNatClampNeg), .int (xs (nI i + 4).toNatClampNeg)]) (rest := []) S0 (c_X5_note l AM D ac _ hR hI.w (xs (nI i + 1).toNatClampNeg) (xs (nI i + 2).toNatClampNeg) (xs (nI i + 3).toNatClampNeg) (xs (nI i + 4).toNatClampNeg)) (cwV 4 hts gL_law_X5_note rfl rfl rfl (by decide +kernel) ⟨Nat.le_of_ble_eq_true rfl, Nat.le_of_ble_eq_true rfl⟩) ⟨fun a U g mk q => ⟨q.1, tkJ.blind U g mk a q.2⟩, tk_recv hK hMM hR.1 rfl, fun U hU hW => ⟨rfl, tkJ.at hMM hK U hU hW⟩⟩ rfl rfl hl.1 rfl (lv_room (Nat.le_of_ble_eq_true rfl)) dL_law_932 ⟨by show _ ≤ 603072; omega, by show _ ≤ 7211114; omega⟩) hS (fun q _ h => aM q h) (fun q h => aM q h) (fun r2 G2 t H2 locs ht hal hp2 hBB hz hq hS => ?_)
  have hMM : tkM AM D G2 H2 := by rw [← ht]; exact hBB
  have hMX := hMX.kept (H1 := H2) (fun q h2 h3 => hq q h2 (fun z => (nM q z).1 h3))
  have hM1 := hM1.kept (H1 := H2) (fun q h2 h3 => hq q h2 (fun z => (nM q z).2.1 h3))
  have hM2 := hM2.kept (H1 := H2) (fun q h2 h3 => hq q h2 (fun z => (nM q z).2.2 h3))
  have hN0 := Nat.le_trans hN0 hz
  clear hq hz hBB
  obtain ⟨hR2, hr2⟩ := hp2
  refine lv_istore (lv' := [(7, .int r2), (6, .int r), (0, .ref b), (1, .ref h0), (2, .ref m0), (3, .ref o1), (4, .ref o2), (5, .int (nI i))]) hx hb dL_law_935 hl (by decide) rfl (fun ls hl => ?_)
  refine lv_aload_n hx hb dL_law_937 rfl (lv_at hl 4 rfl) ?_
  refine tk_cVi (As := []) S0 (c_X5_thrown l AM D ac _ hR2) (cwV 0 hts gL_law_X5_thrown rfl rfl rfl (by decide +kernel) ⟨Nat.le_of_ble_eq_true rfl, Nat.le_of_ble_eq_true rfl⟩) (tkJ.blind) (tkJ.at hMM hK) (tk_recv hK hMM hR2.1 rfl) rfl hl.1 rfl (Nat.le_of_ble_eq_true rfl) dL_law_938 ⟨by show _ ≤ 603072; omega, by show _ ≤ 7211114; omega⟩ (fun r3 hr3 => ?_)
  refine lv_iload hx hb dL_law_941 (lv_at hl 1 rfl) ?_
  refine lv_icmp_eq (tgt := 948) hx hb dL_law_943 (by decide) (fun _ => ?_) (fun c9 => absurd (hr3.trans hr9.symm) c9)
  refine lv_iload hx hb dL_law_948 (lv_at hl 1 rfl) ?_
  refine lv_if_ne (tgt := 965) hx hb dL_law_950 (by decide) (fun _ => ?_) (fun c9 => ?_)
  · refine lv_goto (tgt := 2164) hx hb dL_law_965 (by decide) ?_
    refine W.widen (k := cells + 20) (n := slots + 500) (by omega) (by omega) ?_
    exact kk (S_note M (xs (nI i + 1).toNatClampNeg) (xs (nI i + 2).toNatClampNeg) (xs (nI i + 3).toNatClampNeg) (xs (nI i + 4).toNatClampNeg)).2.1 _ _ ls ⟨keep_note hI (xs (nI i + 1).toNatClampNeg) (xs (nI i + 2).toNatClampNeg) (xs (nI i + 3).toNatClampNeg) (xs (nI i + 4).toNatClampNeg), ⟨_, _, hP9, hMX⟩, ⟨_, _, hR2, hMM⟩, ⟨_, hM1⟩, ⟨_, hM2⟩, hS, hN0⟩ (lv_sub hl [2, 3, 4, 5, 6, 7] rfl)
  · have hv9 := hv9 (hr9.symm.trans c9)
    refine lv_aload_n hx hb dL_law_953 rfl (lv_at hl 5 rfl) ?_
    refine lv_iconst (v := 0) hx hb dL_law_954 (by decide) ?_
    refine tk_lald hx hb hK hM1 4 (va_up_self _ _ _) rfl (by unfold vp_in; decide) dL_law_955 ?_
    refine lv_iload hx hb dL_law_956 (lv_at hl 0 rfl) ?_
    refine lv_i2l hx hb dL_law_958 rfl ?_
    have hv9 : f9 (0 : Int32).toNatClampNeg = r2.toInt64 := by rw [hr2]; exact hv9
    rw [hv9]
    refine W.lcmp hx hb dL_law_959 ?_
    refine lv_if_eq (tgt := 965) hx hb dL_law_960 (by decide) (fun _ => ?_) (fun c8 => absurd (lself _) c8)
    refine lv_goto (tgt := 2164) hx hb dL_law_965 (by decide) ?_
    refine W.widen (k := cells + 20) (n := slots + 500) (by omega) (by omega) ?_
    exact kk (S_note M (xs (nI i + 1).toNatClampNeg) (xs (nI i + 2).toNatClampNeg) (xs (nI i + 3).toNatClampNeg) (xs (nI i + 4).toNatClampNeg)).2.1 _ _ ls ⟨keep_note hI (xs (nI i + 1).toNatClampNeg) (xs (nI i + 2).toNatClampNeg) (xs (nI i + 3).toNatClampNeg) (xs (nI i + 4).toNatClampNeg), ⟨_, _, hP9, hMX⟩, ⟨_, _, hR2, hMM⟩, ⟨_, hM1⟩, ⟨_, hM2⟩, hS, hN0⟩ (lv_sub hl [2, 3, 4, 5, 6, 7] rfl)
set_option maxHeartbeats 4000000 in
set_option maxRecDepth 100000 in
theorem law_approve {p : Program} {l : Launch} {e : Env} {s : State} {m : MethodId} {below : List Frame} {meth : Method} {c : Code} {b L : Nat} {xs : Nat → Int32} {D : va_G} {ac : Nat → ClassId} {dE h0 m0 : Nat} {am : Nat → Nat} {AX AM : Nat → Prop} {o1 o2 N0 i cells slots : Nat} {M : TS} {H : Heap} {locs : List Loc} {ls : Array Slot} (X0 : lw_X p l s m c b L xs D ac dE AX AM o1 o2 N0) (I0 : lw_I s D ac dE h0 m0 am AX AM o1 o2 N0 M H locs) (hL : L ≤ 2560) (hi : i + 5 ≤ L) (hc : cells + 20 ≤ 603072) (hs : slots + 500 ≤ 7211114) (hl : lv_has ls 9 [(0, .ref b), (1, .ref h0), (2, .ref m0), (3, .ref o1), (4, .ref o2), (5, .int (nI i))])
    (kk : ∀ (M : TS) (H : Heap) (locs : List Loc) (ls : Array Slot), lw_I s D ac dE h0 m0 am AX AM o1 o2 N0 M H locs → lv_has ls 9 [(0, .ref b), (1, .ref h0), (2, .ref m0), (3, .ref o1), (4, .ref o2), (5, .int (nI i))] → W p l e room_1 s m #[Value.ref b] below meth c H locs (cells + 20) (slots + 500) (lw_Z below #[Value.ref b] s) (F0 m 2164 ls [])) : W p l e room_1 s m #[Value.ref b] below meth c H locs cells slots (lw_Z below #[Value.ref b] s) (F0 m 968 ls []) := by
  obtain ⟨⟨hx, hb, hml, hown, hts, hX, hbl, hst⟩, ⟨hK, hF, hO, hN⟩, ⟨aX, aM, a1, a2⟩, ⟨n1, n2, n12, nM⟩, hA⟩ := X0
  obtain ⟨hI, ⟨α, GX, hP, hMX⟩, ⟨th, GM, hR, hMM⟩, ⟨f1, hM1⟩, ⟨f2, hM2⟩, hS, hN0⟩ := I0
  have S0 : CallFix p m c code 9 s #[Value.ref b] wsL_law RL := ⟨hx, hb, hml, hown, hts⟩
  have hbA : ¬ lw_A s b := Nat.not_le.mpr hbl
  have hAX : ∀ q, H.size ≤ q → AX q := fun q h => hA q (Nat.le_trans hN0 h)
  refine lv_aload_n hx hb dL_law_968 rfl (lv_at hl 1 rfl) ?_
  refine lv_aload_n hx hb dL_law_969 rfl (lv_at hl 0 rfl) ?_
  refine lv_iload hx hb dL_law_970 (lv_at hl 5 rfl) ?_
  refine lv_iconst (v := 1) hx hb dL_law_972 (by decide) ?_
  refine lv_iadd hx hb dL_law_973 ?_
  refine va_sld hx hb hX hbl hbA hS (lw_in (k := 1) (by omega) hL) dL_law_974 ?_
  refine lv_aload_n hx hb dL_law_975 rfl (lv_at hl 3 rfl) ?_
  refine vx_calli (A1 := fun q => AX q ∨ q = o1) (free := fun q => AX q ∨ q = o1) (vx_runSX (As := [.ref h0, .int (xs (nI i + 1).toNatClampNeg), .ref o1]) (rest := []) S0 (c_L_approve l hst AX o1 D ac dE _ hP hI f1 (xs (nI i + 1).toNatClampNeg)) (vx_cwSW 3 hts gL_law_L_approve rfl rfl rfl (by decide +kernel) ⟨Nat.le_of_ble_eq_true rfl, Nat.le_of_ble_eq_true rfl⟩) ⟨fun a U g mk q => ⟨q.1, tkW.blind U g mk a q.2⟩, fun U hU hW => ⟨rfl, tkW.law hMX hM1 n1 hN hK hAX aX hF hO hS U hU hW⟩⟩ rfl rfl hl.1 rfl (lv_room (Nat.le_of_ble_eq_true rfl)) dL_law_976 ⟨by show _ ≤ 603072; omega, by show _ ≤ 7211114; omega⟩) hS (fun q _ h => h.elim (fun h => aX q h) (fun h => by rw [h]; exact a1)) (fun q h => h.elim (fun h => aX q h) (fun h => by rw [h]; exact a1)) (fun q _ h => h.elim) (fun _ _ _ _ _ _ _ _ _ _ h => h.elim) (fun r u t H9 locs ht hal hp hBB hz hq hS => ?_)
  rw [ht] at hBB
  obtain ⟨G9, f9⟩ := u
  obtain ⟨hr9, hv9, α9, hP9⟩ := hp
  obtain ⟨hMX, hM1⟩ := hBB
  dsimp only at hv9 hP9 hMX hM1
  have hM2 := hM2.kept (H1 := H9) (fun q h2 h3 => hq q h2 (fun z => z.elim (fun z => n2 (by rw [← h3]; exact z)) (fun z => n12 (z.symm.trans h3))))
  have hMM := hMM.kept (H1 := H9) (fun q h2 h3 => hq q h2 (fun z => z.elim (nM q h3).1 (nM q h3).2.1))
  have hN0 := Nat.le_trans hN0 hz
  clear hq hz hAX
  refine lv_istore (lv' := [(6, .int r), (0, .ref b), (1, .ref h0), (2, .ref m0), (3, .ref o1), (4, .ref o2), (5, .int (nI i))]) hx hb dL_law_979 hl (by decide) rfl (fun ls hl => ?_)
  refine lv_aload_n hx hb dL_law_981 rfl (lv_at hl 3 rfl) ?_
  refine lv_aload_n hx hb dL_law_982 rfl (lv_at hl 1 rfl) ?_
  refine lv_iload hx hb dL_law_983 (lv_at hl 6 rfl) ?_
  refine lv_iconst (v := 1) hx hb dL_law_985 (by decide) ?_
  refine lv_iadd hx hb dL_law_986 ?_
  refine va_sld hx hb hX hbl hbA hS (lw_in (k := 1) (by omega) hL) dL_law_987 ?_
  refine va_calli (A1 := AM) (free := AM) (va_runV (As := [.int (xs (nI i + 1).toNatClampNeg)]) (rest := []) S0 (c_X5_approve l AM D ac _ hR hI.w (xs (nI i + 1).toNatClampNeg)) (cwV 1 hts gL_law_X5_approve rfl rfl rfl (by decide +kernel) ⟨Nat.le_of_ble_eq_true rfl, Nat.le_of_ble_eq_true rfl⟩) ⟨fun a U g mk q => ⟨q.1, tkJ.blind U g mk a q.2⟩, tk_recv hK hMM hR.1 rfl, fun U hU hW => ⟨rfl, tkJ.at hMM hK U hU hW⟩⟩ rfl rfl hl.1 rfl (lv_room (Nat.le_of_ble_eq_true rfl)) dL_law_988 ⟨by show _ ≤ 603072; omega, by show _ ≤ 7211114; omega⟩) hS (fun q _ h => aM q h) (fun q h => aM q h) (fun r2 G2 t H2 locs ht hal hp2 hBB hz hq hS => ?_)
  have hMM : tkM AM D G2 H2 := by rw [← ht]; exact hBB
  have hMX := hMX.kept (H1 := H2) (fun q h2 h3 => hq q h2 (fun z => (nM q z).1 h3))
  have hM1 := hM1.kept (H1 := H2) (fun q h2 h3 => hq q h2 (fun z => (nM q z).2.1 h3))
  have hM2 := hM2.kept (H1 := H2) (fun q h2 h3 => hq q h2 (fun z => (nM q z).2.2 h3))
  have hN0 := Nat.le_trans hN0 hz
  clear hq hz hBB
  obtain ⟨hR2, hr2⟩ := hp2
  refine lv_istore (lv' := [(7, .int r2), (6, .int r), (0, .ref b), (1, .ref h0), (2, .ref m0), (3, .ref o1), (4, .ref o2), (5, .int (nI i))]) hx hb dL_law_991 hl (by decide) rfl (fun ls hl => ?_)
  refine lv_aload_n hx hb dL_law_993 rfl (lv_at hl 4 rfl) ?_
  refine tk_cVi (As := []) S0 (c_X5_thrown l AM D ac _ hR2) (cwV 0 hts gL_law_X5_thrown rfl rfl rfl (by decide +kernel) ⟨Nat.le_of_ble_eq_true rfl, Nat.le_of_ble_eq_true rfl⟩) (tkJ.blind) (tkJ.at hMM hK) (tk_recv hK hMM hR2.1 rfl) rfl hl.1 rfl (Nat.le_of_ble_eq_true rfl) dL_law_994 ⟨by show _ ≤ 603072; omega, by show _ ≤ 7211114; omega⟩ (fun r3 hr3 => ?_)
  refine lv_iload hx hb dL_law_997 (lv_at hl 1 rfl) ?_
  refine lv_icmp_eq (tgt := 1004) hx hb dL_law_999 (by decide) (fun _ => ?_) (fun c9 => absurd (hr3.trans hr9.symm) c9)
  refine lv_iload hx hb dL_law_1004 (lv_at hl 1 rfl) ?_
  refine lv_if_ne (tgt := 1021) hx hb dL_law_1006 (by decide) (fun _ => ?_) (fun c9 => ?_)
  · refine lv_goto (tgt := 2164) hx hb dL_law_1021 (by decide) ?_
    refine W.widen (k := cells + 20) (n := slots + 500) (by omega) (by omega) ?_
    exact kk (S_approve M (xs (nI i + 1).toNatClampNeg)).2.1 _ _ ls ⟨keep_approve hI (xs (nI i + 1).toNatClampNeg), ⟨_, _, hP9, hMX⟩, ⟨_, _, hR2, hMM⟩, ⟨_, hM1⟩, ⟨_, hM2⟩, hS, hN0⟩ (lv_sub hl [2, 3, 4, 5, 6, 7] rfl)
  · have hv9 := hv9 (hr9.symm.trans c9)
    refine lv_aload_n hx hb dL_law_1009 rfl (lv_at hl 5 rfl) ?_
    refine lv_iconst (v := 0) hx hb dL_law_1010 (by decide) ?_
    refine tk_lald hx hb hK hM1 4 (va_up_self _ _ _) rfl (by unfold vp_in; decide) dL_law_1011 ?_
    refine lv_iload hx hb dL_law_1012 (lv_at hl 0 rfl) ?_
    refine lv_i2l hx hb dL_law_1014 rfl ?_
    have hv9 : f9 (0 : Int32).toNatClampNeg = r2.toInt64 := by rw [hr2]; exact hv9
    rw [hv9]
    refine W.lcmp hx hb dL_law_1015 ?_
    refine lv_if_eq (tgt := 1021) hx hb dL_law_1016 (by decide) (fun _ => ?_) (fun c8 => absurd (lself _) c8)
    refine lv_goto (tgt := 2164) hx hb dL_law_1021 (by decide) ?_
    refine W.widen (k := cells + 20) (n := slots + 500) (by omega) (by omega) ?_
    exact kk (S_approve M (xs (nI i + 1).toNatClampNeg)).2.1 _ _ ls ⟨keep_approve hI (xs (nI i + 1).toNatClampNeg), ⟨_, _, hP9, hMX⟩, ⟨_, _, hR2, hMM⟩, ⟨_, hM1⟩, ⟨_, hM2⟩, hS, hN0⟩ (lv_sub hl [2, 3, 4, 5, 6, 7] rfl)
set_option maxHeartbeats 4000000 in
set_option maxRecDepth 100000 in
theorem law_lock {p : Program} {l : Launch} {e : Env} {s : State} {m : MethodId} {below : List Frame} {meth : Method} {c : Code} {b L : Nat} {xs : Nat → Int32} {D : va_G} {ac : Nat → ClassId} {dE h0 m0 : Nat} {am : Nat → Nat} {AX AM : Nat → Prop} {o1 o2 N0 i cells slots : Nat} {M : TS} {H : Heap} {locs : List Loc} {ls : Array Slot} (X0 : lw_X p l s m c b L xs D ac dE AX AM o1 o2 N0) (I0 : lw_I s D ac dE h0 m0 am AX AM o1 o2 N0 M H locs) (hL : L ≤ 2560) (hi : i + 5 ≤ L) (hc : cells + 20 ≤ 603072) (hs : slots + 500 ≤ 7211114) (hl : lv_has ls 9 [(0, .ref b), (1, .ref h0), (2, .ref m0), (3, .ref o1), (4, .ref o2), (5, .int (nI i))])
    (kk : ∀ (M : TS) (H : Heap) (locs : List Loc) (ls : Array Slot), lw_I s D ac dE h0 m0 am AX AM o1 o2 N0 M H locs → lv_has ls 9 [(0, .ref b), (1, .ref h0), (2, .ref m0), (3, .ref o1), (4, .ref o2), (5, .int (nI i))] → W p l e room_1 s m #[Value.ref b] below meth c H locs (cells + 20) (slots + 500) (lw_Z below #[Value.ref b] s) (F0 m 2164 ls [])) : W p l e room_1 s m #[Value.ref b] below meth c H locs cells slots (lw_Z below #[Value.ref b] s) (F0 m 1024 ls []) := by
  obtain ⟨⟨hx, hb, hml, hown, hts, hX, hbl, hst⟩, ⟨hK, hF, hO, hN⟩, ⟨aX, aM, a1, a2⟩, ⟨n1, n2, n12, nM⟩, hA⟩ := X0
  obtain ⟨hI, ⟨α, GX, hP, hMX⟩, ⟨th, GM, hR, hMM⟩, ⟨f1, hM1⟩, ⟨f2, hM2⟩, hS, hN0⟩ := I0
  have S0 : CallFix p m c code 9 s #[Value.ref b] wsL_law RL := ⟨hx, hb, hml, hown, hts⟩
  have hbA : ¬ lw_A s b := Nat.not_le.mpr hbl
  have hAX : ∀ q, H.size ≤ q → AX q := fun q h => hA q (Nat.le_trans hN0 h)
  refine lv_aload_n hx hb dL_law_1024 rfl (lv_at hl 1 rfl) ?_
  refine lv_aload_n hx hb dL_law_1025 rfl (lv_at hl 0 rfl) ?_
  refine lv_iload hx hb dL_law_1026 (lv_at hl 5 rfl) ?_
  refine lv_iconst (v := 1) hx hb dL_law_1028 (by decide) ?_
  refine lv_iadd hx hb dL_law_1029 ?_
  refine va_sld hx hb hX hbl hbA hS (lw_in (k := 1) (by omega) hL) dL_law_1030 ?_
  refine lv_aload_n hx hb dL_law_1031 rfl (lv_at hl 3 rfl) ?_
  refine vx_calli (A1 := fun q => AX q ∨ q = o1) (free := fun q => AX q ∨ q = o1) (vx_runSX (As := [.ref h0, .int (xs (nI i + 1).toNatClampNeg), .ref o1]) (rest := []) S0 (c_L_lock l hst AX o1 D ac dE _ hP hI f1 (xs (nI i + 1).toNatClampNeg)) (vx_cwSW 3 hts gL_law_L_lock rfl rfl rfl (by decide +kernel) ⟨Nat.le_of_ble_eq_true rfl, Nat.le_of_ble_eq_true rfl⟩) ⟨fun a U g mk q => ⟨q.1, tkW.blind U g mk a q.2⟩, fun U hU hW => ⟨rfl, tkW.law hMX hM1 n1 hN hK hAX aX hF hO hS U hU hW⟩⟩ rfl rfl hl.1 rfl (lv_room (Nat.le_of_ble_eq_true rfl)) dL_law_1032 ⟨by show _ ≤ 603072; omega, by show _ ≤ 7211114; omega⟩) hS (fun q _ h => h.elim (fun h => aX q h) (fun h => by rw [h]; exact a1)) (fun q h => h.elim (fun h => aX q h) (fun h => by rw [h]; exact a1)) (fun q _ h => h.elim) (fun _ _ _ _ _ _ _ _ _ _ h => h.elim) (fun r u t H9 locs ht hal hp hBB hz hq hS => ?_)
  rw [ht] at hBB
  obtain ⟨G9, f9⟩ := u
  obtain ⟨hr9, hv9, α9, hP9⟩ := hp
  obtain ⟨hMX, hM1⟩ := hBB
  dsimp only at hv9 hP9 hMX hM1
  have hM2 := hM2.kept (H1 := H9) (fun q h2 h3 => hq q h2 (fun z => z.elim (fun z => n2 (by rw [← h3]; exact z)) (fun z => n12 (z.symm.trans h3))))
  have hMM := hMM.kept (H1 := H9) (fun q h2 h3 => hq q h2 (fun z => z.elim (nM q h3).1 (nM q h3).2.1))
  have hN0 := Nat.le_trans hN0 hz
  clear hq hz hAX
  refine lv_istore (lv' := [(6, .int r), (0, .ref b), (1, .ref h0), (2, .ref m0), (3, .ref o1), (4, .ref o2), (5, .int (nI i))]) hx hb dL_law_1035 hl (by decide) rfl (fun ls hl => ?_)
  refine lv_aload_n hx hb dL_law_1037 rfl (lv_at hl 3 rfl) ?_
  refine lv_aload_n hx hb dL_law_1038 rfl (lv_at hl 1 rfl) ?_
  refine lv_iload hx hb dL_law_1039 (lv_at hl 6 rfl) ?_
  refine lv_iconst (v := 1) hx hb dL_law_1041 (by decide) ?_
  refine lv_iadd hx hb dL_law_1042 ?_
  refine va_sld hx hb hX hbl hbA hS (lw_in (k := 1) (by omega) hL) dL_law_1043 ?_
  refine va_calli (A1 := AM) (free := AM) (va_runV (As := [.int (xs (nI i + 1).toNatClampNeg)]) (rest := []) S0 (c_X5_lock l AM D ac _ hR hI.w (xs (nI i + 1).toNatClampNeg)) (cwV 1 hts gL_law_X5_lock rfl rfl rfl (by decide +kernel) ⟨Nat.le_of_ble_eq_true rfl, Nat.le_of_ble_eq_true rfl⟩) ⟨fun a U g mk q => ⟨q.1, tkJ.blind U g mk a q.2⟩, tk_recv hK hMM hR.1 rfl, fun U hU hW => ⟨rfl, tkJ.at hMM hK U hU hW⟩⟩ rfl rfl hl.1 rfl (lv_room (Nat.le_of_ble_eq_true rfl)) dL_law_1044 ⟨by show _ ≤ 603072; omega, by show _ ≤ 7211114; omega⟩) hS (fun q _ h => aM q h) (fun q h => aM q h) (fun r2 G2 t H2 locs ht hal hp2 hBB hz hq hS => ?_)
  have hMM : tkM AM D G2 H2 := by rw [← ht]; exact hBB
  have hMX := hMX.kept (H1 := H2) (fun q h2 h3 => hq q h2 (fun z => (nM q z).1 h3))
  have hM1 := hM1.kept (H1 := H2) (fun q h2 h3 => hq q h2 (fun z => (nM q z).2.1 h3))
  have hM2 := hM2.kept (H1 := H2) (fun q h2 h3 => hq q h2 (fun z => (nM q z).2.2 h3))
  have hN0 := Nat.le_trans hN0 hz
  clear hq hz hBB
  obtain ⟨hR2, hr2⟩ := hp2
  refine lv_istore (lv' := [(7, .int r2), (6, .int r), (0, .ref b), (1, .ref h0), (2, .ref m0), (3, .ref o1), (4, .ref o2), (5, .int (nI i))]) hx hb dL_law_1047 hl (by decide) rfl (fun ls hl => ?_)
  refine lv_aload_n hx hb dL_law_1049 rfl (lv_at hl 4 rfl) ?_
  refine tk_cVi (As := []) S0 (c_X5_thrown l AM D ac _ hR2) (cwV 0 hts gL_law_X5_thrown rfl rfl rfl (by decide +kernel) ⟨Nat.le_of_ble_eq_true rfl, Nat.le_of_ble_eq_true rfl⟩) (tkJ.blind) (tkJ.at hMM hK) (tk_recv hK hMM hR2.1 rfl) rfl hl.1 rfl (Nat.le_of_ble_eq_true rfl) dL_law_1050 ⟨by show _ ≤ 603072; omega, by show _ ≤ 7211114; omega⟩ (fun r3 hr3 => ?_)
  refine lv_iload hx hb dL_law_1053 (lv_at hl 1 rfl) ?_
  refine lv_icmp_eq (tgt := 1060) hx hb dL_law_1055 (by decide) (fun _ => ?_) (fun c9 => absurd (hr3.trans hr9.symm) c9)
  refine lv_iload hx hb dL_law_1060 (lv_at hl 1 rfl) ?_
  refine lv_if_ne (tgt := 1077) hx hb dL_law_1062 (by decide) (fun _ => ?_) (fun c9 => ?_)
  · refine lv_goto (tgt := 2164) hx hb dL_law_1077 (by decide) ?_
    refine W.widen (k := cells + 20) (n := slots + 500) (by omega) (by omega) ?_
    exact kk (S_lock M (xs (nI i + 1).toNatClampNeg)).2.1 _ _ ls ⟨keep_lock hI (xs (nI i + 1).toNatClampNeg), ⟨_, _, hP9, hMX⟩, ⟨_, _, hR2, hMM⟩, ⟨_, hM1⟩, ⟨_, hM2⟩, hS, hN0⟩ (lv_sub hl [2, 3, 4, 5, 6, 7] rfl)
  · have hv9 := hv9 (hr9.symm.trans c9)
    refine lv_aload_n hx hb dL_law_1065 rfl (lv_at hl 5 rfl) ?_
    refine lv_iconst (v := 0) hx hb dL_law_1066 (by decide) ?_
    refine tk_lald hx hb hK hM1 4 (va_up_self _ _ _) rfl (by unfold vp_in; decide) dL_law_1067 ?_
    refine lv_iload hx hb dL_law_1068 (lv_at hl 0 rfl) ?_
    refine lv_i2l hx hb dL_law_1070 rfl ?_
    have hv9 : f9 (0 : Int32).toNatClampNeg = r2.toInt64 := by rw [hr2]; exact hv9
    rw [hv9]
    refine W.lcmp hx hb dL_law_1071 ?_
    refine lv_if_eq (tgt := 1077) hx hb dL_law_1072 (by decide) (fun _ => ?_) (fun c8 => absurd (lself _) c8)
    refine lv_goto (tgt := 2164) hx hb dL_law_1077 (by decide) ?_
    refine W.widen (k := cells + 20) (n := slots + 500) (by omega) (by omega) ?_
    exact kk (S_lock M (xs (nI i + 1).toNatClampNeg)).2.1 _ _ ls ⟨keep_lock hI (xs (nI i + 1).toNatClampNeg), ⟨_, _, hP9, hMX⟩, ⟨_, _, hR2, hMM⟩, ⟨_, hM1⟩, ⟨_, hM2⟩, hS, hN0⟩ (lv_sub hl [2, 3, 4, 5, 6, 7] rfl)
set_option maxHeartbeats 4000000 in
set_option maxRecDepth 100000 in
theorem law_entryState {p : Program} {l : Launch} {e : Env} {s : State} {m : MethodId} {below : List Frame} {meth : Method} {c : Code} {b L : Nat} {xs : Nat → Int32} {D : va_G} {ac : Nat → ClassId} {dE h0 m0 : Nat} {am : Nat → Nat} {AX AM : Nat → Prop} {o1 o2 N0 i cells slots : Nat} {M : TS} {H : Heap} {locs : List Loc} {ls : Array Slot} (X0 : lw_X p l s m c b L xs D ac dE AX AM o1 o2 N0) (I0 : lw_I s D ac dE h0 m0 am AX AM o1 o2 N0 M H locs) (hL : L ≤ 2560) (hi : i + 5 ≤ L) (hc : cells + 20 ≤ 603072) (hs : slots + 500 ≤ 7211114) (hl : lv_has ls 9 [(0, .ref b), (1, .ref h0), (2, .ref m0), (3, .ref o1), (4, .ref o2), (5, .int (nI i))])
    (kk : ∀ (M : TS) (H : Heap) (locs : List Loc) (ls : Array Slot), lw_I s D ac dE h0 m0 am AX AM o1 o2 N0 M H locs → lv_has ls 9 [(0, .ref b), (1, .ref h0), (2, .ref m0), (3, .ref o1), (4, .ref o2), (5, .int (nI i))] → W p l e room_1 s m #[Value.ref b] below meth c H locs (cells + 20) (slots + 500) (lw_Z below #[Value.ref b] s) (F0 m 2164 ls [])) : W p l e room_1 s m #[Value.ref b] below meth c H locs cells slots (lw_Z below #[Value.ref b] s) (F0 m 1080 ls []) := by
  obtain ⟨⟨hx, hb, hml, hown, hts, hX, hbl, hst⟩, ⟨hK, hF, hO, hN⟩, ⟨aX, aM, a1, a2⟩, ⟨n1, n2, n12, nM⟩, hA⟩ := X0
  obtain ⟨hI, ⟨α, GX, hP, hMX⟩, ⟨th, GM, hR, hMM⟩, ⟨f1, hM1⟩, ⟨f2, hM2⟩, hS, hN0⟩ := I0
  have S0 : CallFix p m c code 9 s #[Value.ref b] wsL_law RL := ⟨hx, hb, hml, hown, hts⟩
  have hbA : ¬ lw_A s b := Nat.not_le.mpr hbl
  have hAX : ∀ q, H.size ≤ q → AX q := fun q h => hA q (Nat.le_trans hN0 h)
  refine lv_aload_n hx hb dL_law_1080 rfl (lv_at hl 1 rfl) ?_
  refine lv_aload_n hx hb dL_law_1081 rfl (lv_at hl 0 rfl) ?_
  refine lv_iload hx hb dL_law_1082 (lv_at hl 5 rfl) ?_
  refine lv_iconst (v := 1) hx hb dL_law_1084 (by decide) ?_
  refine lv_iadd hx hb dL_law_1085 ?_
  refine va_sld hx hb hX hbl hbA hS (lw_in (k := 1) (by omega) hL) dL_law_1086 ?_
  refine lv_aload_n hx hb dL_law_1087 rfl (lv_at hl 3 rfl) ?_
  refine vx_calli (A1 := fun q => AX q ∨ q = o1) (free := fun q => AX q ∨ q = o1) (vx_runSX (As := [.ref h0, .int (xs (nI i + 1).toNatClampNeg), .ref o1]) (rest := []) S0 (c_L_entryState l hst AX o1 D ac dE _ hP hI f1 (xs (nI i + 1).toNatClampNeg)) (vx_cwSW 3 hts gL_law_L_entryState rfl rfl rfl (by decide +kernel) ⟨Nat.le_of_ble_eq_true rfl, Nat.le_of_ble_eq_true rfl⟩) ⟨fun a U g mk q => ⟨q.1, tkW.blind U g mk a q.2⟩, fun U hU hW => ⟨rfl, tkW.law hMX hM1 n1 hN hK hAX aX hF hO hS U hU hW⟩⟩ rfl rfl hl.1 rfl (lv_room (Nat.le_of_ble_eq_true rfl)) dL_law_1088 ⟨by show _ ≤ 603072; omega, by show _ ≤ 7211114; omega⟩) hS (fun q _ h => h.elim (fun h => aX q h) (fun h => by rw [h]; exact a1)) (fun q h => h.elim (fun h => aX q h) (fun h => by rw [h]; exact a1)) (fun q _ h => h.elim) (fun _ _ _ _ _ _ _ _ _ _ h => h.elim) (fun r u t H9 locs ht hal hp hBB hz hq hS => ?_)
  rw [ht] at hBB
  obtain ⟨G9, f9⟩ := u
  obtain ⟨hr9, hv9, α9, hP9⟩ := hp
  obtain ⟨hMX, hM1⟩ := hBB
  dsimp only at hv9 hP9 hMX hM1
  have hM2 := hM2.kept (H1 := H9) (fun q h2 h3 => hq q h2 (fun z => z.elim (fun z => n2 (by rw [← h3]; exact z)) (fun z => n12 (z.symm.trans h3))))
  have hMM := hMM.kept (H1 := H9) (fun q h2 h3 => hq q h2 (fun z => z.elim (nM q h3).1 (nM q h3).2.1))
  have hN0 := Nat.le_trans hN0 hz
  clear hq hz hAX
  refine lv_istore (lv' := [(6, .int r), (0, .ref b), (1, .ref h0), (2, .ref m0), (3, .ref o1), (4, .ref o2), (5, .int (nI i))]) hx hb dL_law_1091 hl (by decide) rfl (fun ls hl => ?_)
  refine lv_aload_n hx hb dL_law_1093 rfl (lv_at hl 3 rfl) ?_
  refine lv_aload_n hx hb dL_law_1094 rfl (lv_at hl 1 rfl) ?_
  refine lv_iload hx hb dL_law_1095 (lv_at hl 6 rfl) ?_
  refine lv_iconst (v := 1) hx hb dL_law_1097 (by decide) ?_
  refine lv_iadd hx hb dL_law_1098 ?_
  refine va_sld hx hb hX hbl hbA hS (lw_in (k := 1) (by omega) hL) dL_law_1099 ?_
  refine va_calli (A1 := AM) (free := AM) (va_runV (As := [.int (xs (nI i + 1).toNatClampNeg)]) (rest := []) S0 (c_X5_entryState l AM D ac _ hR hI.w hI.w1 (xs (nI i + 1).toNatClampNeg)) (cwV 1 hts gL_law_X5_entryState rfl rfl rfl (by decide +kernel) ⟨Nat.le_of_ble_eq_true rfl, Nat.le_of_ble_eq_true rfl⟩) ⟨fun a U g mk q => ⟨q.1, tkJ.blind U g mk a q.2⟩, tk_recv hK hMM hR.1 rfl, fun U hU hW => ⟨rfl, tkJ.at hMM hK U hU hW⟩⟩ rfl rfl hl.1 rfl (lv_room (Nat.le_of_ble_eq_true rfl)) dL_law_1100 ⟨by show _ ≤ 603072; omega, by show _ ≤ 7211114; omega⟩) hS (fun q _ h => aM q h) (fun q h => aM q h) (fun r2 G2 t H2 locs ht hal hp2 hBB hz hq hS => ?_)
  have hMM : tkM AM D G2 H2 := by rw [← ht]; exact hBB
  have hMX := hMX.kept (H1 := H2) (fun q h2 h3 => hq q h2 (fun z => (nM q z).1 h3))
  have hM1 := hM1.kept (H1 := H2) (fun q h2 h3 => hq q h2 (fun z => (nM q z).2.1 h3))
  have hM2 := hM2.kept (H1 := H2) (fun q h2 h3 => hq q h2 (fun z => (nM q z).2.2 h3))
  have hN0 := Nat.le_trans hN0 hz
  clear hq hz hBB
  obtain ⟨hR2, hr2⟩ := hp2
  refine lv_istore (lv' := [(7, .int r2), (6, .int r), (0, .ref b), (1, .ref h0), (2, .ref m0), (3, .ref o1), (4, .ref o2), (5, .int (nI i))]) hx hb dL_law_1103 hl (by decide) rfl (fun ls hl => ?_)
  refine lv_aload_n hx hb dL_law_1105 rfl (lv_at hl 4 rfl) ?_
  refine tk_cVi (As := []) S0 (c_X5_thrown l AM D ac _ hR2) (cwV 0 hts gL_law_X5_thrown rfl rfl rfl (by decide +kernel) ⟨Nat.le_of_ble_eq_true rfl, Nat.le_of_ble_eq_true rfl⟩) (tkJ.blind) (tkJ.at hMM hK) (tk_recv hK hMM hR2.1 rfl) rfl hl.1 rfl (Nat.le_of_ble_eq_true rfl) dL_law_1106 ⟨by show _ ≤ 603072; omega, by show _ ≤ 7211114; omega⟩ (fun r3 hr3 => ?_)
  refine lv_iload hx hb dL_law_1109 (lv_at hl 1 rfl) ?_
  refine lv_icmp_eq (tgt := 1116) hx hb dL_law_1111 (by decide) (fun _ => ?_) (fun c9 => absurd (hr3.trans hr9.symm) c9)
  refine lv_iload hx hb dL_law_1116 (lv_at hl 1 rfl) ?_
  refine lv_if_ne (tgt := 1133) hx hb dL_law_1118 (by decide) (fun _ => ?_) (fun c9 => ?_)
  · refine lv_goto (tgt := 2164) hx hb dL_law_1133 (by decide) ?_
    refine W.widen (k := cells + 20) (n := slots + 500) (by omega) (by omega) ?_
    exact kk (S_entryState M (xs (nI i + 1).toNatClampNeg)).2.1 _ _ ls ⟨(by rw [rd_entryState]; exact hI), ⟨_, _, hP9, hMX⟩, ⟨_, _, hR2, hMM⟩, ⟨_, hM1⟩, ⟨_, hM2⟩, hS, hN0⟩ (lv_sub hl [2, 3, 4, 5, 6, 7] rfl)
  · have hv9 := hv9 (hr9.symm.trans c9)
    refine lv_aload_n hx hb dL_law_1121 rfl (lv_at hl 5 rfl) ?_
    refine lv_iconst (v := 0) hx hb dL_law_1122 (by decide) ?_
    refine tk_lald hx hb hK hM1 4 (va_up_self _ _ _) rfl (by unfold vp_in; decide) dL_law_1123 ?_
    refine lv_iload hx hb dL_law_1124 (lv_at hl 0 rfl) ?_
    refine lv_i2l hx hb dL_law_1126 rfl ?_
    have hv9 : f9 (0 : Int32).toNatClampNeg = r2.toInt64 := by rw [hr2]; exact hv9
    rw [hv9]
    refine W.lcmp hx hb dL_law_1127 ?_
    refine lv_if_eq (tgt := 1133) hx hb dL_law_1128 (by decide) (fun _ => ?_) (fun c8 => absurd (lself _) c8)
    refine lv_goto (tgt := 2164) hx hb dL_law_1133 (by decide) ?_
    refine W.widen (k := cells + 20) (n := slots + 500) (by omega) (by omega) ?_
    exact kk (S_entryState M (xs (nI i + 1).toNatClampNeg)).2.1 _ _ ls ⟨(by rw [rd_entryState]; exact hI), ⟨_, _, hP9, hMX⟩, ⟨_, _, hR2, hMM⟩, ⟨_, hM1⟩, ⟨_, hM2⟩, hS, hN0⟩ (lv_sub hl [2, 3, 4, 5, 6, 7] rfl)
set_option maxHeartbeats 4000000 in
set_option maxRecDepth 100000 in
theorem law_price {p : Program} {l : Launch} {e : Env} {s : State} {m : MethodId} {below : List Frame} {meth : Method} {c : Code} {b L : Nat} {xs : Nat → Int32} {D : va_G} {ac : Nat → ClassId} {dE h0 m0 : Nat} {am : Nat → Nat} {AX AM : Nat → Prop} {o1 o2 N0 i cells slots : Nat} {M : TS} {H : Heap} {locs : List Loc} {ls : Array Slot} (X0 : lw_X p l s m c b L xs D ac dE AX AM o1 o2 N0) (I0 : lw_I s D ac dE h0 m0 am AX AM o1 o2 N0 M H locs) (hL : L ≤ 2560) (hi : i + 5 ≤ L) (hc : cells + 20 ≤ 603072) (hs : slots + 500 ≤ 7211114) (hl : lv_has ls 9 [(0, .ref b), (1, .ref h0), (2, .ref m0), (3, .ref o1), (4, .ref o2), (5, .int (nI i))])
    (kk : ∀ (M : TS) (H : Heap) (locs : List Loc) (ls : Array Slot), lw_I s D ac dE h0 m0 am AX AM o1 o2 N0 M H locs → lv_has ls 9 [(0, .ref b), (1, .ref h0), (2, .ref m0), (3, .ref o1), (4, .ref o2), (5, .int (nI i))] → W p l e room_1 s m #[Value.ref b] below meth c H locs (cells + 20) (slots + 500) (lw_Z below #[Value.ref b] s) (F0 m 2164 ls [])) : W p l e room_1 s m #[Value.ref b] below meth c H locs cells slots (lw_Z below #[Value.ref b] s) (F0 m 1136 ls []) := by
  obtain ⟨⟨hx, hb, hml, hown, hts, hX, hbl, hst⟩, ⟨hK, hF, hO, hN⟩, ⟨aX, aM, a1, a2⟩, ⟨n1, n2, n12, nM⟩, hA⟩ := X0
  obtain ⟨hI, ⟨α, GX, hP, hMX⟩, ⟨th, GM, hR, hMM⟩, ⟨f1, hM1⟩, ⟨f2, hM2⟩, hS, hN0⟩ := I0
  have S0 : CallFix p m c code 9 s #[Value.ref b] wsL_law RL := ⟨hx, hb, hml, hown, hts⟩
  have hbA : ¬ lw_A s b := Nat.not_le.mpr hbl
  have hAX : ∀ q, H.size ≤ q → AX q := fun q h => hA q (Nat.le_trans hN0 h)
  refine lv_aload_n hx hb dL_law_1136 rfl (lv_at hl 1 rfl) ?_
  refine lv_aload_n hx hb dL_law_1137 rfl (lv_at hl 0 rfl) ?_
  refine lv_iload hx hb dL_law_1138 (lv_at hl 5 rfl) ?_
  refine lv_iconst (v := 1) hx hb dL_law_1140 (by decide) ?_
  refine lv_iadd hx hb dL_law_1141 ?_
  refine va_sld hx hb hX hbl hbA hS (lw_in (k := 1) (by omega) hL) dL_law_1142 ?_
  refine lv_aload_n hx hb dL_law_1143 rfl (lv_at hl 3 rfl) ?_
  refine vx_calli (A1 := fun q => AX q ∨ q = o1) (free := fun q => AX q ∨ q = o1) (vx_runSX (As := [.ref h0, .int (xs (nI i + 1).toNatClampNeg), .ref o1]) (rest := []) S0 (c_L_price l hst AX o1 D ac dE _ hP hI f1 (xs (nI i + 1).toNatClampNeg)) (vx_cwSW 3 hts gL_law_L_price rfl rfl rfl (by decide +kernel) ⟨Nat.le_of_ble_eq_true rfl, Nat.le_of_ble_eq_true rfl⟩) ⟨fun a U g mk q => ⟨q.1, tkW.blind U g mk a q.2⟩, fun U hU hW => ⟨rfl, tkW.law hMX hM1 n1 hN hK hAX aX hF hO hS U hU hW⟩⟩ rfl rfl hl.1 rfl (lv_room (Nat.le_of_ble_eq_true rfl)) dL_law_1144 ⟨by show _ ≤ 603072; omega, by show _ ≤ 7211114; omega⟩) hS (fun q _ h => h.elim (fun h => aX q h) (fun h => by rw [h]; exact a1)) (fun q h => h.elim (fun h => aX q h) (fun h => by rw [h]; exact a1)) (fun q _ h => h.elim) (fun _ _ _ _ _ _ _ _ _ _ h => h.elim) (fun r u t H9 locs ht hal hp hBB hz hq hS => ?_)
  rw [ht] at hBB
  obtain ⟨G9, f9⟩ := u
  obtain ⟨hr9, hv9, α9, hP9⟩ := hp
  obtain ⟨hMX, hM1⟩ := hBB
  dsimp only at hv9 hP9 hMX hM1
  have hM2 := hM2.kept (H1 := H9) (fun q h2 h3 => hq q h2 (fun z => z.elim (fun z => n2 (by rw [← h3]; exact z)) (fun z => n12 (z.symm.trans h3))))
  have hMM := hMM.kept (H1 := H9) (fun q h2 h3 => hq q h2 (fun z => z.elim (nM q h3).1 (nM q h3).2.1))
  have hN0 := Nat.le_trans hN0 hz
  clear hq hz hAX
  refine lv_istore (lv' := [(6, .int r), (0, .ref b), (1, .ref h0), (2, .ref m0), (3, .ref o1), (4, .ref o2), (5, .int (nI i))]) hx hb dL_law_1147 hl (by decide) rfl (fun ls hl => ?_)
  refine lv_aload_n hx hb dL_law_1149 rfl (lv_at hl 3 rfl) ?_
  refine lv_aload_n hx hb dL_law_1150 rfl (lv_at hl 1 rfl) ?_
  refine lv_iload hx hb dL_law_1151 (lv_at hl 6 rfl) ?_
  refine lv_iconst (v := 1) hx hb dL_law_1153 (by decide) ?_
  refine lv_iadd hx hb dL_law_1154 ?_
  refine va_sld hx hb hX hbl hbA hS (lw_in (k := 1) (by omega) hL) dL_law_1155 ?_
  refine va_calli (A1 := AM) (free := AM) (va_runV (As := [.int (xs (nI i + 1).toNatClampNeg)]) (rest := []) S0 (c_X5_price l AM D ac _ hR hI.w (xs (nI i + 1).toNatClampNeg)) (cwV 1 hts gL_law_X5_price rfl rfl rfl (by decide +kernel) ⟨Nat.le_of_ble_eq_true rfl, Nat.le_of_ble_eq_true rfl⟩) ⟨fun a U g mk q => ⟨q.1, tkJ.blind U g mk a q.2⟩, tk_recv hK hMM hR.1 rfl, fun U hU hW => ⟨rfl, tkJ.at hMM hK U hU hW⟩⟩ rfl rfl hl.1 rfl (lv_room (Nat.le_of_ble_eq_true rfl)) dL_law_1156 ⟨by show _ ≤ 603072; omega, by show _ ≤ 7211114; omega⟩) hS (fun q _ h => aM q h) (fun q h => aM q h) (fun r2 G2 t H2 locs ht hal hp2 hBB hz hq hS => ?_)
  have hMM : tkM AM D G2 H2 := by rw [← ht]; exact hBB
  have hMX := hMX.kept (H1 := H2) (fun q h2 h3 => hq q h2 (fun z => (nM q z).1 h3))
  have hM1 := hM1.kept (H1 := H2) (fun q h2 h3 => hq q h2 (fun z => (nM q z).2.1 h3))
  have hM2 := hM2.kept (H1 := H2) (fun q h2 h3 => hq q h2 (fun z => (nM q z).2.2 h3))
  have hN0 := Nat.le_trans hN0 hz
  clear hq hz hBB
  obtain ⟨hR2, hr2⟩ := hp2
  refine lv_istore (lv' := [(7, .int r2), (6, .int r), (0, .ref b), (1, .ref h0), (2, .ref m0), (3, .ref o1), (4, .ref o2), (5, .int (nI i))]) hx hb dL_law_1159 hl (by decide) rfl (fun ls hl => ?_)
  refine lv_aload_n hx hb dL_law_1161 rfl (lv_at hl 4 rfl) ?_
  refine tk_cVi (As := []) S0 (c_X5_thrown l AM D ac _ hR2) (cwV 0 hts gL_law_X5_thrown rfl rfl rfl (by decide +kernel) ⟨Nat.le_of_ble_eq_true rfl, Nat.le_of_ble_eq_true rfl⟩) (tkJ.blind) (tkJ.at hMM hK) (tk_recv hK hMM hR2.1 rfl) rfl hl.1 rfl (Nat.le_of_ble_eq_true rfl) dL_law_1162 ⟨by show _ ≤ 603072; omega, by show _ ≤ 7211114; omega⟩ (fun r3 hr3 => ?_)
  refine lv_iload hx hb dL_law_1165 (lv_at hl 1 rfl) ?_
  refine lv_icmp_eq (tgt := 1172) hx hb dL_law_1167 (by decide) (fun _ => ?_) (fun c9 => absurd (hr3.trans hr9.symm) c9)
  refine lv_iload hx hb dL_law_1172 (lv_at hl 1 rfl) ?_
  refine lv_if_ne (tgt := 1189) hx hb dL_law_1174 (by decide) (fun _ => ?_) (fun c9 => ?_)
  · refine lv_goto (tgt := 2164) hx hb dL_law_1189 (by decide) ?_
    refine W.widen (k := cells + 20) (n := slots + 500) (by omega) (by omega) ?_
    exact kk (S_price M (xs (nI i + 1).toNatClampNeg)).2.1 _ _ ls ⟨(by rw [rd_price]; exact hI), ⟨_, _, hP9, hMX⟩, ⟨_, _, hR2, hMM⟩, ⟨_, hM1⟩, ⟨_, hM2⟩, hS, hN0⟩ (lv_sub hl [2, 3, 4, 5, 6, 7] rfl)
  · have hv9 := hv9 (hr9.symm.trans c9)
    refine lv_aload_n hx hb dL_law_1177 rfl (lv_at hl 5 rfl) ?_
    refine lv_iconst (v := 0) hx hb dL_law_1178 (by decide) ?_
    refine tk_lald hx hb hK hM1 4 (va_up_self _ _ _) rfl (by unfold vp_in; decide) dL_law_1179 ?_
    refine lv_iload hx hb dL_law_1180 (lv_at hl 0 rfl) ?_
    refine lv_i2l hx hb dL_law_1182 rfl ?_
    have hv9 : f9 (0 : Int32).toNatClampNeg = r2.toInt64 := by rw [hr2]; exact hv9
    rw [hv9]
    refine W.lcmp hx hb dL_law_1183 ?_
    refine lv_if_eq (tgt := 1189) hx hb dL_law_1184 (by decide) (fun _ => ?_) (fun c8 => absurd (lself _) c8)
    refine lv_goto (tgt := 2164) hx hb dL_law_1189 (by decide) ?_
    refine W.widen (k := cells + 20) (n := slots + 500) (by omega) (by omega) ?_
    exact kk (S_price M (xs (nI i + 1).toNatClampNeg)).2.1 _ _ ls ⟨(by rw [rd_price]; exact hI), ⟨_, _, hP9, hMX⟩, ⟨_, _, hR2, hMM⟩, ⟨_, hM1⟩, ⟨_, hM2⟩, hS, hN0⟩ (lv_sub hl [2, 3, 4, 5, 6, 7] rfl)
set_option maxHeartbeats 4000000 in
set_option maxRecDepth 100000 in
theorem law_entries {p : Program} {l : Launch} {e : Env} {s : State} {m : MethodId} {below : List Frame} {meth : Method} {c : Code} {b L : Nat} {xs : Nat → Int32} {D : va_G} {ac : Nat → ClassId} {dE h0 m0 : Nat} {am : Nat → Nat} {AX AM : Nat → Prop} {o1 o2 N0 i cells slots : Nat} {M : TS} {H : Heap} {locs : List Loc} {ls : Array Slot} (X0 : lw_X p l s m c b L xs D ac dE AX AM o1 o2 N0) (I0 : lw_I s D ac dE h0 m0 am AX AM o1 o2 N0 M H locs) (hL : L ≤ 2560) (hi : i + 5 ≤ L) (hc : cells + 20 ≤ 603072) (hs : slots + 500 ≤ 7211114) (hl : lv_has ls 9 [(0, .ref b), (1, .ref h0), (2, .ref m0), (3, .ref o1), (4, .ref o2), (5, .int (nI i))])
    (kk : ∀ (M : TS) (H : Heap) (locs : List Loc) (ls : Array Slot), lw_I s D ac dE h0 m0 am AX AM o1 o2 N0 M H locs → lv_has ls 9 [(0, .ref b), (1, .ref h0), (2, .ref m0), (3, .ref o1), (4, .ref o2), (5, .int (nI i))] → W p l e room_1 s m #[Value.ref b] below meth c H locs (cells + 20) (slots + 500) (lw_Z below #[Value.ref b] s) (F0 m 2164 ls [])) : W p l e room_1 s m #[Value.ref b] below meth c H locs cells slots (lw_Z below #[Value.ref b] s) (F0 m 1192 ls []) := by
  obtain ⟨⟨hx, hb, hml, hown, hts, hX, hbl, hst⟩, ⟨hK, hF, hO, hN⟩, ⟨aX, aM, a1, a2⟩, ⟨n1, n2, n12, nM⟩, hA⟩ := X0
  obtain ⟨hI, ⟨α, GX, hP, hMX⟩, ⟨th, GM, hR, hMM⟩, ⟨f1, hM1⟩, ⟨f2, hM2⟩, hS, hN0⟩ := I0
  have S0 : CallFix p m c code 9 s #[Value.ref b] wsL_law RL := ⟨hx, hb, hml, hown, hts⟩
  have hbA : ¬ lw_A s b := Nat.not_le.mpr hbl
  have hAX : ∀ q, H.size ≤ q → AX q := fun q h => hA q (Nat.le_trans hN0 h)
  refine lv_aload_n hx hb dL_law_1192 rfl (lv_at hl 1 rfl) ?_
  refine tk_cVi (As := []) S0 (c_X4_entries (nv := 0) l AX D ac dE _ hP) (cwV 0 hts gL_law_X4_entries rfl rfl rfl (by decide +kernel) ⟨Nat.le_of_ble_eq_true rfl, Nat.le_of_ble_eq_true rfl⟩) (tkX.blind) (fun U hU hW => tkX.law hMX hK hAX aX hF hO hS U hU hW) (tk_recv hK hMX hP.h rfl) rfl hl.1 rfl (Nat.le_of_ble_eq_true rfl) dL_law_1193 ⟨by show _ ≤ 603072; omega, by show _ ≤ 7211114; omega⟩ (fun r hr => ?_)
  refine lv_aload_n hx hb dL_law_1196 rfl (lv_at hl 2 rfl) ?_
  refine va_calli (A1 := AM) (free := AM) (va_runV (As := []) (rest := [.int r]) S0 (c_X5_entries l AM D ac _ hR) (cwV 0 hts gL_law_X5_entries rfl rfl rfl (by decide +kernel) ⟨Nat.le_of_ble_eq_true rfl, Nat.le_of_ble_eq_true rfl⟩) ⟨fun a U g mk q => ⟨q.1, tkJ.blind U g mk a q.2⟩, tk_recv hK hMM hR.1 rfl, fun U hU hW => ⟨rfl, tkJ.at hMM hK U hU hW⟩⟩ rfl rfl hl.1 rfl (lv_room (Nat.le_of_ble_eq_true rfl)) dL_law_1197 ⟨by show _ ≤ 603072; omega, by show _ ≤ 7211114; omega⟩) hS (fun q _ h => aM q h) (fun q h => aM q h) (fun r2 G2 t H2 locs ht hal hp2 hBB hz hq hS => ?_)
  have hMM : tkM AM D G2 H2 := by rw [← ht]; exact hBB
  have hMX := hMX.kept (H1 := H2) (fun q h2 h3 => hq q h2 (fun z => (nM q z).1 h3))
  have hM1 := hM1.kept (H1 := H2) (fun q h2 h3 => hq q h2 (fun z => (nM q z).2.1 h3))
  have hM2 := hM2.kept (H1 := H2) (fun q h2 h3 => hq q h2 (fun z => (nM q z).2.2 h3))
  have hN0 := Nat.le_trans hN0 hz
  obtain ⟨hR2, hr2⟩ := hp2
  refine W.widen (k := cells + 20) (n := slots + 500) (by omega) (by omega) ?_
  have hrr : r = r2 := by rw [hr, hr2]; exact hI.w.e.1.symm
  refine lv_icmp_eq (tgt := 2164) hx hb dL_law_1200 (by decide) (fun _ => ?_) (fun c8 => absurd hrr c8)
  exact kk M _ _ ls ⟨hI, ⟨_, _, hP, hMX⟩, ⟨_, _, hR2, hMM⟩, ⟨_, hM1⟩, ⟨_, hM2⟩, hS, hN0⟩ hl
