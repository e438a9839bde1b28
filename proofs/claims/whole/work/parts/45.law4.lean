/-! the law: cases -/
set_option maxHeartbeats 4000000 in
set_option maxRecDepth 100000 in
theorem law_credited {p : Program} {l : Launch} {e : Env} {s : State} {m : MethodId} {below : List Frame} {meth : Method} {c : Code} {b L : Nat} {xs : Nat → Int32} {D : va_G} {ac : Nat → ClassId} {dE h0 m0 : Nat} {am : Nat → Nat} {AX AM : Nat → Prop} {o1 o2 N0 i cells slots : Nat} {M : TS} {H : Heap} {locs : List Loc} {ls : Array Slot} (X0 : lw_X p l s m c b L xs D ac dE AX AM o1 o2 N0) (I0 : lw_I s D ac dE h0 m0 am AX AM o1 o2 N0 M H locs) (hL : L ≤ 2560) (hi : i + 5 ≤ L) (hc : cells + 20 ≤ 603072) (hs : slots + 500 ≤ 7211114) (hl : lv_has ls 9 [(0, .ref b), (1, .ref h0), (2, .ref m0), (3, .ref o1), (4, .ref o2), (5, .int (nI i))])
    (kk : ∀ (M : TS) (H : Heap) (locs : List Loc) (ls : Array Slot), lw_I s D ac dE h0 m0 am AX AM o1 o2 N0 M H locs → lv_has ls 9 [(0, .ref b), (1, .ref h0), (2, .ref m0), (3, .ref o1), (4, .ref o2), (5, .int (nI i))] → W p l e room_1 s m #[Value.ref b] below meth c H locs (cells + 20) (slots + 500) (lw_Z below #[Value.ref b] s) (F0 m 2164 ls [])) : W p l e room_1 s m #[Value.ref b] below meth c H locs cells slots (lw_Z below #[Value.ref b] s) (F0 m 1702 ls []) := by
  obtain ⟨⟨hx, hb, hml, hown, hts, hX, hbl, hst⟩, ⟨hK, hF, hO, hN⟩, ⟨aX, aM, a1, a2⟩, ⟨n1, n2, n12, nM⟩, hA⟩ := X0
  obtain ⟨hI, ⟨α, GX, hP, hMX⟩, ⟨th, GM, hR, hMM⟩, ⟨f1, hM1⟩, ⟨f2, hM2⟩, hS, hN0⟩ := I0
  have S0 : CallFix p m c code 9 s #[Value.ref b] wsL_law RL := ⟨hx, hb, hml, hown, hts⟩
  have hbA : ¬ lw_A s b := Nat.not_le.mpr hbl
  have hAX : ∀ q, H.size ≤ q → AX q := fun q h => hA q (Nat.le_trans hN0 h)
  refine lv_aload_n hx hb dL_law_1702 rfl (lv_at hl 1 rfl) ?_
  refine lv_aload_n hx hb dL_law_1703 rfl (lv_at hl 0 rfl) ?_
  refine lv_iload hx hb dL_law_1704 (lv_at hl 5 rfl) ?_
  refine lv_iconst (v := 1) hx hb dL_law_1706 (by decide) ?_
  refine lv_iadd hx hb dL_law_1707 ?_
  refine va_sld hx hb hX hbl hbA hS (lw_in (k := 1) (by omega) hL) dL_law_1708 ?_
  refine lv_aload_n hx hb dL_law_1709 rfl (lv_at hl 3 rfl) ?_
  refine vx_calli (A1 := fun q => AX q ∨ q = o1) (free := fun q => AX q ∨ q = o1) (vx_runSX (As := [.ref h0, .int (xs (nI i + 1).toNatClampNeg), .ref o1]) (rest := []) S0 (c_L_credited l hst AX o1 D ac dE _ hP hI f1 (xs (nI i + 1).toNatClampNeg)) (vx_cwSW 3 hts gL_law_L_credited rfl rfl rfl (by decide +kernel) ⟨Nat.le_of_ble_eq_true rfl, Nat.le_of_ble_eq_true rfl⟩) ⟨fun a U g mk q => ⟨q.1, tkW.blind U g mk a q.2⟩, fun U hU hW => ⟨rfl, tkW.law hMX hM1 n1 hN hK hAX aX hF hO hS U hU hW⟩⟩ rfl rfl hl.1 rfl (lv_room (Nat.le_of_ble_eq_true rfl)) dL_law_1710 ⟨by show _ ≤ 603072; omega, by show _ ≤ 7211114; omega⟩) hS (fun q _ h => h.elim (fun h => aX q h) (fun h => by rw [h]; exact a1)) (fun q h => h.elim (fun h => aX q h) (fun h => by rw [h]; exact a1)) (fun q _ h => h.elim) (fun _ _ _ _ _ _ _ _ _ _ h => h.elim) (fun r u t H9 locs ht hal hp hBB hz hq hS => ?_)
  rw [ht] at hBB
  obtain ⟨G9, f9⟩ := u
  obtain ⟨hr9, hv9, α9, hP9⟩ := hp
  obtain ⟨hMX, hM1⟩ := hBB
  dsimp only at hv9 hP9 hMX hM1
  have hM2 := hM2.kept (H1 := H9) (fun q h2 h3 => hq q h2 (fun z => z.elim (fun z => n2 (by rw [← h3]; exact z)) (fun z => n12 (z.symm.trans h3))))
  have hMM := hMM.kept (H1 := H9) (fun q h2 h3 => hq q h2 (fun z => z.elim (nM q h3).1 (nM q h3).2.1))
  have hN0 := Nat.le_trans hN0 hz
  clear hq hz hAX
  refine lv_istore (lv' := [(6, .int r), (0, .ref b), (1, .ref h0), (2, .ref m0), (3, .ref o1), (4, .ref o2), (5, .int (nI i))]) hx hb dL_law_1713 hl (by decide) rfl (fun ls hl => ?_)
  refine lv_aload_n hx hb dL_law_1715 rfl (lv_at hl 3 rfl) ?_
  refine lv_aload_n hx hb dL_law_1716 rfl (lv_at hl 1 rfl) ?_
  refine lv_iload hx hb dL_law_1717 (lv_at hl 6 rfl) ?_
  refine lv_iconst (v := 1) hx hb dL_law_1719 (by decide) ?_
  refine lv_iadd hx hb dL_law_1720 ?_
  refine va_sld hx hb hX hbl hbA hS (lw_in (k := 1) (by omega) hL) dL_law_1721 ?_
  refine va_calli (A1 := AM) (free := AM) (va_runV (As := [.int (xs (nI i + 1).toNatClampNeg)]) (rest := []) S0 (c_X5_credited l AM D ac _ hR hI.w (xs (nI i + 1).toNatClampNeg)) (cwV 1 hts gL_law_X5_credited rfl rfl rfl (by decide +kernel) ⟨Nat.le_of_ble_eq_true rfl, Nat.le_of_ble_eq_true rfl⟩) ⟨fun a U g mk q => ⟨q.1, tkJ.blind U g mk a q.2⟩, tk_recv hK hMM hR.1 rfl, fun U hU hW => ⟨rfl, tkJ.at hMM hK U hU hW⟩⟩ rfl rfl hl.1 rfl (lv_room (Nat.le_of_ble_eq_true rfl)) dL_law_1722 ⟨by show _ ≤ 603072; omega, by show _ ≤ 7211114; omega⟩) hS (fun q _ h => aM q h) (fun q h => aM q h) (fun r2 G2 t H2 locs ht hal hp2 hBB hz hq hS => ?_)
  have hMM : tkM AM D G2 H2 := by rw [← ht]; exact hBB
  have hMX := hMX.kept (H1 := H2) (fun q h2 h3 => hq q h2 (fun z => (nM q z).1 h3))
  have hM1 := hM1.kept (H1 := H2) (fun q h2 h3 => hq q h2 (fun z => (nM q z).2.1 h3))
  have hM2 := hM2.kept (H1 := H2) (fun q h2 h3 => hq q h2 (fun z => (nM q z).2.2 h3))
  have hN0 := Nat.le_trans hN0 hz
  clear hq hz hBB
  obtain ⟨hR2, hr2⟩ := hp2
  refine lv_istore (lv' := [(7, .int r2), (6, .int r), (0, .ref b), (1, .ref h0), (2, .ref m0), (3, .ref o1), (4, .ref o2), (5, .int (nI i))]) hx hb dL_law_1725 hl (by decide) rfl (fun ls hl => ?_)
  refine lv_aload_n hx hb dL_law_1727 rfl (lv_at hl 4 rfl) ?_
  refine tk_cVi (As := []) S0 (c_X5_thrown l AM D ac _ hR2) (cwV 0 hts gL_law_X5_thrown rfl rfl rfl (by decide +kernel) ⟨Nat.le_of_ble_eq_true rfl, Nat.le_of_ble_eq_true rfl⟩) (tkJ.blind) (tkJ.at hMM hK) (tk_recv hK hMM hR2.1 rfl) rfl hl.1 rfl (Nat.le_of_ble_eq_true rfl) dL_law_1728 ⟨by show _ ≤ 603072; omega, by show _ ≤ 7211114; omega⟩ (fun r3 hr3 => ?_)
  refine lv_iload hx hb dL_law_1731 (lv_at hl 1 rfl) ?_
  refine lv_icmp_eq (tgt := 1738) hx hb dL_law_1733 (by decide) (fun _ => ?_) (fun c9 => absurd (hr3.trans hr9.symm) c9)
  refine lv_iload hx hb dL_law_1738 (lv_at hl 1 rfl) ?_
  refine lv_if_ne (tgt := 1755) hx hb dL_law_1740 (by decide) (fun _ => ?_) (fun c9 => ?_)
  · refine lv_goto (tgt := 2164) hx hb dL_law_1755 (by decide) ?_
    refine W.widen (k := cells + 20) (n := slots + 500) (by omega) (by omega) ?_
    exact kk (S_credited M (xs (nI i + 1).toNatClampNeg)).2.1 _ _ ls ⟨(by rw [rd_credited]; exact hI), ⟨_, _, hP9, hMX⟩, ⟨_, _, hR2, hMM⟩, ⟨_, hM1⟩, ⟨_, hM2⟩, hS, hN0⟩ (lv_sub hl [2, 3, 4, 5, 6, 7] rfl)
  · have hv9 := hv9 (hr9.symm.trans c9)
    refine lv_aload_n hx hb dL_law_1743 rfl (lv_at hl 5 rfl) ?_
    refine lv_iconst (v := 0) hx hb dL_law_1744 (by decide) ?_
    refine tk_lald hx hb hK hM1 4 (va_up_self _ _ _) rfl (by unfold vp_in; decide) dL_law_1745 ?_
    refine lv_iload hx hb dL_law_1746 (lv_at hl 0 rfl) ?_
    refine lv_i2l hx hb dL_law_1748 rfl ?_
    have hv9 : f9 (0 : Int32).toNatClampNeg = r2.toInt64 := by rw [hr2]; exact hv9
    rw [hv9]
    refine W.lcmp hx hb dL_law_1749 ?_
    refine lv_if_eq (tgt := 1755) hx hb dL_law_1750 (by decide) (fun _ => ?_) (fun c8 => absurd (lself _) c8)
    refine lv_goto (tgt := 2164) hx hb dL_law_1755 (by decide) ?_
    refine W.widen (k := cells + 20) (n := slots + 500) (by omega) (by omega) ?_
    exact kk (S_credited M (xs (nI i + 1).toNatClampNeg)).2.1 _ _ ls ⟨(by rw [rd_credited]; exact hI), ⟨_, _, hP9, hMX⟩, ⟨_, _, hR2, hMM⟩, ⟨_, hM1⟩, ⟨_, hM2⟩, hS, hN0⟩ (lv_sub hl [2, 3, 4, 5, 6, 7] rfl)
set_option maxHeartbeats 4000000 in
set_option maxRecDepth 100000 in
theorem law_items {p : Program} {l : Launch} {e : Env} {s : State} {m : MethodId} {below : List Frame} {meth : Method} {c : Code} {b L : Nat} {xs : Nat → Int32} {D : va_G} {ac : Nat → ClassId} {dE h0 m0 : Nat} {am : Nat → Nat} {AX AM : Nat → Prop} {o1 o2 N0 i cells slots : Nat} {M : TS} {H : Heap} {locs : List Loc} {ls : Array Slot} (X0 : lw_X p l s m c b L xs D ac dE AX AM o1 o2 N0) (I0 : lw_I s D ac dE h0 m0 am AX AM o1 o2 N0 M H locs) (hL : L ≤ 2560) (hi : i + 5 ≤ L) (hc : cells + 20 ≤ 603072) (hs : slots + 500 ≤ 7211114) (hl : lv_has ls 9 [(0, .ref b), (1, .ref h0), (2, .ref m0), (3, .ref o1), (4, .ref o2), (5, .int (nI i))])
    (kk : ∀ (M : TS) (H : Heap) (locs : List Loc) (ls : Array Slot), lw_I s D ac dE h0 m0 am AX AM o1 o2 N0 M H locs → lv_has ls 9 [(0, .ref b), (1, .ref h0), (2, .ref m0), (3, .ref o1), (4, .ref o2), (5, .int (nI i))] → W p l e room_1 s m #[Value.ref b] below meth c H locs (cells + 20) (slots + 500) (lw_Z below #[Value.ref b] s) (F0 m 2164 ls [])) : W p l e room_1 s m #[Value.ref b] below meth c H locs cells slots (lw_Z below #[Value.ref b] s) (F0 m 1758 ls []) := by
  obtain ⟨⟨hx, hb, hml, hown, hts, hX, hbl, hst⟩, ⟨hK, hF, hO, hN⟩, ⟨aX, aM, a1, a2⟩, ⟨n1, n2, n12, nM⟩, hA⟩ := X0
  obtain ⟨hI, ⟨α, GX, hP, hMX⟩, ⟨th, GM, hR, hMM⟩, ⟨f1, hM1⟩, ⟨f2, hM2⟩, hS, hN0⟩ := I0
  have S0 : CallFix p m c code 9 s #[Value.ref b] wsL_law RL := ⟨hx, hb, hml, hown, hts⟩
  have hbA : ¬ lw_A s b := Nat.not_le.mpr hbl
  have hAX : ∀ q, H.size ≤ q → AX q := fun q h => hA q (Nat.le_trans hN0 h)
  refine lv_aload_n hx hb dL_law_1758 rfl (lv_at hl 1 rfl) ?_
  refine lv_aload_n hx hb dL_law_1759 rfl (lv_at hl 0 rfl) ?_
  refine lv_iload hx hb dL_law_1760 (lv_at hl 5 rfl) ?_
  refine lv_iconst (v := 1) hx hb dL_law_1762 (by decide) ?_
  refine lv_iadd hx hb dL_law_1763 ?_
  refine va_sld hx hb hX hbl hbA hS (lw_in (k := 1) (by omega) hL) dL_law_1764 ?_
  refine lv_aload_n hx hb dL_law_1765 rfl (lv_at hl 3 rfl) ?_
  refine vx_calli (A1 := fun q => AX q ∨ q = o1) (free := fun q => AX q ∨ q = o1) (vx_runSX (As := [.ref h0, .int (xs (nI i + 1).toNatClampNeg), .ref o1]) (rest := []) S0 (c_L_items l hst AX o1 D ac dE _ hP hI f1 (xs (nI i + 1).toNatClampNeg)) (vx_cwSW 3 hts gL_law_L_items rfl rfl rfl (by decide +kernel) ⟨Nat.le_of_ble_eq_true rfl, Nat.le_of_ble_eq_true rfl⟩) ⟨fun a U g mk q => ⟨q.1, tkW.blind U g mk a q.2⟩, fun U hU hW => ⟨rfl, tkW.law hMX hM1 n1 hN hK hAX aX hF hO hS U hU hW⟩⟩ rfl rfl hl.1 rfl (lv_room (Nat.le_of_ble_eq_true rfl)) dL_law_1766 ⟨by show _ ≤ 603072; omega, by show _ ≤ 7211114; omega⟩) hS (fun q _ h => h.elim (fun h => aX q h) (fun h => by rw [h]; exact a1)) (fun q h => h.elim (fun h => aX q h) (fun h => by rw [h]; exact a1)) (fun q _ h => h.elim) (fun _ _ _ _ _ _ _ _ _ _ h => h.elim) (fun r u t H9 locs ht hal hp hBB hz hq hS => ?_)
  rw [ht] at hBB
  obtain ⟨G9, f9⟩ := u
  obtain ⟨hr9, hv9, α9, hP9⟩ := hp
  obtain ⟨hMX, hM1⟩ := hBB
  dsimp only at hv9 hP9 hMX hM1
  have hM2 := hM2.kept (H1 := H9) (fun q h2 h3 => hq q h2 (fun z => z.elim (fun z => n2 (by rw [← h3]; exact z)) (fun z => n12 (z.symm.trans h3))))
  have hMM := hMM.kept (H1 := H9) (fun q h2 h3 => hq q h2 (fun z => z.elim (nM q h3).1 (nM q h3).2.1))
  have hN0 := Nat.le_trans hN0 hz
  clear hq hz hAX
  refine lv_istore (lv' := [(6, .int r), (0, .ref b), (1, .ref h0), (2, .ref m0), (3, .ref o1), (4, .ref o2), (5, .int (nI i))]) hx hb dL_law_1769 hl (by decide) rfl (fun ls hl => ?_)
  refine lv_aload_n hx hb dL_law_1771 rfl (lv_at hl 3 rfl) ?_
  refine lv_aload_n hx hb dL_law_1772 rfl (lv_at hl 1 rfl) ?_
  refine lv_iload hx hb dL_law_1773 (lv_at hl 6 rfl) ?_
  refine lv_iconst (v := 1) hx hb dL_law_1775 (by decide) ?_
  refine lv_iadd hx hb dL_law_1776 ?_
  refine va_sld hx hb hX hbl hbA hS (lw_in (k := 1) (by omega) hL) dL_law_1777 ?_
  refine va_calli (A1 := AM) (free := AM) (va_runV (As := [.int (xs (nI i + 1).toNatClampNeg)]) (rest := []) S0 (c_X5_items l AM D ac _ hR hI.w (xs (nI i + 1).toNatClampNeg)) (cwV 1 hts gL_law_X5_items rfl rfl rfl (by decide +kernel) ⟨Nat.le_of_ble_eq_true rfl, Nat.le_of_ble_eq_true rfl⟩) ⟨fun a U g mk q => ⟨q.1, tkJ.blind U g mk a q.2⟩, tk_recv hK hMM hR.1 rfl, fun U hU hW => ⟨rfl, tkJ.at hMM hK U hU hW⟩⟩ rfl rfl hl.1 rfl (lv_room (Nat.le_of_ble_eq_true rfl)) dL_law_1778 ⟨by show _ ≤ 603072; omega, by show _ ≤ 7211114; omega⟩) hS (fun q _ h => aM q h) (fun q h => aM q h) (fun r2 G2 t H2 locs ht hal hp2 hBB hz hq hS => ?_)
  have hMM : tkM AM D G2 H2 := by rw [← ht]; exact hBB
  have hMX := hMX.kept (H1 := H2) (fun q h2 h3 => hq q h2 (fun z => (nM q z).1 h3))
  have hM1 := hM1.kept (H1 := H2) (fun q h2 h3 => hq q h2 (fun z => (nM q z).2.1 h3))
  have hM2 := hM2.kept (H1 := H2) (fun q h2 h3 => hq q h2 (fun z => (nM q z).2.2 h3))
  have hN0 := Nat.le_trans hN0 hz
  clear hq hz hBB
  obtain ⟨hR2, hr2⟩ := hp2
  refine lv_istore (lv' := [(7, .int r2), (6, .int r), (0, .ref b), (1, .ref h0), (2, .ref m0), (3, .ref o1), (4, .ref o2), (5, .int (nI i))]) hx hb dL_law_1781 hl (by decide) rfl (fun ls hl => ?_)
  refine lv_aload_n hx hb dL_law_1783 rfl (lv_at hl 4 rfl) ?_
  refine tk_cVi (As := []) S0 (c_X5_thrown l AM D ac _ hR2) (cwV 0 hts gL_law_X5_thrown rfl rfl rfl (by decide +kernel) ⟨Nat.le_of_ble_eq_true rfl, Nat.le_of_ble_eq_true rfl⟩) (tkJ.blind) (tkJ.at hMM hK) (tk_recv hK hMM hR2.1 rfl) rfl hl.1 rfl (Nat.le_of_ble_eq_true rfl) dL_law_1784 ⟨by show _ ≤ 603072; omega, by show _ ≤ 7211114; omega⟩ (fun r3 hr3 => ?_)
  refine lv_iload hx hb dL_law_1787 (lv_at hl 1 rfl) ?_
  refine lv_icmp_eq (tgt := 1794) hx hb dL_law_1789 (by decide) (fun _ => ?_) (fun c9 => absurd (hr3.trans hr9.symm) c9)
  refine lv_iload hx hb dL_law_1794 (lv_at hl 1 rfl) ?_
  refine lv_if_ne (tgt := 1811) hx hb dL_law_1796 (by decide) (fun _ => ?_) (fun c9 => ?_)
  · refine lv_goto (tgt := 2164) hx hb dL_law_1811 (by decide) ?_
    refine W.widen (k := cells + 20) (n := slots + 500) (by omega) (by omega) ?_
    exact kk (S_items M (xs (nI i + 1).toNatClampNeg)).2.1 _ _ ls ⟨(by rw [rd_items]; exact hI), ⟨_, _, hP9, hMX⟩, ⟨_, _, hR2, hMM⟩, ⟨_, hM1⟩, ⟨_, hM2⟩, hS, hN0⟩ (lv_sub hl [2, 3, 4, 5, 6, 7] rfl)
  · have hv9 := hv9 (hr9.symm.trans c9)
    refine lv_aload_n hx hb dL_law_1799 rfl (lv_at hl 5 rfl) ?_
    refine lv_iconst (v := 0) hx hb dL_law_1800 (by decide) ?_
    refine tk_lald hx hb hK hM1 4 (va_up_self _ _ _) rfl (by unfold vp_in; decide) dL_law_1801 ?_
    refine lv_iload hx hb dL_law_1802 (lv_at hl 0 rfl) ?_
    refine lv_i2l hx hb dL_law_1804 rfl ?_
    have hv9 : f9 (0 : Int32).toNatClampNeg = r2.toInt64 := by rw [hr2]; exact hv9
    rw [hv9]
    refine W.lcmp hx hb dL_law_1805 ?_
    refine lv_if_eq (tgt := 1811) hx hb dL_law_1806 (by decide) (fun _ => ?_) (fun c8 => absurd (lself _) c8)
    refine lv_goto (tgt := 2164) hx hb dL_law_1811 (by decide) ?_
    refine W.widen (k := cells + 20) (n := slots + 500) (by omega) (by omega) ?_
    exact kk (S_items M (xs (nI i + 1).toNatClampNeg)).2.1 _ _ ls ⟨(by rw [rd_items]; exact hI), ⟨_, _, hP9, hMX⟩, ⟨_, _, hR2, hMM⟩, ⟨_, hM1⟩, ⟨_, hM2⟩, hS, hN0⟩ (lv_sub hl [2, 3, 4, 5, 6, 7] rfl)
set_option maxHeartbeats 4000000 in
set_option maxRecDepth 100000 in
theorem law_invoiceOf {p : Program} {l : Launch} {e : Env} {s : State} {m : MethodId} {below : List Frame} {meth : Method} {c : Code} {b L : Nat} {xs : Nat → Int32} {D : va_G} {ac : Nat → ClassId} {dE h0 m0 : Nat} {am : Nat → Nat} {AX AM : Nat → Prop} {o1 o2 N0 i cells slots : Nat} {M : TS} {H : Heap} {locs : List Loc} {ls : Array Slot} (X0 : lw_X p l s m c b L xs D ac dE AX AM o1 o2 N0) (I0 : lw_I s D ac dE h0 m0 am AX AM o1 o2 N0 M H locs) (hL : L ≤ 2560) (hi : i + 5 ≤ L) (hc : cells + 20 ≤ 603072) (hs : slots + 500 ≤ 7211114) (hl : lv_has ls 9 [(0, .ref b), (1, .ref h0), (2, .ref m0), (3, .ref o1), (4, .ref o2), (5, .int (nI i))])
    (kk : ∀ (M : TS) (H : Heap) (locs : List Loc) (ls : Array Slot), lw_I s D ac dE h0 m0 am AX AM o1 o2 N0 M H locs → lv_has ls 9 [(0, .ref b), (1, .ref h0), (2, .ref m0), (3, .ref o1), (4, .ref o2), (5, .int (nI i))] → W p l e room_1 s m #[Value.ref b] below meth c H locs (cells + 20) (slots + 500) (lw_Z below #[Value.ref b] s) (F0 m 2164 ls [])) : W p l e room_1 s m #[Value.ref b] below meth c H locs cells slots (lw_Z below #[Value.ref b] s) (F0 m 1814 ls []) := by
  obtain ⟨⟨hx, hb, hml, hown, hts, hX, hbl, hst⟩, ⟨hK, hF, hO, hN⟩, ⟨aX, aM, a1, a2⟩, ⟨n1, n2, n12, nM⟩, hA⟩ := X0
  obtain ⟨hI, ⟨α, GX, hP, hMX⟩, ⟨th, GM, hR, hMM⟩, ⟨f1, hM1⟩, ⟨f2, hM2⟩, hS, hN0⟩ := I0
  have S0 : CallFix p m c code 9 s #[Value.ref b] wsL_law RL := ⟨hx, hb, hml, hown, hts⟩
  have hbA : ¬ lw_A s b := Nat.not_le.mpr hbl
  have hAX : ∀ q, H.size ≤ q → AX q := fun q h => hA q (Nat.le_trans hN0 h)
  refine lv_aload_n hx hb dL_law_1814 rfl (lv_at hl 1 rfl) ?_
  refine lv_aload_n hx hb dL_law_1815 rfl (lv_at hl 0 rfl) ?_
  refine lv_iload hx hb dL_law_1816 (lv_at hl 5 rfl) ?_
  refine lv_iconst (v := 1) hx hb dL_law_1818 (by decide) ?_
  refine lv_iadd hx hb dL_law_1819 ?_
  refine va_sld hx hb hX hbl hbA hS (lw_in (k := 1) (by omega) hL) dL_law_1820 ?_
  refine lv_aload_n hx hb dL_law_1821 rfl (lv_at hl 3 rfl) ?_
  refine vx_calli (A1 := fun q => AX q ∨ q = o1) (free := fun q => AX q ∨ q = o1) (vx_runSX (As := [.ref h0, .int (xs (nI i + 1).toNatClampNeg), .ref o1]) (rest := []) S0 (c_L_invoiceOf l hst AX o1 D ac dE _ hP hI f1 (xs (nI i + 1).toNatClampNeg)) (vx_cwSW 3 hts gL_law_L_invoiceOf rfl rfl rfl (by decide +kernel) ⟨Nat.le_of_ble_eq_true rfl, Nat.le_of_ble_eq_true rfl⟩) ⟨fun a U g mk q => ⟨q.1, tkW.blind U g mk a q.2⟩, fun U hU hW => ⟨rfl, tkW.law hMX hM1 n1 hN hK hAX aX hF hO hS U hU hW⟩⟩ rfl rfl hl.1 rfl (lv_room (Nat.le_of_ble_eq_true rfl)) dL_law_1822 ⟨by show _ ≤ 603072; omega, by show _ ≤ 7211114; omega⟩) hS (fun q _ h => h.elim (fun h => aX q h) (fun h => by rw [h]; exact a1)) (fun q h => h.elim (fun h => aX q h) (fun h => by rw [h]; exact a1)) (fun q _ h => h.elim) (fun _ _ _ _ _ _ _ _ _ _ h => h.elim) (fun r u t H9 locs ht hal hp hBB hz hq hS => ?_)
  rw [ht] at hBB
  obtain ⟨G9, f9⟩ := u
  obtain ⟨hr9, hv9, α9, hP9⟩ := hp
  obtain ⟨hMX, hM1⟩ := hBB
  dsimp only at hv9 hP9 hMX hM1
  have hM2 := hM2.kept (H1 := H9) (fun q h2 h3 => hq q h2 (fun z => z.elim (fun z => n2 (by rw [← h3]; exact z)) (fun z => n12 (z.symm.trans h3))))
  have hMM := hMM.kept (H1 := H9) (fun q h2 h3 => hq q h2 (fun z => z.elim (nM q h3).1 (nM q h3).2.1))
  have hN0 := Nat.le_trans hN0 hz
  clear hq hz hAX
  refine lv_istore (lv' := [(6, .int r), (0, .ref b), (1, .ref h0), (2, .ref m0), (3, .ref o1), (4, .ref o2), (5, .int (nI i))]) hx hb dL_law_1825 hl (by decide) rfl (fun ls hl => ?_)
  refine lv_aload_n hx hb dL_law_1827 rfl (lv_at hl 3 rfl) ?_
  refine lv_aload_n hx hb dL_law_1828 rfl (lv_at hl 1 rfl) ?_
  refine lv_iload hx hb dL_law_1829 (lv_at hl 6 rfl) ?_
  refine lv_iconst (v := 1) hx hb dL_law_1831 (by decide) ?_
  refine lv_iadd hx hb dL_law_1832 ?_
  refine va_sld hx hb hX hbl hbA hS (lw_in (k := 1) (by omega) hL) dL_law_1833 ?_
  refine va_calli (A1 := AM) (free := AM) (va_runV (As := [.int (xs (nI i + 1).toNatClampNeg)]) (rest := []) S0 (c_X5_invoiceOf l AM D ac _ hR hI.w (xs (nI i + 1).toNatClampNeg)) (cwV 1 hts gL_law_X5_invoiceOf rfl rfl rfl (by decide +kernel) ⟨Nat.le_of_ble_eq_true rfl, Nat.le_of_ble_eq_true rfl⟩) ⟨fun a U g mk q => ⟨q.1, tkJ.blind U g mk a q.2⟩, tk_recv hK hMM hR.1 rfl, fun U hU hW => ⟨rfl, tkJ.at hMM hK U hU hW⟩⟩ rfl rfl hl.1 rfl (lv_room (Nat.le_of_ble_eq_true rfl)) dL_law_1834 ⟨by show _ ≤ 603072; omega, by show _ ≤ 7211114; omega⟩) hS (fun q _ h => aM q h) (fun q h => aM q h) (fun r2 G2 t H2 locs ht hal hp2 hBB hz hq hS => ?_)
  have hMM : tkM AM D G2 H2 := by rw [← ht]; exact hBB
  have hMX := hMX.kept (H1 := H2) (fun q h2 h3 => hq q h2 (fun z => (nM q z).1 h3))
  have hM1 := hM1.kept (H1 := H2) (fun q h2 h3 => hq q h2 (fun z => (nM q z).2.1 h3))
  have hM2 := hM2.kept (H1 := H2) (fun q h2 h3 => hq q h2 (fun z => (nM q z).2.2 h3))
  have hN0 := Nat.le_trans hN0 hz
  clear hq hz hBB
  obtain ⟨hR2, hr2⟩ := hp2
  refine lv_istore (lv' := [(7, .int r2), (6, .int r), (0, .ref b), (1, .ref h0), (2, .ref m0), (3, .ref o1), (4, .ref o2), (5, .int (nI i))]) hx hb dL_law_1837 hl (by decide) rfl (fun ls hl => ?_)
  refine lv_aload_n hx hb dL_law_1839 rfl (lv_at hl 4 rfl) ?_
  refine tk_cVi (As := []) S0 (c_X5_thrown l AM D ac _ hR2) (cwV 0 hts gL_law_X5_thrown rfl rfl rfl (by decide +kernel) ⟨Nat.le_of_ble_eq_true rfl, Nat.le_of_ble_eq_true rfl⟩) (tkJ.blind) (tkJ.at hMM hK) (tk_recv hK hMM hR2.1 rfl) rfl hl.1 rfl (Nat.le_of_ble_eq_true rfl) dL_law_1840 ⟨by show _ ≤ 603072; omega, by show _ ≤ 7211114; omega⟩ (fun r3 hr3 => ?_)
  refine lv_iload hx hb dL_law_1843 (lv_at hl 1 rfl) ?_
  refine lv_icmp_eq (tgt := 1850) hx hb dL_law_1845 (by decide) (fun _ => ?_) (fun c9 => absurd (hr3.trans hr9.symm) c9)
  refine lv_iload hx hb dL_law_1850 (lv_at hl 1 rfl) ?_
  refine lv_if_ne (tgt := 1867) hx hb dL_law_1852 (by decide) (fun _ => ?_) (fun c9 => ?_)
  · refine lv_goto (tgt := 2164) hx hb dL_law_1867 (by decide) ?_
    refine W.widen (k := cells + 20) (n := slots + 500) (by omega) (by omega) ?_
    exact kk (S_invoiceOf M (xs (nI i + 1).toNatClampNeg)).2.1 _ _ ls ⟨(by rw [rd_invoiceOf]; exact hI), ⟨_, _, hP9, hMX⟩, ⟨_, _, hR2, hMM⟩, ⟨_, hM1⟩, ⟨_, hM2⟩, hS, hN0⟩ (lv_sub hl [2, 3, 4, 5, 6, 7] rfl)
  · have hv9 := hv9 (hr9.symm.trans c9)
    refine lv_aload_n hx hb dL_law_1855 rfl (lv_at hl 5 rfl) ?_
    refine lv_iconst (v := 0) hx hb dL_law_1856 (by decide) ?_
    refine tk_lald hx hb hK hM1 4 (va_up_self _ _ _) rfl (by unfold vp_in; decide) dL_law_1857 ?_
    refine lv_iload hx hb dL_law_1858 (lv_at hl 0 rfl) ?_
    refine lv_i2l hx hb dL_law_1860 rfl ?_
    have hv9 : f9 (0 : Int32).toNatClampNeg = r2.toInt64 := by rw [hr2]; exact hv9
    rw [hv9]
    refine W.lcmp hx hb dL_law_1861 ?_
    refine lv_if_eq (tgt := 1867) hx hb dL_law_1862 (by decide) (fun _ => ?_) (fun c8 => absurd (lself _) c8)
    refine lv_goto (tgt := 2164) hx hb dL_law_1867 (by decide) ?_
    refine W.widen (k := cells + 20) (n := slots + 500) (by omega) (by omega) ?_
    exact kk (S_invoiceOf M (xs (nI i + 1).toNatClampNeg)).2.1 _ _ ls ⟨(by rw [rd_invoiceOf]; exact hI), ⟨_, _, hP9, hMX⟩, ⟨_, _, hR2, hMM⟩, ⟨_, hM1⟩, ⟨_, hM2⟩, hS, hN0⟩ (lv_sub hl [2, 3, 4, 5, 6, 7] rfl)
set_option maxHeartbeats 4000000 in
set_option maxRecDepth 100000 in
theorem law_left {p : Program} {l : Launch} {e : Env} {s : State} {m : MethodId} {below : List Frame} {meth : Method} {c : Code} {b L : Nat} {xs : Nat → Int32} {D : va_G} {ac : Nat → ClassId} {dE h0 m0 : Nat} {am : Nat → Nat} {AX AM : Nat → Prop} {o1 o2 N0 i cells slots : Nat} {M : TS} {H : Heap} {locs : List Loc} {ls : Array Slot} (X0 : lw_X p l s m c b L xs D ac dE AX AM o1 o2 N0) (I0 : lw_I s D ac dE h0 m0 am AX AM o1 o2 N0 M H locs) (hL : L ≤ 2560) (hi : i + 5 ≤ L) (hc : cells + 20 ≤ 603072) (hs : slots + 500 ≤ 7211114) (hl : lv_has ls 9 [(0, .ref b), (1, .ref h0), (2, .ref m0), (3, .ref o1), (4, .ref o2), (5, .int (nI i))])
    (kk : ∀ (M : TS) (H : Heap) (locs : List Loc) (ls : Array Slot), lw_I s D ac dE h0 m0 am AX AM o1 o2 N0 M H locs → lv_has ls 9 [(0, .ref b), (1, .ref h0), (2, .ref m0), (3, .ref o1), (4, .ref o2), (5, .int (nI i))] → W p l e room_1 s m #[Value.ref b] below meth c H locs (cells + 20) (slots + 500) (lw_Z below #[Value.ref b] s) (F0 m 2164 ls [])) : W p l e room_1 s m #[Value.ref b] below meth c H locs cells slots (lw_Z below #[Value.ref b] s) (F0 m 1870 ls []) := by
  obtain ⟨⟨hx, hb, hml, hown, hts, hX, hbl, hst⟩, ⟨hK, hF, hO, hN⟩, ⟨aX, aM, a1, a2⟩, ⟨n1, n2, n12, nM⟩, hA⟩ := X0
  obtain ⟨hI, ⟨α, GX, hP, hMX⟩, ⟨th, GM, hR, hMM⟩, ⟨f1, hM1⟩, ⟨f2, hM2⟩, hS, hN0⟩ := I0
  have S0 : CallFix p m c code 9 s #[Value.ref b] wsL_law RL := ⟨hx, hb, hml, hown, hts⟩
  have hbA : ¬ lw_A s b := Nat.not_le.mpr hbl
  have hAX : ∀ q, H.size ≤ q → AX q := fun q h => hA q (Nat.le_trans hN0 h)
  refine lv_aload_n hx hb dL_law_1870 rfl (lv_at hl 1 rfl) ?_
  refine lv_aload_n hx hb dL_law_1871 rfl (lv_at hl 0 rfl) ?_
  refine lv_iload hx hb dL_law_1872 (lv_at hl 5 rfl) ?_
  refine lv_iconst (v := 1) hx hb dL_law_1874 (by decide) ?_
  refine lv_iadd hx hb dL_law_1875 ?_
  refine va_sld hx hb hX hbl hbA hS (lw_in (k := 1) (by omega) hL) dL_law_1876 ?_
  refine lv_aload_n hx hb dL_law_1877 rfl (lv_at hl 3 rfl) ?_
  refine vx_calli (A1 := fun q => AX q ∨ q = o1) (free := fun q => AX q ∨ q = o1) (vx_runSX (As := [.ref h0, .int (xs (nI i + 1).toNatClampNeg), .ref o1]) (rest := []) S0 (c_L_left l hst AX o1 D ac dE _ hP hI f1 (xs (nI i + 1).toNatClampNeg)) (vx_cwSW 3 hts gL_law_L_left rfl rfl rfl (by decide +kernel) ⟨Nat.le_of_ble_eq_true rfl, Nat.le_of_ble_eq_true rfl⟩) ⟨fun a U g mk q => ⟨q.1, tkW.blind U g mk a q.2⟩, fun U hU hW => ⟨rfl, tkW.law hMX hM1 n1 hN hK hAX aX hF hO hS U hU hW⟩⟩ rfl rfl hl.1 rfl (lv_room (Nat.le_of_ble_eq_true rfl)) dL_law_1878 ⟨by show _ ≤ 603072; omega, by show _ ≤ 7211114; omega⟩) hS (fun q _ h => h.elim (fun h => aX q h) (fun h => by rw [h]; exact a1)) (fun q h => h.elim (fun h => aX q h) (fun h => by rw [h]; exact a1)) (fun q _ h => h.elim) (fun _ _ _ _ _ _ _ _ _ _ h => h.elim) (fun r u t H9 locs ht hal hp hBB hz hq hS => ?_)
  rw [ht] at hBB
  obtain ⟨G9, f9⟩ := u
  obtain ⟨hr9, hv9, α9, hP9⟩ := hp
  obtain ⟨hMX, hM1⟩ := hBB
  dsimp only at hv9 hP9 hMX hM1
  have hM2 := hM2.kept (H1 := H9) (fun q h2 h3 => hq q h2 (fun z => z.elim (fun z => n2 (by rw [← h3]; exact z)) (fun z => n12 (z.symm.trans h3))))
  have hMM := hMM.kept (H1 := H9) (fun q h2 h3 => hq q h2 (fun z => z.elim (nM q h3).1 (nM q h3).2.1))
  have hN0 := Nat.le_trans hN0 hz
  clear hq hz hAX
  refine lv_istore (lv' := [(6, .int r), (0, .ref b), (1, .ref h0), (2, .ref m0), (3, .ref o1), (4, .ref o2), (5, .int (nI i))]) hx hb dL_law_1881 hl (by decide) rfl (fun ls hl => ?_)
  refine lv_aload_n hx hb dL_law_1883 rfl (lv_at hl 3 rfl) ?_
  refine lv_aload_n hx hb dL_law_1884 rfl (lv_at hl 1 rfl) ?_
  refine lv_iload hx hb dL_law_1885 (lv_at hl 6 rfl) ?_
  refine lv_iconst (v := 1) hx hb dL_law_1887 (by decide) ?_
  refine lv_iadd hx hb dL_law_1888 ?_
  refine va_sld hx hb hX hbl hbA hS (lw_in (k := 1) (by omega) hL) dL_law_1889 ?_
  refine va_calli (A1 := AM) (free := AM) (va_runV (As := [.int (xs (nI i + 1).toNatClampNeg)]) (rest := []) S0 (c_X5_left l AM D ac _ hR hI.w (xs (nI i + 1).toNatClampNeg)) (cwV 1 hts gL_law_X5_left rfl rfl rfl (by decide +kernel) ⟨Nat.le_of_ble_eq_true rfl, Nat.le_of_ble_eq_true rfl⟩) ⟨fun a U g mk q => ⟨q.1, tkJ.blind U g mk a q.2⟩, tk_recv hK hMM hR.1 rfl, fun U hU hW => ⟨rfl, tkJ.at hMM hK U hU hW⟩⟩ rfl rfl hl.1 rfl (lv_room (Nat.le_of_ble_eq_true rfl)) dL_law_1890 ⟨by show _ ≤ 603072; omega, by show _ ≤ 7211114; omega⟩) hS (fun q _ h => aM q h) (fun q h => aM q h) (fun r2 G2 t H2 locs ht hal hp2 hBB hz hq hS => ?_)
  have hMM : tkM AM D G2 H2 := by rw [← ht]; exact hBB
  have hMX := hMX.kept (H1 := H2) (fun q h2 h3 => hq q h2 (fun z => (nM q z).1 h3))
  have hM1 := hM1.kept (H1 := H2) (fun q h2 h3 => hq q h2 (fun z => (nM q z).2.1 h3))
  have hM2 := hM2.kept (H1 := H2) (fun q h2 h3 => hq q h2 (fun z => (nM q z).2.2 h3))
  have hN0 := Nat.le_trans hN0 hz
  clear hq hz hBB
  obtain ⟨hR2, hr2⟩ := hp2
  refine lv_istore (lv' := [(7, .int r2), (6, .int r), (0, .ref b), (1, .ref h0), (2, .ref m0), (3, .ref o1), (4, .ref o2), (5, .int (nI i))]) hx hb dL_law_1893 hl (by decide) rfl (fun ls hl => ?_)
  refine lv_aload_n hx hb dL_law_1895 rfl (lv_at hl 4 rfl) ?_
  refine tk_cVi (As := []) S0 (c_X5_thrown l AM D ac _ hR2) (cwV 0 hts gL_law_X5_thrown rfl rfl rfl (by decide +kernel) ⟨Nat.le_of_ble_eq_true rfl, Nat.le_of_ble_eq_true rfl⟩) (tkJ.blind) (tkJ.at hMM hK) (tk_recv hK hMM hR2.1 rfl) rfl hl.1 rfl (Nat.le_of_ble_eq_true rfl) dL_law_1896 ⟨by show _ ≤ 603072; omega, by show _ ≤ 7211114; omega⟩ (fun r3 hr3 => ?_)
  refine lv_iload hx hb dL_law_1899 (lv_at hl 1 rfl) ?_
  refine lv_icmp_eq (tgt := 1906) hx hb dL_law_1901 (by decide) (fun _ => ?_) (fun c9 => absurd (hr3.trans hr9.symm) c9)
  refine lv_iload hx hb dL_law_1906 (lv_at hl 1 rfl) ?_
  refine lv_if_ne (tgt := 1923) hx hb dL_law_1908 (by decide) (fun _ => ?_) (fun c9 => ?_)
  · refine lv_goto (tgt := 2164) hx hb dL_law_1923 (by decide) ?_
    refine W.widen (k := cells + 20) (n := slots + 500) (by omega) (by omega) ?_
    exact kk (S_left M (xs (nI i + 1).toNatClampNeg)).2.1 _ _ ls ⟨(by rw [rd_left]; exact hI), ⟨_, _, hP9, hMX⟩, ⟨_, _, hR2, hMM⟩, ⟨_, hM1⟩, ⟨_, hM2⟩, hS, hN0⟩ (lv_sub hl [2, 3, 4, 5, 6, 7] rfl)
  · have hv9 := hv9 (hr9.symm.trans c9)
    refine lv_aload_n hx hb dL_law_1911 rfl (lv_at hl 5 rfl) ?_
    refine lv_iconst (v := 0) hx hb dL_law_1912 (by decide) ?_
    refine tk_lald hx hb hK hM1 4 (va_up_self _ _ _) rfl (by unfold vp_in; decide) dL_law_1913 ?_
    refine lv_iload hx hb dL_law_1914 (lv_at hl 0 rfl) ?_
    refine lv_i2l hx hb dL_law_1916 rfl ?_
    have hv9 : f9 (0 : Int32).toNatClampNeg = r2.toInt64 := by rw [hr2]; exact hv9
    rw [hv9]
    refine W.lcmp hx hb dL_law_1917 ?_
    refine lv_if_eq (tgt := 1923) hx hb dL_law_1918 (by decide) (fun _ => ?_) (fun c8 => absurd (lself _) c8)
    refine lv_goto (tgt := 2164) hx hb dL_law_1923 (by decide) ?_
    refine W.widen (k := cells + 20) (n := slots + 500) (by omega) (by omega) ?_
    exact kk (S_left M (xs (nI i + 1).toNatClampNeg)).2.1 _ _ ls ⟨(by rw [rd_left]; exact hI), ⟨_, _, hP9, hMX⟩, ⟨_, _, hR2, hMM⟩, ⟨_, hM1⟩, ⟨_, hM2⟩, hS, hN0⟩ (lv_sub hl [2, 3, 4, 5, 6, 7] rfl)
set_option maxHeartbeats 4000000 in
set_option maxRecDepth 100000 in
theorem law_pace {p : Program} {l : Launch} {e : Env} {s : State} {m : MethodId} {below : List Frame} {meth : Method} {c : Code} {b L : Nat} {xs : Nat → Int32} {D : va_G} {ac : Nat → ClassId} {dE h0 m0 : Nat} {am : Nat → Nat} {AX AM : Nat → Prop} {o1 o2 N0 i cells slots : Nat} {M : TS} {H : Heap} {locs : List Loc} {ls : Array Slot} (X0 : lw_X p l s m c b L xs D ac dE AX AM o1 o2 N0) (I0 : lw_I s D ac dE h0 m0 am AX AM o1 o2 N0 M H locs) (hL : L ≤ 2560) (hi : i + 5 ≤ L) (hc : cells + 20 ≤ 603072) (hs : slots + 500 ≤ 7211114) (hl : lv_has ls 9 [(0, .ref b), (1, .ref h0), (2, .ref m0), (3, .ref o1), (4, .ref o2), (5, .int (nI i))])
    (kk : ∀ (M : TS) (H : Heap) (locs : List Loc) (ls : Array Slot), lw_I s D ac dE h0 m0 am AX AM o1 o2 N0 M H locs → lv_has ls 9 [(0, .ref b), (1, .ref h0), (2, .ref m0), (3, .ref o1), (4, .ref o2), (5, .int (nI i))] → W p l e room_1 s m #[Value.ref b] below meth c H locs (cells + 20) (slots + 500) (lw_Z below #[Value.ref b] s) (F0 m 2164 ls [])) : W p l e room_1 s m #[Value.ref b] below meth c H locs cells slots (lw_Z below #[Value.ref b] s) (F0 m 1926 ls []) := by
  obtain ⟨⟨hx, hb, hml, hown, hts, hX, hbl, hst⟩, ⟨hK, hF, hO, hN⟩, ⟨aX, aM, a1, a2⟩, ⟨n1, n2, n12, nM⟩, hA⟩ := X0
  obtain ⟨hI, ⟨α, GX, hP, hMX⟩, ⟨th, GM, hR, hMM⟩, ⟨f1, hM1⟩, ⟨f2, hM2⟩, hS, hN0⟩ := I0
  have S0 : CallFix p m c code 9 s #[Value.ref b] wsL_law RL := ⟨hx, hb, hml, hown, hts⟩
  have hbA : ¬ lw_A s b := Nat.not_le.mpr hbl
  have hAX : ∀ q, H.size ≤ q → AX q := fun q h => hA q (Nat.le_trans hN0 h)
  refine lv_aload_n hx hb dL_law_1926 rfl (lv_at hl 1 rfl) ?_
  refine lv_aload_n hx hb dL_law_1927 rfl (lv_at hl 0 rfl) ?_
  refine lv_iload hx hb dL_law_1928 (lv_at hl 5 rfl) ?_
  refine lv_iconst (v := 1) hx hb dL_law_1930 (by decide) ?_
  refine lv_iadd hx hb dL_law_1931 ?_
  refine va_sld hx hb hX hbl hbA hS (lw_in (k := 1) (by omega) hL) dL_law_1932 ?_
  refine lv_aload hx hb dL_law_1933 (lv_at hl 4 rfl) ?_
  refine vx_calli (A1 := fun q => AX q ∨ q = o2) (free := fun q => AX q ∨ q = o2) (vx_runSX (As := [.ref h0, .int (xs (nI i + 1).toNatClampNeg), .ref o2]) (rest := []) S0 (c_L_pace l hst AX o2 D ac dE _ hP hI f2 (xs (nI i + 1).toNatClampNeg)) (vx_cwSW 3 hts gL_law_L_pace rfl rfl rfl (by decide +kernel) ⟨Nat.le_of_ble_eq_true rfl, Nat.le_of_ble_eq_true rfl⟩) ⟨fun a U g mk q => ⟨q.1, tkW.blind U g mk a q.2⟩, fun U hU hW => ⟨rfl, tkW.law hMX hM2 n2 hN hK hAX aX hF hO hS U hU hW⟩⟩ rfl rfl hl.1 rfl (lv_room (Nat.le_of_ble_eq_true rfl)) dL_law_1935 ⟨by show _ ≤ 603072; omega, by show _ ≤ 7211114; omega⟩) hS (fun q _ h => h.elim (fun h => aX q h) (fun h => by rw [h]; exact a2)) (fun q h => h.elim (fun h => aX q h) (fun h => by rw [h]; exact a2)) (fun q _ h => h.elim) (fun _ _ _ _ _ _ _ _ _ _ h => h.elim) (fun r u t H9 locs ht hal hp hBB hz hq hS => ?_)
  rw [ht] at hBB
  obtain ⟨G9, f9⟩ := u
  obtain ⟨hr9, hv9, α9, hP9⟩ := hp
  obtain ⟨hMX, hM2⟩ := hBB
  dsimp only at hv9 hP9 hMX hM2
  have hM1 := hM1.kept (H1 := H9) (fun q h2 h3 => hq q h2 (fun z => z.elim (fun z => n1 (by rw [← h3]; exact z)) (fun z => n12 (h3.symm.trans z))))
  have hMM := hMM.kept (H1 := H9) (fun q h2 h3 => hq q h2 (fun z => z.elim (nM q h3).1 (nM q h3).2.2))
  have hN0 := Nat.le_trans hN0 hz
  clear hq hz hAX
  refine lv_istore (lv' := [(6, .int r), (0, .ref b), (1, .ref h0), (2, .ref m0), (3, .ref o1), (4, .ref o2), (5, .int (nI i))]) hx hb dL_law_1938 hl (by decide) rfl (fun ls hl => ?_)
  refine lv_aload_n hx hb dL_law_1940 rfl (lv_at hl 3 rfl) ?_
  refine lv_aload_n hx hb dL_law_1941 rfl (lv_at hl 1 rfl) ?_
  refine lv_iload hx hb dL_law_1942 (lv_at hl 6 rfl) ?_
  refine lv_iconst (v := 1) hx hb dL_law_1944 (by decide) ?_
  refine lv_iadd hx hb dL_law_1945 ?_
  refine va_sld hx hb hX hbl hbA hS (lw_in (k := 1) (by omega) hL) dL_law_1946 ?_
  refine va_callf (A1 := AM) (free := AM) (va_runV (As := [.int (xs (nI i + 1).toNatClampNeg)]) (rest := []) S0 (c_X5_pace l AM D ac _ hR hI.w (xs (nI i + 1).toNatClampNeg)) (cwV 1 hts gL_law_X5_pace rfl rfl rfl (by decide +kernel) ⟨Nat.le_of_ble_eq_true rfl, Nat.le_of_ble_eq_true rfl⟩) ⟨fun a U g mk q => ⟨q.1, tkJ.blind U g mk a q.2⟩, tk_recv hK hMM hR.1 rfl, fun U hU hW => ⟨rfl, tkJ.at hMM hK U hU hW⟩⟩ rfl rfl hl.1 rfl (lv_room (Nat.le_of_ble_eq_true rfl)) dL_law_1947 ⟨by show _ ≤ 603072; omega, by show _ ≤ 7211114; omega⟩) hS (fun q _ h => aM q h) (fun q h => aM q h) (fun r2 G2 t H2 locs ht hal hp2 hBB hz hq hS => ?_)
  have hMM : tkM AM D G2 H2 := by rw [← ht]; exact hBB
  have hMX := hMX.kept (H1 := H2) (fun q h2 h3 => hq q h2 (fun z => (nM q z).1 h3))
  have hM1 := hM1.kept (H1 := H2) (fun q h2 h3 => hq q h2 (fun z => (nM q z).2.1 h3))
  have hM2 := hM2.kept (H1 := H2) (fun q h2 h3 => hq q h2 (fun z => (nM q z).2.2 h3))
  have hN0 := Nat.le_trans hN0 hz
  clear hq hz hBB
  obtain ⟨hR2, hr2⟩ := hp2
  refine lv_fstore (lv' := [(7, .float r2), (6, .int r), (0, .ref b), (1, .ref h0), (2, .ref m0), (3, .ref o1), (4, .ref o2), (5, .int (nI i))]) hx hb dL_law_1950 hl (by decide) rfl (fun ls hl => ?_)
  refine lv_aload_n hx hb dL_law_1952 rfl (lv_at hl 4 rfl) ?_
  refine tk_cVi (As := []) S0 (c_X5_thrown l AM D ac _ hR2) (cwV 0 hts gL_law_X5_thrown rfl rfl rfl (by decide +kernel) ⟨Nat.le_of_ble_eq_true rfl, Nat.le_of_ble_eq_true rfl⟩) (tkJ.blind) (tkJ.at hMM hK) (tk_recv hK hMM hR2.1 rfl) rfl hl.1 rfl (Nat.le_of_ble_eq_true rfl) dL_law_1953 ⟨by show _ ≤ 603072; omega, by show _ ≤ 7211114; omega⟩ (fun r3 hr3 => ?_)
  refine lv_iload hx hb dL_law_1956 (lv_at hl 1 rfl) ?_
  refine lv_icmp_eq (tgt := 1963) hx hb dL_law_1958 (by decide) (fun _ => ?_) (fun c9 => absurd (hr3.trans hr9.symm) c9)
  refine lv_iload hx hb dL_law_1963 (lv_at hl 1 rfl) ?_
  refine lv_if_ne (tgt := 2001) hx hb dL_law_1965 (by decide) (fun _ => ?_) (fun c9 => ?_)
  · refine lv_goto (tgt := 2164) hx hb dL_law_2001 (by decide) ?_
    refine W.widen (k := cells + 20) (n := slots + 500) (by omega) (by omega) ?_
    exact kk (S_pace M (xs (nI i + 1).toNatClampNeg)).2.1 _ _ ls ⟨(by rw [rd_pace]; exact hI), ⟨_, _, hP9, hMX⟩, ⟨_, _, hR2, hMM⟩, ⟨_, hM1⟩, ⟨_, hM2⟩, hS, hN0⟩ (lv_sub hl [2, 3, 4, 5, 6, 7] rfl)
  · have hv9 := hv9 (hr9.symm.trans c9)
    refine lv_aload hx hb dL_law_1968 (lv_at hl 6 rfl) ?_
    refine lv_iconst (v := 0) hx hb dL_law_1970 (by decide) ?_
    refine tk_dald hx hb hK hM2 5 (va_up_self _ _ _) rfl (by unfold vp_in; decide) dL_law_1971 ?_
    have hnn : vf_n64 (FP.f2d r2) := by rw [hr2]; exact fl_f2d _ (pace_n (hr9.symm.trans c9))
    refine lv_fload hx hb dL_law_1972 (lv_at hl 0 rfl) ?_
    refine lv_f2d hx hb dL_law_1974 hnn ?_
    have hv9 : f9 (0 : Int32).toNatClampNeg = FP.f2d r2 := by rw [hr2]; exact hv9
    rw [hv9]
    refine lv_dcmp hx hb dL_law_1975 ?_
    refine lv_if_eq (tgt := 2001) hx hb dL_law_1976 (by decide) (fun _ => ?_) (fun c8 => absurd (dself hnn _) c8)
    refine lv_goto (tgt := 2164) hx hb dL_law_2001 (by decide) ?_
    refine W.widen (k := cells + 20) (n := slots + 500) (by omega) (by omega) ?_
    exact kk (S_pace M (xs (nI i + 1).toNatClampNeg)).2.1 _ _ ls ⟨(by rw [rd_pace]; exact hI), ⟨_, _, hP9, hMX⟩, ⟨_, _, hR2, hMM⟩, ⟨_, hM1⟩, ⟨_, hM2⟩, hS, hN0⟩ (lv_sub hl [2, 3, 4, 5, 6, 7] rfl)
set_option maxHeartbeats 4000000 in
set_option maxRecDepth 100000 in
theorem law_forecast {p : Program} {l : Launch} {e : Env} {s : State} {m : MethodId} {below : List Frame} {meth : Method} {c : Code} {b L : Nat} {xs : Nat → Int32} {D : va_G} {ac : Nat → ClassId} {dE h0 m0 : Nat} {am : Nat → Nat} {AX AM : Nat → Prop} {o1 o2 N0 i cells slots : Nat} {M : TS} {H : Heap} {locs : List Loc} {ls : Array Slot} (X0 : lw_X p l s m c b L xs D ac dE AX AM o1 o2 N0) (I0 : lw_I s D ac dE h0 m0 am AX AM o1 o2 N0 M H locs) (hL : L ≤ 2560) (hi : i + 5 ≤ L) (hc : cells + 20 ≤ 603072) (hs : slots + 500 ≤ 7211114) (hl : lv_has ls 9 [(0, .ref b), (1, .ref h0), (2, .ref m0), (3, .ref o1), (4, .ref o2), (5, .int (nI i))])
    (kk : ∀ (M : TS) (H : Heap) (locs : List Loc) (ls : Array Slot), lw_I s D ac dE h0 m0 am AX AM o1 o2 N0 M H locs → lv_has ls 9 [(0, .ref b), (1, .ref h0), (2, .ref m0), (3, .ref o1), (4, .ref o2), (5, .int (nI i))] → W p l e room_1 s m #[Value.ref b] below meth c H locs (cells + 20) (slots + 500) (lw_Z below #[Value.ref b] s) (F0 m 2164 ls [])) : W p l e room_1 s m #[Value.ref b] below meth c H locs cells slots (lw_Z below #[Value.ref b] s) (F0 m 2004 ls []) := by
  obtain ⟨⟨hx, hb, hml, hown, hts, hX, hbl, hst⟩, ⟨hK, hF, hO, hN⟩, ⟨aX, aM, a1, a2⟩, ⟨n1, n2, n12, nM⟩, hA⟩ := X0
  obtain ⟨hI, ⟨α, GX, hP, hMX⟩, ⟨th, GM, hR, hMM⟩, ⟨f1, hM1⟩, ⟨f2, hM2⟩, hS, hN0⟩ := I0
  have S0 : CallFix p m c code 9 s #[Value.ref b] wsL_law RL := ⟨hx, hb, hml, hown, hts⟩
  have hbA : ¬ lw_A s b := Nat.not_le.mpr hbl
  have hAX : ∀ q, H.size ≤ q → AX q := fun q h => hA q (Nat.le_trans hN0 h)
  refine lv_aload_n hx hb dL_law_2004 rfl (lv_at hl 1 rfl) ?_
  refine lv_aload_n hx hb dL_law_2005 rfl (lv_at hl 0 rfl) ?_
  refine lv_iload hx hb dL_law_2006 (lv_at hl 5 rfl) ?_
  refine lv_iconst (v := 1) hx hb dL_law_2008 (by decide) ?_
  refine lv_iadd hx hb dL_law_2009 ?_
  refine va_sld hx hb hX hbl hbA hS (lw_in (k := 1) (by omega) hL) dL_law_2010 ?_
  refine lv_aload_n hx hb dL_law_2011 rfl (lv_at hl 0 rfl) ?_
  refine lv_iload hx hb dL_law_2012 (lv_at hl 5 rfl) ?_
  refine lv_iconst (v := 2) hx hb dL_law_2014 (by decide) ?_
  refine lv_iadd hx hb dL_law_2015 ?_
  refine va_sld hx hb hX hbl hbA hS (lw_in (k := 2) (by omega) hL) dL_law_2016 ?_
  refine lv_aload_n hx hb dL_law_2017 rfl (lv_at hl 3 rfl) ?_
  refine vx_calli (A1 := fun q => AX q ∨ q = o1) (free := fun q => AX q ∨ q = o1) (vx_runSX (As := [.ref h0, .int (xs (nI i + 1).toNatClampNeg), .int (xs (nI i + 2).toNatClampNeg), .ref o1]) (rest := []) S0 (c_L_forecast l hst AX o1 D ac dE _ hP hI f1 (xs (nI i + 1).toNatClampNeg) (xs (nI i + 2).toNatClampNeg)) (vx_cwSW 4 hts gL_law_L_forecast rfl rfl rfl (by decide +kernel) ⟨Nat.le_of_ble_eq_true rfl, Nat.le_of_ble_eq_true rfl⟩) ⟨fun a U g mk q => ⟨q.1, tkW.blind U g mk a q.2⟩, fun U hU hW => ⟨rfl, tkW.law hMX hM1 n1 hN hK hAX aX hF hO hS U hU hW⟩⟩ rfl rfl hl.1 rfl (lv_room (Nat.le_of_ble_eq_true rfl)) dL_law_2018 ⟨by show _ ≤ 603072; omega, by show _ ≤ 7211114; omega⟩) hS (fun q _ h => h.elim (fun h => aX q h) (fun h => by rw [h]; exact a1)) (fun q h => h.elim (fun h => aX q h) (fun h => by rw [h]; exact a1)) (fun q _ h => h.elim) (fun _ _ _ _ _ _ _ _ _ _ h => h.elim) (fun r u t H9 locs ht hal hp hBB hz hq hS => ?_)
  rw [ht] at hBB
  obtain ⟨G9, f9⟩ := u
  obtain ⟨hr9, hv9, α9, hP9⟩ := hp
  obtain ⟨hMX, hM1⟩ := hBB
  dsimp only at hv9 hP9 hMX hM1
  have hM2 := hM2.kept (H1 := H9) (fun q h2 h3 => hq q h2 (fun z => z.elim (fun z => n2 (by rw [← h3]; exact z)) (fun z => n12 (z.symm.trans h3))))
  have hMM := hMM.kept (H1 := H9) (fun q h2 h3 => hq q h2 (fun z => z.elim (nM q h3).1 (nM q h3).2.1))
  have hN0 := Nat.le_trans hN0 hz
  clear hq hz hAX
  refine lv_istore (lv' := [(6, .int r), (0, .ref b), (1, .ref h0), (2, .ref m0), (3, .ref o1), (4, .ref o2), (5, .int (nI i))]) hx hb dL_law_2021 hl (by decide) rfl (fun ls hl => ?_)
  refine lv_aload_n hx hb dL_law_2023 rfl (lv_at hl 3 rfl) ?_
  refine lv_aload_n hx hb dL_law_2024 rfl (lv_at hl 1 rfl) ?_
  refine lv_iload hx hb dL_law_2025 (lv_at hl 6 rfl) ?_
  refine lv_iconst (v := 1) hx hb dL_law_2027 (by decide) ?_
  refine lv_iadd hx hb dL_law_2028 ?_
  refine va_sld hx hb hX hbl hbA hS (lw_in (k := 1) (by omega) hL) dL_law_2029 ?_
  refine lv_aload_n hx hb dL_law_2030 rfl (lv_at hl 1 rfl) ?_
  refine lv_iload hx hb dL_law_2031 (lv_at hl 6 rfl) ?_
  refine lv_iconst (v := 2) hx hb dL_law_2033 (by decide) ?_
  refine lv_iadd hx hb dL_law_2034 ?_
  refine va_sld hx hb hX hbl hbA hS (lw_in (k := 2) (by omega) hL) dL_law_2035 ?_
  refine va_calli (A1 := AM) (free := AM) (va_runV (As := [.int (xs (nI i + 1).toNatClampNeg), .int (xs (nI i + 2).toNatClampNeg)]) (rest := []) S0 (c_X5_forecast l AM D ac _ hR hI.w (xs (nI i + 1).toNatClampNeg) (xs (nI i + 2).toNatClampNeg)) (cwV 2 hts gL_law_X5_forecast rfl rfl rfl (by decide +kernel) ⟨Nat.le_of_ble_eq_true rfl, Nat.le_of_ble_eq_true rfl⟩) ⟨fun a U g mk q => ⟨q.1, tkJ.blind U g mk a q.2⟩, tk_recv hK hMM hR.1 rfl, fun U hU hW => ⟨rfl, tkJ.at hMM hK U hU hW⟩⟩ rfl rfl hl.1 rfl (lv_room (Nat.le_of_ble_eq_true rfl)) dL_law_2036 ⟨by show _ ≤ 603072; omega, by show _ ≤ 7211114; omega⟩) hS (fun q _ h => aM q h) (fun q h => aM q h) (fun r2 G2 t H2 locs ht hal hp2 hBB hz hq hS => ?_)
  have hMM : tkM AM D G2 H2 := by rw [← ht]; exact hBB
  have hMX := hMX.kept (H1 := H2) (fun q h2 h3 => hq q h2 (fun z => (nM q z).1 h3))
  have hM1 := hM1.kept (H1 := H2) (fun q h2 h3 => hq q h2 (fun z => (nM q z).2.1 h3))
  have hM2 := hM2.kept (H1 := H2) (fun q h2 h3 => hq q h2 (fun z => (nM q z).2.2 h3))
  have hN0 := Nat.le_trans hN0 hz
  clear hq hz hBB
  obtain ⟨hR2, hr2⟩ := hp2
  refine lv_istore (lv' := [(7, .int r2), (6, .int r), (0, .ref b), (1, .ref h0), (2, .ref m0), (3, .ref o1), (4, .ref o2), (5, .int (nI i))]) hx hb dL_law_2039 hl (by decide) rfl (fun ls hl => ?_)
  refine lv_aload_n hx hb dL_law_2041 rfl (lv_at hl 4 rfl) ?_
  refine tk_cVi (As := []) S0 (c_X5_thrown l AM D ac _ hR2) (cwV 0 hts gL_law_X5_thrown rfl rfl rfl (by decide +kernel) ⟨Nat.le_of_ble_eq_true rfl, Nat.le_of_ble_eq_true rfl⟩) (tkJ.blind) (tkJ.at hMM hK) (tk_recv hK hMM hR2.1 rfl) rfl hl.1 rfl (Nat.le_of_ble_eq_true rfl) dL_law_2042 ⟨by show _ ≤ 603072; omega, by show _ ≤ 7211114; omega⟩ (fun r3 hr3 => ?_)
  refine lv_iload hx hb dL_law_2045 (lv_at hl 1 rfl) ?_
  refine lv_icmp_eq (tgt := 2052) hx hb dL_law_2047 (by decide) (fun _ => ?_) (fun c9 => absurd (hr3.trans hr9.symm) c9)
  refine lv_iload hx hb dL_law_2052 (lv_at hl 1 rfl) ?_
  refine lv_if_ne (tgt := 2069) hx hb dL_law_2054 (by decide) (fun _ => ?_) (fun c9 => ?_)
  · refine lv_goto (tgt := 2164) hx hb dL_law_2069 (by decide) ?_
    refine W.widen (k := cells + 20) (n := slots + 500) (by omega) (by omega) ?_
    exact kk (S_forecast M (xs (nI i + 1).toNatClampNeg) (xs (nI i + 2).toNatClampNeg)).2.1 _ _ ls ⟨(by rw [rd_forecast]; exact hI), ⟨_, _, hP9, hMX⟩, ⟨_, _, hR2, hMM⟩, ⟨_, hM1⟩, ⟨_, hM2⟩, hS, hN0⟩ (lv_sub hl [2, 3, 4, 5, 6, 7] rfl)
  · have hv9 := hv9 (hr9.symm.trans c9)
    refine lv_aload_n hx hb dL_law_2057 rfl (lv_at hl 5 rfl) ?_
    refine lv_iconst (v := 0) hx hb dL_law_2058 (by decide) ?_
    refine tk_lald hx hb hK hM1 4 (va_up_self _ _ _) rfl (by unfold vp_in; decide) dL_law_2059 ?_
    refine lv_iload hx hb dL_law_2060 (lv_at hl 0 rfl) ?_
    refine lv_i2l hx hb dL_law_2062 rfl ?_
    have hv9 : f9 (0 : Int32).toNatClampNeg = r2.toInt64 := by rw [hr2]; exact hv9
    rw [hv9]
    refine W.lcmp hx hb dL_law_2063 ?_
    refine lv_if_eq (tgt := 2069) hx hb dL_law_2064 (by decide) (fun _ => ?_) (fun c8 => absurd (lself _) c8)
    refine lv_goto (tgt := 2164) hx hb dL_law_2069 (by decide) ?_
    refine W.widen (k := cells + 20) (n := slots + 500) (by omega) (by omega) ?_
    exact kk (S_forecast M (xs (nI i + 1).toNatClampNeg) (xs (nI i + 2).toNatClampNeg)).2.1 _ _ ls ⟨(by rw [rd_forecast]; exact hI), ⟨_, _, hP9, hMX⟩, ⟨_, _, hR2, hMM⟩, ⟨_, hM1⟩, ⟨_, hM2⟩, hS, hN0⟩ (lv_sub hl [2, 3, 4, 5, 6, 7] rfl)
set_option maxHeartbeats 4000000 in
set_option maxRecDepth 100000 in
theorem law_due {p : Program} {l : Launch} {e : Env} {s : State} {m : MethodId} {below : List Frame} {meth : Method} {c : Code} {b L : Nat} {xs : Nat → Int32} {D : va_G} {ac : Nat → ClassId} {dE h0 m0 : Nat} {am : Nat → Nat} {AX AM : Nat → Prop} {o1 o2 N0 i cells slots : Nat} {M : TS} {H : Heap} {locs : List Loc} {ls : Array Slot} (X0 : lw_X p l s m c b L xs D ac dE AX AM o1 o2 N0) (I0 : lw_I s D ac dE h0 m0 am AX AM o1 o2 N0 M H locs) (hL : L ≤ 2560) (hi : i + 5 ≤ L) (hc : cells + 20 ≤ 603072) (hs : slots + 500 ≤ 7211114) (hl : lv_has ls 9 [(0, .ref b), (1, .ref h0), (2, .ref m0), (3, .ref o1), (4, .ref o2), (5, .int (nI i))])
    (kk : ∀ (M : TS) (H : Heap) (locs : List Loc) (ls : Array Slot), lw_I s D ac dE h0 m0 am AX AM o1 o2 N0 M H locs → lv_has ls 9 [(0, .ref b), (1, .ref h0), (2, .ref m0), (3, .ref o1), (4, .ref o2), (5, .int (nI i))] → W p l e room_1 s m #[Value.ref b] below meth c H locs (cells + 20) (slots + 500) (lw_Z below #[Value.ref b] s) (F0 m 2164 ls [])) : W p l e room_1 s m #[Value.ref b] below meth c H locs cells slots (lw_Z below #[Value.ref b] s) (F0 m 2072 ls []) := by
  obtain ⟨⟨hx, hb, hml, hown, hts, hX, hbl, hst⟩, ⟨hK, hF, hO, hN⟩, ⟨aX, aM, a1, a2⟩, ⟨n1, n2, n12, nM⟩, hA⟩ := X0
  obtain ⟨hI, ⟨α, GX, hP, hMX⟩, ⟨th, GM, hR, hMM⟩, ⟨f1, hM1⟩, ⟨f2, hM2⟩, hS, hN0⟩ := I0
  have S0 : CallFix p m c code 9 s #[Value.ref b] wsL_law RL := ⟨hx, hb, hml, hown, hts⟩
  have hbA : ¬ lw_A s b := Nat.not_le.mpr hbl
  have hAX : ∀ q, H.size ≤ q → AX q := fun q h => hA q (Nat.le_trans hN0 h)
  refine lv_aload_n hx hb dL_law_2072 rfl (lv_at hl 1 rfl) ?_
  refine vp_callSl (va_Run.run (va_runV (As := []) (rest := []) S0 (c_X4_due (nv := 0) l AX D ac dE _ hP hI.w) (cwV 0 hts gL_law_X4_due rfl rfl rfl (by decide +kernel) ⟨Nat.le_of_ble_eq_true rfl, Nat.le_of_ble_eq_true rfl⟩) ⟨fun a U g mk q => ⟨q.1, tkX.blind U g mk a q.2⟩, tk_recv hK hMX hP.h rfl, fun U hU hW => ⟨rfl, tkX.law hMX hK hAX aX hF hO hS U hU hW⟩⟩ rfl rfl hl.1 rfl (lv_room (Nat.le_of_ble_eq_true rfl)) dL_law_2073 ⟨by show _ ≤ 603072; omega, by show _ ≤ 7211114; omega⟩)) (fun r hr => ?_)
  refine lv_aload_n hx hb dL_law_2076 rfl (lv_at hl 2 rfl) ?_
  refine va_calll (A1 := AM) (free := AM) (va_runV (As := []) (rest := [.long r]) S0 (c_X5_due l AM D ac _ hR hI.w) (cwV 0 hts gL_law_X5_due rfl rfl rfl (by decide +kernel) ⟨Nat.le_of_ble_eq_true rfl, Nat.le_of_ble_eq_true rfl⟩) ⟨fun a U g mk q => ⟨q.1, tkJ.blind U g mk a q.2⟩, tk_recv hK hMM hR.1 rfl, fun U hU hW => ⟨rfl, tkJ.at hMM hK U hU hW⟩⟩ rfl rfl hl.1 rfl (lv_room (Nat.le_of_ble_eq_true rfl)) dL_law_2077 ⟨by show _ ≤ 603072; omega, by show _ ≤ 7211114; omega⟩) hS (fun q _ h => aM q h) (fun q h => aM q h) (fun r2 G2 t H2 locs ht hal hp2 hBB hz hq hS => ?_)
  have hMM : tkM AM D G2 H2 := by rw [← ht]; exact hBB
  have hMX := hMX.kept (H1 := H2) (fun q h2 h3 => hq q h2 (fun z => (nM q z).1 h3))
  have hM1 := hM1.kept (H1 := H2) (fun q h2 h3 => hq q h2 (fun z => (nM q z).2.1 h3))
  have hM2 := hM2.kept (H1 := H2) (fun q h2 h3 => hq q h2 (fun z => (nM q z).2.2 h3))
  have hN0 := Nat.le_trans hN0 hz
  obtain ⟨hR2, hr2⟩ := hp2
  refine W.widen (k := cells + 20) (n := slots + 500) (by omega) (by omega) ?_
  have hrr : r = r2 := by rw [hr, hr2]
  subst hrr
  refine W.lcmp hx hb dL_law_2080 ?_
  refine lv_if_eq (tgt := 2164) hx hb dL_law_2081 (by decide) (fun _ => ?_) (fun c8 => absurd (lself _) c8)
  exact kk M _ _ ls ⟨hI, ⟨_, _, hP, hMX⟩, ⟨_, _, hR2, hMM⟩, ⟨_, hM1⟩, ⟨_, hM2⟩, hS, hN0⟩ hl
set_option maxHeartbeats 4000000 in
set_option maxRecDepth 100000 in
theorem law_meanPrice {p : Program} {l : Launch} {e : Env} {s : State} {m : MethodId} {below : List Frame} {meth : Method} {c : Code} {b L : Nat} {xs : Nat → Int32} {D : va_G} {ac : Nat → ClassId} {dE h0 m0 : Nat} {am : Nat → Nat} {AX AM : Nat → Prop} {o1 o2 N0 i cells slots : Nat} {M : TS} {H : Heap} {locs : List Loc} {ls : Array Slot} (X0 : lw_X p l s m c b L xs D ac dE AX AM o1 o2 N0) (I0 : lw_I s D ac dE h0 m0 am AX AM o1 o2 N0 M H locs) (hL : L ≤ 2560) (hi : i + 5 ≤ L) (hc : cells + 20 ≤ 603072) (hs : slots + 500 ≤ 7211114) (hl : lv_has ls 9 [(0, .ref b), (1, .ref h0), (2, .ref m0), (3, .ref o1), (4, .ref o2), (5, .int (nI i))])
    (kk : ∀ (M : TS) (H : Heap) (locs : List Loc) (ls : Array Slot), lw_I s D ac dE h0 m0 am AX AM o1 o2 N0 M H locs → lv_has ls 9 [(0, .ref b), (1, .ref h0), (2, .ref m0), (3, .ref o1), (4, .ref o2), (5, .int (nI i))] → W p l e room_1 s m #[Value.ref b] below meth c H locs (cells + 20) (slots + 500) (lw_Z below #[Value.ref b] s) (F0 m 2164 ls [])) : W p l e room_1 s m #[Value.ref b] below meth c H locs cells slots (lw_Z below #[Value.ref b] s) (F0 m 2086 ls []) := by
  obtain ⟨⟨hx, hb, hml, hown, hts, hX, hbl, hst⟩, ⟨hK, hF, hO, hN⟩, ⟨aX, aM, a1, a2⟩, ⟨n1, n2, n12, nM⟩, hA⟩ := X0
  obtain ⟨hI, ⟨α, GX, hP, hMX⟩, ⟨th, GM, hR, hMM⟩, ⟨f1, hM1⟩, ⟨f2, hM2⟩, hS, hN0⟩ := I0
  have S0 : CallFix p m c code 9 s #[Value.ref b] wsL_law RL := ⟨hx, hb, hml, hown, hts⟩
  have hbA : ¬ lw_A s b := Nat.not_le.mpr hbl
  have hAX : ∀ q, H.size ≤ q → AX q := fun q h => hA q (Nat.le_trans hN0 h)
  refine lv_aload_n hx hb dL_law_2086 rfl (lv_at hl 1 rfl) ?_
  refine lv_aload hx hb dL_law_2087 (lv_at hl 4 rfl) ?_
  refine vx_calli (A1 := fun q => AX q ∨ q = o2) (free := fun q => AX q ∨ q = o2) (vx_runSX (As := [.ref h0, .ref o2]) (rest := []) S0 (c_L_meanPrice l hst AX o2 D ac dE _ hP hI f2) (vx_cwSW 2 hts gL_law_L_meanPrice rfl rfl rfl (by decide +kernel) ⟨Nat.le_of_ble_eq_true rfl, Nat.le_of_ble_eq_true rfl⟩) ⟨fun a U g mk q => ⟨q.1, tkW.blind U g mk a q.2⟩, fun U hU hW => ⟨rfl, tkW.law hMX hM2 n2 hN hK hAX aX hF hO hS U hU hW⟩⟩ rfl rfl hl.1 rfl (lv_room (Nat.le_of_ble_eq_true rfl)) dL_law_2089 ⟨by show _ ≤ 603072; omega, by show _ ≤ 7211114; omega⟩) hS (fun q _ h => h.elim (fun h => aX q h) (fun h => by rw [h]; exact a2)) (fun q h => h.elim (fun h => aX q h) (fun h => by rw [h]; exact a2)) (fun q _ h => h.elim) (fun _ _ _ _ _ _ _ _ _ _ h => h.elim) (fun r u t H9 locs ht hal hp hBB hz hq hS => ?_)
  rw [ht] at hBB
  obtain ⟨G9, f9⟩ := u
  obtain ⟨hr9, hv9, α9, hP9⟩ := hp
  obtain ⟨hMX, hM2⟩ := hBB
  dsimp only at hv9 hP9 hMX hM2
  have hM1 := hM1.kept (H1 := H9) (fun q h2 h3 => hq q h2 (fun z => z.elim (fun z => n1 (by rw [← h3]; exact z)) (fun z => n12 (h3.symm.trans z))))
  have hMM := hMM.kept (H1 := H9) (fun q h2 h3 => hq q h2 (fun z => z.elim (nM q h3).1 (nM q h3).2.2))
  have hN0 := Nat.le_trans hN0 hz
  clear hq hz hAX
  refine lv_istore (lv' := [(6, .int r), (0, .ref b), (1, .ref h0), (2, .ref m0), (3, .ref o1), (4, .ref o2), (5, .int (nI i))]) hx hb dL_law_2092 hl (by decide) rfl (fun ls hl => ?_)
  refine lv_aload_n hx hb dL_law_2094 rfl (lv_at hl 3 rfl) ?_
  refine va_calld (A1 := AM) (free := AM) (va_runV (As := []) (rest := []) S0 (c_X5_meanPrice l AM D ac _ hR hI.w) (cwV 0 hts gL_law_X5_meanPrice rfl rfl rfl (by decide +kernel) ⟨Nat.le_of_ble_eq_true rfl, Nat.le_of_ble_eq_true rfl⟩) ⟨fun a U g mk q => ⟨q.1, tkJ.blind U g mk a q.2⟩, tk_recv hK hMM hR.1 rfl, fun U hU hW => ⟨rfl, tkJ.at hMM hK U hU hW⟩⟩ rfl rfl hl.1 rfl (lv_room (Nat.le_of_ble_eq_true rfl)) dL_law_2095 ⟨by show _ ≤ 603072; omega, by show _ ≤ 7211114; omega⟩) hS (fun q _ h => aM q h) (fun q h => aM q h) (fun r2 G2 t H2 locs ht hal hp2 hBB hz hq hS => ?_)
  have hMM : tkM AM D G2 H2 := by rw [← ht]; exact hBB
  have hMX := hMX.kept (H1 := H2) (fun q h2 h3 => hq q h2 (fun z => (nM q z).1 h3))
  have hM1 := hM1.kept (H1 := H2) (fun q h2 h3 => hq q h2 (fun z => (nM q z).2.1 h3))
  have hM2 := hM2.kept (H1 := H2) (fun q h2 h3 => hq q h2 (fun z => (nM q z).2.2 h3))
  have hN0 := Nat.le_trans hN0 hz
  clear hq hz hBB
  obtain ⟨hR2, hr2⟩ := hp2
  refine lv_dstore (lv' := [(7, .double r2), (6, .int r), (0, .ref b), (1, .ref h0), (2, .ref m0), (3, .ref o1), (4, .ref o2), (5, .int (nI i))]) hx hb dL_law_2098 hl (by decide) rfl (fun ls hl => ?_)
  refine lv_aload_n hx hb dL_law_2100 rfl (lv_at hl 4 rfl) ?_
  refine tk_cVi (As := []) S0 (c_X5_thrown l AM D ac _ hR2) (cwV 0 hts gL_law_X5_thrown rfl rfl rfl (by decide +kernel) ⟨Nat.le_of_ble_eq_true rfl, Nat.le_of_ble_eq_true rfl⟩) (tkJ.blind) (tkJ.at hMM hK) (tk_recv hK hMM hR2.1 rfl) rfl hl.1 rfl (Nat.le_of_ble_eq_true rfl) dL_law_2101 ⟨by show _ ≤ 603072; omega, by show _ ≤ 7211114; omega⟩ (fun r3 hr3 => ?_)
  refine lv_iload hx hb dL_law_2104 (lv_at hl 1 rfl) ?_
  refine lv_icmp_eq (tgt := 2111) hx hb dL_law_2106 (by decide) (fun _ => ?_) (fun c9 => absurd (hr3.trans hr9.symm) c9)
  refine lv_iload hx hb dL_law_2111 (lv_at hl 1 rfl) ?_
  refine lv_if_ne (tgt := 2148) hx hb dL_law_2113 (by decide) (fun _ => ?_) (fun c9 => ?_)
  · refine lv_goto (tgt := 2164) hx hb dL_law_2148 (by decide) ?_
    refine W.widen (k := cells + 20) (n := slots + 500) (by omega) (by omega) ?_
    exact kk (S_meanPrice M).2.1 _ _ ls ⟨(by rw [rd_meanPrice]; exact hI), ⟨_, _, hP9, hMX⟩, ⟨_, _, hR2, hMM⟩, ⟨_, hM1⟩, ⟨_, hM2⟩, hS, hN0⟩ (lv_sub hl [2, 3, 4, 5, 6, 7] rfl)
  · have hv9 := hv9 (hr9.symm.trans c9)
    refine lv_aload hx hb dL_law_2116 (lv_at hl 6 rfl) ?_
    refine lv_iconst (v := 0) hx hb dL_law_2118 (by decide) ?_
    refine tk_dald hx hb hK hM2 5 (va_up_self _ _ _) rfl (by unfold vp_in; decide) dL_law_2119 ?_
    have hnn : vf_n64 r2 := by rw [hr2]; exact mean_n (hr9.symm.trans c9)
    refine lv_dload hx hb dL_law_2120 (lv_at hl 0 rfl) ?_
    have hv9 : f9 (0 : Int32).toNatClampNeg = r2 := by rw [hr2]; exact hv9
    rw [hv9]
    refine lv_dcmp hx hb dL_law_2122 ?_
    refine lv_if_eq (tgt := 2148) hx hb dL_law_2123 (by decide) (fun _ => ?_) (fun c8 => absurd (dself hnn _) c8)
    refine lv_goto (tgt := 2164) hx hb dL_law_2148 (by decide) ?_
    refine W.widen (k := cells + 20) (n := slots + 500) (by omega) (by omega) ?_
    exact kk (S_meanPrice M).2.1 _ _ ls ⟨(by rw [rd_meanPrice]; exact hI), ⟨_, _, hP9, hMX⟩, ⟨_, _, hR2, hMM⟩, ⟨_, hM1⟩, ⟨_, hM2⟩, hS, hN0⟩ (lv_sub hl [2, 3, 4, 5, 6, 7] rfl)
set_option maxHeartbeats 4000000 in
set_option maxRecDepth 100000 in
theorem law_isSettled {p : Program} {l : Launch} {e : Env} {s : State} {m : MethodId} {below : List Frame} {meth : Method} {c : Code} {b L : Nat} {xs : Nat → Int32} {D : va_G} {ac : Nat → ClassId} {dE h0 m0 : Nat} {am : Nat → Nat} {AX AM : Nat → Prop} {o1 o2 N0 i cells slots : Nat} {M : TS} {H : Heap} {locs : List Loc} {ls : Array Slot} (X0 : lw_X p l s m c b L xs D ac dE AX AM o1 o2 N0) (I0 : lw_I s D ac dE h0 m0 am AX AM o1 o2 N0 M H locs) (hL : L ≤ 2560) (hi : i + 5 ≤ L) (hc : cells + 20 ≤ 603072) (hs : slots + 500 ≤ 7211114) (hl : lv_has ls 9 [(0, .ref b), (1, .ref h0), (2, .ref m0), (3, .ref o1), (4, .ref o2), (5, .int (nI i))])
    (kk : ∀ (M : TS) (H : Heap) (locs : List Loc) (ls : Array Slot), lw_I s D ac dE h0 m0 am AX AM o1 o2 N0 M H locs → lv_has ls 9 [(0, .ref b), (1, .ref h0), (2, .ref m0), (3, .ref o1), (4, .ref o2), (5, .int (nI i))] → W p l e room_1 s m #[Value.ref b] below meth c H locs (cells + 20) (slots + 500) (lw_Z below #[Value.ref b] s) (F0 m 2164 ls [])) : W p l e room_1 s m #[Value.ref b] below meth c H locs cells slots (lw_Z below #[Value.ref b] s) (F0 m 2151 ls []) := by
  obtain ⟨⟨hx, hb, hml, hown, hts, hX, hbl, hst⟩, ⟨hK, hF, hO, hN⟩, ⟨aX, aM, a1, a2⟩, ⟨n1, n2, n12, nM⟩, hA⟩ := X0
  obtain ⟨hI, ⟨α, GX, hP, hMX⟩, ⟨th, GM, hR, hMM⟩, ⟨f1, hM1⟩, ⟨f2, hM2⟩, hS, hN0⟩ := I0
  have S0 : CallFix p m c code 9 s #[Value.ref b] wsL_law RL := ⟨hx, hb, hml, hown, hts⟩
  have hbA : ¬ lw_A s b := Nat.not_le.mpr hbl
  have hAX : ∀ q, H.size ≤ q → AX q := fun q h => hA q (Nat.le_trans hN0 h)
  refine lv_aload_n hx hb dL_law_2151 rfl (lv_at hl 1 rfl) ?_
  refine tk_cVi (As := []) S0 (c_X4_isSettled (nv := 0) l AX D ac dE _ hP hI.w hI.wb) (cwV 0 hts gL_law_X4_isSettled rfl rfl rfl (by decide +kernel) ⟨Nat.le_of_ble_eq_true rfl, Nat.le_of_ble_eq_true rfl⟩) (tkX.blind) (fun U hU hW => tkX.law hMX hK hAX aX hF hO hS U hU hW) (tk_recv hK hMX hP.h rfl) rfl hl.1 rfl (Nat.le_of_ble_eq_true rfl) dL_law_2152 ⟨by show _ ≤ 603072; omega, by show _ ≤ 7211114; omega⟩ (fun r hr => ?_)
  refine lv_aload_n hx hb dL_law_2155 rfl (lv_at hl 2 rfl) ?_
  refine va_calli (A1 := AM) (free := AM) (va_runV (As := []) (rest := [.int r]) S0 (c_X5_isSettled l AM D ac _ hR) (cwV 0 hts gL_law_X5_isSettled rfl rfl rfl (by decide +kernel) ⟨Nat.le_of_ble_eq_true rfl, Nat.le_of_ble_eq_true rfl⟩) ⟨fun a U g mk q => ⟨q.1, tkJ.blind U g mk a q.2⟩, tk_recv hK hMM hR.1 rfl, fun U hU hW => ⟨rfl, tkJ.at hMM hK U hU hW⟩⟩ rfl rfl hl.1 rfl (lv_room (Nat.le_of_ble_eq_true rfl)) dL_law_2156 ⟨by show _ ≤ 603072; omega, by show _ ≤ 7211114; omega⟩) hS (fun q _ h => aM q h) (fun q h => aM q h) (fun r2 G2 t H2 locs ht hal hp2 hBB hz hq hS => ?_)
  have hMM : tkM AM D G2 H2 := by rw [← ht]; exact hBB
  have hMX := hMX.kept (H1 := H2) (fun q h2 h3 => hq q h2 (fun z => (nM q z).1 h3))
  have hM1 := hM1.kept (H1 := H2) (fun q h2 h3 => hq q h2 (fun z => (nM q z).2.1 h3))
  have hM2 := hM2.kept (H1 := H2) (fun q h2 h3 => hq q h2 (fun z => (nM q z).2.2 h3))
  have hN0 := Nat.le_trans hN0 hz
  obtain ⟨hR2, hr2⟩ := hp2
  refine W.widen (k := cells + 20) (n := slots + 500) (by omega) (by omega) ?_
  have hrr : r = r2 := by rw [hr2, tkB_i hr, eq_isSettled hI]; rfl
  refine lv_icmp_eq (tgt := 2164) hx hb dL_law_2159 (by decide) (fun _ => ?_) (fun c8 => absurd hrr c8)
  exact kk M _ _ ls ⟨hI, ⟨_, _, hP, hMX⟩, ⟨_, _, hR2, hMM⟩, ⟨_, hM1⟩, ⟨_, hM2⟩, hS, hN0⟩ hl
