/-! the law: its loop -/
set_option maxHeartbeats 8000000 in
set_option maxRecDepth 100000 in
theorem law_loop {p : Program} {l : Launch} {e : Env} {s : State} {m : MethodId} {below : List Frame} {meth : Method} {c : Code} {b L : Nat} {xs : Nat → Int32} {D : va_G} {ac : Nat → ClassId} {dE h0 m0 : Nat} {am : Nat → Nat} {AX AM : Nat → Prop} {o1 o2 N0 : Nat} (X0 : lw_X p l s m c b L xs D ac dE AX AM o1 o2 N0) (hr : meth.sig.returnType = ret) (hlocks : meth.locks = false) (hL : L ≤ 2560) : ∀ (n i j : Nat) (M : TS) (H : Heap) (locs : List Loc) (ls : Array Slot), i = 5 * j → i ≤ 2560 → 2566 ≤ i + 5 * n → lw_I s D ac dE h0 m0 am AX AM o1 o2 N0 M H locs → lv_has ls 9 [(0, .ref b), (1, .ref h0), (2, .ref m0), (3, .ref o1), (4, .ref o2), (5, .int (nI i))] → W p l e room_1 s m #[Value.ref b] below meth c H locs (100 + 20 * j) (5000 + 500 * j) (lw_Z below #[Value.ref b] s) (F0 m 28 ls []) := by
  intro n
  induction n with
  | zero => intro i j M H locs ls h1 h2 h3; exact absurd h3 (by omega)
  | succ n ih =>
    intro i j M H locs ls ej hi2 hn I0 hl
    obtain ⟨⟨hx, hb, hml, hown, hts, hX, hbl, hst⟩, -⟩ := id X0
    have hbA : ¬ lw_A s b := Nat.not_le.mpr hbl
    have hS : va_S (lw_A s) s.heap H locs := I0.2.2.2.2.2.1
    refine lv_iload hx hb dL_law_28 (lv_at hl 5 rfl) ?_
    refine lv_aload_n hx hb dL_law_30 rfl (lv_at hl 0 rfl) ?_
    refine va_slen hx hb hX hbl hbA hS dL_law_31 ?_
    refine lv_iconst (v := 5) hx hb dL_law_32 (by decide) ?_
    refine lv_isub hx hb dL_law_33 ?_
    refine lv_icmp_gt (tgt := 2170) hx hb dL_law_34 (by decide) (fun _ => ?_) (fun c9 => ?_)
    · refine lv_iconst (v := 1) hx hb dL_law_2170 (by decide) ?_
      refine va_forget (fun q hq => hS.2.2 q hq) ?_
      refine W.widen (k := 603072) (n := 7211114) (by omega) (by omega) ?_
      exact lw_ret (d0 := s.drawn) (Drawn.sameBut.refl s.drawn lw_cs) hx hb hr hlocks dL_law_2171
    · have hi5 : i + 5 ≤ L := lw_bnd hL (by omega) c9
      have kk : ∀ (M : TS) (H : Heap) (locs : List Loc) (ls : Array Slot), lw_I s D ac dE h0 m0 am AX AM o1 o2 N0 M H locs → lv_has ls 9 [(0, .ref b), (1, .ref h0), (2, .ref m0), (3, .ref o1), (4, .ref o2), (5, .int (nI i))] → W p l e room_1 s m #[Value.ref b] below meth c H locs (100 + 20 * j + 20) (5000 + 500 * j + 500) (lw_Z below #[Value.ref b] s) (F0 m 2164 ls []) := by
        intro M H locs ls I1 hl
        refine lv_iinc (v := (nI (i + 5))) (lv' := [(5, .int (nI (i + 5))), (0, .ref b), (1, .ref h0), (2, .ref m0), (3, .ref o1), (4, .ref o2)]) hx hb dL_law_2164 hl (k := 5) rfl (nI_add i 5) (by decide) rfl (fun ls hl => ?_)
        refine lv_goto (tgt := 28) hx hb dL_law_2167 (by decide) ?_
        refine W.widen (k := 100 + 20 * (j + 1)) (n := 5000 + 500 * (j + 1)) (by omega) (by omega) ?_
        exact ih (i + 5) (j + 1) M H locs ls (by omega) (by omega) (by omega) I1 (lv_sub hl [1, 2, 3, 4, 5, 0] rfl)
      refine lv_aload_n hx hb dL_law_37 rfl (lv_at hl 0 rfl) ?_
      refine lv_iload hx hb dL_law_38 (lv_at hl 5 rfl) ?_
      refine va_sld hx hb hX hbl hbA hS (vp_in_nI (show i < L by omega) (by omega)) dL_law_40 ?_
      refine lv_bipush (v := 63) hx hb dL_law_41 (by decide) ?_
      refine lv_iand hx hb dL_law_43 ?_
      obtain ⟨k, hk, ek⟩ := lw_63 (xs (nI i).toNatClampNeg)
      rw [ek]
      match k, hk with
      | 0, _ => exact lv_tableIn (off := 160) (tgt := 204) hx hb dL_law_44 (by decide) (by decide) (by decide) (by decide) (law_addTask X0 I0 hL hi5 (by omega) (by omega) hl kk)
      | 1, _ => exact lv_tableIn (off := 240) (tgt := 284) hx hb dL_law_44 (by decide) (by decide) (by decide) (by decide) (law_block X0 I0 hL hi5 (by omega) (by omega) hl kk)
      | 2, _ => exact lv_tableIn (off := 308) (tgt := 352) hx hb dL_law_44 (by decide) (by decide) (by decide) (by decide) (law_begin X0 I0 hL hi5 (by omega) (by omega) hl kk)
      | 3, _ => exact lv_tableIn (off := 364) (tgt := 408) hx hb dL_law_44 (by decide) (by decide) (by decide) (by decide) (law_propose X0 I0 hL hi5 (by omega) (by omega) hl kk)
      | 4, _ => exact lv_tableIn (off := 420) (tgt := 464) hx hb dL_law_44 (by decide) (by decide) (by decide) (by decide) (law_reject X0 I0 hL hi5 (by omega) (by omega) hl kk)
      | 5, _ => exact lv_tableIn (off := 476) (tgt := 520) hx hb dL_law_44 (by decide) (by decide) (by decide) (by decide) (law_merge X0 I0 hL hi5 (by omega) (by omega) hl kk)
      | 6, _ => exact lv_tableIn (off := 532) (tgt := 576) hx hb dL_law_44 (by decide) (by decide) (by decide) (by decide) (law_reopen X0 I0 hL hi5 (by omega) (by omega) hl kk)
      | 7, _ => exact lv_tableIn (off := 588) (tgt := 632) hx hb dL_law_44 (by decide) (by decide) (by decide) (by decide) (law_state X0 I0 hL hi5 (by omega) (by omega) hl kk)
      | 8, _ => exact lv_tableIn (off := 644) (tgt := 688) hx hb dL_law_44 (by decide) (by decide) (by decide) (by decide) (law_parent X0 I0 hL hi5 (by omega) (by omega) hl kk)
      | 9, _ => exact lv_tableIn (off := 700) (tgt := 744) hx hb dL_law_44 (by decide) (by decide) (by decide) (by decide) (law_treeSize X0 I0 hL hi5 (by omega) (by omega) hl kk)
      | 10, _ => exact lv_tableIn (off := 756) (tgt := 800) hx hb dL_law_44 (by decide) (by decide) (by decide) (by decide) (law_canBegin X0 I0 hL hi5 (by omega) (by omega) hl kk)
      | 11, _ => exact lv_tableIn (off := 819) (tgt := 863) hx hb dL_law_44 (by decide) (by decide) (by decide) (by decide) (law_tasks X0 I0 hL hi5 (by omega) (by omega) hl kk)
      | 12, _ => exact lv_tableIn (off := 832) (tgt := 876) hx hb dL_law_44 (by decide) (by decide) (by decide) (by decide) (law_note X0 I0 hL hi5 (by omega) (by omega) hl kk)
      | 13, _ => exact lv_tableIn (off := 924) (tgt := 968) hx hb dL_law_44 (by decide) (by decide) (by decide) (by decide) (law_approve X0 I0 hL hi5 (by omega) (by omega) hl kk)
      | 14, _ => exact lv_tableIn (off := 980) (tgt := 1024) hx hb dL_law_44 (by decide) (by decide) (by decide) (by decide) (law_lock X0 I0 hL hi5 (by omega) (by omega) hl kk)
      | 15, _ => exact lv_tableIn (off := 1036) (tgt := 1080) hx hb dL_law_44 (by decide) (by decide) (by decide) (by decide) (law_entryState X0 I0 hL hi5 (by omega) (by omega) hl kk)
      | 16, _ => exact lv_tableIn (off := 1092) (tgt := 1136) hx hb dL_law_44 (by decide) (by decide) (by decide) (by decide) (law_price X0 I0 hL hi5 (by omega) (by omega) hl kk)
      | 17, _ => exact lv_tableIn (off := 1148) (tgt := 1192) hx hb dL_law_44 (by decide) (by decide) (by decide) (by decide) (law_entries X0 I0 hL hi5 (by omega) (by omega) hl kk)
      | 18, _ => exact lv_tableIn (off := 1161) (tgt := 1205) hx hb dL_law_44 (by decide) (by decide) (by decide) (by decide) (law_hours X0 I0 hL hi5 (by omega) (by omega) hl kk)
      | 19, _ => exact lv_tableIn (off := 1217) (tgt := 1261) hx hb dL_law_44 (by decide) (by decide) (by decide) (by decide) (law_room X0 I0 hL hi5 (by omega) (by omega) hl kk)
      | 20, _ => exact lv_tableIn (off := 1273) (tgt := 1317) hx hb dL_law_44 (by decide) (by decide) (by decide) (by decide) (law_setRate X0 I0 hL hi5 (by omega) (by omega) hl kk)
      | 21, _ => exact lv_tableIn (off := 1341) (tgt := 1385) hx hb dL_law_44 (by decide) (by decide) (by decide) (by decide) (law_setCap X0 I0 hL hi5 (by omega) (by omega) hl kk)
      | 22, _ => exact lv_tableIn (off := 1397) (tgt := 1441) hx hb dL_law_44 (by decide) (by decide) (by decide) (by decide) (law_setDiscount X0 I0 hL hi5 (by omega) (by omega) hl kk)
      | 23, _ => exact lv_tableIn (off := 1465) (tgt := 1509) hx hb dL_law_44 (by decide) (by decide) (by decide) (by decide) (law_invoice X0 I0 hL hi5 (by omega) (by omega) hl kk)
      | 24, _ => exact lv_tableIn (off := 1533) (tgt := 1577) hx hb dL_law_44 (by decide) (by decide) (by decide) (by decide) (law_invoices X0 I0 hL hi5 (by omega) (by omega) hl kk)
      | 25, _ => exact lv_tableIn (off := 1546) (tgt := 1590) hx hb dL_law_44 (by decide) (by decide) (by decide) (by decide) (law_total X0 I0 hL hi5 (by omega) (by omega) hl kk)
      | 26, _ => exact lv_tableIn (off := 1602) (tgt := 1646) hx hb dL_law_44 (by decide) (by decide) (by decide) (by decide) (law_totalByRules X0 I0 hL hi5 (by omega) (by omega) hl kk)
      | 27, _ => exact lv_tableIn (off := 1658) (tgt := 1702) hx hb dL_law_44 (by decide) (by decide) (by decide) (by decide) (law_credited X0 I0 hL hi5 (by omega) (by omega) hl kk)
      | 28, _ => exact lv_tableIn (off := 1714) (tgt := 1758) hx hb dL_law_44 (by decide) (by decide) (by decide) (by decide) (law_items X0 I0 hL hi5 (by omega) (by omega) hl kk)
      | 29, _ => exact lv_tableIn (off := 1770) (tgt := 1814) hx hb dL_law_44 (by decide) (by decide) (by decide) (by decide) (law_invoiceOf X0 I0 hL hi5 (by omega) (by omega) hl kk)
      | 30, _ => exact lv_tableIn (off := 1826) (tgt := 1870) hx hb dL_law_44 (by decide) (by decide) (by decide) (by decide) (law_left X0 I0 hL hi5 (by omega) (by omega) hl kk)
      | 31, _ => exact lv_tableIn (off := 1882) (tgt := 1926) hx hb dL_law_44 (by decide) (by decide) (by decide) (by decide) (law_pace X0 I0 hL hi5 (by omega) (by omega) hl kk)
      | 32, _ => exact lv_tableIn (off := 1960) (tgt := 2004) hx hb dL_law_44 (by decide) (by decide) (by decide) (by decide) (law_forecast X0 I0 hL hi5 (by omega) (by omega) hl kk)
      | 33, _ => exact lv_tableIn (off := 2028) (tgt := 2072) hx hb dL_law_44 (by decide) (by decide) (by decide) (by decide) (law_due X0 I0 hL hi5 (by omega) (by omega) hl kk)
      | 34, _ => exact lv_tableIn (off := 2042) (tgt := 2086) hx hb dL_law_44 (by decide) (by decide) (by decide) (by decide) (law_meanPrice X0 I0 hL hi5 (by omega) (by omega) hl kk)
      | 35, _ => exact lv_tableIn (off := 2107) (tgt := 2151) hx hb dL_law_44 (by decide) (by decide) (by decide) (by decide) (law_isSettled X0 I0 hL hi5 (by omega) (by omega) hl kk)
      | k + 36, hk =>
        refine lv_tableOut (tgt := 2164) hx hb dL_law_44 (Or.inr ?_) (by decide) ?_
        · rw [nI_toInt (by omega)]; omega
        · refine W.widen (k := 100 + 20 * j + 20) (n := 5000 + 500 * j + 500) (by omega) (by omega) ?_
          exact kk M H locs ls I0 hl
