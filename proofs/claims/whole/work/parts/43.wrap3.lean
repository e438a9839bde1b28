/-! the law: wrappers -/
set_option maxHeartbeats 4000000 in
set_option maxRecDepth 100000 in
theorem c_L_invoice (l : Launch) (hst : l.stackTraces = false) (A : Nat → Prop) (o : Nat) (D : va_G) (ac : Nat → ClassId) (dE : Nat) (G : TG) {h0 : Nat} {α : Nat → Nat → Nat} {M : TS} (hP : PX ac dE h0 α M (nV M) G) (hI : IV M) (f : Nat → Int64) (x1 x2 : Int32) : vx_Met l yL_invoice wsL_invoice ({ frames := 10, cells := 6, slots := 114, locals := 800 } : Room) (va_Pc [.ref h0, .int x1, .int x2, .ref o] (tkW A o D ac dE G (oGL ac o f))) (va_Qi (fun (z : Int32) (u : TG × (Nat → Int64)) => z = (S_invoice M x1 x2).1 ∧ ((S_invoice M x1 x2).1 = 0 → u.2 0 = (S_invoice M x1 x2).2.2.toInt64) ∧ ∃ α9 : Nat → Nat → Nat, PX ac dE h0 α9 (S_invoice M x1 x2).2.1 (nV (S_invoice M x1 x2).2.1) u.1) (fun (u : TG × (Nat → Int64)) t => tkM A D u.1 t.heap ∧ tkM (fun q => q = o) D (oGL ac o u.2) t.heap) (fun q => A q ∨ q = o)) (XG (fun _ => False)) 6 114 (fun q => A q ∨ q = o) := by
  refine vx_ofWH (cc := cL_invoice) (maxL := 5) (ret := (some .int)) (hh := [(0, 10, 13, 13), (0, 10, 17, 15), (0, 10, 21, 19), (0, 10, 25, 17)]) (by decide) rfl ?_
  intro p e s m args below meth c s₁ B hml hv
  obtain ⟨rfl, ⟨⟨hM, hK, hA, hF⟩, hO⟩, hMo, hoA, hNc⟩ := hv
  have hS : va_S (fun q => A q ∨ q = o) s.heap s.heap [] := va_S.rf
  have hx := B.exec
  have hb := B.bytes
  have hr := B.returns
  have hts := atoms_spec (ws := wsL_invoice) B.pre
  have htab : c.exceptionTable.toList = tableOf [(0, 10, 13, 13), (0, 10, 17, 15), (0, 10, 21, 19), (0, 10, 25, 17)] := vx_table (x := yL_invoice) B (hts _ List.mem_cons_self)
  have hown : s.vm.findClass RL = some m.cls := findClass_of_methodNamed B.named
  have hlocks := B.notSynchronized
  have S0 : CallFix p m c cL_invoice 5 s ([.ref h0, .int x1, .int x2, .ref o] : List Value).toArray wsL_invoice RL := ⟨hx, hb, hml, hown, hts⟩
  have hl := lv_entry ([.ref h0, .int x1, .int x2, .ref o]) (n := 5) (Nat.le_of_ble_eq_true rfl)
  rw [lg_entry_eq]
  generalize (lg_sl ([.ref h0, .int x1, .int x2, .ref o]) ++ List.replicate (5 - (lg_sl ([.ref h0, .int x1, .int x2, .ref o])).length) Slot.unset).toArray = ls at hl ⊢
  have hl : lv_has ls 5 [(0, .ref h0), (1, .int x1), (2, .int x2), (3, .ref o)] := hl
  refine lv_aload_n hx hb dL_invoice_0 rfl (lv_at hl 3 rfl) ?_
  refine lv_iconst (v := 0) hx hb dL_invoice_1 (by decide) ?_
  refine lv_aload_n hx hb dL_invoice_2 rfl (lv_at hl 0 rfl) ?_
  refine lv_iload_n hx hb dL_invoice_3 rfl (lv_at hl 1 rfl) ?_
  refine lv_iload_n hx hb dL_invoice_4 rfl (lv_at hl 2 rfl) ?_
  refine vx_calli (A1 := A) (free := A) (vx_runV (As := [.int x1, .int x2]) (rest := [.int 0, .ref o]) S0 (c_X4_invoice (nv := 0) l hst A D ac dE _ hP hI.w hI.wb (m16_0 hI) (m17_0 hI) x1 x2) (cwV 2 hts gL_invoice_X4_invoice rfl rfl rfl (by decide +kernel) ⟨Nat.le_of_ble_eq_true rfl, Nat.le_of_ble_eq_true rfl⟩) ⟨fun a U g mk q => ⟨q.1, tkX.blind U g mk a q.2⟩, tk_recv hK hM hP.h rfl, fun U hU hW => ⟨rfl, tkX.at hM hK hA hF hO va_S.rf U hU hW⟩⟩ rfl rfl hl.1 rfl (lv_room (Nat.le_of_ble_eq_true rfl)) dL_invoice_5 ⟨Nat.le_of_ble_eq_true rfl, Nat.le_of_ble_eq_true rfl⟩) hS (fun q _ h => Or.inl h) (fun q h => Or.inl h) (fun q _ h => h.elim) (fun E ce q9 u9 t H locs ht hal _ hX hz hq hS hce hcv hcl => ?_) (fun r G9 t H locs ht hal hp hBB hz hq hS => ?_)
  · have hM := hM.keptE (fun q h9 => hq q h9 (fun z => z))
    have hMo := hMo.keptE (fun q h9 => hq q h9 (fun z => z))
    rw [(eq_invoice hI x1 x2).1] at hX
    rcases List.mem_cons.mp hX with h9 | hX
    · obtain ⟨e9, hc9⟩ := Prod.mk.inj h9
      subst e9
      refine vx_catch (name := "java/lang/IndexOutOfBoundsException") hown [] ⟨0, 10, 13, 13⟩ [⟨0, 10, 17, 15⟩, ⟨0, 10, 21, 19⟩, ⟨0, 10, 25, 17⟩] htab (fun _ h => absurd h List.not_mem_nil) (by decide) (by decide) (hts (.classLink RL 13 "java/lang/IndexOutOfBoundsException") (by decide +kernel)) (va_Nw.use rfl (hF.2.2.2 ("java/lang/IndexOutOfBoundsException", "java/lang/IndexOutOfBoundsException") (by decide))) hce hcv hcl ?_
      refine lv_astore (lv' := [(4, .ref q9), (0, .ref h0), (1, .int x1), (2, .int x2), (3, .ref o)]) hx hb dL_invoice_13 hl (by decide) rfl (fun ls hl => ?_)
      refine lv_iconst (v := 1) hx hb dL_invoice_15 (by decide) ?_
      refine vx_ret ?_
      refine W.widen (k := 6) (n := 114) (Nat.le_of_ble_eq_true rfl) (Nat.le_of_ble_eq_true rfl) ?_
      exact W.iret (v := 1) hx hb hr (fun t9 h8 w9 => ⟨⟨1, (G, f), rfl, ⟨hc9.symm, fun z => absurd (hc9.symm.trans z) (by decide), ⟨α, (by rw [ne_invoice (fun z => absurd (hc9.symm.trans z) (by decide))]; exact hP)⟩⟩, by dsimp only; rw [h8]; exact ⟨hM, hMo⟩⟩, hS.F h8⟩) hS.2.2 dL_invoice_16
    rcases List.mem_cons.mp hX with h9 | hX
    · obtain ⟨e9, hc9⟩ := Prod.mk.inj h9
      subst e9
      refine vx_catch (name := "java/lang/IllegalArgumentException") hown [⟨0, 10, 13, 13⟩] ⟨0, 10, 17, 15⟩ [⟨0, 10, 21, 19⟩, ⟨0, 10, 25, 17⟩] htab (List.forall_mem_cons.mpr ⟨Or.inr ⟨by decide, "java/lang/IndexOutOfBoundsException", (hts (.classLink RL 13 "java/lang/IndexOutOfBoundsException") (by decide +kernel)), hNc ("java/lang/IllegalArgumentException", "java/lang/IndexOutOfBoundsException") (by decide)⟩, (fun _ h => absurd h List.not_mem_nil)⟩) (by decide) (by decide) (hts (.classLink RL 15 "java/lang/IllegalArgumentException") (by decide +kernel)) (va_Nw.use rfl (hF.2.2.2 ("java/lang/IllegalArgumentException", "java/lang/IllegalArgumentException") (by decide))) hce hcv hcl ?_
      refine lv_astore (lv' := [(4, .ref q9), (0, .ref h0), (1, .int x1), (2, .int x2), (3, .ref o)]) hx hb dL_invoice_17 hl (by decide) rfl (fun ls hl => ?_)
      refine lv_iconst (v := 2) hx hb dL_invoice_19 (by decide) ?_
      refine vx_ret ?_
      refine W.widen (k := 6) (n := 114) (Nat.le_of_ble_eq_true rfl) (Nat.le_of_ble_eq_true rfl) ?_
      exact W.iret (v := 2) hx hb hr (fun t9 h8 w9 => ⟨⟨2, (G, f), rfl, ⟨hc9.symm, fun z => absurd (hc9.symm.trans z) (by decide), ⟨α, (by rw [ne_invoice (fun z => absurd (hc9.symm.trans z) (by decide))]; exact hP)⟩⟩, by dsimp only; rw [h8]; exact ⟨hM, hMo⟩⟩, hS.F h8⟩) hS.2.2 dL_invoice_20
    rcases List.mem_cons.mp hX with h9 | hX
    · obtain ⟨e9, hc9⟩ := Prod.mk.inj h9
      subst e9
      refine vx_catch (name := "java/lang/UnsupportedOperationException") hown [⟨0, 10, 13, 13⟩, ⟨0, 10, 17, 15⟩] ⟨0, 10, 21, 19⟩ [⟨0, 10, 25, 17⟩] htab (List.forall_mem_cons.mpr ⟨Or.inr ⟨by decide, "java/lang/IndexOutOfBoundsException", (hts (.classLink RL 13 "java/lang/IndexOutOfBoundsException") (by decide +kernel)), hNc ("java/lang/UnsupportedOperationException", "java/lang/IndexOutOfBoundsException") (by decide)⟩, (List.forall_mem_cons.mpr ⟨Or.inr ⟨by decide, "java/lang/IllegalArgumentException", (hts (.classLink RL 15 "java/lang/IllegalArgumentException") (by decide +kernel)), hNc ("java/lang/UnsupportedOperationException", "java/lang/IllegalArgumentException") (by decide)⟩, (fun _ h => absurd h List.not_mem_nil)⟩)⟩) (by decide) (by decide) (hts (.classLink RL 19 "java/lang/UnsupportedOperationException") (by decide +kernel)) (va_Nw.use rfl (hF.2.2.2 ("java/lang/UnsupportedOperationException", "java/lang/UnsupportedOperationException") (by decide))) hce hcv hcl ?_
      refine lv_astore (lv' := [(4, .ref q9), (0, .ref h0), (1, .int x1), (2, .int x2), (3, .ref o)]) hx hb dL_invoice_21 hl (by decide) rfl (fun ls hl => ?_)
      refine lv_iconst (v := 3) hx hb dL_invoice_23 (by decide) ?_
      refine vx_ret ?_
      refine W.widen (k := 6) (n := 114) (Nat.le_of_ble_eq_true rfl) (Nat.le_of_ble_eq_true rfl) ?_
      exact W.iret (v := 3) hx hb hr (fun t9 h8 w9 => ⟨⟨3, (G, f), rfl, ⟨hc9.symm, fun z => absurd (hc9.symm.trans z) (by decide), ⟨α, (by rw [ne_invoice (fun z => absurd (hc9.symm.trans z) (by decide))]; exact hP)⟩⟩, by dsimp only; rw [h8]; exact ⟨hM, hMo⟩⟩, hS.F h8⟩) hS.2.2 dL_invoice_24
    have h9 := List.mem_singleton.mp hX
    obtain ⟨e9, hc9⟩ := Prod.mk.inj h9
    subst e9
    refine vx_catch (name := "java/lang/IllegalStateException") hown [⟨0, 10, 13, 13⟩, ⟨0, 10, 17, 15⟩, ⟨0, 10, 21, 19⟩] ⟨0, 10, 25, 17⟩ [] htab (List.forall_mem_cons.mpr ⟨Or.inr ⟨by decide, "java/lang/IndexOutOfBoundsException", (hts (.classLink RL 13 "java/lang/IndexOutOfBoundsException") (by decide +kernel)), hNc ("java/lang/IllegalStateException", "java/lang/IndexOutOfBoundsException") (by decide)⟩, (List.forall_mem_cons.mpr ⟨Or.inr ⟨by decide, "java/lang/IllegalArgumentException", (hts (.classLink RL 15 "java/lang/IllegalArgumentException") (by decide +kernel)), hNc ("java/lang/IllegalStateException", "java/lang/IllegalArgumentException") (by decide)⟩, (List.forall_mem_cons.mpr ⟨Or.inr ⟨by decide, "java/lang/UnsupportedOperationException", (hts (.classLink RL 19 "java/lang/UnsupportedOperationException") (by decide +kernel)), hNc ("java/lang/IllegalStateException", "java/lang/UnsupportedOperationException") (by decide)⟩, (fun _ h => absurd h List.not_mem_nil)⟩)⟩)⟩) (by decide) (by decide) (hts (.classLink RL 17 "java/lang/IllegalStateException") (by decide +kernel)) (va_Nw.use rfl (hF.2.2.2 ("java/lang/IllegalStateException", "java/lang/IllegalStateException") (by decide))) hce hcv hcl ?_
    refine lv_astore (lv' := [(4, .ref q9), (0, .ref h0), (1, .int x1), (2, .int x2), (3, .ref o)]) hx hb dL_invoice_25 hl (by decide) rfl (fun ls hl => ?_)
    refine lv_iconst (v := 4) hx hb dL_invoice_27 (by decide) ?_
    refine vx_ret ?_
    refine W.widen (k := 6) (n := 114) (Nat.le_of_ble_eq_true rfl) (Nat.le_of_ble_eq_true rfl) ?_
    exact W.iret (v := 4) hx hb hr (fun t9 h8 w9 => ⟨⟨4, (G, f), rfl, ⟨hc9.symm, fun z => absurd (hc9.symm.trans z) (by decide), ⟨α, (by rw [ne_invoice (fun z => absurd (hc9.symm.trans z) (by decide))]; exact hP)⟩⟩, by dsimp only; rw [h8]; exact ⟨hM, hMo⟩⟩, hS.F h8⟩) hS.2.2 dL_invoice_28
  · obtain ⟨g1, g2, g3⟩ := eq_invoice hI x1 x2
    rw [g1, g2] at hp
    obtain ⟨h1, ⟨α9, hP9⟩, hr9⟩ := hp
    have hM : tkM A D G9 H := by rw [← ht]; exact hBB
    have hP9 : PX ac dE h0 α9 (S_invoice M x1 x2).2.1 (nV (S_invoice M x1 x2).2.1) G9 := by
      have e9 : nV (K_invoice M x1 x2).2.1 = nV (S_invoice M x1 x2).2.1 := nV_cg (g3 0 (by decide) (by decide) (by decide) (by decide)).symm
      exact (hP9.cg g3).nvE e9
    have hMo := hMo.kept (H1 := H) (fun q h2 h3 => hq q h2 (by rw [h3]; exact hoA))
    have hMc := hM.un hMo hoA
    refine lv_i2l hx hb dL_invoice_8 rfl ?_
    refine tk_last hx hb hK hMc hS 4 (va_up_self _ _ _) rfl (by unfold vp_in; decide) dL_invoice_9 (fun H locs hM2 hS => ?_)
    rw [va_up2] at hM2
    obtain ⟨hM3, hMo3⟩ := hM2.cut hoA (fun a e9 h9 => hM.isA h9)
    refine lv_goto (tgt := 29) hx hb dL_invoice_10 (by decide) ?_
    refine lv_iconst (v := 0) hx hb dL_invoice_29 (by decide) ?_
    refine vx_ret ?_
    refine W.widen (k := 6) (n := 114) (Nat.le_of_ble_eq_true rfl) (Nat.le_of_ble_eq_true rfl) ?_
    exact W.iret (v := 0) hx hb hr (fun t9 h8 w9 => ⟨⟨0, (G9, vp_updL f 0 (r.toInt64)), rfl, ⟨h1.symm, fun _ => (by rw [hr9]; rfl), ⟨α9, hP9⟩⟩, by dsimp only; rw [h8]; exact ⟨hM3, hMo3⟩⟩, hS.F h8⟩) hS.2.2 dL_invoice_30
set_option maxHeartbeats 4000000 in
set_option maxRecDepth 100000 in
theorem c_L_total (l : Launch) (hst : l.stackTraces = false) (A : Nat → Prop) (o : Nat) (D : va_G) (ac : Nat → ClassId) (dE : Nat) (G : TG) {h0 : Nat} {α : Nat → Nat → Nat} {M : TS} (hP : PX ac dE h0 α M (nV M) G) (hI : IV M) (f : Nat → Int64) (x1 : Int32) : vx_Met l yL_total wsL_total ({ frames := 10, cells := 1, slots := 6, locals := 600 } : Room) (va_Pc [.ref h0, .int x1, .ref o] (tkW A o D ac dE G (oGL ac o f))) (va_Qi (fun (z : Int32) (u : TG × (Nat → Int64)) => z = (S_total M x1).1 ∧ ((S_total M x1).1 = 0 → u.2 0 = (S_total M x1).2.2.toInt64) ∧ ∃ α9 : Nat → Nat → Nat, PX ac dE h0 α9 (S_total M x1).2.1 (nV (S_total M x1).2.1) u.1) (fun (u : TG × (Nat → Int64)) t => tkM A D u.1 t.heap ∧ tkM (fun q => q = o) D (oGL ac o u.2) t.heap) (fun q => A q ∨ q = o)) (XG (fun _ => False)) 1 6 (fun q => A q ∨ q = o) := by
  refine vx_ofWH (cc := cL_total) (maxL := 4) (ret := (some .int)) (hh := [(0, 9, 12, 48)]) (by decide) rfl ?_
  intro p e s m args below meth c s₁ B hml hv
  obtain ⟨rfl, ⟨⟨hM, hK, hA, hF⟩, hO⟩, hMo, hoA, hNc⟩ := hv
  have hS : va_S (fun q => A q ∨ q = o) s.heap s.heap [] := va_S.rf
  have hx := B.exec
  have hb := B.bytes
  have hr := B.returns
  have hts := atoms_spec (ws := wsL_total) B.pre
  have htab : c.exceptionTable.toList = tableOf [(0, 9, 12, 48)] := vx_table (x := yL_total) B (hts _ List.mem_cons_self)
  have hown : s.vm.findClass RL = some m.cls := findClass_of_methodNamed B.named
  have hlocks := B.notSynchronized
  have S0 : CallFix p m c cL_total 4 s ([.ref h0, .int x1, .ref o] : List Value).toArray wsL_total RL := ⟨hx, hb, hml, hown, hts⟩
  have hl := lv_entry ([.ref h0, .int x1, .ref o]) (n := 4) (Nat.le_of_ble_eq_true rfl)
  rw [lg_entry_eq]
  generalize (lg_sl ([.ref h0, .int x1, .ref o]) ++ List.replicate (4 - (lg_sl ([.ref h0, .int x1, .ref o])).length) Slot.unset).toArray = ls at hl ⊢
  have hl : lv_has ls 4 [(0, .ref h0), (1, .int x1), (2, .ref o)] := hl
  refine lv_aload_n hx hb dL_total_0 rfl (lv_at hl 2 rfl) ?_
  refine lv_iconst (v := 0) hx hb dL_total_1 (by decide) ?_
  refine lv_aload_n hx hb dL_total_2 rfl (lv_at hl 0 rfl) ?_
  refine lv_iload_n hx hb dL_total_3 rfl (lv_at hl 1 rfl) ?_
  refine vx_calli (A1 := (fun _ => False)) (free := A) (vx_runV (As := [.int x1]) (rest := [.int 0, .ref o]) S0 (c_X4_total (nv := 0) l hst A D ac dE _ hP hI.w x1) (cwV 1 hts gL_total_X4_total rfl rfl rfl (by decide +kernel) ⟨Nat.le_of_ble_eq_true rfl, Nat.le_of_ble_eq_true rfl⟩) ⟨fun a U g mk q => ⟨q.1, tkX.blind U g mk a q.2⟩, tk_recv hK hM hP.h rfl, fun U hU hW => ⟨rfl, tkX.at hM hK hA hF hO va_S.rf U hU hW⟩⟩ rfl rfl hl.1 rfl (lv_room (Nat.le_of_ble_eq_true rfl)) dL_total_4 ⟨Nat.le_of_ble_eq_true rfl, Nat.le_of_ble_eq_true rfl⟩) hS (fun q _ h => h.elim) (fun q h => Or.inl h) (fun q _ h => h.elim) (fun E ce q9 u9 t H locs ht hal _ hX hz hq hS hce hcv hcl => ?_) (fun r G9 t H locs ht hal hp hBB hz hq hS => ?_)
  · have hM := hM.keptE (fun q h9 => hq q h9 (fun z => z))
    have hMo := hMo.keptE (fun q h9 => hq q h9 (fun z => z))
    have h9 := List.mem_singleton.mp hX
    obtain ⟨e9, hc9⟩ := Prod.mk.inj h9
    subst e9
    refine vx_catch (name := "java/util/NoSuchElementException") hown [] ⟨0, 9, 12, 48⟩ [] htab (fun _ h => absurd h List.not_mem_nil) (by decide) (by decide) (hts (.classLink RL 48 "java/util/NoSuchElementException") (by decide +kernel)) (va_Nw.use rfl (hF.2.2.2 ("java/util/NoSuchElementException", "java/util/NoSuchElementException") (by decide))) hce hcv hcl ?_
    refine lv_astore_n (lv' := [(3, .ref q9), (0, .ref h0), (1, .int x1), (2, .ref o)]) hx hb dL_total_12 rfl hl (by decide) rfl (fun ls hl => ?_)
    refine lv_iconst (v := 1) hx hb dL_total_13 (by decide) ?_
    refine vx_ret ?_
    refine W.widen (k := 1) (n := 6) (Nat.le_of_ble_eq_true rfl) (Nat.le_of_ble_eq_true rfl) ?_
    exact W.iret (v := 1) hx hb hr (fun t9 h8 w9 => ⟨⟨1, (G, f), rfl, ⟨hc9.symm, fun z => absurd (hc9.symm.trans z) (by decide), ⟨α, (by rw [rd_total]; exact hP)⟩⟩, by dsimp only; rw [h8]; exact ⟨hM, hMo⟩⟩, hS.F h8⟩) hS.2.2 dL_total_14
  · obtain ⟨h1, hr9⟩ := hp
    have hM := hM.keptE (fun q h9 => hq q h9 (fun z => z))
    have hMo := hMo.keptE (fun q h9 => hq q h9 (fun z => z))
    have hP9 : PX ac dE h0 α (S_total M x1).2.1 (nV (S_total M x1).2.1) G := by rw [rd_total]; exact hP
    have hMc := hM.un hMo hoA
    refine lv_i2l hx hb dL_total_7 rfl ?_
    refine tk_last hx hb hK hMc hS 4 (va_up_self _ _ _) rfl (by unfold vp_in; decide) dL_total_8 (fun H locs hM2 hS => ?_)
    rw [va_up2] at hM2
    obtain ⟨hM3, hMo3⟩ := hM2.cut hoA (fun a e9 h9 => hM.isA h9)
    refine lv_goto (tgt := 15) hx hb dL_total_9 (by decide) ?_
    refine lv_iconst (v := 0) hx hb dL_total_15 (by decide) ?_
    refine vx_ret ?_
    refine W.widen (k := 1) (n := 6) (Nat.le_of_ble_eq_true rfl) (Nat.le_of_ble_eq_true rfl) ?_
    exact W.iret (v := 0) hx hb hr (fun t9 h8 w9 => ⟨⟨0, (G, vp_updL f 0 (r.toInt64)), rfl, ⟨h1.symm, fun _ => (by rw [hr9]; rfl), ⟨α, hP9⟩⟩, by dsimp only; rw [h8]; exact ⟨hM3, hMo3⟩⟩, hS.F h8⟩) hS.2.2 dL_total_16
set_option maxHeartbeats 4000000 in
set_option maxRecDepth 100000 in
theorem c_L_totalByRules (l : Launch) (hst : l.stackTraces = false) (A : Nat → Prop) (o : Nat) (D : va_G) (ac : Nat → ClassId) (dE : Nat) (G : TG) {h0 : Nat} {α : Nat → Nat → Nat} {M : TS} (hP : PX ac dE h0 α M (nV M) G) (hI : IV M) (f : Nat → Int64) (x1 : Int32) : vx_Met l yL_totalByRules wsL_totalByRules ({ frames := 10, cells := 1, slots := 6, locals := 600 } : Room) (va_Pc [.ref h0, .int x1, .ref o] (tkW A o D ac dE G (oGL ac o f))) (va_Qi (fun (z : Int32) (u : TG × (Nat → Int64)) => z = (S_total M x1).1 ∧ ((S_total M x1).1 = 0 → u.2 0 = (S_total M x1).2.2.toInt64) ∧ ∃ α9 : Nat → Nat → Nat, PX ac dE h0 α9 (S_total M x1).2.1 (nV (S_total M x1).2.1) u.1) (fun (u : TG × (Nat → Int64)) t => tkM A D u.1 t.heap ∧ tkM (fun q => q = o) D (oGL ac o u.2) t.heap) (fun q => A q ∨ q = o)) (XG (fun _ => False)) 1 6 (fun q => A q ∨ q = o) := by
  refine vx_ofWH (cc := cL_totalByRules) (maxL := 4) (ret := (some .int)) (hh := [(0, 9, 12, 48)]) (by decide) rfl ?_
  intro p e s m args below meth c s₁ B hml hv
  obtain ⟨rfl, ⟨⟨hM, hK, hA, hF⟩, hO⟩, hMo, hoA, hNc⟩ := hv
  have hS : va_S (fun q => A q ∨ q = o) s.heap s.heap [] := va_S.rf
  have hx := B.exec
  have hb := B.bytes
  have hr := B.returns
  have hts := atoms_spec (ws := wsL_totalByRules) B.pre
  have htab : c.exceptionTable.toList = tableOf [(0, 9, 12, 48)] := vx_table (x := yL_totalByRules) B (hts _ List.mem_cons_self)
  have hown : s.vm.findClass RL = some m.cls := findClass_of_methodNamed B.named
  have hlocks := B.notSynchronized
  have S0 : CallFix p m c cL_totalByRules 4 s ([.ref h0, .int x1, .ref o] : List Value).toArray wsL_totalByRules RL := ⟨hx, hb, hml, hown, hts⟩
  have hl := lv_entry ([.ref h0, .int x1, .ref o]) (n := 4) (Nat.le_of_ble_eq_true rfl)
  rw [lg_entry_eq]
  generalize (lg_sl ([.ref h0, .int x1, .ref o]) ++ List.replicate (4 - (lg_sl ([.ref h0, .int x1, .ref o])).length) Slot.unset).toArray = ls at hl ⊢
  have hl : lv_has ls 4 [(0, .ref h0), (1, .int x1), (2, .ref o)] := hl
  refine lv_aload_n hx hb dL_totalByRules_0 rfl (lv_at hl 2 rfl) ?_
  refine lv_iconst (v := 0) hx hb dL_totalByRules_1 (by decide) ?_
  refine lv_aload_n hx hb dL_totalByRules_2 rfl (lv_at hl 0 rfl) ?_
  refine lv_iload_n hx hb dL_totalByRules_3 rfl (lv_at hl 1 rfl) ?_
  refine vx_calli (A1 := (fun _ => False)) (free := A) (vx_runV (As := [.int x1]) (rest := [.int 0, .ref o]) S0 (c_X4_totalByRules (nv := 0) l hst A D ac dE _ hP hI.w hI.wb x1) (cwV 1 hts gL_totalByRules_X4_totalByRules rfl rfl rfl (by decide +kernel) ⟨Nat.le_of_ble_eq_true rfl, Nat.le_of_ble_eq_true rfl⟩) ⟨fun a U g mk q => ⟨q.1, tkX.blind U g mk a q.2⟩, tk_recv hK hM hP.h rfl, fun U hU hW => ⟨rfl, tkX.at hM hK hA hF hO va_S.rf U hU hW⟩⟩ rfl rfl hl.1 rfl (lv_room (Nat.le_of_ble_eq_true rfl)) dL_totalByRules_4 ⟨Nat.le_of_ble_eq_true rfl, Nat.le_of_ble_eq_true rfl⟩) hS (fun q _ h => h.elim) (fun q h => Or.inl h) (fun q _ h => h.elim) (fun E ce q9 u9 t H locs ht hal _ hX hz hq hS hce hcv hcl => ?_) (fun r G9 t H locs ht hal hp hBB hz hq hS => ?_)
  · have hM := hM.keptE (fun q h9 => hq q h9 (fun z => z))
    have hMo := hMo.keptE (fun q h9 => hq q h9 (fun z => z))
    rw [eq_totalByRules hI] at hX
    have h9 := List.mem_singleton.mp hX
    obtain ⟨e9, hc9⟩ := Prod.mk.inj h9
    subst e9
    refine vx_catch (name := "java/util/NoSuchElementException") hown [] ⟨0, 9, 12, 48⟩ [] htab (fun _ h => absurd h List.not_mem_nil) (by decide) (by decide) (hts (.classLink RL 48 "java/util/NoSuchElementException") (by decide +kernel)) (va_Nw.use rfl (hF.2.2.2 ("java/util/NoSuchElementException", "java/util/NoSuchElementException") (by decide))) hce hcv hcl ?_
    refine lv_astore_n (lv' := [(3, .ref q9), (0, .ref h0), (1, .int x1), (2, .ref o)]) hx hb dL_totalByRules_12 rfl hl (by decide) rfl (fun ls hl => ?_)
    refine lv_iconst (v := 1) hx hb dL_totalByRules_13 (by decide) ?_
    refine vx_ret ?_
    refine W.widen (k := 1) (n := 6) (Nat.le_of_ble_eq_true rfl) (Nat.le_of_ble_eq_true rfl) ?_
    exact W.iret (v := 1) hx hb hr (fun t9 h8 w9 => ⟨⟨1, (G, f), rfl, ⟨hc9.symm, fun z => absurd (hc9.symm.trans z) (by decide), ⟨α, (by rw [rd_total]; exact hP)⟩⟩, by dsimp only; rw [h8]; exact ⟨hM, hMo⟩⟩, hS.F h8⟩) hS.2.2 dL_totalByRules_14
  · rw [eq_totalByRules hI] at hp
    obtain ⟨h1, hr9⟩ := hp
    have hM := hM.keptE (fun q h9 => hq q h9 (fun z => z))
    have hMo := hMo.keptE (fun q h9 => hq q h9 (fun z => z))
    have hP9 : PX ac dE h0 α (S_total M x1).2.1 (nV (S_total M x1).2.1) G := by rw [rd_total]; exact hP
    have hMc := hM.un hMo hoA
    refine lv_i2l hx hb dL_totalByRules_7 rfl ?_
    refine tk_last hx hb hK hMc hS 4 (va_up_self _ _ _) rfl (by unfold vp_in; decide) dL_totalByRules_8 (fun H locs hM2 hS => ?_)
    rw [va_up2] at hM2
    obtain ⟨hM3, hMo3⟩ := hM2.cut hoA (fun a e9 h9 => hM.isA h9)
    refine lv_goto (tgt := 15) hx hb dL_totalByRules_9 (by decide) ?_
    refine lv_iconst (v := 0) hx hb dL_totalByRules_15 (by decide) ?_
    refine vx_ret ?_
    refine W.widen (k := 1) (n := 6) (Nat.le_of_ble_eq_true rfl) (Nat.le_of_ble_eq_true rfl) ?_
    exact W.iret (v := 0) hx hb hr (fun t9 h8 w9 => ⟨⟨0, (G, vp_updL f 0 (r.toInt64)), rfl, ⟨h1.symm, fun _ => (by rw [hr9]; rfl), ⟨α, hP9⟩⟩, by dsimp only; rw [h8]; exact ⟨hM3, hMo3⟩⟩, hS.F h8⟩) hS.2.2 dL_totalByRules_16
set_option maxHeartbeats 4000000 in
set_option maxRecDepth 100000 in
theorem c_L_credited (l : Launch) (hst : l.stackTraces = false) (A : Nat → Prop) (o : Nat) (D : va_G) (ac : Nat → ClassId) (dE : Nat) (G : TG) {h0 : Nat} {α : Nat → Nat → Nat} {M : TS} (hP : PX ac dE h0 α M (nV M) G) (hI : IV M) (f : Nat → Int64) (x1 : Int32) : vx_Met l yL_credited wsL_credited ({ frames := 10, cells := 1, slots := 6, locals := 600 } : Room) (va_Pc [.ref h0, .int x1, .ref o] (tkW A o D ac dE G (oGL ac o f))) (va_Qi (fun (z : Int32) (u : TG × (Nat → Int64)) => z = (S_credited M x1).1 ∧ ((S_credited M x1).1 = 0 → u.2 0 = (S_credited M x1).2.2.toInt64) ∧ ∃ α9 : Nat → Nat → Nat, PX ac dE h0 α9 (S_credited M x1).2.1 (nV (S_credited M x1).2.1) u.1) (fun (u : TG × (Nat → Int64)) t => tkM A D u.1 t.heap ∧ tkM (fun q => q = o) D (oGL ac o u.2) t.heap) (fun q => A q ∨ q = o)) (XG (fun _ => False)) 1 6 (fun q => A q ∨ q = o) := by
  refine vx_ofWH (cc := cL_credited) (maxL := 4) (ret := (some .int)) (hh := [(0, 9, 12, 48)]) (by decide) rfl ?_
  intro p e s m args below meth c s₁ B hml hv
  obtain ⟨rfl, ⟨⟨hM, hK, hA, hF⟩, hO⟩, hMo, hoA, hNc⟩ := hv
  have hS : va_S (fun q => A q ∨ q = o) s.heap s.heap [] := va_S.rf
  have hx := B.exec
  have hb := B.bytes
  have hr := B.returns
  have hts := atoms_spec (ws := wsL_credited) B.pre
  have htab : c.exceptionTable.toList = tableOf [(0, 9, 12, 48)] := vx_table (x := yL_credited) B (hts _ List.mem_cons_self)
  have hown : s.vm.findClass RL = some m.cls := findClass_of_methodNamed B.named
  have hlocks := B.notSynchronized
  have S0 : CallFix p m c cL_credited 4 s ([.ref h0, .int x1, .ref o] : List Value).toArray wsL_credited RL := ⟨hx, hb, hml, hown, hts⟩
  have hl := lv_entry ([.ref h0, .int x1, .ref o]) (n := 4) (Nat.le_of_ble_eq_true rfl)
  rw [lg_entry_eq]
  generalize (lg_sl ([.ref h0, .int x1, .ref o]) ++ List.replicate (4 - (lg_sl ([.ref h0, .int x1, .ref o])).length) Slot.unset).toArray = ls at hl ⊢
  have hl : lv_has ls 4 [(0, .ref h0), (1, .int x1), (2, .ref o)] := hl
  refine lv_aload_n hx hb dL_credited_0 rfl (lv_at hl 2 rfl) ?_
  refine lv_iconst (v := 0) hx hb dL_credited_1 (by decide) ?_
  refine lv_aload_n hx hb dL_credited_2 rfl (lv_at hl 0 rfl) ?_
  refine lv_iload_n hx hb dL_credited_3 rfl (lv_at hl 1 rfl) ?_
  refine vx_calli (A1 := (fun _ => False)) (free := A) (vx_runV (As := [.int x1]) (rest := [.int 0, .ref o]) S0 (c_X4_credited (nv := 0) l hst A D ac dE _ hP hI.w x1) (cwV 1 hts gL_credited_X4_credited rfl rfl rfl (by decide +kernel) ⟨Nat.le_of_ble_eq_true rfl, Nat.le_of_ble_eq_true rfl⟩) ⟨fun a U g mk q => ⟨q.1, tkX.blind U g mk a q.2⟩, tk_recv hK hM hP.h rfl, fun U hU hW => ⟨rfl, tkX.at hM hK hA hF hO va_S.rf U hU hW⟩⟩ rfl rfl hl.1 rfl (lv_room (Nat.le_of_ble_eq_true rfl)) dL_credited_4 ⟨Nat.le_of_ble_eq_true rfl, Nat.le_of_ble_eq_true rfl⟩) hS (fun q _ h => h.elim) (fun q h => Or.inl h) (fun q _ h => h.elim) (fun E ce q9 u9 t H locs ht hal _ hX hz hq hS hce hcv hcl => ?_) (fun r G9 t H locs ht hal hp hBB hz hq hS => ?_)
  · have hM := hM.keptE (fun q h9 => hq q h9 (fun z => z))
    have hMo := hMo.keptE (fun q h9 => hq q h9 (fun z => z))
    have h9 := List.mem_singleton.mp hX
    obtain ⟨e9, hc9⟩ := Prod.mk.inj h9
    subst e9
    refine vx_catch (name := "java/util/NoSuchElementException") hown [] ⟨0, 9, 12, 48⟩ [] htab (fun _ h => absurd h List.not_mem_nil) (by decide) (by decide) (hts (.classLink RL 48 "java/util/NoSuchElementException") (by decide +kernel)) (va_Nw.use rfl (hF.2.2.2 ("java/util/NoSuchElementException", "java/util/NoSuchElementException") (by decide))) hce hcv hcl ?_
    refine lv_astore_n (lv' := [(3, .ref q9), (0, .ref h0), (1, .int x1), (2, .ref o)]) hx hb dL_credited_12 rfl hl (by decide) rfl (fun ls hl => ?_)
    refine lv_iconst (v := 1) hx hb dL_credited_13 (by decide) ?_
    refine vx_ret ?_
    refine W.widen (k := 1) (n := 6) (Nat.le_of_ble_eq_true rfl) (Nat.le_of_ble_eq_true rfl) ?_
    exact W.iret (v := 1) hx hb hr (fun t9 h8 w9 => ⟨⟨1, (G, f), rfl, ⟨hc9.symm, fun z => absurd (hc9.symm.trans z) (by decide), ⟨α, (by rw [rd_credited]; exact hP)⟩⟩, by dsimp only; rw [h8]; exact ⟨hM, hMo⟩⟩, hS.F h8⟩) hS.2.2 dL_credited_14
  · obtain ⟨h1, hr9⟩ := hp
    have hM := hM.keptE (fun q h9 => hq q h9 (fun z => z))
    have hMo := hMo.keptE (fun q h9 => hq q h9 (fun z => z))
    have hP9 : PX ac dE h0 α (S_credited M x1).2.1 (nV (S_credited M x1).2.1) G := by rw [rd_credited]; exact hP
    have hMc := hM.un hMo hoA
    refine lv_i2l hx hb dL_credited_7 rfl ?_
    refine tk_last hx hb hK hMc hS 4 (va_up_self _ _ _) rfl (by unfold vp_in; decide) dL_credited_8 (fun H locs hM2 hS => ?_)
    rw [va_up2] at hM2
    obtain ⟨hM3, hMo3⟩ := hM2.cut hoA (fun a e9 h9 => hM.isA h9)
    refine lv_goto (tgt := 15) hx hb dL_credited_9 (by decide) ?_
    refine lv_iconst (v := 0) hx hb dL_credited_15 (by decide) ?_
    refine vx_ret ?_
    refine W.widen (k := 1) (n := 6) (Nat.le_of_ble_eq_true rfl) (Nat.le_of_ble_eq_true rfl) ?_
    exact W.iret (v := 0) hx hb hr (fun t9 h8 w9 => ⟨⟨0, (G, vp_updL f 0 (r.toInt64)), rfl, ⟨h1.symm, fun _ => (by rw [hr9]; rfl), ⟨α, hP9⟩⟩, by dsimp only; rw [h8]; exact ⟨hM3, hMo3⟩⟩, hS.F h8⟩) hS.2.2 dL_credited_16
set_option maxHeartbeats 4000000 in
set_option maxRecDepth 100000 in
theorem c_L_items (l : Launch) (hst : l.stackTraces = false) (A : Nat → Prop) (o : Nat) (D : va_G) (ac : Nat → ClassId) (dE : Nat) (G : TG) {h0 : Nat} {α : Nat → Nat → Nat} {M : TS} (hP : PX ac dE h0 α M (nV M) G) (hI : IV M) (f : Nat → Int64) (x1 : Int32) : vx_Met l yL_items wsL_items ({ frames := 10, cells := 1, slots := 6, locals := 600 } : Room) (va_Pc [.ref h0, .int x1, .ref o] (tkW A o D ac dE G (oGL ac o f))) (va_Qi (fun (z : Int32) (u : TG × (Nat → Int64)) => z = (S_items M x1).1 ∧ ((S_items M x1).1 = 0 → u.2 0 = (S_items M x1).2.2.toInt64) ∧ ∃ α9 : Nat → Nat → Nat, PX ac dE h0 α9 (S_items M x1).2.1 (nV (S_items M x1).2.1) u.1) (fun (u : TG × (Nat → Int64)) t => tkM A D u.1 t.heap ∧ tkM (fun q => q = o) D (oGL ac o u.2) t.heap) (fun q => A q ∨ q = o)) (XG (fun _ => False)) 1 6 (fun q => A q ∨ q = o) := by
  refine vx_ofWH (cc := cL_items) (maxL := 4) (ret := (some .int)) (hh := [(0, 9, 12, 48)]) (by decide) rfl ?_
  intro p e s m args below meth c s₁ B hml hv
  obtain ⟨rfl, ⟨⟨hM, hK, hA, hF⟩, hO⟩, hMo, hoA, hNc⟩ := hv
  have hS : va_S (fun q => A q ∨ q = o) s.heap s.heap [] := va_S.rf
  have hx := B.exec
  have hb := B.bytes
  have hr := B.returns
  have hts := atoms_spec (ws := wsL_items) B.pre
  have htab : c.exceptionTable.toList = tableOf [(0, 9, 12, 48)] := vx_table (x := yL_items) B (hts _ List.mem_cons_self)
  have hown : s.vm.findClass RL = some m.cls := findClass_of_methodNamed B.named
  have hlocks := B.notSynchronized
  have S0 : CallFix p m c cL_items 4 s ([.ref h0, .int x1, .ref o] : List Value).toArray wsL_items RL := ⟨hx, hb, hml, hown, hts⟩
  have hl := lv_entry ([.ref h0, .int x1, .ref o]) (n := 4) (Nat.le_of_ble_eq_true rfl)
  rw [lg_entry_eq]
  generalize (lg_sl ([.ref h0, .int x1, .ref o]) ++ List.replicate (4 - (lg_sl ([.ref h0, .int x1, .ref o])).length) Slot.unset).toArray = ls at hl ⊢
  have hl : lv_has ls 4 [(0, .ref h0), (1, .int x1), (2, .ref o)] := hl
  refine lv_aload_n hx hb dL_items_0 rfl (lv_at hl 2 rfl) ?_
  refine lv_iconst (v := 0) hx hb dL_items_1 (by decide) ?_
  refine lv_aload_n hx hb dL_items_2 rfl (lv_at hl 0 rfl) ?_
  refine lv_iload_n hx hb dL_items_3 rfl (lv_at hl 1 rfl) ?_
  refine vx_calli (A1 := (fun _ => False)) (free := A) (vx_runV (As := [.int x1]) (rest := [.int 0, .ref o]) S0 (c_X4_items (nv := 0) l hst A D ac dE _ hP hI.w hI.wb x1) (cwV 1 hts gL_items_X4_items rfl rfl rfl (by decide +kernel) ⟨Nat.le_of_ble_eq_true rfl, Nat.le_of_ble_eq_true rfl⟩) ⟨fun a U g mk q => ⟨q.1, tkX.blind U g mk a q.2⟩, tk_recv hK hM hP.h rfl, fun U hU hW => ⟨rfl, tkX.at hM hK hA hF hO va_S.rf U hU hW⟩⟩ rfl rfl hl.1 rfl (lv_room (Nat.le_of_ble_eq_true rfl)) dL_items_4 ⟨Nat.le_of_ble_eq_true rfl, Nat.le_of_ble_eq_true rfl⟩) hS (fun q _ h => h.elim) (fun q h => Or.inl h) (fun q _ h => h.elim) (fun E ce q9 u9 t H locs ht hal _ hX hz hq hS hce hcv hcl => ?_) (fun r G9 t H locs ht hal hp hBB hz hq hS => ?_)
  · have hM := hM.keptE (fun q h9 => hq q h9 (fun z => z))
    have hMo := hMo.keptE (fun q h9 => hq q h9 (fun z => z))
    rw [eq_items hI] at hX
    have h9 := List.mem_singleton.mp hX
    obtain ⟨e9, hc9⟩ := Prod.mk.inj h9
    subst e9
    refine vx_catch (name := "java/util/NoSuchElementException") hown [] ⟨0, 9, 12, 48⟩ [] htab (fun _ h => absurd h List.not_mem_nil) (by decide) (by decide) (hts (.classLink RL 48 "java/util/NoSuchElementException") (by decide +kernel)) (va_Nw.use rfl (hF.2.2.2 ("java/util/NoSuchElementException", "java/util/NoSuchElementException") (by decide))) hce hcv hcl ?_
    refine lv_astore_n (lv' := [(3, .ref q9), (0, .ref h0), (1, .int x1), (2, .ref o)]) hx hb dL_items_12 rfl hl (by decide) rfl (fun ls hl => ?_)
    refine lv_iconst (v := 1) hx hb dL_items_13 (by decide) ?_
    refine vx_ret ?_
    refine W.widen (k := 1) (n := 6) (Nat.le_of_ble_eq_true rfl) (Nat.le_of_ble_eq_true rfl) ?_
    exact W.iret (v := 1) hx hb hr (fun t9 h8 w9 => ⟨⟨1, (G, f), rfl, ⟨hc9.symm, fun z => absurd (hc9.symm.trans z) (by decide), ⟨α, (by rw [rd_items]; exact hP)⟩⟩, by dsimp only; rw [h8]; exact ⟨hM, hMo⟩⟩, hS.F h8⟩) hS.2.2 dL_items_14
  · rw [eq_items hI] at hp
    obtain ⟨h1, hr9⟩ := hp
    have hM := hM.keptE (fun q h9 => hq q h9 (fun z => z))
    have hMo := hMo.keptE (fun q h9 => hq q h9 (fun z => z))
    have hP9 : PX ac dE h0 α (S_items M x1).2.1 (nV (S_items M x1).2.1) G := by rw [rd_items]; exact hP
    have hMc := hM.un hMo hoA
    refine lv_i2l hx hb dL_items_7 rfl ?_
    refine tk_last hx hb hK hMc hS 4 (va_up_self _ _ _) rfl (by unfold vp_in; decide) dL_items_8 (fun H locs hM2 hS => ?_)
    rw [va_up2] at hM2
    obtain ⟨hM3, hMo3⟩ := hM2.cut hoA (fun a e9 h9 => hM.isA h9)
    refine lv_goto (tgt := 15) hx hb dL_items_9 (by decide) ?_
    refine lv_iconst (v := 0) hx hb dL_items_15 (by decide) ?_
    refine vx_ret ?_
    refine W.widen (k := 1) (n := 6) (Nat.le_of_ble_eq_true rfl) (Nat.le_of_ble_eq_true rfl) ?_
    exact W.iret (v := 0) hx hb hr (fun t9 h8 w9 => ⟨⟨0, (G, vp_updL f 0 (r.toInt64)), rfl, ⟨h1.symm, fun _ => (by rw [hr9]; rfl), ⟨α, hP9⟩⟩, by dsimp only; rw [h8]; exact ⟨hM3, hMo3⟩⟩, hS.F h8⟩) hS.2.2 dL_items_16
set_option maxHeartbeats 4000000 in
set_option maxRecDepth 100000 in
theorem c_L_invoiceOf (l : Launch) (hst : l.stackTraces = false) (A : Nat → Prop) (o : Nat) (D : va_G) (ac : Nat → ClassId) (dE : Nat) (G : TG) {h0 : Nat} {α : Nat → Nat → Nat} {M : TS} (hP : PX ac dE h0 α M (nV M) G) (hI : IV M) (f : Nat → Int64) (x1 : Int32) : vx_Met l yL_invoiceOf wsL_invoiceOf ({ frames := 10, cells := 2, slots := 12, locals := 600 } : Room) (va_Pc [.ref h0, .int x1, .ref o] (tkW A o D ac dE G (oGL ac o f))) (va_Qi (fun (z : Int32) (u : TG × (Nat → Int64)) => z = (S_invoiceOf M x1).1 ∧ ((S_invoiceOf M x1).1 = 0 → u.2 0 = (S_invoiceOf M x1).2.2.toInt64) ∧ ∃ α9 : Nat → Nat → Nat, PX ac dE h0 α9 (S_invoiceOf M x1).2.1 (nV (S_invoiceOf M x1).2.1) u.1) (fun (u : TG × (Nat → Int64)) t => tkM A D u.1 t.heap ∧ tkM (fun q => q = o) D (oGL ac o u.2) t.heap) (fun q => A q ∨ q = o)) (XG (fun _ => False)) 2 12 (fun q => A q ∨ q = o) := by
  refine vx_ofWH (cc := cL_invoiceOf) (maxL := 4) (ret := (some .int)) (hh := [(0, 9, 12, 48), (0, 9, 15, 17)]) (by decide) rfl ?_
  intro p e s m args below meth c s₁ B hml hv
  obtain ⟨rfl, ⟨⟨hM, hK, hA, hF⟩, hO⟩, hMo, hoA, hNc⟩ := hv
  have hS : va_S (fun q => A q ∨ q = o) s.heap s.heap [] := va_S.rf
  have hx := B.exec
  have hb := B.bytes
  have hr := B.returns
  have hts := atoms_spec (ws := wsL_invoiceOf) B.pre
  have htab : c.exceptionTable.toList = tableOf [(0, 9, 12, 48), (0, 9, 15, 17)] := vx_table (x := yL_invoiceOf) B (hts _ List.mem_cons_self)
  have hown : s.vm.findClass RL = some m.cls := findClass_of_methodNamed B.named
  have hlocks := B.notSynchronized
  have S0 : CallFix p m c cL_invoiceOf 4 s ([.ref h0, .int x1, .ref o] : List Value).toArray wsL_invoiceOf RL := ⟨hx, hb, hml, hown, hts⟩
  have hl := lv_entry ([.ref h0, .int x1, .ref o]) (n := 4) (Nat.le_of_ble_eq_true rfl)
  rw [lg_entry_eq]
  generalize (lg_sl ([.ref h0, .int x1, .ref o]) ++ List.replicate (4 - (lg_sl ([.ref h0, .int x1, .ref o])).length) Slot.unset).toArray = ls at hl ⊢
  have hl : lv_has ls 4 [(0, .ref h0), (1, .int x1), (2, .ref o)] := hl
  refine lv_aload_n hx hb dL_invoiceOf_0 rfl (lv_at hl 2 rfl) ?_
  refine lv_iconst (v := 0) hx hb dL_invoiceOf_1 (by decide) ?_
  refine lv_aload_n hx hb dL_invoiceOf_2 rfl (lv_at hl 0 rfl) ?_
  refine lv_iload_n hx hb dL_invoiceOf_3 rfl (lv_at hl 1 rfl) ?_
  refine vx_calli (A1 := (fun _ => False)) (free := A) (vx_runV (As := [.int x1]) (rest := [.int 0, .ref o]) S0 (c_X4_invoiceOf (nv := 0) l hst A D ac dE _ hP hI.w hI.wb x1) (cwV 1 hts gL_invoiceOf_X4_invoiceOf rfl rfl rfl (by decide +kernel) ⟨Nat.le_of_ble_eq_true rfl, Nat.le_of_ble_eq_true rfl⟩) ⟨fun a U g mk q => ⟨q.1, tkX.blind U g mk a q.2⟩, tk_recv hK hM hP.h rfl, fun U hU hW => ⟨rfl, tkX.at hM hK hA hF hO va_S.rf U hU hW⟩⟩ rfl rfl hl.1 rfl (lv_room (Nat.le_of_ble_eq_true rfl)) dL_invoiceOf_4 ⟨Nat.le_of_ble_eq_true rfl, Nat.le_of_ble_eq_true rfl⟩) hS (fun q _ h => h.elim) (fun q h => Or.inl h) (fun q _ h => h.elim) (fun E ce q9 u9 t H locs ht hal _ hX hz hq hS hce hcv hcl => ?_) (fun r G9 t H locs ht hal hp hBB hz hq hS => ?_)
  · have hM := hM.keptE (fun q h9 => hq q h9 (fun z => z))
    have hMo := hMo.keptE (fun q h9 => hq q h9 (fun z => z))
    rcases List.mem_cons.mp hX with h9 | hX
    · obtain ⟨e9, hc9⟩ := Prod.mk.inj h9
      subst e9
      refine vx_catch (name := "java/util/NoSuchElementException") hown [] ⟨0, 9, 12, 48⟩ [⟨0, 9, 15, 17⟩] htab (fun _ h => absurd h List.not_mem_nil) (by decide) (by decide) (hts (.classLink RL 48 "java/util/NoSuchElementException") (by decide +kernel)) (va_Nw.use rfl (hF.2.2.2 ("java/util/NoSuchElementException", "java/util/NoSuchElementException") (by decide))) hce hcv hcl ?_
      refine lv_astore_n (lv' := [(3, .ref q9), (0, .ref h0), (1, .int x1), (2, .ref o)]) hx hb dL_invoiceOf_12 rfl hl (by decide) rfl (fun ls hl => ?_)
      refine lv_iconst (v := 1) hx hb dL_invoiceOf_13 (by decide) ?_
      refine vx_ret ?_
      refine W.widen (k := 2) (n := 12) (Nat.le_of_ble_eq_true rfl) (Nat.le_of_ble_eq_true rfl) ?_
      exact W.iret (v := 1) hx hb hr (fun t9 h8 w9 => ⟨⟨1, (G, f), rfl, ⟨hc9.symm, fun z => absurd (hc9.symm.trans z) (by decide), ⟨α, (by rw [rd_invoiceOf]; exact hP)⟩⟩, by dsimp only; rw [h8]; exact ⟨hM, hMo⟩⟩, hS.F h8⟩) hS.2.2 dL_invoiceOf_14
    have h9 := List.mem_singleton.mp hX
    obtain ⟨e9, hc9⟩ := Prod.mk.inj h9
    subst e9
    refine vx_catch (name := "java/lang/IllegalStateException") hown [⟨0, 9, 12, 48⟩] ⟨0, 9, 15, 17⟩ [] htab (List.forall_mem_cons.mpr ⟨Or.inr ⟨by decide, "java/util/NoSuchElementException", (hts (.classLink RL 48 "java/util/NoSuchElementException") (by decide +kernel)), hNc ("java/lang/IllegalStateException", "java/util/NoSuchElementException") (by decide)⟩, (fun _ h => absurd h List.not_mem_nil)⟩) (by decide) (by decide) (hts (.classLink RL 17 "java/lang/IllegalStateException") (by decide +kernel)) (va_Nw.use rfl (hF.2.2.2 ("java/lang/IllegalStateException", "java/lang/IllegalStateException") (by decide))) hce hcv hcl ?_
    refine lv_astore_n (lv' := [(3, .ref q9), (0, .ref h0), (1, .int x1), (2, .ref o)]) hx hb dL_invoiceOf_15 rfl hl (by decide) rfl (fun ls hl => ?_)
    refine lv_iconst (v := 2) hx hb dL_invoiceOf_16 (by decide) ?_
    refine vx_ret ?_
    refine W.widen (k := 2) (n := 12) (Nat.le_of_ble_eq_true rfl) (Nat.le_of_ble_eq_true rfl) ?_
    exact W.iret (v := 2) hx hb hr (fun t9 h8 w9 => ⟨⟨2, (G, f), rfl, ⟨hc9.symm, fun z => absurd (hc9.symm.trans z) (by decide), ⟨α, (by rw [rd_invoiceOf]; exact hP)⟩⟩, by dsimp only; rw [h8]; exact ⟨hM, hMo⟩⟩, hS.F h8⟩) hS.2.2 dL_invoiceOf_17
  · obtain ⟨h1, hr9⟩ := hp
    have hM := hM.keptE (fun q h9 => hq q h9 (fun z => z))
    have hMo := hMo.keptE (fun q h9 => hq q h9 (fun z => z))
    have hP9 : PX ac dE h0 α (S_invoiceOf M x1).2.1 (nV (S_invoiceOf M x1).2.1) G := by rw [rd_invoiceOf]; exact hP
    have hMc := hM.un hMo hoA
    refine lv_i2l hx hb dL_invoiceOf_7 rfl ?_
    refine tk_last hx hb hK hMc hS 4 (va_up_self _ _ _) rfl (by unfold vp_in; decide) dL_invoiceOf_8 (fun H locs hM2 hS => ?_)
    rw [va_up2] at hM2
    obtain ⟨hM3, hMo3⟩ := hM2.cut hoA (fun a e9 h9 => hM.isA h9)
    refine lv_goto (tgt := 18) hx hb dL_invoiceOf_9 (by decide) ?_
    refine lv_iconst (v := 0) hx hb dL_invoiceOf_18 (by decide) ?_
    refine vx_ret ?_
    refine W.widen (k := 2) (n := 12) (Nat.le_of_ble_eq_true rfl) (Nat.le_of_ble_eq_true rfl) ?_
    exact W.iret (v := 0) hx hb hr (fun t9 h8 w9 => ⟨⟨0, (G, vp_updL f 0 (r.toInt64)), rfl, ⟨h1.symm, fun _ => (by rw [hr9]; rfl), ⟨α, hP9⟩⟩, by dsimp only; rw [h8]; exact ⟨hM3, hMo3⟩⟩, hS.F h8⟩) hS.2.2 dL_invoiceOf_19
set_option maxHeartbeats 4000000 in
set_option maxRecDepth 100000 in
theorem c_L_left (l : Launch) (hst : l.stackTraces = false) (A : Nat → Prop) (o : Nat) (D : va_G) (ac : Nat → ClassId) (dE : Nat) (G : TG) {h0 : Nat} {α : Nat → Nat → Nat} {M : TS} (hP : PX ac dE h0 α M (nV M) G) (hI : IV M) (f : Nat → Int64) (x1 : Int32) : vx_Met l yL_left wsL_left ({ frames := 10, cells := 1, slots := 6, locals := 600 } : Room) (va_Pc [.ref h0, .int x1, .ref o] (tkW A o D ac dE G (oGL ac o f))) (va_Qi (fun (z : Int32) (u : TG × (Nat → Int64)) => z = (S_left M x1).1 ∧ ((S_left M x1).1 = 0 → u.2 0 = (S_left M x1).2.2.toInt64) ∧ ∃ α9 : Nat → Nat → Nat, PX ac dE h0 α9 (S_left M x1).2.1 (nV (S_left M x1).2.1) u.1) (fun (u : TG × (Nat → Int64)) t => tkM A D u.1 t.heap ∧ tkM (fun q => q = o) D (oGL ac o u.2) t.heap) (fun q => A q ∨ q = o)) (XG (fun _ => False)) 1 6 (fun q => A q ∨ q = o) := by
  refine vx_ofWH (cc := cL_left) (maxL := 4) (ret := (some .int)) (hh := [(0, 9, 12, 13)]) (by decide) rfl ?_
  intro p e s m args below meth c s₁ B hml hv
  obtain ⟨rfl, ⟨⟨hM, hK, hA, hF⟩, hO⟩, hMo, hoA, hNc⟩ := hv
  have hS : va_S (fun q => A q ∨ q = o) s.heap s.heap [] := va_S.rf
  have hx := B.exec
  have hb := B.bytes
  have hr := B.returns
  have hts := atoms_spec (ws := wsL_left) B.pre
  have htab : c.exceptionTable.toList = tableOf [(0, 9, 12, 13)] := vx_table (x := yL_left) B (hts _ List.mem_cons_self)
  have hown : s.vm.findClass RL = some m.cls := findClass_of_methodNamed B.named
  have hlocks := B.notSynchronized
  have S0 : CallFix p m c cL_left 4 s ([.ref h0, .int x1, .ref o] : List Value).toArray wsL_left RL := ⟨hx, hb, hml, hown, hts⟩
  have hl := lv_entry ([.ref h0, .int x1, .ref o]) (n := 4) (Nat.le_of_ble_eq_true rfl)
  rw [lg_entry_eq]
  generalize (lg_sl ([.ref h0, .int x1, .ref o]) ++ List.replicate (4 - (lg_sl ([.ref h0, .int x1, .ref o])).length) Slot.unset).toArray = ls at hl ⊢
  have hl : lv_has ls 4 [(0, .ref h0), (1, .int x1), (2, .ref o)] := hl
  refine lv_aload_n hx hb dL_left_0 rfl (lv_at hl 2 rfl) ?_
  refine lv_iconst (v := 0) hx hb dL_left_1 (by decide) ?_
  refine lv_aload_n hx hb dL_left_2 rfl (lv_at hl 0 rfl) ?_
  refine lv_iload_n hx hb dL_left_3 rfl (lv_at hl 1 rfl) ?_
  refine vx_calli (A1 := (fun _ => False)) (free := A) (vx_runV (As := [.int x1]) (rest := [.int 0, .ref o]) S0 (c_X4_left (nv := 0) l hst A D ac dE _ hP hI.w x1) (cwV 1 hts gL_left_X4_left rfl rfl rfl (by decide +kernel) ⟨Nat.le_of_ble_eq_true rfl, Nat.le_of_ble_eq_true rfl⟩) ⟨fun a U g mk q => ⟨q.1, tkX.blind U g mk a q.2⟩, tk_recv hK hM hP.h rfl, fun U hU hW => ⟨rfl, tkX.at hM hK hA hF hO va_S.rf U hU hW⟩⟩ rfl rfl hl.1 rfl (lv_room (Nat.le_of_ble_eq_true rfl)) dL_left_4 ⟨Nat.le_of_ble_eq_true rfl, Nat.le_of_ble_eq_true rfl⟩) hS (fun q _ h => h.elim) (fun q h => Or.inl h) (fun q _ h => h.elim) (fun E ce q9 u9 t H locs ht hal _ hX hz hq hS hce hcv hcl => ?_) (fun r G9 t H locs ht hal hp hBB hz hq hS => ?_)
  · have hM := hM.keptE (fun q h9 => hq q h9 (fun z => z))
    have hMo := hMo.keptE (fun q h9 => hq q h9 (fun z => z))
    have h9 := List.mem_singleton.mp hX
    obtain ⟨e9, hc9⟩ := Prod.mk.inj h9
    subst e9
    refine vx_catch (name := "java/lang/IndexOutOfBoundsException") hown [] ⟨0, 9, 12, 13⟩ [] htab (fun _ h => absurd h List.not_mem_nil) (by decide) (by decide) (hts (.classLink RL 13 "java/lang/IndexOutOfBoundsException") (by decide +kernel)) (va_Nw.use rfl (hF.2.2.2 ("java/lang/IndexOutOfBoundsException", "java/lang/IndexOutOfBoundsException") (by decide))) hce hcv hcl ?_
    refine lv_astore_n (lv' := [(3, .ref q9), (0, .ref h0), (1, .int x1), (2, .ref o)]) hx hb dL_left_12 rfl hl (by decide) rfl (fun ls hl => ?_)
    refine lv_iconst (v := 1) hx hb dL_left_13 (by decide) ?_
    refine vx_ret ?_
    refine W.widen (k := 1) (n := 6) (Nat.le_of_ble_eq_true rfl) (Nat.le_of_ble_eq_true rfl) ?_
    exact W.iret (v := 1) hx hb hr (fun t9 h8 w9 => ⟨⟨1, (G, f), rfl, ⟨hc9.symm, fun z => absurd (hc9.symm.trans z) (by decide), ⟨α, (by rw [rd_left]; exact hP)⟩⟩, by dsimp only; rw [h8]; exact ⟨hM, hMo⟩⟩, hS.F h8⟩) hS.2.2 dL_left_14
  · obtain ⟨h1, hr9⟩ := hp
    have hM := hM.keptE (fun q h9 => hq q h9 (fun z => z))
    have hMo := hMo.keptE (fun q h9 => hq q h9 (fun z => z))
    have hP9 : PX ac dE h0 α (S_left M x1).2.1 (nV (S_left M x1).2.1) G := by rw [rd_left]; exact hP
    have hMc := hM.un hMo hoA
    refine lv_i2l hx hb dL_left_7 rfl ?_
    refine tk_last hx hb hK hMc hS 4 (va_up_self _ _ _) rfl (by unfold vp_in; decide) dL_left_8 (fun H locs hM2 hS => ?_)
    rw [va_up2] at hM2
    obtain ⟨hM3, hMo3⟩ := hM2.cut hoA (fun a e9 h9 => hM.isA h9)
    refine lv_goto (tgt := 15) hx hb dL_left_9 (by decide) ?_
    refine lv_iconst (v := 0) hx hb dL_left_15 (by decide) ?_
    refine vx_ret ?_
    refine W.widen (k := 1) (n := 6) (Nat.le_of_ble_eq_true rfl) (Nat.le_of_ble_eq_true rfl) ?_
    exact W.iret (v := 0) hx hb hr (fun t9 h8 w9 => ⟨⟨0, (G, vp_updL f 0 (r.toInt64)), rfl, ⟨h1.symm, fun _ => (by rw [hr9]; rfl), ⟨α, hP9⟩⟩, by dsimp only; rw [h8]; exact ⟨hM3, hMo3⟩⟩, hS.F h8⟩) hS.2.2 dL_left_16
set_option maxHeartbeats 4000000 in
set_option maxRecDepth 100000 in
theorem c_L_pace (l : Launch) (hst : l.stackTraces = false) (A : Nat → Prop) (o : Nat) (D : va_G) (ac : Nat → ClassId) (dE : Nat) (G : TG) {h0 : Nat} {α : Nat → Nat → Nat} {M : TS} (hP : PX ac dE h0 α M (nV M) G) (hI : IV M) (f : Nat → UInt64) (x1 : Int32) : vx_Met l yL_pace wsL_pace ({ frames := 10, cells := 1, slots := 6, locals := 600 } : Room) (va_Pc [.ref h0, .int x1, .ref o] (tkW A o D ac dE G (oGD ac o f))) (va_Qi (fun (z : Int32) (u : TG × (Nat → UInt64)) => z = (S_pace M x1).1 ∧ ((S_pace M x1).1 = 0 → u.2 0 = FP.f2d (S_pace M x1).2.2) ∧ ∃ α9 : Nat → Nat → Nat, PX ac dE h0 α9 (S_pace M x1).2.1 (nV (S_pace M x1).2.1) u.1) (fun (u : TG × (Nat → UInt64)) t => tkM A D u.1 t.heap ∧ tkM (fun q => q = o) D (oGD ac o u.2) t.heap) (fun q => A q ∨ q = o)) (XG (fun _ => False)) 1 6 (fun q => A q ∨ q = o) := by
  refine vx_ofWH (cc := cL_pace) (maxL := 4) (ret := (some .int)) (hh := [(0, 9, 12, 15)]) (by decide) rfl ?_
  intro p e s m args below meth c s₁ B hml hv
  obtain ⟨rfl, ⟨⟨hM, hK, hA, hF⟩, hO⟩, hMo, hoA, hNc⟩ := hv
  have hS : va_S (fun q => A q ∨ q = o) s.heap s.heap [] := va_S.rf
  have hx := B.exec
  have hb := B.bytes
  have hr := B.returns
  have hts := atoms_spec (ws := wsL_pace) B.pre
  have htab : c.exceptionTable.toList = tableOf [(0, 9, 12, 15)] := vx_table (x := yL_pace) B (hts _ List.mem_cons_self)
  have hown : s.vm.findClass RL = some m.cls := findClass_of_methodNamed B.named
  have hlocks := B.notSynchronized
  have S0 : CallFix p m c cL_pace 4 s ([.ref h0, .int x1, .ref o] : List Value).toArray wsL_pace RL := ⟨hx, hb, hml, hown, hts⟩
  have hl := lv_entry ([.ref h0, .int x1, .ref o]) (n := 4) (Nat.le_of_ble_eq_true rfl)
  rw [lg_entry_eq]
  generalize (lg_sl ([.ref h0, .int x1, .ref o]) ++ List.replicate (4 - (lg_sl ([.ref h0, .int x1, .ref o])).length) Slot.unset).toArray = ls at hl ⊢
  have hl : lv_has ls 4 [(0, .ref h0), (1, .int x1), (2, .ref o)] := hl
  refine lv_aload_n hx hb dL_pace_0 rfl (lv_at hl 2 rfl) ?_
  refine lv_iconst (v := 0) hx hb dL_pace_1 (by decide) ?_
  refine lv_aload_n hx hb dL_pace_2 rfl (lv_at hl 0 rfl) ?_
  refine lv_iload_n hx hb dL_pace_3 rfl (lv_at hl 1 rfl) ?_
  refine vx_callf (A1 := (fun _ => False)) (free := A) (vx_runV (As := [.int x1]) (rest := [.int 0, .ref o]) S0 (c_X4_pace (nv := 0) l hst A D ac dE _ hP hI.w x1) (cwV 1 hts gL_pace_X4_pace rfl rfl rfl (by decide +kernel) ⟨Nat.le_of_ble_eq_true rfl, Nat.le_of_ble_eq_true rfl⟩) ⟨fun a U g mk q => ⟨q.1, tkX.blind U g mk a q.2⟩, tk_recv hK hM hP.h rfl, fun U hU hW => ⟨rfl, tkX.at hM hK hA hF hO va_S.rf U hU hW⟩⟩ rfl rfl hl.1 rfl (lv_room (Nat.le_of_ble_eq_true rfl)) dL_pace_4 ⟨Nat.le_of_ble_eq_true rfl, Nat.le_of_ble_eq_true rfl⟩) hS (fun q _ h => h.elim) (fun q h => Or.inl h) (fun q _ h => h.elim) (fun E ce q9 u9 t H locs ht hal _ hX hz hq hS hce hcv hcl => ?_) (fun r G9 t H locs ht hal hp hBB hz hq hS => ?_)
  · have hM := hM.keptE (fun q h9 => hq q h9 (fun z => z))
    have hMo := hMo.keptE (fun q h9 => hq q h9 (fun z => z))
    have h9 := List.mem_singleton.mp hX
    obtain ⟨e9, hc9⟩ := Prod.mk.inj h9
    subst e9
    refine vx_catch (name := "java/lang/IllegalArgumentException") hown [] ⟨0, 9, 12, 15⟩ [] htab (fun _ h => absurd h List.not_mem_nil) (by decide) (by decide) (hts (.classLink RL 15 "java/lang/IllegalArgumentException") (by decide +kernel)) (va_Nw.use rfl (hF.2.2.2 ("java/lang/IllegalArgumentException", "java/lang/IllegalArgumentException") (by decide))) hce hcv hcl ?_
    refine lv_astore_n (lv' := [(3, .ref q9), (0, .ref h0), (1, .int x1), (2, .ref o)]) hx hb dL_pace_12 rfl hl (by decide) rfl (fun ls hl => ?_)
    refine lv_iconst (v := 1) hx hb dL_pace_13 (by decide) ?_
    refine vx_ret ?_
    refine W.widen (k := 1) (n := 6) (Nat.le_of_ble_eq_true rfl) (Nat.le_of_ble_eq_true rfl) ?_
    exact W.iret (v := 1) hx hb hr (fun t9 h8 w9 => ⟨⟨1, (G, f), rfl, ⟨hc9.symm, fun z => absurd (hc9.symm.trans z) (by decide), ⟨α, (by rw [rd_pace]; exact hP)⟩⟩, by dsimp only; rw [h8]; exact ⟨hM, hMo⟩⟩, hS.F h8⟩) hS.2.2 dL_pace_14
  · obtain ⟨h1, hr9⟩ := hp
    have hM := hM.keptE (fun q h9 => hq q h9 (fun z => z))
    have hMo := hMo.keptE (fun q h9 => hq q h9 (fun z => z))
    have hP9 : PX ac dE h0 α (S_pace M x1).2.1 (nV (S_pace M x1).2.1) G := by rw [rd_pace]; exact hP
    have hMc := hM.un hMo hoA
    have hnn : vf_n32 r := by rw [hr9]; exact pace_n h1
    refine lv_f2d hx hb dL_pace_7 (fl_f2d _ hnn) ?_
    refine tk_dast hx hb hK hMc hS 5 (va_up_self _ _ _) rfl (by unfold vp_in; decide) dL_pace_8 (fun H locs hM2 hS => ?_)
    rw [va_up2] at hM2
    obtain ⟨hM3, hMo3⟩ := hM2.cut hoA (fun a e9 h9 => hM.isA h9)
    refine lv_goto (tgt := 15) hx hb dL_pace_9 (by decide) ?_
    refine lv_iconst (v := 0) hx hb dL_pace_15 (by decide) ?_
    refine vx_ret ?_
    refine W.widen (k := 1) (n := 6) (Nat.le_of_ble_eq_true rfl) (Nat.le_of_ble_eq_true rfl) ?_
    exact W.iret (v := 0) hx hb hr (fun t9 h8 w9 => ⟨⟨0, (G, vf_upd f 0 (FP.f2d r)), rfl, ⟨h1.symm, fun _ => (by rw [hr9]; rfl), ⟨α, hP9⟩⟩, by dsimp only; rw [h8]; exact ⟨hM3, hMo3⟩⟩, hS.F h8⟩) hS.2.2 dL_pace_16
set_option maxHeartbeats 4000000 in
set_option maxRecDepth 100000 in
theorem c_L_forecast (l : Launch) (hst : l.stackTraces = false) (A : Nat → Prop) (o : Nat) (D : va_G) (ac : Nat → ClassId) (dE : Nat) (G : TG) {h0 : Nat} {α : Nat → Nat → Nat} {M : TS} (hP : PX ac dE h0 α M (nV M) G) (hI : IV M) (f : Nat → Int64) (x1 x2 : Int32) : vx_Met l yL_forecast wsL_forecast ({ frames := 10, cells := 3, slots := 18, locals := 600 } : Room) (va_Pc [.ref h0, .int x1, .int x2, .ref o] (tkW A o D ac dE G (oGL ac o f))) (va_Qi (fun (z : Int32) (u : TG × (Nat → Int64)) => z = (S_forecast M x1 x2).1 ∧ ((S_forecast M x1 x2).1 = 0 → u.2 0 = (S_forecast M x1 x2).2.2.toInt64) ∧ ∃ α9 : Nat → Nat → Nat, PX ac dE h0 α9 (S_forecast M x1 x2).2.1 (nV (S_forecast M x1 x2).2.1) u.1) (fun (u : TG × (Nat → Int64)) t => tkM A D u.1 t.heap ∧ tkM (fun q => q = o) D (oGL ac o u.2) t.heap) (fun q => A q ∨ q = o)) (XG (fun _ => False)) 3 18 (fun q => A q ∨ q = o) := by
  refine vx_ofWH (cc := cL_forecast) (maxL := 5) (ret := (some .int)) (hh := [(0, 10, 13, 13), (0, 10, 17, 15), (0, 10, 21, 116)]) (by decide) rfl ?_
  intro p e s m args below meth c s₁ B hml hv
  obtain ⟨rfl, ⟨⟨hM, hK, hA, hF⟩, hO⟩, hMo, hoA, hNc⟩ := hv
  have hS : va_S (fun q => A q ∨ q = o) s.heap s.heap [] := va_S.rf
  have hx := B.exec
  have hb := B.bytes
  have hr := B.returns
  have hts := atoms_spec (ws := wsL_forecast) B.pre
  have htab : c.exceptionTable.toList = tableOf [(0, 10, 13, 13), (0, 10, 17, 15), (0, 10, 21, 116)] := vx_table (x := yL_forecast) B (hts _ List.mem_cons_self)
  have hown : s.vm.findClass RL = some m.cls := findClass_of_methodNamed B.named
  have hlocks := B.notSynchronized
  have S0 : CallFix p m c cL_forecast 5 s ([.ref h0, .int x1, .int x2, .ref o] : List Value).toArray wsL_forecast RL := ⟨hx, hb, hml, hown, hts⟩
  have hl := lv_entry ([.ref h0, .int x1, .int x2, .ref o]) (n := 5) (Nat.le_of_ble_eq_true rfl)
  rw [lg_entry_eq]
  generalize (lg_sl ([.ref h0, .int x1, .int x2, .ref o]) ++ List.replicate (5 - (lg_sl ([.ref h0, .int x1, .int x2, .ref o])).length) Slot.unset).toArray = ls at hl ⊢
  have hl : lv_has ls 5 [(0, .ref h0), (1, .int x1), (2, .int x2), (3, .ref o)] := hl
  refine lv_aload_n hx hb dL_forecast_0 rfl (lv_at hl 3 rfl) ?_
  refine lv_iconst (v := 0) hx hb dL_forecast_1 (by decide) ?_
  refine lv_aload_n hx hb dL_forecast_2 rfl (lv_at hl 0 rfl) ?_
  refine lv_iload_n hx hb dL_forecast_3 rfl (lv_at hl 1 rfl) ?_
  refine lv_iload_n hx hb dL_forecast_4 rfl (lv_at hl 2 rfl) ?_
  refine vx_calli (A1 := (fun _ => False)) (free := A) (vx_runV (As := [.int x1, .int x2]) (rest := [.int 0, .ref o]) S0 (c_X4_forecast (nv := 0) l hst A D ac dE _ hP hI.w x1 x2) (cwV 2 hts gL_forecast_X4_forecast rfl rfl rfl (by decide +kernel) ⟨Nat.le_of_ble_eq_true rfl, Nat.le_of_ble_eq_true rfl⟩) ⟨fun a U g mk q => ⟨q.1, tkX.blind U g mk a q.2⟩, tk_recv hK hM hP.h rfl, fun U hU hW => ⟨rfl, tkX.at hM hK hA hF hO va_S.rf U hU hW⟩⟩ rfl rfl hl.1 rfl (lv_room (Nat.le_of_ble_eq_true rfl)) dL_forecast_5 ⟨Nat.le_of_ble_eq_true rfl, Nat.le_of_ble_eq_true rfl⟩) hS (fun q _ h => h.elim) (fun q h => Or.inl h) (fun q _ h => h.elim) (fun E ce q9 u9 t H locs ht hal _ hX hz hq hS hce hcv hcl => ?_) (fun r G9 t H locs ht hal hp hBB hz hq hS => ?_)
  · have hM := hM.keptE (fun q h9 => hq q h9 (fun z => z))
    have hMo := hMo.keptE (fun q h9 => hq q h9 (fun z => z))
    rw [eq_forecast hI] at hX
    rcases List.mem_cons.mp hX with h9 | hX
    · obtain ⟨e9, hc9⟩ := Prod.mk.inj h9
      subst e9
      refine vx_catch (name := "java/lang/IndexOutOfBoundsException") hown [] ⟨0, 10, 13, 13⟩ [⟨0, 10, 17, 15⟩, ⟨0, 10, 21, 116⟩] htab (fun _ h => absurd h List.not_mem_nil) (by decide) (by decide) (hts (.classLink RL 13 "java/lang/IndexOutOfBoundsException") (by decide +kernel)) (va_Nw.use rfl (hF.2.2.2 ("java/lang/IndexOutOfBoundsException", "java/lang/IndexOutOfBoundsException") (by decide))) hce hcv hcl ?_
      refine lv_astore (lv' := [(4, .ref q9), (0, .ref h0), (1, .int x1), (2, .int x2), (3, .ref o)]) hx hb dL_forecast_13 hl (by decide) rfl (fun ls hl => ?_)
      refine lv_iconst (v := 1) hx hb dL_forecast_15 (by decide) ?_
      refine vx_ret ?_
      refine W.widen (k := 3) (n := 18) (Nat.le_of_ble_eq_true rfl) (Nat.le_of_ble_eq_true rfl) ?_
      exact W.iret (v := 1) hx hb hr (fun t9 h8 w9 => ⟨⟨1, (G, f), rfl, ⟨hc9.symm, fun z => absurd (hc9.symm.trans z) (by decide), ⟨α, (by rw [rd_forecast]; exact hP)⟩⟩, by dsimp only; rw [h8]; exact ⟨hM, hMo⟩⟩, hS.F h8⟩) hS.2.2 dL_forecast_16
    rcases List.mem_cons.mp hX with h9 | hX
    · obtain ⟨e9, hc9⟩ := Prod.mk.inj h9
      subst e9
      refine vx_catch (name := "java/lang/IllegalArgumentException") hown [⟨0, 10, 13, 13⟩] ⟨0, 10, 17, 15⟩ [⟨0, 10, 21, 116⟩] htab (List.forall_mem_cons.mpr ⟨Or.inr ⟨by decide, "java/lang/IndexOutOfBoundsException", (hts (.classLink RL 13 "java/lang/IndexOutOfBoundsException") (by decide +kernel)), hNc ("java/lang/IllegalArgumentException", "java/lang/IndexOutOfBoundsException") (by decide)⟩, (fun _ h => absurd h List.not_mem_nil)⟩) (by decide) (by decide) (hts (.classLink RL 15 "java/lang/IllegalArgumentException") (by decide +kernel)) (va_Nw.use rfl (hF.2.2.2 ("java/lang/IllegalArgumentException", "java/lang/IllegalArgumentException") (by decide))) hce hcv hcl ?_
      refine lv_astore (lv' := [(4, .ref q9), (0, .ref h0), (1, .int x1), (2, .int x2), (3, .ref o)]) hx hb dL_forecast_17 hl (by decide) rfl (fun ls hl => ?_)
      refine lv_iconst (v := 2) hx hb dL_forecast_19 (by decide) ?_
      refine vx_ret ?_
      refine W.widen (k := 3) (n := 18) (Nat.le_of_ble_eq_true rfl) (Nat.le_of_ble_eq_true rfl) ?_
      exact W.iret (v := 2) hx hb hr (fun t9 h8 w9 => ⟨⟨2, (G, f), rfl, ⟨hc9.symm, fun z => absurd (hc9.symm.trans z) (by decide), ⟨α, (by rw [rd_forecast]; exact hP)⟩⟩, by dsimp only; rw [h8]; exact ⟨hM, hMo⟩⟩, hS.F h8⟩) hS.2.2 dL_forecast_20
    have h9 := List.mem_singleton.mp hX
    obtain ⟨e9, hc9⟩ := Prod.mk.inj h9
    subst e9
    refine vx_catch (name := "java/lang/ArithmeticException") hown [⟨0, 10, 13, 13⟩, ⟨0, 10, 17, 15⟩] ⟨0, 10, 21, 116⟩ [] htab (List.forall_mem_cons.mpr ⟨Or.inr ⟨by decide, "java/lang/IndexOutOfBoundsException", (hts (.classLink RL 13 "java/lang/IndexOutOfBoundsException") (by decide +kernel)), hNc ("java/lang/ArithmeticException", "java/lang/IndexOutOfBoundsException") (by decide)⟩, (List.forall_mem_cons.mpr ⟨Or.inr ⟨by decide, "java/lang/IllegalArgumentException", (hts (.classLink RL 15 "java/lang/IllegalArgumentException") (by decide +kernel)), hNc ("java/lang/ArithmeticException", "java/lang/IllegalArgumentException") (by decide)⟩, (fun _ h => absurd h List.not_mem_nil)⟩)⟩) (by decide) (by decide) (hts (.classLink RL 116 "java/lang/ArithmeticException") (by decide +kernel)) (va_Nw.use rfl (hF.2.2.2 ("java/lang/ArithmeticException", "java/lang/ArithmeticException") (by decide))) hce hcv hcl ?_
    refine lv_astore (lv' := [(4, .ref q9), (0, .ref h0), (1, .int x1), (2, .int x2), (3, .ref o)]) hx hb dL_forecast_21 hl (by decide) rfl (fun ls hl => ?_)
    refine lv_iconst (v := 3) hx hb dL_forecast_23 (by decide) ?_
    refine vx_ret ?_
    refine W.widen (k := 3) (n := 18) (Nat.le_of_ble_eq_true rfl) (Nat.le_of_ble_eq_true rfl) ?_
    exact W.iret (v := 3) hx hb hr (fun t9 h8 w9 => ⟨⟨3, (G, f), rfl, ⟨hc9.symm, fun z => absurd (hc9.symm.trans z) (by decide), ⟨α, (by rw [rd_forecast]; exact hP)⟩⟩, by dsimp only; rw [h8]; exact ⟨hM, hMo⟩⟩, hS.F h8⟩) hS.2.2 dL_forecast_24
  · rw [eq_forecast hI] at hp
    obtain ⟨h1, hr9⟩ := hp
    have hM := hM.keptE (fun q h9 => hq q h9 (fun z => z))
    have hMo := hMo.keptE (fun q h9 => hq q h9 (fun z => z))
    have hP9 : PX ac dE h0 α (S_forecast M x1 x2).2.1 (nV (S_forecast M x1 x2).2.1) G := by rw [rd_forecast]; exact hP
    have hMc := hM.un hMo hoA
    refine lv_i2l hx hb dL_forecast_8 rfl ?_
    refine tk_last hx hb hK hMc hS 4 (va_up_self _ _ _) rfl (by unfold vp_in; decide) dL_forecast_9 (fun H locs hM2 hS => ?_)
    rw [va_up2] at hM2
    obtain ⟨hM3, hMo3⟩ := hM2.cut hoA (fun a e9 h9 => hM.isA h9)
    refine lv_goto (tgt := 25) hx hb dL_forecast_10 (by decide) ?_
    refine lv_iconst (v := 0) hx hb dL_forecast_25 (by decide) ?_
    refine vx_ret ?_
    refine W.widen (k := 3) (n := 18) (Nat.le_of_ble_eq_true rfl) (Nat.le_of_ble_eq_true rfl) ?_
    exact W.iret (v := 0) hx hb hr (fun t9 h8 w9 => ⟨⟨0, (G, vp_updL f 0 (r.toInt64)), rfl, ⟨h1.symm, fun _ => (by rw [hr9]; rfl), ⟨α, hP9⟩⟩, by dsimp only; rw [h8]; exact ⟨hM3, hMo3⟩⟩, hS.F h8⟩) hS.2.2 dL_forecast_26
set_option maxHeartbeats 4000000 in
set_option maxRecDepth 100000 in
theorem c_L_meanPrice (l : Launch) (hst : l.stackTraces = false) (A : Nat → Prop) (o : Nat) (D : va_G) (ac : Nat → ClassId) (dE : Nat) (G : TG) {h0 : Nat} {α : Nat → Nat → Nat} {M : TS} (hP : PX ac dE h0 α M (nV M) G) (hI : IV M) (f : Nat → UInt64) : vx_Met l yL_meanPrice wsL_meanPrice ({ frames := 10, cells := 1, slots := 6, locals := 600 } : Room) (va_Pc [.ref h0, .ref o] (tkW A o D ac dE G (oGD ac o f))) (va_Qi (fun (z : Int32) (u : TG × (Nat → UInt64)) => z = (S_meanPrice M).1 ∧ ((S_meanPrice M).1 = 0 → u.2 0 = (S_meanPrice M).2.2) ∧ ∃ α9 : Nat → Nat → Nat, PX ac dE h0 α9 (S_meanPrice M).2.1 (nV (S_meanPrice M).2.1) u.1) (fun (u : TG × (Nat → UInt64)) t => tkM A D u.1 t.heap ∧ tkM (fun q => q = o) D (oGD ac o u.2) t.heap) (fun q => A q ∨ q = o)) (XG (fun _ => False)) 1 6 (fun q => A q ∨ q = o) := by
  refine vx_ofWH (cc := cL_meanPrice) (maxL := 3) (ret := (some .int)) (hh := [(0, 7, 10, 116)]) (by decide) rfl ?_
  intro p e s m args below meth c s₁ B hml hv
  obtain ⟨rfl, ⟨⟨hM, hK, hA, hF⟩, hO⟩, hMo, hoA, hNc⟩ := hv
  have hS : va_S (fun q => A q ∨ q = o) s.heap s.heap [] := va_S.rf
  have hx := B.exec
  have hb := B.bytes
  have hr := B.returns
  have hts := atoms_spec (ws := wsL_meanPrice) B.pre
  have htab : c.exceptionTable.toList = tableOf [(0, 7, 10, 116)] := vx_table (x := yL_meanPrice) B (hts _ List.mem_cons_self)
  have hown : s.vm.findClass RL = some m.cls := findClass_of_methodNamed B.named
  have hlocks := B.notSynchronized
  have S0 : CallFix p m c cL_meanPrice 3 s ([.ref h0, .ref o] : List Value).toArray wsL_meanPrice RL := ⟨hx, hb, hml, hown, hts⟩
  have hl := lv_entry ([.ref h0, .ref o]) (n := 3) (Nat.le_of_ble_eq_true rfl)
  rw [lg_entry_eq]
  generalize (lg_sl ([.ref h0, .ref o]) ++ List.replicate (3 - (lg_sl ([.ref h0, .ref o])).length) Slot.unset).toArray = ls at hl ⊢
  have hl : lv_has ls 3 [(0, .ref h0), (1, .ref o)] := hl
  refine lv_aload_n hx hb dL_meanPrice_0 rfl (lv_at hl 1 rfl) ?_
  refine lv_iconst (v := 0) hx hb dL_meanPrice_1 (by decide) ?_
  refine lv_aload_n hx hb dL_meanPrice_2 rfl (lv_at hl 0 rfl) ?_
  refine vx_calld (A1 := (fun _ => False)) (free := A) (vx_runV (As := []) (rest := [.int 0, .ref o]) S0 (c_X4_meanPrice (nv := 0) l hst A D ac dE _ hP hI.w) (cwV 0 hts gL_meanPrice_X4_meanPrice rfl rfl rfl (by decide +kernel) ⟨Nat.le_of_ble_eq_true rfl, Nat.le_of_ble_eq_true rfl⟩) ⟨fun a U g mk q => ⟨q.1, tkX.blind U g mk a q.2⟩, tk_recv hK hM hP.h rfl, fun U hU hW => ⟨rfl, tkX.at hM hK hA hF hO va_S.rf U hU hW⟩⟩ rfl rfl hl.1 rfl (lv_room (Nat.le_of_ble_eq_true rfl)) dL_meanPrice_3 ⟨Nat.le_of_ble_eq_true rfl, Nat.le_of_ble_eq_true rfl⟩) hS (fun q _ h => h.elim) (fun q h => Or.inl h) (fun q _ h => h.elim) (fun E ce q9 u9 t H locs ht hal _ hX hz hq hS hce hcv hcl => ?_) (fun r G9 t H locs ht hal hp hBB hz hq hS => ?_)
  · have hM := hM.keptE (fun q h9 => hq q h9 (fun z => z))
    have hMo := hMo.keptE (fun q h9 => hq q h9 (fun z => z))
    have h9 := List.mem_singleton.mp hX
    obtain ⟨e9, hc9⟩ := Prod.mk.inj h9
    subst e9
    refine vx_catch (name := "java/lang/ArithmeticException") hown [] ⟨0, 7, 10, 116⟩ [] htab (fun _ h => absurd h List.not_mem_nil) (by decide) (by decide) (hts (.classLink RL 116 "java/lang/ArithmeticException") (by decide +kernel)) (va_Nw.use rfl (hF.2.2.2 ("java/lang/ArithmeticException", "java/lang/ArithmeticException") (by decide))) hce hcv hcl ?_
    refine lv_astore_n (lv' := [(2, .ref q9), (0, .ref h0), (1, .ref o)]) hx hb dL_meanPrice_10 rfl hl (by decide) rfl (fun ls hl => ?_)
    refine lv_iconst (v := 1) hx hb dL_meanPrice_11 (by decide) ?_
    refine vx_ret ?_
    refine W.widen (k := 1) (n := 6) (Nat.le_of_ble_eq_true rfl) (Nat.le_of_ble_eq_true rfl) ?_
    exact W.iret (v := 1) hx hb hr (fun t9 h8 w9 => ⟨⟨1, (G, f), rfl, ⟨hc9.symm, fun z => absurd (hc9.symm.trans z) (by decide), ⟨α, (by rw [rd_meanPrice]; exact hP)⟩⟩, by dsimp only; rw [h8]; exact ⟨hM, hMo⟩⟩, hS.F h8⟩) hS.2.2 dL_meanPrice_12
  · obtain ⟨h1, hr9⟩ := hp
    have hM := hM.keptE (fun q h9 => hq q h9 (fun z => z))
    have hMo := hMo.keptE (fun q h9 => hq q h9 (fun z => z))
    have hP9 : PX ac dE h0 α (S_meanPrice M).2.1 (nV (S_meanPrice M).2.1) G := by rw [rd_meanPrice]; exact hP
    have hMc := hM.un hMo hoA
    refine tk_dast hx hb hK hMc hS 5 (va_up_self _ _ _) rfl (by unfold vp_in; decide) dL_meanPrice_6 (fun H locs hM2 hS => ?_)
    rw [va_up2] at hM2
    obtain ⟨hM3, hMo3⟩ := hM2.cut hoA (fun a e9 h9 => hM.isA h9)
    refine lv_goto (tgt := 13) hx hb dL_meanPrice_7 (by decide) ?_
    refine lv_iconst (v := 0) hx hb dL_meanPrice_13 (by decide) ?_
    refine vx_ret ?_
    refine W.widen (k := 1) (n := 6) (Nat.le_of_ble_eq_true rfl) (Nat.le_of_ble_eq_true rfl) ?_
    exact W.iret (v := 0) hx hb hr (fun t9 h8 w9 => ⟨⟨0, (G, vf_upd f 0 (r)), rfl, ⟨h1.symm, fun _ => (by rw [hr9]; rfl), ⟨α, hP9⟩⟩, by dsimp only; rw [h8]; exact ⟨hM3, hMo3⟩⟩, hS.F h8⟩) hS.2.2 dL_meanPrice_14
