/-! the law: wrappers -/
set_option maxHeartbeats 4000000 in
set_option maxRecDepth 100000 in
theorem c_L_addTask (l : Launch) (hst : l.stackTraces = false) (A : Nat → Prop) (o : Nat) (D : va_G) (ac : Nat → ClassId) (dE : Nat) (G : TG) {h0 : Nat} {α : Nat → Nat → Nat} {M : TS} (hP : PX ac dE h0 α M (nV M) G) (hI : IV M) (f : Nat → Int64) (x1 x2 x3 : Int32) : vx_Met l yL_addTask wsL_addTask ({ frames := 10, cells := 3, slots := 102, locals := 700 } : Room) (va_Pc [.ref h0, .int x1, .int x2, .int x3, .ref o] (tkW A o D ac dE G (oGL ac o f))) (va_Qi (fun (z : Int32) (u : TG × (Nat → Int64)) => z = (S_addTask M x1 x2 x3).1 ∧ ((S_addTask M x1 x2 x3).1 = 0 → u.2 0 = (S_addTask M x1 x2 x3).2.2.toInt64) ∧ ∃ α9 : Nat → Nat → Nat, PX ac dE h0 α9 (S_addTask M x1 x2 x3).2.1 (nV (S_addTask M x1 x2 x3).2.1) u.1) (fun (u : TG × (Nat → Int64)) t => tkM A D u.1 t.heap ∧ tkM (fun q => q = o) D (oGL ac o u.2) t.heap) (fun q => A q ∨ q = o)) (XG (fun _ => False)) 3 102 (fun q => A q ∨ q = o) := by
  refine vx_ofWH (cc := cL_addTask) (maxL := 6) (ret := (some .int)) (hh := [(0, 12, 15, 13), (0, 12, 19, 15), (0, 12, 23, 17), (0, 12, 27, 19)]) (by decide) rfl ?_
  intro p e s m args below meth c s₁ B hml hv
  obtain ⟨rfl, ⟨⟨hM, hK, hA, hF⟩, hO⟩, hMo, hoA, hNc⟩ := hv
  have hS : va_S (fun q => A q ∨ q = o) s.heap s.heap [] := va_S.rf
  have hx := B.exec
  have hb := B.bytes
  have hr := B.returns
  have hts := atoms_spec (ws := wsL_addTask) B.pre
  have htab : c.exceptionTable.toList = tableOf [(0, 12, 15, 13), (0, 12, 19, 15), (0, 12, 23, 17), (0, 12, 27, 19)] := vx_table (x := yL_addTask) B (hts _ List.mem_cons_self)
  have hown : s.vm.findClass RL = some m.cls := findClass_of_methodNamed B.named
  have hlocks := B.notSynchronized
  have S0 : CallFix p m c cL_addTask 6 s ([.ref h0, .int x1, .int x2, .int x3, .ref o] : List Value).toArray wsL_addTask RL := ⟨hx, hb, hml, hown, hts⟩
  have hl := lv_entry ([.ref h0, .int x1, .int x2, .int x3, .ref o]) (n := 6) (Nat.le_of_ble_eq_true rfl)
  rw [lg_entry_eq]
  generalize (lg_sl ([.ref h0, .int x1, .int x2, .int x3, .ref o]) ++ List.replicate (6 - (lg_sl ([.ref h0, .int x1, .int x2, .int x3, .ref o])).length) Slot.unset).toArray = ls at hl ⊢
  have hl : lv_has ls 6 [(0, .ref h0), (1, .int x1), (2, .int x2), (3, .int x3), (4, .ref o)] := hl
  refine lv_aload hx hb dL_addTask_0 (lv_at hl 4 rfl) ?_
  refine lv_iconst (v := 0) hx hb dL_addTask_2 (by decide) ?_
  refine lv_aload_n hx hb dL_addTask_3 rfl (lv_at hl 0 rfl) ?_
  refine lv_iload_n hx hb dL_addTask_4 rfl (lv_at hl 1 rfl) ?_
  refine lv_iload_n hx hb dL_addTask_5 rfl (lv_at hl 2 rfl) ?_
  refine lv_iload_n hx hb dL_addTask_6 rfl (lv_at hl 3 rfl) ?_
  refine vx_calli (A1 := A) (free := A) (vx_runV (As := [.int x1, .int x2, .int x3]) (rest := [.int 0, .ref o]) S0 (c_X4_addTask (nv := 0) l hst A D ac dE _ hP hI.w (m19_0 hI) x1 x2 x3) (cwV 3 hts gL_addTask_X4_addTask rfl rfl rfl (by decide +kernel) ⟨Nat.le_of_ble_eq_true rfl, Nat.le_of_ble_eq_true rfl⟩) ⟨fun a U g mk q => ⟨q.1, tkX.blind U g mk a q.2⟩, tk_recv hK hM hP.h rfl, fun U hU hW => ⟨rfl, tkX.at hM hK hA hF hO va_S.rf U hU hW⟩⟩ rfl rfl hl.1 rfl (lv_room (Nat.le_of_ble_eq_true rfl)) dL_addTask_7 ⟨Nat.le_of_ble_eq_true rfl, Nat.le_of_ble_eq_true rfl⟩) hS (fun q _ h => Or.inl h) (fun q h => Or.inl h) (fun q _ h => h.elim) (fun E ce q9 u9 t H locs ht hal _ hX hz hq hS hce hcv hcl => ?_) (fun r G9 t H locs ht hal hp hBB hz hq hS => ?_)
  · have hM := hM.keptE (fun q h9 => hq q h9 (fun z => z))
    have hMo := hMo.keptE (fun q h9 => hq q h9 (fun z => z))
    rw [eq_addTask hI] at hX
    rcases List.mem_cons.mp hX with h9 | hX
    · obtain ⟨e9, hc9⟩ := Prod.mk.inj h9
      subst e9
      refine vx_catch (name := "java/lang/IndexOutOfBoundsException") hown [] ⟨0, 12, 15, 13⟩ [⟨0, 12, 19, 15⟩, ⟨0, 12, 23, 17⟩, ⟨0, 12, 27, 19⟩] htab (fun _ h => absurd h List.not_mem_nil) (by decide) (by decide) (hts (.classLink RL 13 "java/lang/IndexOutOfBoundsException") (by decide +kernel)) (va_Nw.use rfl (hF.2.2.2 ("java/lang/IndexOutOfBoundsException", "java/lang/IndexOutOfBoundsException") (by decide))) hce hcv hcl ?_
      refine lv_astore (lv' := [(5, .ref q9), (0, .ref h0), (1, .int x1), (2, .int x2), (3, .int x3), (4, .ref o)]) hx hb dL_addTask_15 hl (by decide) rfl (fun ls hl => ?_)
      refine lv_iconst (v := 1) hx hb dL_addTask_17 (by decide) ?_
      refine vx_ret ?_
      refine W.widen (k := 3) (n := 102) (Nat.le_of_ble_eq_true rfl) (Nat.le_of_ble_eq_true rfl) ?_
      exact W.iret (v := 1) hx hb hr (fun t9 h8 w9 => ⟨⟨1, (G, f), rfl, ⟨hc9.symm, fun z => absurd (hc9.symm.trans z) (by decide), ⟨α, (by rw [ne_addTask (fun z => absurd (hc9.symm.trans z) (by decide))]; exact hP)⟩⟩, by dsimp only; rw [h8]; exact ⟨hM, hMo⟩⟩, hS.F h8⟩) hS.2.2 dL_addTask_18
    rcases List.mem_cons.mp hX with h9 | hX
    · obtain ⟨e9, hc9⟩ := Prod.mk.inj h9
      subst e9
      refine vx_catch (name := "java/lang/IllegalArgumentException") hown [⟨0, 12, 15, 13⟩] ⟨0, 12, 19, 15⟩ [⟨0, 12, 23, 17⟩, ⟨0, 12, 27, 19⟩] htab (List.forall_mem_cons.mpr ⟨Or.inr ⟨by decide, "java/lang/IndexOutOfBoundsException", (hts (.classLink RL 13 "java/lang/IndexOutOfBoundsException") (by decide +kernel)), hNc ("java/lang/IllegalArgumentException", "java/lang/IndexOutOfBoundsException") (by decide)⟩, (fun _ h => absurd h List.not_mem_nil)⟩) (by decide) (by decide) (hts (.classLink RL 15 "java/lang/IllegalArgumentException") (by decide +kernel)) (va_Nw.use rfl (hF.2.2.2 ("java/lang/IllegalArgumentException", "java/lang/IllegalArgumentException") (by decide))) hce hcv hcl ?_
      refine lv_astore (lv' := [(5, .ref q9), (0, .ref h0), (1, .int x1), (2, .int x2), (3, .int x3), (4, .ref o)]) hx hb dL_addTask_19 hl (by decide) rfl (fun ls hl => ?_)
      refine lv_iconst (v := 2) hx hb dL_addTask_21 (by decide) ?_
      refine vx_ret ?_
      refine W.widen (k := 3) (n := 102) (Nat.le_of_ble_eq_true rfl) (Nat.le_of_ble_eq_true rfl) ?_
      exact W.iret (v := 2) hx hb hr (fun t9 h8 w9 => ⟨⟨2, (G, f), rfl, ⟨hc9.symm, fun z => absurd (hc9.symm.trans z) (by decide), ⟨α, (by rw [ne_addTask (fun z => absurd (hc9.symm.trans z) (by decide))]; exact hP)⟩⟩, by dsimp only; rw [h8]; exact ⟨hM, hMo⟩⟩, hS.F h8⟩) hS.2.2 dL_addTask_22
    rcases List.mem_cons.mp hX with h9 | hX
    · obtain ⟨e9, hc9⟩ := Prod.mk.inj h9
      subst e9
      refine vx_catch (name := "java/lang/IllegalStateException") hown [⟨0, 12, 15, 13⟩, ⟨0, 12, 19, 15⟩] ⟨0, 12, 23, 17⟩ [⟨0, 12, 27, 19⟩] htab (List.forall_mem_cons.mpr ⟨Or.inr ⟨by decide, "java/lang/IndexOutOfBoundsException", (hts (.classLink RL 13 "java/lang/IndexOutOfBoundsException") (by decide +kernel)), hNc ("java/lang/IllegalStateException", "java/lang/IndexOutOfBoundsException") (by decide)⟩, (List.forall_mem_cons.mpr ⟨Or.inr ⟨by decide, "java/lang/IllegalArgumentException", (hts (.classLink RL 15 "java/lang/IllegalArgumentException") (by decide +kernel)), hNc ("java/lang/IllegalStateException", "java/lang/IllegalArgumentException") (by decide)⟩, (fun _ h => absurd h List.not_mem_nil)⟩)⟩) (by decide) (by decide) (hts (.classLink RL 17 "java/lang/IllegalStateException") (by decide +kernel)) (va_Nw.use rfl (hF.2.2.2 ("java/lang/IllegalStateException", "java/lang/IllegalStateException") (by decide))) hce hcv hcl ?_
      refine lv_astore (lv' := [(5, .ref q9), (0, .ref h0), (1, .int x1), (2, .int x2), (3, .int x3), (4, .ref o)]) hx hb dL_addTask_23 hl (by decide) rfl (fun ls hl => ?_)
      refine lv_iconst (v := 3) hx hb dL_addTask_25 (by decide) ?_
      refine vx_ret ?_
      refine W.widen (k := 3) (n := 102) (Nat.le_of_ble_eq_true rfl) (Nat.le_of_ble_eq_true rfl) ?_
      exact W.iret (v := 3) hx hb hr (fun t9 h8 w9 => ⟨⟨3, (G, f), rfl, ⟨hc9.symm, fun z => absurd (hc9.symm.trans z) (by decide), ⟨α, (by rw [ne_addTask (fun z => absurd (hc9.symm.trans z) (by decide))]; exact hP)⟩⟩, by dsimp only; rw [h8]; exact ⟨hM, hMo⟩⟩, hS.F h8⟩) hS.2.2 dL_addTask_26
    have h9 := List.mem_singleton.mp hX
    obtain ⟨e9, hc9⟩ := Prod.mk.inj h9
    subst e9
    refine vx_catch (name := "java/lang/UnsupportedOperationException") hown [⟨0, 12, 15, 13⟩, ⟨0, 12, 19, 15⟩, ⟨0, 12, 23, 17⟩] ⟨0, 12, 27, 19⟩ [] htab (List.forall_mem_cons.mpr ⟨Or.inr ⟨by decide, "java/lang/IndexOutOfBoundsException", (hts (.classLink RL 13 "java/lang/IndexOutOfBoundsException") (by decide +kernel)), hNc ("java/lang/UnsupportedOperationException", "java/lang/IndexOutOfBoundsException") (by decide)⟩, (List.forall_mem_cons.mpr ⟨Or.inr ⟨by decide, "java/lang/IllegalArgumentException", (hts (.classLink RL 15 "java/lang/IllegalArgumentException") (by decide +kernel)), hNc ("java/lang/UnsupportedOperationException", "java/lang/IllegalArgumentException") (by decide)⟩, (List.forall_mem_cons.mpr ⟨Or.inr ⟨by decide, "java/lang/IllegalStateException", (hts (.classLink RL 17 "java/lang/IllegalStateException") (by decide +kernel)), hNc ("java/lang/UnsupportedOperationException", "java/lang/IllegalStateException") (by decide)⟩, (fun _ h => absurd h List.not_mem_nil)⟩)⟩)⟩) (by decide) (by decide) (hts (.classLink RL 19 "java/lang/UnsupportedOperationException") (by decide +kernel)) (va_Nw.use rfl (hF.2.2.2 ("java/lang/UnsupportedOperationException", "java/lang/UnsupportedOperationException") (by decide))) hce hcv hcl ?_
    refine lv_astore (lv' := [(5, .ref q9), (0, .ref h0), (1, .int x1), (2, .int x2), (3, .int x3), (4, .ref o)]) hx hb dL_addTask_27 hl (by decide) rfl (fun ls hl => ?_)
    refine lv_iconst (v := 4) hx hb dL_addTask_29 (by decide) ?_
    refine vx_ret ?_
    refine W.widen (k := 3) (n := 102) (Nat.le_of_ble_eq_true rfl) (Nat.le_of_ble_eq_true rfl) ?_
    exact W.iret (v := 4) hx hb hr (fun t9 h8 w9 => ⟨⟨4, (G, f), rfl, ⟨hc9.symm, fun z => absurd (hc9.symm.trans z) (by decide), ⟨α, (by rw [ne_addTask (fun z => absurd (hc9.symm.trans z) (by decide))]; exact hP)⟩⟩, by dsimp only; rw [h8]; exact ⟨hM, hMo⟩⟩, hS.F h8⟩) hS.2.2 dL_addTask_30
  · rw [eq_addTask hI] at hp
    obtain ⟨h1, ⟨α9, hP9⟩, hr9⟩ := hp
    have hM : tkM A D G9 H := by rw [← ht]; exact hBB
    have hMo := hMo.kept (H1 := H) (fun q h2 h3 => hq q h2 (by rw [h3]; exact hoA))
    have hMc := hM.un hMo hoA
    refine lv_i2l hx hb dL_addTask_10 rfl ?_
    refine tk_last hx hb hK hMc hS 4 (va_up_self _ _ _) rfl (by unfold vp_in; decide) dL_addTask_11 (fun H locs hM2 hS => ?_)
    rw [va_up2] at hM2
    obtain ⟨hM3, hMo3⟩ := hM2.cut hoA (fun a e9 h9 => hM.isA h9)
    refine lv_goto (tgt := 31) hx hb dL_addTask_12 (by decide) ?_
    refine lv_iconst (v := 0) hx hb dL_addTask_31 (by decide) ?_
    refine vx_ret ?_
    refine W.widen (k := 3) (n := 102) (Nat.le_of_ble_eq_true rfl) (Nat.le_of_ble_eq_true rfl) ?_
    exact W.iret (v := 0) hx hb hr (fun t9 h8 w9 => ⟨⟨0, (G9, vp_updL f 0 (r.toInt64)), rfl, ⟨h1.symm, fun _ => (by rw [hr9]; rfl), ⟨α9, hP9⟩⟩, by dsimp only; rw [h8]; exact ⟨hM3, hMo3⟩⟩, hS.F h8⟩) hS.2.2 dL_addTask_32
set_option maxHeartbeats 4000000 in
set_option maxRecDepth 100000 in
theorem c_L_block (l : Launch) (hst : l.stackTraces = false) (A : Nat → Prop) (o : Nat) (D : va_G) (ac : Nat → ClassId) (dE : Nat) (G : TG) {h0 : Nat} {α : Nat → Nat → Nat} {M : TS} (hP : PX ac dE h0 α M (nV M) G) (hI : IV M) (f : Nat → Int64) (x1 x2 : Int32) : vx_Met l yL_block wsL_block ({ frames := 10, cells := 3, slots := 18, locals := 600 } : Room) (va_Pc [.ref h0, .int x1, .int x2, .ref o] (tkW A o D ac dE G (oGL ac o f))) (va_Qi (fun (z : Int32) (u : TG × (Nat → Int64)) => z = (S_block M x1 x2).1 ∧ ((S_block M x1 x2).1 = 0 → u.2 0 = (S_block M x1 x2).2.2.toInt64) ∧ ∃ α9 : Nat → Nat → Nat, PX ac dE h0 α9 (S_block M x1 x2).2.1 (nV (S_block M x1 x2).2.1) u.1) (fun (u : TG × (Nat → Int64)) t => tkM A D u.1 t.heap ∧ tkM (fun q => q = o) D (oGL ac o u.2) t.heap) (fun q => A q ∨ q = o)) (XG (fun _ => False)) 3 18 (fun q => A q ∨ q = o) := by
  refine vx_ofWH (cc := cL_block) (maxL := 5) (ret := (some .int)) (hh := [(0, 10, 13, 13), (0, 10, 17, 15), (0, 10, 21, 17), (0, 10, 25, 19)]) (by decide) rfl ?_
  intro p e s m args below meth c s₁ B hml hv
  obtain ⟨rfl, ⟨⟨hM, hK, hA, hF⟩, hO⟩, hMo, hoA, hNc⟩ := hv
  have hS : va_S (fun q => A q ∨ q = o) s.heap s.heap [] := va_S.rf
  have hx := B.exec
  have hb := B.bytes
  have hr := B.returns
  have hts := atoms_spec (ws := wsL_block) B.pre
  have htab : c.exceptionTable.toList = tableOf [(0, 10, 13, 13), (0, 10, 17, 15), (0, 10, 21, 17), (0, 10, 25, 19)] := vx_table (x := yL_block) B (hts _ List.mem_cons_self)
  have hown : s.vm.findClass RL = some m.cls := findClass_of_methodNamed B.named
  have hlocks := B.notSynchronized
  have S0 : CallFix p m c cL_block 5 s ([.ref h0, .int x1, .int x2, .ref o] : List Value).toArray wsL_block RL := ⟨hx, hb, hml, hown, hts⟩
  have hl := lv_entry ([.ref h0, .int x1, .int x2, .ref o]) (n := 5) (Nat.le_of_ble_eq_true rfl)
  rw [lg_entry_eq]
  generalize (lg_sl ([.ref h0, .int x1, .int x2, .ref o]) ++ List.replicate (5 - (lg_sl ([.ref h0, .int x1, .int x2, .ref o])).length) Slot.unset).toArray = ls at hl ⊢
  have hl : lv_has ls 5 [(0, .ref h0), (1, .int x1), (2, .int x2), (3, .ref o)] := hl
  refine lv_aload_n hx hb dL_block_0 rfl (lv_at hl 3 rfl) ?_
  refine lv_iconst (v := 0) hx hb dL_block_1 (by decide) ?_
  refine lv_aload_n hx hb dL_block_2 rfl (lv_at hl 0 rfl) ?_
  refine lv_iload_n hx hb dL_block_3 rfl (lv_at hl 1 rfl) ?_
  refine lv_iload_n hx hb dL_block_4 rfl (lv_at hl 2 rfl) ?_
  refine vx_calli (A1 := A) (free := A) (vx_runV (As := [.int x1, .int x2]) (rest := [.int 0, .ref o]) S0 (c_X4_block (nv := 0) l hst A D ac dE _ hP hI.w x1 x2) (cwV 2 hts gL_block_X4_block rfl rfl rfl (by decide +kernel) ⟨Nat.le_of_ble_eq_true rfl, Nat.le_of_ble_eq_true rfl⟩) ⟨fun a U g mk q => ⟨q.1, tkX.blind U g mk a q.2⟩, tk_recv hK hM hP.h rfl, fun U hU hW => ⟨rfl, tkX.at hM hK hA hF hO va_S.rf U hU hW⟩⟩ rfl rfl hl.1 rfl (lv_room (Nat.le_of_ble_eq_true rfl)) dL_block_5 ⟨Nat.le_of_ble_eq_true rfl, Nat.le_of_ble_eq_true rfl⟩) hS (fun q _ h => Or.inl h) (fun q h => Or.inl h) (fun q _ h => h.elim) (fun E ce q9 u9 t H locs ht hal _ hX hz hq hS hce hcv hcl => ?_) (fun r G9 t H locs ht hal hp hBB hz hq hS => ?_)
  · have hM := hM.keptE (fun q h9 => hq q h9 (fun z => z))
    have hMo := hMo.keptE (fun q h9 => hq q h9 (fun z => z))
    rw [eq_block hI] at hX
    rcases List.mem_cons.mp hX with h9 | hX
    · obtain ⟨e9, hc9⟩ := Prod.mk.inj h9
      subst e9
      refine vx_catch (name := "java/lang/IndexOutOfBoundsException") hown [] ⟨0, 10, 13, 13⟩ [⟨0, 10, 17, 15⟩, ⟨0, 10, 21, 17⟩, ⟨0, 10, 25, 19⟩] htab (fun _ h => absurd h List.not_mem_nil) (by decide) (by decide) (hts (.classLink RL 13 "java/lang/IndexOutOfBoundsException") (by decide +kernel)) (va_Nw.use rfl (hF.2.2.2 ("java/lang/IndexOutOfBoundsException", "java/lang/IndexOutOfBoundsException") (by decide))) hce hcv hcl ?_
      refine lv_astore (lv' := [(4, .ref q9), (0, .ref h0), (1, .int x1), (2, .int x2), (3, .ref o)]) hx hb dL_block_13 hl (by decide) rfl (fun ls hl => ?_)
      refine lv_iconst (v := 1) hx hb dL_block_15 (by decide) ?_
      refine vx_ret ?_
      refine W.widen (k := 3) (n := 18) (Nat.le_of_ble_eq_true rfl) (Nat.le_of_ble_eq_true rfl) ?_
      exact W.iret (v := 1) hx hb hr (fun t9 h8 w9 => ⟨⟨1, (G, f), rfl, ⟨hc9.symm, fun z => absurd (hc9.symm.trans z) (by decide), ⟨α, (by rw [ne_block (fun z => absurd (hc9.symm.trans z) (by decide))]; exact hP)⟩⟩, by dsimp only; rw [h8]; exact ⟨hM, hMo⟩⟩, hS.F h8⟩) hS.2.2 dL_block_16
    rcases List.mem_cons.mp hX with h9 | hX
    · obtain ⟨e9, hc9⟩ := Prod.mk.inj h9
      subst e9
      refine vx_catch (name := "java/lang/IllegalArgumentException") hown [⟨0, 10, 13, 13⟩] ⟨0, 10, 17, 15⟩ [⟨0, 10, 21, 17⟩, ⟨0, 10, 25, 19⟩] htab (List.forall_mem_cons.mpr ⟨Or.inr ⟨by decide, "java/lang/IndexOutOfBoundsException", (hts (.classLink RL 13 "java/lang/IndexOutOfBoundsException") (by decide +kernel)), hNc ("java/lang/IllegalArgumentException", "java/lang/IndexOutOfBoundsException") (by decide)⟩, (fun _ h => absurd h List.not_mem_nil)⟩) (by decide) (by decide) (hts (.classLink RL 15 "java/lang/IllegalArgumentException") (by decide +kernel)) (va_Nw.use rfl (hF.2.2.2 ("java/lang/IllegalArgumentException", "java/lang/IllegalArgumentException") (by decide))) hce hcv hcl ?_
      refine lv_astore (lv' := [(4, .ref q9), (0, .ref h0), (1, .int x1), (2, .int x2), (3, .ref o)]) hx hb dL_block_17 hl (by decide) rfl (fun ls hl => ?_)
      refine lv_iconst (v := 2) hx hb dL_block_19 (by decide) ?_
      refine vx_ret ?_
      refine W.widen (k := 3) (n := 18) (Nat.le_of_ble_eq_true rfl) (Nat.le_of_ble_eq_true rfl) ?_
      exact W.iret (v := 2) hx hb hr (fun t9 h8 w9 => ⟨⟨2, (G, f), rfl, ⟨hc9.symm, fun z => absurd (hc9.symm.trans z) (by decide), ⟨α, (by rw [ne_block (fun z => absurd (hc9.symm.trans z) (by decide))]; exact hP)⟩⟩, by dsimp only; rw [h8]; exact ⟨hM, hMo⟩⟩, hS.F h8⟩) hS.2.2 dL_block_20
    rcases List.mem_cons.mp hX with h9 | hX
    · obtain ⟨e9, hc9⟩ := Prod.mk.inj h9
      subst e9
      refine vx_catch (name := "java/lang/IllegalStateException") hown [⟨0, 10, 13, 13⟩, ⟨0, 10, 17, 15⟩] ⟨0, 10, 21, 17⟩ [⟨0, 10, 25, 19⟩] htab (List.forall_mem_cons.mpr ⟨Or.inr ⟨by decide, "java/lang/IndexOutOfBoundsException", (hts (.classLink RL 13 "java/lang/IndexOutOfBoundsException") (by decide +kernel)), hNc ("java/lang/IllegalStateException", "java/lang/IndexOutOfBoundsException") (by decide)⟩, (List.forall_mem_cons.mpr ⟨Or.inr ⟨by decide, "java/lang/IllegalArgumentException", (hts (.classLink RL 15 "java/lang/IllegalArgumentException") (by decide +kernel)), hNc ("java/lang/IllegalStateException", "java/lang/IllegalArgumentException") (by decide)⟩, (fun _ h => absurd h List.not_mem_nil)⟩)⟩) (by decide) (by decide) (hts (.classLink RL 17 "java/lang/IllegalStateException") (by decide +kernel)) (va_Nw.use rfl (hF.2.2.2 ("java/lang/IllegalStateException", "java/lang/IllegalStateException") (by decide))) hce hcv hcl ?_
      refine lv_astore (lv' := [(4, .ref q9), (0, .ref h0), (1, .int x1), (2, .int x2), (3, .ref o)]) hx hb dL_block_21 hl (by decide) rfl (fun ls hl => ?_)
      refine lv_iconst (v := 3) hx hb dL_block_23 (by decide) ?_
      refine vx_ret ?_
      refine W.widen (k := 3) (n := 18) (Nat.le_of_ble_eq_true rfl) (Nat.le_of_ble_eq_true rfl) ?_
      exact W.iret (v := 3) hx hb hr (fun t9 h8 w9 => ⟨⟨3, (G, f), rfl, ⟨hc9.symm, fun z => absurd (hc9.symm.trans z) (by decide), ⟨α, (by rw [ne_block (fun z => absurd (hc9.symm.trans z) (by decide))]; exact hP)⟩⟩, by dsimp only; rw [h8]; exact ⟨hM, hMo⟩⟩, hS.F h8⟩) hS.2.2 dL_block_24
    have h9 := List.mem_singleton.mp hX
    obtain ⟨e9, hc9⟩ := Prod.mk.inj h9
    subst e9
    refine vx_catch (name := "java/lang/UnsupportedOperationException") hown [⟨0, 10, 13, 13⟩, ⟨0, 10, 17, 15⟩, ⟨0, 10, 21, 17⟩] ⟨0, 10, 25, 19⟩ [] htab (List.forall_mem_cons.mpr ⟨Or.inr ⟨by decide, "java/lang/IndexOutOfBoundsException", (hts (.classLink RL 13 "java/lang/IndexOutOfBoundsException") (by decide +kernel)), hNc ("java/lang/UnsupportedOperationException", "java/lang/IndexOutOfBoundsException") (by decide)⟩, (List.forall_mem_cons.mpr ⟨Or.inr ⟨by decide, "java/lang/IllegalArgumentException", (hts (.classLink RL 15 "java/lang/IllegalArgumentException") (by decide +kernel)), hNc ("java/lang/UnsupportedOperationException", "java/lang/IllegalArgumentException") (by decide)⟩, (List.forall_mem_cons.mpr ⟨Or.inr ⟨by decide, "java/lang/IllegalStateException", (hts (.classLink RL 17 "java/lang/IllegalStateException") (by decide +kernel)), hNc ("java/lang/UnsupportedOperationException", "java/lang/IllegalStateException") (by decide)⟩, (fun _ h => absurd h List.not_mem_nil)⟩)⟩)⟩) (by decide) (by decide) (hts (.classLink RL 19 "java/lang/UnsupportedOperationException") (by decide +kernel)) (va_Nw.use rfl (hF.2.2.2 ("java/lang/UnsupportedOperationException", "java/lang/UnsupportedOperationException") (by decide))) hce hcv hcl ?_
    refine lv_astore (lv' := [(4, .ref q9), (0, .ref h0), (1, .int x1), (2, .int x2), (3, .ref o)]) hx hb dL_block_25 hl (by decide) rfl (fun ls hl => ?_)
    refine lv_iconst (v := 4) hx hb dL_block_27 (by decide) ?_
    refine vx_ret ?_
    refine W.widen (k := 3) (n := 18) (Nat.le_of_ble_eq_true rfl) (Nat.le_of_ble_eq_true rfl) ?_
    exact W.iret (v := 4) hx hb hr (fun t9 h8 w9 => ⟨⟨4, (G, f), rfl, ⟨hc9.symm, fun z => absurd (hc9.symm.trans z) (by decide), ⟨α, (by rw [ne_block (fun z => absurd (hc9.symm.trans z) (by decide))]; exact hP)⟩⟩, by dsimp only; rw [h8]; exact ⟨hM, hMo⟩⟩, hS.F h8⟩) hS.2.2 dL_block_28
  · rw [eq_block hI] at hp
    obtain ⟨h1, ⟨α9, hP9⟩, hr9⟩ := hp
    have hM : tkM A D G9 H := by rw [← ht]; exact hBB
    have hMo := hMo.kept (H1 := H) (fun q h2 h3 => hq q h2 (by rw [h3]; exact hoA))
    have hMc := hM.un hMo hoA
    refine lv_i2l hx hb dL_block_8 rfl ?_
    refine tk_last hx hb hK hMc hS 4 (va_up_self _ _ _) rfl (by unfold vp_in; decide) dL_block_9 (fun H locs hM2 hS => ?_)
    rw [va_up2] at hM2
    obtain ⟨hM3, hMo3⟩ := hM2.cut hoA (fun a e9 h9 => hM.isA h9)
    refine lv_goto (tgt := 29) hx hb dL_block_10 (by decide) ?_
    refine lv_iconst (v := 0) hx hb dL_block_29 (by decide) ?_
    refine vx_ret ?_
    refine W.widen (k := 3) (n := 18) (Nat.le_of_ble_eq_true rfl) (Nat.le_of_ble_eq_true rfl) ?_
    exact W.iret (v := 0) hx hb hr (fun t9 h8 w9 => ⟨⟨0, (G9, vp_updL f 0 (r.toInt64)), rfl, ⟨h1.symm, fun _ => (by rw [hr9]; rfl), ⟨α9, hP9⟩⟩, by dsimp only; rw [h8]; exact ⟨hM3, hMo3⟩⟩, hS.F h8⟩) hS.2.2 dL_block_30
set_option maxHeartbeats 4000000 in
set_option maxRecDepth 100000 in
theorem c_L_begin (l : Launch) (hst : l.stackTraces = false) (A : Nat → Prop) (o : Nat) (D : va_G) (ac : Nat → ClassId) (dE : Nat) (G : TG) {h0 : Nat} {α : Nat → Nat → Nat} {M : TS} (hP : PX ac dE h0 α M (nV M) G) (hI : IV M) (f : Nat → Int64) (x1 : Int32) : vx_Met l yL_begin wsL_begin ({ frames := 10, cells := 3, slots := 18, locals := 600 } : Room) (va_Pc [.ref h0, .int x1, .ref o] (tkW A o D ac dE G (oGL ac o f))) (va_Qi (fun (z : Int32) (u : TG × (Nat → Int64)) => z = (S_begin M x1).1 ∧ ((S_begin M x1).1 = 0 → u.2 0 = (S_begin M x1).2.2.toInt64) ∧ ∃ α9 : Nat → Nat → Nat, PX ac dE h0 α9 (S_begin M x1).2.1 (nV (S_begin M x1).2.1) u.1) (fun (u : TG × (Nat → Int64)) t => tkM A D u.1 t.heap ∧ tkM (fun q => q = o) D (oGL ac o u.2) t.heap) (fun q => A q ∨ q = o)) (XG (fun _ => False)) 3 18 (fun q => A q ∨ q = o) := by
  refine vx_ofWH (cc := cL_begin) (maxL := 4) (ret := (some .int)) (hh := [(0, 9, 12, 13), (0, 9, 15, 17), (0, 9, 18, 19)]) (by decide) rfl ?_
  intro p e s m args below meth c s₁ B hml hv
  obtain ⟨rfl, ⟨⟨hM, hK, hA, hF⟩, hO⟩, hMo, hoA, hNc⟩ := hv
  have hS : va_S (fun q => A q ∨ q = o) s.heap s.heap [] := va_S.rf
  have hx := B.exec
  have hb := B.bytes
  have hr := B.returns
  have hts := atoms_spec (ws := wsL_begin) B.pre
  have htab : c.exceptionTable.toList = tableOf [(0, 9, 12, 13), (0, 9, 15, 17), (0, 9, 18, 19)] := vx_table (x := yL_begin) B (hts _ List.mem_cons_self)
  have hown : s.vm.findClass RL = some m.cls := findClass_of_methodNamed B.named
  have hlocks := B.notSynchronized
  have S0 : CallFix p m c cL_begin 4 s ([.ref h0, .int x1, .ref o] : List Value).toArray wsL_begin RL := ⟨hx, hb, hml, hown, hts⟩
  have hl := lv_entry ([.ref h0, .int x1, .ref o]) (n := 4) (Nat.le_of_ble_eq_true rfl)
  rw [lg_entry_eq]
  generalize (lg_sl ([.ref h0, .int x1, .ref o]) ++ List.replicate (4 - (lg_sl ([.ref h0, .int x1, .ref o])).length) Slot.unset).toArray = ls at hl ⊢
  have hl : lv_has ls 4 [(0, .ref h0), (1, .int x1), (2, .ref o)] := hl
  refine lv_aload_n hx hb dL_begin_0 rfl (lv_at hl 2 rfl) ?_
  refine lv_iconst (v := 0) hx hb dL_begin_1 (by decide) ?_
  refine lv_aload_n hx hb dL_begin_2 rfl (lv_at hl 0 rfl) ?_
  refine lv_iload_n hx hb dL_begin_3 rfl (lv_at hl 1 rfl) ?_
  refine vx_calli (A1 := A) (free := A) (vx_runV (As := [.int x1]) (rest := [.int 0, .ref o]) S0 (c_X4_begin (nv := 0) l hst A D ac dE _ hP hI.w x1) (cwV 1 hts gL_begin_X4_begin rfl rfl rfl (by decide +kernel) ⟨Nat.le_of_ble_eq_true rfl, Nat.le_of_ble_eq_true rfl⟩) ⟨fun a U g mk q => ⟨q.1, tkX.blind U g mk a q.2⟩, tk_recv hK hM hP.h rfl, fun U hU hW => ⟨rfl, tkX.at hM hK hA hF hO va_S.rf U hU hW⟩⟩ rfl rfl hl.1 rfl (lv_room (Nat.le_of_ble_eq_true rfl)) dL_begin_4 ⟨Nat.le_of_ble_eq_true rfl, Nat.le_of_ble_eq_true rfl⟩) hS (fun q _ h => Or.inl h) (fun q h => Or.inl h) (fun q _ h => h.elim) (fun E ce q9 u9 t H locs ht hal _ hX hz hq hS hce hcv hcl => ?_) (fun r G9 t H locs ht hal hp hBB hz hq hS => ?_)
  · have hM := hM.keptE (fun q h9 => hq q h9 (fun z => z))
    have hMo := hMo.keptE (fun q h9 => hq q h9 (fun z => z))
    rw [eq_begin hI] at hX
    rcases List.mem_cons.mp hX with h9 | hX
    · obtain ⟨e9, hc9⟩ := Prod.mk.inj h9
      subst e9
      refine vx_catch (name := "java/lang/IndexOutOfBoundsException") hown [] ⟨0, 9, 12, 13⟩ [⟨0, 9, 15, 17⟩, ⟨0, 9, 18, 19⟩] htab (fun _ h => absurd h List.not_mem_nil) (by decide) (by decide) (hts (.classLink RL 13 "java/lang/IndexOutOfBoundsException") (by decide +kernel)) (va_Nw.use rfl (hF.2.2.2 ("java/lang/IndexOutOfBoundsException", "java/lang/IndexOutOfBoundsException") (by decide))) hce hcv hcl ?_
      refine lv_astore_n (lv' := [(3, .ref q9), (0, .ref h0), (1, .int x1), (2, .ref o)]) hx hb dL_begin_12 rfl hl (by decide) rfl (fun ls hl => ?_)
      refine lv_iconst (v := 1) hx hb dL_begin_13 (by decide) ?_
      refine vx_ret ?_
      refine W.widen (k := 3) (n := 18) (Nat.le_of_ble_eq_true rfl) (Nat.le_of_ble_eq_true rfl) ?_
      exact W.iret (v := 1) hx hb hr (fun t9 h8 w9 => ⟨⟨1, (G, f), rfl, ⟨hc9.symm, fun z => absurd (hc9.symm.trans z) (by decide), ⟨α, (by rw [ne_begin (fun z => absurd (hc9.symm.trans z) (by decide))]; exact hP)⟩⟩, by dsimp only; rw [h8]; exact ⟨hM, hMo⟩⟩, hS.F h8⟩) hS.2.2 dL_begin_14
    rcases List.mem_cons.mp hX with h9 | hX
    · obtain ⟨e9, hc9⟩ := Prod.mk.inj h9
      subst e9
      refine vx_catch (name := "java/lang/IllegalStateException") hown [⟨0, 9, 12, 13⟩] ⟨0, 9, 15, 17⟩ [⟨0, 9, 18, 19⟩] htab (List.forall_mem_cons.mpr ⟨Or.inr ⟨by decide, "java/lang/IndexOutOfBoundsException", (hts (.classLink RL 13 "java/lang/IndexOutOfBoundsException") (by decide +kernel)), hNc ("java/lang/IllegalStateException", "java/lang/IndexOutOfBoundsException") (by decide)⟩, (fun _ h => absurd h List.not_mem_nil)⟩) (by decide) (by decide) (hts (.classLink RL 17 "java/lang/IllegalStateException") (by decide +kernel)) (va_Nw.use rfl (hF.2.2.2 ("java/lang/IllegalStateException", "java/lang/IllegalStateException") (by decide))) hce hcv hcl ?_
      refine lv_astore_n (lv' := [(3, .ref q9), (0, .ref h0), (1, .int x1), (2, .ref o)]) hx hb dL_begin_15 rfl hl (by decide) rfl (fun ls hl => ?_)
      refine lv_iconst (v := 2) hx hb dL_begin_16 (by decide) ?_
      refine vx_ret ?_
      refine W.widen (k := 3) (n := 18) (Nat.le_of_ble_eq_true rfl) (Nat.le_of_ble_eq_true rfl) ?_
      exact W.iret (v := 2) hx hb hr (fun t9 h8 w9 => ⟨⟨2, (G, f), rfl, ⟨hc9.symm, fun z => absurd (hc9.symm.trans z) (by decide), ⟨α, (by rw [ne_begin (fun z => absurd (hc9.symm.trans z) (by decide))]; exact hP)⟩⟩, by dsimp only; rw [h8]; exact ⟨hM, hMo⟩⟩, hS.F h8⟩) hS.2.2 dL_begin_17
    have h9 := List.mem_singleton.mp hX
    obtain ⟨e9, hc9⟩ := Prod.mk.inj h9
    subst e9
    refine vx_catch (name := "java/lang/UnsupportedOperationException") hown [⟨0, 9, 12, 13⟩, ⟨0, 9, 15, 17⟩] ⟨0, 9, 18, 19⟩ [] htab (List.forall_mem_cons.mpr ⟨Or.inr ⟨by decide, "java/lang/IndexOutOfBoundsException", (hts (.classLink RL 13 "java/lang/IndexOutOfBoundsException") (by decide +kernel)), hNc ("java/lang/UnsupportedOperationException", "java/lang/IndexOutOfBoundsException") (by decide)⟩, (List.forall_mem_cons.mpr ⟨Or.inr ⟨by decide, "java/lang/IllegalStateException", (hts (.classLink RL 17 "java/lang/IllegalStateException") (by decide +kernel)), hNc ("java/lang/UnsupportedOperationException", "java/lang/IllegalStateException") (by decide)⟩, (fun _ h => absurd h List.not_mem_nil)⟩)⟩) (by decide) (by decide) (hts (.classLink RL 19 "java/lang/UnsupportedOperationException") (by decide +kernel)) (va_Nw.use rfl (hF.2.2.2 ("java/lang/UnsupportedOperationException", "java/lang/UnsupportedOperationException") (by decide))) hce hcv hcl ?_
    refine lv_astore_n (lv' := [(3, .ref q9), (0, .ref h0), (1, .int x1), (2, .ref o)]) hx hb dL_begin_18 rfl hl (by decide) rfl (fun ls hl => ?_)
    refine lv_iconst (v := 3) hx hb dL_begin_19 (by decide) ?_
    refine vx_ret ?_
    refine W.widen (k := 3) (n := 18) (Nat.le_of_ble_eq_true rfl) (Nat.le_of_ble_eq_true rfl) ?_
    exact W.iret (v := 3) hx hb hr (fun t9 h8 w9 => ⟨⟨3, (G, f), rfl, ⟨hc9.symm, fun z => absurd (hc9.symm.trans z) (by decide), ⟨α, (by rw [ne_begin (fun z => absurd (hc9.symm.trans z) (by decide))]; exact hP)⟩⟩, by dsimp only; rw [h8]; exact ⟨hM, hMo⟩⟩, hS.F h8⟩) hS.2.2 dL_begin_20
  · rw [eq_begin hI] at hp
    obtain ⟨h1, ⟨α9, hP9⟩, hr9⟩ := hp
    have hM : tkM A D G9 H := by rw [← ht]; exact hBB
    have hMo := hMo.kept (H1 := H) (fun q h2 h3 => hq q h2 (by rw [h3]; exact hoA))
    have hMc := hM.un hMo hoA
    refine lv_i2l hx hb dL_begin_7 rfl ?_
    refine tk_last hx hb hK hMc hS 4 (va_up_self _ _ _) rfl (by unfold vp_in; decide) dL_begin_8 (fun H locs hM2 hS => ?_)
    rw [va_up2] at hM2
    obtain ⟨hM3, hMo3⟩ := hM2.cut hoA (fun a e9 h9 => hM.isA h9)
    refine lv_goto (tgt := 21) hx hb dL_begin_9 (by decide) ?_
    refine lv_iconst (v := 0) hx hb dL_begin_21 (by decide) ?_
    refine vx_ret ?_
    refine W.widen (k := 3) (n := 18) (Nat.le_of_ble_eq_true rfl) (Nat.le_of_ble_eq_true rfl) ?_
    exact W.iret (v := 0) hx hb hr (fun t9 h8 w9 => ⟨⟨0, (G9, vp_updL f 0 (r.toInt64)), rfl, ⟨h1.symm, fun _ => (by rw [hr9]; rfl), ⟨α9, hP9⟩⟩, by dsimp only; rw [h8]; exact ⟨hM3, hMo3⟩⟩, hS.F h8⟩) hS.2.2 dL_begin_22
set_option maxHeartbeats 4000000 in
set_option maxRecDepth 100000 in
theorem c_L_propose (l : Launch) (hst : l.stackTraces = false) (A : Nat → Prop) (o : Nat) (D : va_G) (ac : Nat → ClassId) (dE : Nat) (G : TG) {h0 : Nat} {α : Nat → Nat → Nat} {M : TS} (hP : PX ac dE h0 α M (nV M) G) (hI : IV M) (f : Nat → Int64) (x1 : Int32) : vx_Met l yL_propose wsL_propose ({ frames := 10, cells := 2, slots := 12, locals := 600 } : Room) (va_Pc [.ref h0, .int x1, .ref o] (tkW A o D ac dE G (oGL ac o f))) (va_Qi (fun (z : Int32) (u : TG × (Nat → Int64)) => z = (S_propose M x1).1 ∧ ((S_propose M x1).1 = 0 → u.2 0 = (S_propose M x1).2.2.toInt64) ∧ ∃ α9 : Nat → Nat → Nat, PX ac dE h0 α9 (S_propose M x1).2.1 (nV (S_propose M x1).2.1) u.1) (fun (u : TG × (Nat → Int64)) t => tkM A D u.1 t.heap ∧ tkM (fun q => q = o) D (oGL ac o u.2) t.heap) (fun q => A q ∨ q = o)) (XG (fun _ => False)) 2 12 (fun q => A q ∨ q = o) := by
  refine vx_ofWH (cc := cL_propose) (maxL := 4) (ret := (some .int)) (hh := [(0, 9, 12, 13), (0, 9, 15, 17)]) (by decide) rfl ?_
  intro p e s m args below meth c s₁ B hml hv
  obtain ⟨rfl, ⟨⟨hM, hK, hA, hF⟩, hO⟩, hMo, hoA, hNc⟩ := hv
  have hS : va_S (fun q => A q ∨ q = o) s.heap s.heap [] := va_S.rf
  have hx := B.exec
  have hb := B.bytes
  have hr := B.returns
  have hts := atoms_spec (ws := wsL_propose) B.pre
  have htab : c.exceptionTable.toList = tableOf [(0, 9, 12, 13), (0, 9, 15, 17)] := vx_table (x := yL_propose) B (hts _ List.mem_cons_self)
  have hown : s.vm.findClass RL = some m.cls := findClass_of_methodNamed B.named
  have hlocks := B.notSynchronized
  have S0 : CallFix p m c cL_propose 4 s ([.ref h0, .int x1, .ref o] : List Value).toArray wsL_propose RL := ⟨hx, hb, hml, hown, hts⟩
  have hl := lv_entry ([.ref h0, .int x1, .ref o]) (n := 4) (Nat.le_of_ble_eq_true rfl)
  rw [lg_entry_eq]
  generalize (lg_sl ([.ref h0, .int x1, .ref o]) ++ List.replicate (4 - (lg_sl ([.ref h0, .int x1, .ref o])).length) Slot.unset).toArray = ls at hl ⊢
  have hl : lv_has ls 4 [(0, .ref h0), (1, .int x1), (2, .ref o)] := hl
  refine lv_aload_n hx hb dL_propose_0 rfl (lv_at hl 2 rfl) ?_
  refine lv_iconst (v := 0) hx hb dL_propose_1 (by decide) ?_
  refine lv_aload_n hx hb dL_propose_2 rfl (lv_at hl 0 rfl) ?_
  refine lv_iload_n hx hb dL_propose_3 rfl (lv_at hl 1 rfl) ?_
  refine vx_calli (A1 := A) (free := A) (vx_runV (As := [.int x1]) (rest := [.int 0, .ref o]) S0 (c_X4_propose (nv := 0) l hst A D ac dE _ hP hI.w x1) (cwV 1 hts gL_propose_X4_propose rfl rfl rfl (by decide +kernel) ⟨Nat.le_of_ble_eq_true rfl, Nat.le_of_ble_eq_true rfl⟩) ⟨fun a U g mk q => ⟨q.1, tkX.blind U g mk a q.2⟩, tk_recv hK hM hP.h rfl, fun U hU hW => ⟨rfl, tkX.at hM hK hA hF hO va_S.rf U hU hW⟩⟩ rfl rfl hl.1 rfl (lv_room (Nat.le_of_ble_eq_true rfl)) dL_propose_4 ⟨Nat.le_of_ble_eq_true rfl, Nat.le_of_ble_eq_true rfl⟩) hS (fun q _ h => Or.inl h) (fun q h => Or.inl h) (fun q _ h => h.elim) (fun E ce q9 u9 t H locs ht hal _ hX hz hq hS hce hcv hcl => ?_) (fun r G9 t H locs ht hal hp hBB hz hq hS => ?_)
  · have hM := hM.keptE (fun q h9 => hq q h9 (fun z => z))
    have hMo := hMo.keptE (fun q h9 => hq q h9 (fun z => z))
    rcases List.mem_cons.mp hX with h9 | hX
    · obtain ⟨e9, hc9⟩ := Prod.mk.inj h9
      subst e9
      refine vx_catch (name := "java/lang/IndexOutOfBoundsException") hown [] ⟨0, 9, 12, 13⟩ [⟨0, 9, 15, 17⟩] htab (fun _ h => absurd h List.not_mem_nil) (by decide) (by decide) (hts (.classLink RL 13 "java/lang/IndexOutOfBoundsException") (by decide +kernel)) (va_Nw.use rfl (hF.2.2.2 ("java/lang/IndexOutOfBoundsException", "java/lang/IndexOutOfBoundsException") (by decide))) hce hcv hcl ?_
      refine lv_astore_n (lv' := [(3, .ref q9), (0, .ref h0), (1, .int x1), (2, .ref o)]) hx hb dL_propose_12 rfl hl (by decide) rfl (fun ls hl => ?_)
      refine lv_iconst (v := 1) hx hb dL_propose_13 (by decide) ?_
      refine vx_ret ?_
      refine W.widen (k := 2) (n := 12) (Nat.le_of_ble_eq_true rfl) (Nat.le_of_ble_eq_true rfl) ?_
      exact W.iret (v := 1) hx hb hr (fun t9 h8 w9 => ⟨⟨1, (G, f), rfl, ⟨hc9.symm, fun z => absurd (hc9.symm.trans z) (by decide), ⟨α, (by rw [ne_propose (fun z => absurd (hc9.symm.trans z) (by decide))]; exact hP)⟩⟩, by dsimp only; rw [h8]; exact ⟨hM, hMo⟩⟩, hS.F h8⟩) hS.2.2 dL_propose_14
    have h9 := List.mem_singleton.mp hX
    obtain ⟨e9, hc9⟩ := Prod.mk.inj h9
    subst e9
    refine vx_catch (name := "java/lang/IllegalStateException") hown [⟨0, 9, 12, 13⟩] ⟨0, 9, 15, 17⟩ [] htab (List.forall_mem_cons.mpr ⟨Or.inr ⟨by decide, "java/lang/IndexOutOfBoundsException", (hts (.classLink RL 13 "java/lang/IndexOutOfBoundsException") (by decide +kernel)), hNc ("java/lang/IllegalStateException", "java/lang/IndexOutOfBoundsException") (by decide)⟩, (fun _ h => absurd h List.not_mem_nil)⟩) (by decide) (by decide) (hts (.classLink RL 17 "java/lang/IllegalStateException") (by decide +kernel)) (va_Nw.use rfl (hF.2.2.2 ("java/lang/IllegalStateException", "java/lang/IllegalStateException") (by decide))) hce hcv hcl ?_
    refine lv_astore_n (lv' := [(3, .ref q9), (0, .ref h0), (1, .int x1), (2, .ref o)]) hx hb dL_propose_15 rfl hl (by decide) rfl (fun ls hl => ?_)
    refine lv_iconst (v := 2) hx hb dL_propose_16 (by decide) ?_
    refine vx_ret ?_
    refine W.widen (k := 2) (n := 12) (Nat.le_of_ble_eq_true rfl) (Nat.le_of_ble_eq_true rfl) ?_
    exact W.iret (v := 2) hx hb hr (fun t9 h8 w9 => ⟨⟨2, (G, f), rfl, ⟨hc9.symm, fun z => absurd (hc9.symm.trans z) (by decide), ⟨α, (by rw [ne_propose (fun z => absurd (hc9.symm.trans z) (by decide))]; exact hP)⟩⟩, by dsimp only; rw [h8]; exact ⟨hM, hMo⟩⟩, hS.F h8⟩) hS.2.2 dL_propose_17
  · obtain ⟨h1, ⟨α9, hP9⟩, hr9⟩ := hp
    have hM : tkM A D G9 H := by rw [← ht]; exact hBB
    have hMo := hMo.kept (H1 := H) (fun q h2 h3 => hq q h2 (by rw [h3]; exact hoA))
    have hMc := hM.un hMo hoA
    refine lv_i2l hx hb dL_propose_7 rfl ?_
    refine tk_last hx hb hK hMc hS 4 (va_up_self _ _ _) rfl (by unfold vp_in; decide) dL_propose_8 (fun H locs hM2 hS => ?_)
    rw [va_up2] at hM2
    obtain ⟨hM3, hMo3⟩ := hM2.cut hoA (fun a e9 h9 => hM.isA h9)
    refine lv_goto (tgt := 18) hx hb dL_propose_9 (by decide) ?_
    refine lv_iconst (v := 0) hx hb dL_propose_18 (by decide) ?_
    refine vx_ret ?_
    refine W.widen (k := 2) (n := 12) (Nat.le_of_ble_eq_true rfl) (Nat.le_of_ble_eq_true rfl) ?_
    exact W.iret (v := 0) hx hb hr (fun t9 h8 w9 => ⟨⟨0, (G9, vp_updL f 0 (r.toInt64)), rfl, ⟨h1.symm, fun _ => (by rw [hr9]; rfl), ⟨α9, hP9⟩⟩, by dsimp only; rw [h8]; exact ⟨hM3, hMo3⟩⟩, hS.F h8⟩) hS.2.2 dL_propose_19
set_option maxHeartbeats 4000000 in
set_option maxRecDepth 100000 in
theorem c_L_reject (l : Launch) (hst : l.stackTraces = false) (A : Nat → Prop) (o : Nat) (D : va_G) (ac : Nat → ClassId) (dE : Nat) (G : TG) {h0 : Nat} {α : Nat → Nat → Nat} {M : TS} (hP : PX ac dE h0 α M (nV M) G) (hI : IV M) (f : Nat → Int64) (x1 : Int32) : vx_Met l yL_reject wsL_reject ({ frames := 10, cells := 2, slots := 12, locals := 600 } : Room) (va_Pc [.ref h0, .int x1, .ref o] (tkW A o D ac dE G (oGL ac o f))) (va_Qi (fun (z : Int32) (u : TG × (Nat → Int64)) => z = (S_reject M x1).1 ∧ ((S_reject M x1).1 = 0 → u.2 0 = (S_reject M x1).2.2.toInt64) ∧ ∃ α9 : Nat → Nat → Nat, PX ac dE h0 α9 (S_reject M x1).2.1 (nV (S_reject M x1).2.1) u.1) (fun (u : TG × (Nat → Int64)) t => tkM A D u.1 t.heap ∧ tkM (fun q => q = o) D (oGL ac o u.2) t.heap) (fun q => A q ∨ q = o)) (XG (fun _ => False)) 2 12 (fun q => A q ∨ q = o) := by
  refine vx_ofWH (cc := cL_reject) (maxL := 4) (ret := (some .int)) (hh := [(0, 9, 12, 13), (0, 9, 15, 17)]) (by decide) rfl ?_
  intro p e s m args below meth c s₁ B hml hv
  obtain ⟨rfl, ⟨⟨hM, hK, hA, hF⟩, hO⟩, hMo, hoA, hNc⟩ := hv
  have hS : va_S (fun q => A q ∨ q = o) s.heap s.heap [] := va_S.rf
  have hx := B.exec
  have hb := B.bytes
  have hr := B.returns
  have hts := atoms_spec (ws := wsL_reject) B.pre
  have htab : c.exceptionTable.toList = tableOf [(0, 9, 12, 13), (0, 9, 15, 17)] := vx_table (x := yL_reject) B (hts _ List.mem_cons_self)
  have hown : s.vm.findClass RL = some m.cls := findClass_of_methodNamed B.named
  have hlocks := B.notSynchronized
  have S0 : CallFix p m c cL_reject 4 s ([.ref h0, .int x1, .ref o] : List Value).toArray wsL_reject RL := ⟨hx, hb, hml, hown, hts⟩
  have hl := lv_entry ([.ref h0, .int x1, .ref o]) (n := 4) (Nat.le_of_ble_eq_true rfl)
  rw [lg_entry_eq]
  generalize (lg_sl ([.ref h0, .int x1, .ref o]) ++ List.replicate (4 - (lg_sl ([.ref h0, .int x1, .ref o])).length) Slot.unset).toArray = ls at hl ⊢
  have hl : lv_has ls 4 [(0, .ref h0), (1, .int x1), (2, .ref o)] := hl
  refine lv_aload_n hx hb dL_reject_0 rfl (lv_at hl 2 rfl) ?_
  refine lv_iconst (v := 0) hx hb dL_reject_1 (by decide) ?_
  refine lv_aload_n hx hb dL_reject_2 rfl (lv_at hl 0 rfl) ?_
  refine lv_iload_n hx hb dL_reject_3 rfl (lv_at hl 1 rfl) ?_
  refine vx_calli (A1 := A) (free := A) (vx_runV (As := [.int x1]) (rest := [.int 0, .ref o]) S0 (c_X4_reject (nv := 0) l hst A D ac dE _ hP hI.w x1) (cwV 1 hts gL_reject_X4_reject rfl rfl rfl (by decide +kernel) ⟨Nat.le_of_ble_eq_true rfl, Nat.le_of_ble_eq_true rfl⟩) ⟨fun a U g mk q => ⟨q.1, tkX.blind U g mk a q.2⟩, tk_recv hK hM hP.h rfl, fun U hU hW => ⟨rfl, tkX.at hM hK hA hF hO va_S.rf U hU hW⟩⟩ rfl rfl hl.1 rfl (lv_room (Nat.le_of_ble_eq_true rfl)) dL_reject_4 ⟨Nat.le_of_ble_eq_true rfl, Nat.le_of_ble_eq_true rfl⟩) hS (fun q _ h => Or.inl h) (fun q h => Or.inl h) (fun q _ h => h.elim) (fun E ce q9 u9 t H locs ht hal _ hX hz hq hS hce hcv hcl => ?_) (fun r G9 t H locs ht hal hp hBB hz hq hS => ?_)
  · have hM := hM.keptE (fun q h9 => hq q h9 (fun z => z))
    have hMo := hMo.keptE (fun q h9 => hq q h9 (fun z => z))
    rcases List.mem_cons.mp hX with h9 | hX
    · obtain ⟨e9, hc9⟩ := Prod.mk.inj h9
      subst e9
      refine vx_catch (name := "java/lang/IndexOutOfBoundsException") hown [] ⟨0, 9, 12, 13⟩ [⟨0, 9, 15, 17⟩] htab (fun _ h => absurd h List.not_mem_nil) (by decide) (by decide) (hts (.classLink RL 13 "java/lang/IndexOutOfBoundsException") (by decide +kernel)) (va_Nw.use rfl (hF.2.2.2 ("java/lang/IndexOutOfBoundsException", "java/lang/IndexOutOfBoundsException") (by decide))) hce hcv hcl ?_
      refine lv_astore_n (lv' := [(3, .ref q9), (0, .ref h0), (1, .int x1), (2, .ref o)]) hx hb dL_reject_12 rfl hl (by decide) rfl (fun ls hl => ?_)
      refine lv_iconst (v := 1) hx hb dL_reject_13 (by decide) ?_
      refine vx_ret ?_
      refine W.widen (k := 2) (n := 12) (Nat.le_of_ble_eq_true rfl) (Nat.le_of_ble_eq_true rfl) ?_
      exact W.iret (v := 1) hx hb hr (fun t9 h8 w9 => ⟨⟨1, (G, f), rfl, ⟨hc9.symm, fun z => absurd (hc9.symm.trans z) (by decide), ⟨α, (by rw [ne_reject (fun z => absurd (hc9.symm.trans z) (by decide))]; exact hP)⟩⟩, by dsimp only; rw [h8]; exact ⟨hM, hMo⟩⟩, hS.F h8⟩) hS.2.2 dL_reject_14
    have h9 := List.mem_singleton.mp hX
    obtain ⟨e9, hc9⟩ := Prod.mk.inj h9
    subst e9
    refine vx_catch (name := "java/lang/IllegalStateException") hown [⟨0, 9, 12, 13⟩] ⟨0, 9, 15, 17⟩ [] htab (List.forall_mem_cons.mpr ⟨Or.inr ⟨by decide, "java/lang/IndexOutOfBoundsException", (hts (.classLink RL 13 "java/lang/IndexOutOfBoundsException") (by decide +kernel)), hNc ("java/lang/IllegalStateException", "java/lang/IndexOutOfBoundsException") (by decide)⟩, (fun _ h => absurd h List.not_mem_nil)⟩) (by decide) (by decide) (hts (.classLink RL 17 "java/lang/IllegalStateException") (by decide +kernel)) (va_Nw.use rfl (hF.2.2.2 ("java/lang/IllegalStateException", "java/lang/IllegalStateException") (by decide))) hce hcv hcl ?_
    refine lv_astore_n (lv' := [(3, .ref q9), (0, .ref h0), (1, .int x1), (2, .ref o)]) hx hb dL_reject_15 rfl hl (by decide) rfl (fun ls hl => ?_)
    refine lv_iconst (v := 2) hx hb dL_reject_16 (by decide) ?_
    refine vx_ret ?_
    refine W.widen (k := 2) (n := 12) (Nat.le_of_ble_eq_true rfl) (Nat.le_of_ble_eq_true rfl) ?_
    exact W.iret (v := 2) hx hb hr (fun t9 h8 w9 => ⟨⟨2, (G, f), rfl, ⟨hc9.symm, fun z => absurd (hc9.symm.trans z) (by decide), ⟨α, (by rw [ne_reject (fun z => absurd (hc9.symm.trans z) (by decide))]; exact hP)⟩⟩, by dsimp only; rw [h8]; exact ⟨hM, hMo⟩⟩, hS.F h8⟩) hS.2.2 dL_reject_17
  · obtain ⟨h1, ⟨α9, hP9⟩, hr9⟩ := hp
    have hM : tkM A D G9 H := by rw [← ht]; exact hBB
    have hMo := hMo.kept (H1 := H) (fun q h2 h3 => hq q h2 (by rw [h3]; exact hoA))
    have hMc := hM.un hMo hoA
    refine lv_i2l hx hb dL_reject_7 rfl ?_
    refine tk_last hx hb hK hMc hS 4 (va_up_self _ _ _) rfl (by unfold vp_in; decide) dL_reject_8 (fun H locs hM2 hS => ?_)
    rw [va_up2] at hM2
    obtain ⟨hM3, hMo3⟩ := hM2.cut hoA (fun a e9 h9 => hM.isA h9)
    refine lv_goto (tgt := 18) hx hb dL_reject_9 (by decide) ?_
    refine lv_iconst (v := 0) hx hb dL_reject_18 (by decide) ?_
    refine vx_ret ?_
    refine W.widen (k := 2) (n := 12) (Nat.le_of_ble_eq_true rfl) (Nat.le_of_ble_eq_true rfl) ?_
    exact W.iret (v := 0) hx hb hr (fun t9 h8 w9 => ⟨⟨0, (G9, vp_updL f 0 (r.toInt64)), rfl, ⟨h1.symm, fun _ => (by rw [hr9]; rfl), ⟨α9, hP9⟩⟩, by dsimp only; rw [h8]; exact ⟨hM3, hMo3⟩⟩, hS.F h8⟩) hS.2.2 dL_reject_19
set_option maxHeartbeats 4000000 in
set_option maxRecDepth 100000 in
theorem c_L_merge (l : Launch) (hst : l.stackTraces = false) (A : Nat → Prop) (o : Nat) (D : va_G) (ac : Nat → ClassId) (dE : Nat) (G : TG) {h0 : Nat} {α : Nat → Nat → Nat} {M : TS} (hP : PX ac dE h0 α M (nV M) G) (hI : IV M) (f : Nat → Int64) (x1 : Int32) : vx_Met l yL_merge wsL_merge ({ frames := 10, cells := 3, slots := 18, locals := 600 } : Room) (va_Pc [.ref h0, .int x1, .ref o] (tkW A o D ac dE G (oGL ac o f))) (va_Qi (fun (z : Int32) (u : TG × (Nat → Int64)) => z = (S_merge M x1).1 ∧ ((S_merge M x1).1 = 0 → u.2 0 = (S_merge M x1).2.2.toInt64) ∧ ∃ α9 : Nat → Nat → Nat, PX ac dE h0 α9 (S_merge M x1).2.1 (nV (S_merge M x1).2.1) u.1) (fun (u : TG × (Nat → Int64)) t => tkM A D u.1 t.heap ∧ tkM (fun q => q = o) D (oGL ac o u.2) t.heap) (fun q => A q ∨ q = o)) (XG (fun _ => False)) 3 18 (fun q => A q ∨ q = o) := by
  refine vx_ofWH (cc := cL_merge) (maxL := 4) (ret := (some .int)) (hh := [(0, 9, 12, 13), (0, 9, 15, 17), (0, 9, 18, 19)]) (by decide) rfl ?_
  intro p e s m args below meth c s₁ B hml hv
  obtain ⟨rfl, ⟨⟨hM, hK, hA, hF⟩, hO⟩, hMo, hoA, hNc⟩ := hv
  have hS : va_S (fun q => A q ∨ q = o) s.heap s.heap [] := va_S.rf
  have hx := B.exec
  have hb := B.bytes
  have hr := B.returns
  have hts := atoms_spec (ws := wsL_merge) B.pre
  have htab : c.exceptionTable.toList = tableOf [(0, 9, 12, 13), (0, 9, 15, 17), (0, 9, 18, 19)] := vx_table (x := yL_merge) B (hts _ List.mem_cons_self)
  have hown : s.vm.findClass RL = some m.cls := findClass_of_methodNamed B.named
  have hlocks := B.notSynchronized
  have S0 : CallFix p m c cL_merge 4 s ([.ref h0, .int x1, .ref o] : List Value).toArray wsL_merge RL := ⟨hx, hb, hml, hown, hts⟩
  have hl := lv_entry ([.ref h0, .int x1, .ref o]) (n := 4) (Nat.le_of_ble_eq_true rfl)
  rw [lg_entry_eq]
  generalize (lg_sl ([.ref h0, .int x1, .ref o]) ++ List.replicate (4 - (lg_sl ([.ref h0, .int x1, .ref o])).length) Slot.unset).toArray = ls at hl ⊢
  have hl : lv_has ls 4 [(0, .ref h0), (1, .int x1), (2, .ref o)] := hl
  refine lv_aload_n hx hb dL_merge_0 rfl (lv_at hl 2 rfl) ?_
  refine lv_iconst (v := 0) hx hb dL_merge_1 (by decide) ?_
  refine lv_aload_n hx hb dL_merge_2 rfl (lv_at hl 0 rfl) ?_
  refine lv_iload_n hx hb dL_merge_3 rfl (lv_at hl 1 rfl) ?_
  refine vx_calli (A1 := A) (free := A) (vx_runV (As := [.int x1]) (rest := [.int 0, .ref o]) S0 (c_X4_merge (nv := 0) l hst A D ac dE _ hP hI.w x1) (cwV 1 hts gL_merge_X4_merge rfl rfl rfl (by decide +kernel) ⟨Nat.le_of_ble_eq_true rfl, Nat.le_of_ble_eq_true rfl⟩) ⟨fun a U g mk q => ⟨q.1, tkX.blind U g mk a q.2⟩, tk_recv hK hM hP.h rfl, fun U hU hW => ⟨rfl, tkX.at hM hK hA hF hO va_S.rf U hU hW⟩⟩ rfl rfl hl.1 rfl (lv_room (Nat.le_of_ble_eq_true rfl)) dL_merge_4 ⟨Nat.le_of_ble_eq_true rfl, Nat.le_of_ble_eq_true rfl⟩) hS (fun q _ h => Or.inl h) (fun q h => Or.inl h) (fun q _ h => h.elim) (fun E ce q9 u9 t H locs ht hal _ hX hz hq hS hce hcv hcl => ?_) (fun r G9 t H locs ht hal hp hBB hz hq hS => ?_)
  · have hM := hM.keptE (fun q h9 => hq q h9 (fun z => z))
    have hMo := hMo.keptE (fun q h9 => hq q h9 (fun z => z))
    rcases List.mem_cons.mp hX with h9 | hX
    · obtain ⟨e9, hc9⟩ := Prod.mk.inj h9
      subst e9
      refine vx_catch (name := "java/lang/IndexOutOfBoundsException") hown [] ⟨0, 9, 12, 13⟩ [⟨0, 9, 15, 17⟩, ⟨0, 9, 18, 19⟩] htab (fun _ h => absurd h List.not_mem_nil) (by decide) (by decide) (hts (.classLink RL 13 "java/lang/IndexOutOfBoundsException") (by decide +kernel)) (va_Nw.use rfl (hF.2.2.2 ("java/lang/IndexOutOfBoundsException", "java/lang/IndexOutOfBoundsException") (by decide))) hce hcv hcl ?_
      refine lv_astore_n (lv' := [(3, .ref q9), (0, .ref h0), (1, .int x1), (2, .ref o)]) hx hb dL_merge_12 rfl hl (by decide) rfl (fun ls hl => ?_)
      refine lv_iconst (v := 1) hx hb dL_merge_13 (by decide) ?_
      refine vx_ret ?_
      refine W.widen (k := 3) (n := 18) (Nat.le_of_ble_eq_true rfl) (Nat.le_of_ble_eq_true rfl) ?_
      exact W.iret (v := 1) hx hb hr (fun t9 h8 w9 => ⟨⟨1, (G, f), rfl, ⟨hc9.symm, fun z => absurd (hc9.symm.trans z) (by decide), ⟨α, (by rw [ne_merge (fun z => absurd (hc9.symm.trans z) (by decide))]; exact hP)⟩⟩, by dsimp only; rw [h8]; exact ⟨hM, hMo⟩⟩, hS.F h8⟩) hS.2.2 dL_merge_14
    rcases List.mem_cons.mp hX with h9 | hX
    · obtain ⟨e9, hc9⟩ := Prod.mk.inj h9
      subst e9
      refine vx_catch (name := "java/lang/IllegalStateException") hown [⟨0, 9, 12, 13⟩] ⟨0, 9, 15, 17⟩ [⟨0, 9, 18, 19⟩] htab (List.forall_mem_cons.mpr ⟨Or.inr ⟨by decide, "java/lang/IndexOutOfBoundsException", (hts (.classLink RL 13 "java/lang/IndexOutOfBoundsException") (by decide +kernel)), hNc ("java/lang/IllegalStateException", "java/lang/IndexOutOfBoundsException") (by decide)⟩, (fun _ h => absurd h List.not_mem_nil)⟩) (by decide) (by decide) (hts (.classLink RL 17 "java/lang/IllegalStateException") (by decide +kernel)) (va_Nw.use rfl (hF.2.2.2 ("java/lang/IllegalStateException", "java/lang/IllegalStateException") (by decide))) hce hcv hcl ?_
      refine lv_astore_n (lv' := [(3, .ref q9), (0, .ref h0), (1, .int x1), (2, .ref o)]) hx hb dL_merge_15 rfl hl (by decide) rfl (fun ls hl => ?_)
      refine lv_iconst (v := 2) hx hb dL_merge_16 (by decide) ?_
      refine vx_ret ?_
      refine W.widen (k := 3) (n := 18) (Nat.le_of_ble_eq_true rfl) (Nat.le_of_ble_eq_true rfl) ?_
      exact W.iret (v := 2) hx hb hr (fun t9 h8 w9 => ⟨⟨2, (G, f), rfl, ⟨hc9.symm, fun z => absurd (hc9.symm.trans z) (by decide), ⟨α, (by rw [ne_merge (fun z => absurd (hc9.symm.trans z) (by decide))]; exact hP)⟩⟩, by dsimp only; rw [h8]; exact ⟨hM, hMo⟩⟩, hS.F h8⟩) hS.2.2 dL_merge_17
    have h9 := List.mem_singleton.mp hX
    obtain ⟨e9, hc9⟩ := Prod.mk.inj h9
    subst e9
    refine vx_catch (name := "java/lang/UnsupportedOperationException") hown [⟨0, 9, 12, 13⟩, ⟨0, 9, 15, 17⟩] ⟨0, 9, 18, 19⟩ [] htab (List.forall_mem_cons.mpr ⟨Or.inr ⟨by decide, "java/lang/IndexOutOfBoundsException", (hts (.classLink RL 13 "java/lang/IndexOutOfBoundsException") (by decide +kernel)), hNc ("java/lang/UnsupportedOperationException", "java/lang/IndexOutOfBoundsException") (by decide)⟩, (List.forall_mem_cons.mpr ⟨Or.inr ⟨by decide, "java/lang/IllegalStateException", (hts (.classLink RL 17 "java/lang/IllegalStateException") (by decide +kernel)), hNc ("java/lang/UnsupportedOperationException", "java/lang/IllegalStateException") (by decide)⟩, (fun _ h => absurd h List.not_mem_nil)⟩)⟩) (by decide) (by decide) (hts (.classLink RL 19 "java/lang/UnsupportedOperationException") (by decide +kernel)) (va_Nw.use rfl (hF.2.2.2 ("java/lang/UnsupportedOperationException", "java/lang/UnsupportedOperationException") (by decide))) hce hcv hcl ?_
    refine lv_astore_n (lv' := [(3, .ref q9), (0, .ref h0), (1, .int x1), (2, .ref o)]) hx hb dL_merge_18 rfl hl (by decide) rfl (fun ls hl => ?_)
    refine lv_iconst (v := 3) hx hb dL_merge_19 (by decide) ?_
    refine vx_ret ?_
    refine W.widen (k := 3) (n := 18) (Nat.le_of_ble_eq_true rfl) (Nat.le_of_ble_eq_true rfl) ?_
    exact W.iret (v := 3) hx hb hr (fun t9 h8 w9 => ⟨⟨3, (G, f), rfl, ⟨hc9.symm, fun z => absurd (hc9.symm.trans z) (by decide), ⟨α, (by rw [ne_merge (fun z => absurd (hc9.symm.trans z) (by decide))]; exact hP)⟩⟩, by dsimp only; rw [h8]; exact ⟨hM, hMo⟩⟩, hS.F h8⟩) hS.2.2 dL_merge_20
  · obtain ⟨h1, ⟨α9, hP9⟩, hr9⟩ := hp
    have hM : tkM A D G9 H := by rw [← ht]; exact hBB
    have hMo := hMo.kept (H1 := H) (fun q h2 h3 => hq q h2 (by rw [h3]; exact hoA))
    have hMc := hM.un hMo hoA
    refine lv_i2l hx hb dL_merge_7 rfl ?_
    refine tk_last hx hb hK hMc hS 4 (va_up_self _ _ _) rfl (by unfold vp_in; decide) dL_merge_8 (fun H locs hM2 hS => ?_)
    rw [va_up2] at hM2
    obtain ⟨hM3, hMo3⟩ := hM2.cut hoA (fun a e9 h9 => hM.isA h9)
    refine lv_goto (tgt := 21) hx hb dL_merge_9 (by decide) ?_
    refine lv_iconst (v := 0) hx hb dL_merge_21 (by decide) ?_
    refine vx_ret ?_
    refine W.widen (k := 3) (n := 18) (Nat.le_of_ble_eq_true rfl) (Nat.le_of_ble_eq_true rfl) ?_
    exact W.iret (v := 0) hx hb hr (fun t9 h8 w9 => ⟨⟨0, (G9, vp_updL f 0 (r.toInt64)), rfl, ⟨h1.symm, fun _ => (by rw [hr9]; rfl), ⟨α9, hP9⟩⟩, by dsimp only; rw [h8]; exact ⟨hM3, hMo3⟩⟩, hS.F h8⟩) hS.2.2 dL_merge_22
set_option maxHeartbeats 4000000 in
set_option maxRecDepth 100000 in
theorem c_L_reopen (l : Launch) (hst : l.stackTraces = false) (A : Nat → Prop) (o : Nat) (D : va_G) (ac : Nat → ClassId) (dE : Nat) (G : TG) {h0 : Nat} {α : Nat → Nat → Nat} {M : TS} (hP : PX ac dE h0 α M (nV M) G) (hI : IV M) (f : Nat → Int64) (x1 : Int32) : vx_Met l yL_reopen wsL_reopen ({ frames := 10, cells := 3, slots := 18, locals := 600 } : Room) (va_Pc [.ref h0, .int x1, .ref o] (tkW A o D ac dE G (oGL ac o f))) (va_Qi (fun (z : Int32) (u : TG × (Nat → Int64)) => z = (S_reopen M x1).1 ∧ ((S_reopen M x1).1 = 0 → u.2 0 = (S_reopen M x1).2.2.toInt64) ∧ ∃ α9 : Nat → Nat → Nat, PX ac dE h0 α9 (S_reopen M x1).2.1 (nV (S_reopen M x1).2.1) u.1) (fun (u : TG × (Nat → Int64)) t => tkM A D u.1 t.heap ∧ tkM (fun q => q = o) D (oGL ac o u.2) t.heap) (fun q => A q ∨ q = o)) (XG (fun _ => False)) 3 18 (fun q => A q ∨ q = o) := by
  refine vx_ofWH (cc := cL_reopen) (maxL := 4) (ret := (some .int)) (hh := [(0, 9, 12, 13), (0, 9, 15, 17), (0, 9, 18, 19)]) (by decide) rfl ?_
  intro p e s m args below meth c s₁ B hml hv
  obtain ⟨rfl, ⟨⟨hM, hK, hA, hF⟩, hO⟩, hMo, hoA, hNc⟩ := hv
  have hS : va_S (fun q => A q ∨ q = o) s.heap s.heap [] := va_S.rf
  have hx := B.exec
  have hb := B.bytes
  have hr := B.returns
  have hts := atoms_spec (ws := wsL_reopen) B.pre
  have htab : c.exceptionTable.toList = tableOf [(0, 9, 12, 13), (0, 9, 15, 17), (0, 9, 18, 19)] := vx_table (x := yL_reopen) B (hts _ List.mem_cons_self)
  have hown : s.vm.findClass RL = some m.cls := findClass_of_methodNamed B.named
  have hlocks := B.notSynchronized
  have S0 : CallFix p m c cL_reopen 4 s ([.ref h0, .int x1, .ref o] : List Value).toArray wsL_reopen RL := ⟨hx, hb, hml, hown, hts⟩
  have hl := lv_entry ([.ref h0, .int x1, .ref o]) (n := 4) (Nat.le_of_ble_eq_true rfl)
  rw [lg_entry_eq]
  generalize (lg_sl ([.ref h0, .int x1, .ref o]) ++ List.replicate (4 - (lg_sl ([.ref h0, .int x1, .ref o])).length) Slot.unset).toArray = ls at hl ⊢
  have hl : lv_has ls 4 [(0, .ref h0), (1, .int x1), (2, .ref o)] := hl
  refine lv_aload_n hx hb dL_reopen_0 rfl (lv_at hl 2 rfl) ?_
  refine lv_iconst (v := 0) hx hb dL_reopen_1 (by decide) ?_
  refine lv_aload_n hx hb dL_reopen_2 rfl (lv_at hl 0 rfl) ?_
  refine lv_iload_n hx hb dL_reopen_3 rfl (lv_at hl 1 rfl) ?_
  refine vx_calli (A1 := A) (free := A) (vx_runV (As := [.int x1]) (rest := [.int 0, .ref o]) S0 (c_X4_reopen (nv := 0) l hst A D ac dE _ hP hI.w hI.wb x1) (cwV 1 hts gL_reopen_X4_reopen rfl rfl rfl (by decide +kernel) ⟨Nat.le_of_ble_eq_true rfl, Nat.le_of_ble_eq_true rfl⟩) ⟨fun a U g mk q => ⟨q.1, tkX.blind U g mk a q.2⟩, tk_recv hK hM hP.h rfl, fun U hU hW => ⟨rfl, tkX.at hM hK hA hF hO va_S.rf U hU hW⟩⟩ rfl rfl hl.1 rfl (lv_room (Nat.le_of_ble_eq_true rfl)) dL_reopen_4 ⟨Nat.le_of_ble_eq_true rfl, Nat.le_of_ble_eq_true rfl⟩) hS (fun q _ h => Or.inl h) (fun q h => Or.inl h) (fun q _ h => h.elim) (fun E ce q9 u9 t H locs ht hal _ hX hz hq hS hce hcv hcl => ?_) (fun r G9 t H locs ht hal hp hBB hz hq hS => ?_)
  · have hM := hM.keptE (fun q h9 => hq q h9 (fun z => z))
    have hMo := hMo.keptE (fun q h9 => hq q h9 (fun z => z))
    rcases List.mem_cons.mp hX with h9 | hX
    · obtain ⟨e9, hc9⟩ := Prod.mk.inj h9
      subst e9
      refine vx_catch (name := "java/lang/IndexOutOfBoundsException") hown [] ⟨0, 9, 12, 13⟩ [⟨0, 9, 15, 17⟩, ⟨0, 9, 18, 19⟩] htab (fun _ h => absurd h List.not_mem_nil) (by decide) (by decide) (hts (.classLink RL 13 "java/lang/IndexOutOfBoundsException") (by decide +kernel)) (va_Nw.use rfl (hF.2.2.2 ("java/lang/IndexOutOfBoundsException", "java/lang/IndexOutOfBoundsException") (by decide))) hce hcv hcl ?_
      refine lv_astore_n (lv' := [(3, .ref q9), (0, .ref h0), (1, .int x1), (2, .ref o)]) hx hb dL_reopen_12 rfl hl (by decide) rfl (fun ls hl => ?_)
      refine lv_iconst (v := 1) hx hb dL_reopen_13 (by decide) ?_
      refine vx_ret ?_
      refine W.widen (k := 3) (n := 18) (Nat.le_of_ble_eq_true rfl) (Nat.le_of_ble_eq_true rfl) ?_
      exact W.iret (v := 1) hx hb hr (fun t9 h8 w9 => ⟨⟨1, (G, f), rfl, ⟨hc9.symm, fun z => absurd (hc9.symm.trans z) (by decide), ⟨α, (by rw [ne_reopen (fun z => absurd (hc9.symm.trans z) (by decide))]; exact hP)⟩⟩, by dsimp only; rw [h8]; exact ⟨hM, hMo⟩⟩, hS.F h8⟩) hS.2.2 dL_reopen_14
    rcases List.mem_cons.mp hX with h9 | hX
    · obtain ⟨e9, hc9⟩ := Prod.mk.inj h9
      subst e9
      refine vx_catch (name := "java/lang/IllegalStateException") hown [⟨0, 9, 12, 13⟩] ⟨0, 9, 15, 17⟩ [⟨0, 9, 18, 19⟩] htab (List.forall_mem_cons.mpr ⟨Or.inr ⟨by decide, "java/lang/IndexOutOfBoundsException", (hts (.classLink RL 13 "java/lang/IndexOutOfBoundsException") (by decide +kernel)), hNc ("java/lang/IllegalStateException", "java/lang/IndexOutOfBoundsException") (by decide)⟩, (fun _ h => absurd h List.not_mem_nil)⟩) (by decide) (by decide) (hts (.classLink RL 17 "java/lang/IllegalStateException") (by decide +kernel)) (va_Nw.use rfl (hF.2.2.2 ("java/lang/IllegalStateException", "java/lang/IllegalStateException") (by decide))) hce hcv hcl ?_
      refine lv_astore_n (lv' := [(3, .ref q9), (0, .ref h0), (1, .int x1), (2, .ref o)]) hx hb dL_reopen_15 rfl hl (by decide) rfl (fun ls hl => ?_)
      refine lv_iconst (v := 2) hx hb dL_reopen_16 (by decide) ?_
      refine vx_ret ?_
      refine W.widen (k := 3) (n := 18) (Nat.le_of_ble_eq_true rfl) (Nat.le_of_ble_eq_true rfl) ?_
      exact W.iret (v := 2) hx hb hr (fun t9 h8 w9 => ⟨⟨2, (G, f), rfl, ⟨hc9.symm, fun z => absurd (hc9.symm.trans z) (by decide), ⟨α, (by rw [ne_reopen (fun z => absurd (hc9.symm.trans z) (by decide))]; exact hP)⟩⟩, by dsimp only; rw [h8]; exact ⟨hM, hMo⟩⟩, hS.F h8⟩) hS.2.2 dL_reopen_17
    have h9 := List.mem_singleton.mp hX
    obtain ⟨e9, hc9⟩ := Prod.mk.inj h9
    subst e9
    refine vx_catch (name := "java/lang/UnsupportedOperationException") hown [⟨0, 9, 12, 13⟩, ⟨0, 9, 15, 17⟩] ⟨0, 9, 18, 19⟩ [] htab (List.forall_mem_cons.mpr ⟨Or.inr ⟨by decide, "java/lang/IndexOutOfBoundsException", (hts (.classLink RL 13 "java/lang/IndexOutOfBoundsException") (by decide +kernel)), hNc ("java/lang/UnsupportedOperationException", "java/lang/IndexOutOfBoundsException") (by decide)⟩, (List.forall_mem_cons.mpr ⟨Or.inr ⟨by decide, "java/lang/IllegalStateException", (hts (.classLink RL 17 "java/lang/IllegalStateException") (by decide +kernel)), hNc ("java/lang/UnsupportedOperationException", "java/lang/IllegalStateException") (by decide)⟩, (fun _ h => absurd h List.not_mem_nil)⟩)⟩) (by decide) (by decide) (hts (.classLink RL 19 "java/lang/UnsupportedOperationException") (by decide +kernel)) (va_Nw.use rfl (hF.2.2.2 ("java/lang/UnsupportedOperationException", "java/lang/UnsupportedOperationException") (by decide))) hce hcv hcl ?_
    refine lv_astore_n (lv' := [(3, .ref q9), (0, .ref h0), (1, .int x1), (2, .ref o)]) hx hb dL_reopen_18 rfl hl (by decide) rfl (fun ls hl => ?_)
    refine lv_iconst (v := 3) hx hb dL_reopen_19 (by decide) ?_
    refine vx_ret ?_
    refine W.widen (k := 3) (n := 18) (Nat.le_of_ble_eq_true rfl) (Nat.le_of_ble_eq_true rfl) ?_
    exact W.iret (v := 3) hx hb hr (fun t9 h8 w9 => ⟨⟨3, (G, f), rfl, ⟨hc9.symm, fun z => absurd (hc9.symm.trans z) (by decide), ⟨α, (by rw [ne_reopen (fun z => absurd (hc9.symm.trans z) (by decide))]; exact hP)⟩⟩, by dsimp only; rw [h8]; exact ⟨hM, hMo⟩⟩, hS.F h8⟩) hS.2.2 dL_reopen_20
  · obtain ⟨h1, ⟨α9, hP9⟩, hr9⟩ := hp
    have hM : tkM A D G9 H := by rw [← ht]; exact hBB
    have hMo := hMo.kept (H1 := H) (fun q h2 h3 => hq q h2 (by rw [h3]; exact hoA))
    have hMc := hM.un hMo hoA
    refine lv_i2l hx hb dL_reopen_7 rfl ?_
    refine tk_last hx hb hK hMc hS 4 (va_up_self _ _ _) rfl (by unfold vp_in; decide) dL_reopen_8 (fun H locs hM2 hS => ?_)
    rw [va_up2] at hM2
    obtain ⟨hM3, hMo3⟩ := hM2.cut hoA (fun a e9 h9 => hM.isA h9)
    refine lv_goto (tgt := 21) hx hb dL_reopen_9 (by decide) ?_
    refine lv_iconst (v := 0) hx hb dL_reopen_21 (by decide) ?_
    refine vx_ret ?_
    refine W.widen (k := 3) (n := 18) (Nat.le_of_ble_eq_true rfl) (Nat.le_of_ble_eq_true rfl) ?_
    exact W.iret (v := 0) hx hb hr (fun t9 h8 w9 => ⟨⟨0, (G9, vp_updL f 0 (r.toInt64)), rfl, ⟨h1.symm, fun _ => (by rw [hr9]; rfl), ⟨α9, hP9⟩⟩, by dsimp only; rw [h8]; exact ⟨hM3, hMo3⟩⟩, hS.F h8⟩) hS.2.2 dL_reopen_22
set_option maxHeartbeats 4000000 in
set_option maxRecDepth 100000 in
theorem c_L_state (l : Launch) (hst : l.stackTraces = false) (A : Nat → Prop) (o : Nat) (D : va_G) (ac : Nat → ClassId) (dE : Nat) (G : TG) {h0 : Nat} {α : Nat → Nat → Nat} {M : TS} (hP : PX ac dE h0 α M (nV M) G) (hI : IV M) (f : Nat → Int64) (x1 : Int32) : vx_Met l yL_state wsL_state ({ frames := 10, cells := 1, slots := 6, locals := 600 } : Room) (va_Pc [.ref h0, .int x1, .ref o] (tkW A o D ac dE G (oGL ac o f))) (va_Qi (fun (z : Int32) (u : TG × (Nat → Int64)) => z = (S_state M x1).1 ∧ ((S_state M x1).1 = 0 → u.2 0 = (S_state M x1).2.2.toInt64) ∧ ∃ α9 : Nat → Nat → Nat, PX ac dE h0 α9 (S_state M x1).2.1 (nV (S_state M x1).2.1) u.1) (fun (u : TG × (Nat → Int64)) t => tkM A D u.1 t.heap ∧ tkM (fun q => q = o) D (oGL ac o u.2) t.heap) (fun q => A q ∨ q = o)) (XG (fun _ => False)) 1 6 (fun q => A q ∨ q = o) := by
  refine vx_ofWH (cc := cL_state) (maxL := 4) (ret := (some .int)) (hh := [(0, 9, 12, 13)]) (by decide) rfl ?_
  intro p e s m args below meth c s₁ B hml hv
  obtain ⟨rfl, ⟨⟨hM, hK, hA, hF⟩, hO⟩, hMo, hoA, hNc⟩ := hv
  have hS : va_S (fun q => A q ∨ q = o) s.heap s.heap [] := va_S.rf
  have hx := B.exec
  have hb := B.bytes
  have hr := B.returns
  have hts := atoms_spec (ws := wsL_state) B.pre
  have htab : c.exceptionTable.toList = tableOf [(0, 9, 12, 13)] := vx_table (x := yL_state) B (hts _ List.mem_cons_self)
  have hown : s.vm.findClass RL = some m.cls := findClass_of_methodNamed B.named
  have hlocks := B.notSynchronized
  have S0 : CallFix p m c cL_state 4 s ([.ref h0, .int x1, .ref o] : List Value).toArray wsL_state RL := ⟨hx, hb, hml, hown, hts⟩
  have hl := lv_entry ([.ref h0, .int x1, .ref o]) (n := 4) (Nat.le_of_ble_eq_true rfl)
  rw [lg_entry_eq]
  generalize (lg_sl ([.ref h0, .int x1, .ref o]) ++ List.replicate (4 - (lg_sl ([.ref h0, .int x1, .ref o])).length) Slot.unset).toArray = ls at hl ⊢
  have hl : lv_has ls 4 [(0, .ref h0), (1, .int x1), (2, .ref o)] := hl
  refine lv_aload_n hx hb dL_state_0 rfl (lv_at hl 2 rfl) ?_
  refine lv_iconst (v := 0) hx hb dL_state_1 (by decide) ?_
  refine lv_aload_n hx hb dL_state_2 rfl (lv_at hl 0 rfl) ?_
  refine lv_iload_n hx hb dL_state_3 rfl (lv_at hl 1 rfl) ?_
  refine vx_calli (A1 := (fun _ => False)) (free := A) (vx_runV (As := [.int x1]) (rest := [.int 0, .ref o]) S0 (c_X4_state (nv := 0) l hst A D ac dE _ hP hI.w hI.w1 x1) (cwV 1 hts gL_state_X4_state rfl rfl rfl (by decide +kernel) ⟨Nat.le_of_ble_eq_true rfl, Nat.le_of_ble_eq_true rfl⟩) ⟨fun a U g mk q => ⟨q.1, tkX.blind U g mk a q.2⟩, tk_recv hK hM hP.h rfl, fun U hU hW => ⟨rfl, tkX.at hM hK hA hF hO va_S.rf U hU hW⟩⟩ rfl rfl hl.1 rfl (lv_room (Nat.le_of_ble_eq_true rfl)) dL_state_4 ⟨Nat.le_of_ble_eq_true rfl, Nat.le_of_ble_eq_true rfl⟩) hS (fun q _ h => h.elim) (fun q h => Or.inl h) (fun q _ h => h.elim) (fun E ce q9 u9 t H locs ht hal _ hX hz hq hS hce hcv hcl => ?_) (fun r G9 t H locs ht hal hp hBB hz hq hS => ?_)
  · have hM := hM.keptE (fun q h9 => hq q h9 (fun z => z))
    have hMo := hMo.keptE (fun q h9 => hq q h9 (fun z => z))
    have h9 := List.mem_singleton.mp hX
    obtain ⟨e9, hc9⟩ := Prod.mk.inj h9
    subst e9
    refine vx_catch (name := "java/lang/IndexOutOfBoundsException") hown [] ⟨0, 9, 12, 13⟩ [] htab (fun _ h => absurd h List.not_mem_nil) (by decide) (by decide) (hts (.classLink RL 13 "java/lang/IndexOutOfBoundsException") (by decide +kernel)) (va_Nw.use rfl (hF.2.2.2 ("java/lang/IndexOutOfBoundsException", "java/lang/IndexOutOfBoundsException") (by decide))) hce hcv hcl ?_
    refine lv_astore_n (lv' := [(3, .ref q9), (0, .ref h0), (1, .int x1), (2, .ref o)]) hx hb dL_state_12 rfl hl (by decide) rfl (fun ls hl => ?_)
    refine lv_iconst (v := 1) hx hb dL_state_13 (by decide) ?_
    refine vx_ret ?_
    refine W.widen (k := 1) (n := 6) (Nat.le_of_ble_eq_true rfl) (Nat.le_of_ble_eq_true rfl) ?_
    exact W.iret (v := 1) hx hb hr (fun t9 h8 w9 => ⟨⟨1, (G, f), rfl, ⟨hc9.symm, fun z => absurd (hc9.symm.trans z) (by decide), ⟨α, (by rw [rd_state]; exact hP)⟩⟩, by dsimp only; rw [h8]; exact ⟨hM, hMo⟩⟩, hS.F h8⟩) hS.2.2 dL_state_14
  · obtain ⟨h1, hr9⟩ := hp
    have hM := hM.keptE (fun q h9 => hq q h9 (fun z => z))
    have hMo := hMo.keptE (fun q h9 => hq q h9 (fun z => z))
    have hP9 : PX ac dE h0 α (S_state M x1).2.1 (nV (S_state M x1).2.1) G := by rw [rd_state]; exact hP
    have hMc := hM.un hMo hoA
    refine lv_i2l hx hb dL_state_7 rfl ?_
    refine tk_last hx hb hK hMc hS 4 (va_up_self _ _ _) rfl (by unfold vp_in; decide) dL_state_8 (fun H locs hM2 hS => ?_)
    rw [va_up2] at hM2
    obtain ⟨hM3, hMo3⟩ := hM2.cut hoA (fun a e9 h9 => hM.isA h9)
    refine lv_goto (tgt := 15) hx hb dL_state_9 (by decide) ?_
    refine lv_iconst (v := 0) hx hb dL_state_15 (by decide) ?_
    refine vx_ret ?_
    refine W.widen (k := 1) (n := 6) (Nat.le_of_ble_eq_true rfl) (Nat.le_of_ble_eq_true rfl) ?_
    exact W.iret (v := 0) hx hb hr (fun t9 h8 w9 => ⟨⟨0, (G, vp_updL f 0 (r.toInt64)), rfl, ⟨h1.symm, fun _ => (by rw [hr9]; rfl), ⟨α, hP9⟩⟩, by dsimp only; rw [h8]; exact ⟨hM3, hMo3⟩⟩, hS.F h8⟩) hS.2.2 dL_state_16
set_option maxHeartbeats 4000000 in
set_option maxRecDepth 100000 in
theorem c_L_parent (l : Launch) (hst : l.stackTraces = false) (A : Nat → Prop) (o : Nat) (D : va_G) (ac : Nat → ClassId) (dE : Nat) (G : TG) {h0 : Nat} {α : Nat → Nat → Nat} {M : TS} (hP : PX ac dE h0 α M (nV M) G) (hI : IV M) (f : Nat → Int64) (x1 : Int32) : vx_Met l yL_parent wsL_parent ({ frames := 10, cells := 2, slots := 12, locals := 600 } : Room) (va_Pc [.ref h0, .int x1, .ref o] (tkW A o D ac dE G (oGL ac o f))) (va_Qi (fun (z : Int32) (u : TG × (Nat → Int64)) => z = (S_parent M x1).1 ∧ ((S_parent M x1).1 = 0 → u.2 0 = (S_parent M x1).2.2.toInt64) ∧ ∃ α9 : Nat → Nat → Nat, PX ac dE h0 α9 (S_parent M x1).2.1 (nV (S_parent M x1).2.1) u.1) (fun (u : TG × (Nat → Int64)) t => tkM A D u.1 t.heap ∧ tkM (fun q => q = o) D (oGL ac o u.2) t.heap) (fun q => A q ∨ q = o)) (XG (fun _ => False)) 2 12 (fun q => A q ∨ q = o) := by
  refine vx_ofWH (cc := cL_parent) (maxL := 4) (ret := (some .int)) (hh := [(0, 9, 12, 13), (0, 9, 15, 48)]) (by decide) rfl ?_
  intro p e s m args below meth c s₁ B hml hv
  obtain ⟨rfl, ⟨⟨hM, hK, hA, hF⟩, hO⟩, hMo, hoA, hNc⟩ := hv
  have hS : va_S (fun q => A q ∨ q = o) s.heap s.heap [] := va_S.rf
  have hx := B.exec
  have hb := B.bytes
  have hr := B.returns
  have hts := atoms_spec (ws := wsL_parent) B.pre
  have htab : c.exceptionTable.toList = tableOf [(0, 9, 12, 13), (0, 9, 15, 48)] := vx_table (x := yL_parent) B (hts _ List.mem_cons_self)
  have hown : s.vm.findClass RL = some m.cls := findClass_of_methodNamed B.named
  have hlocks := B.notSynchronized
  have S0 : CallFix p m c cL_parent 4 s ([.ref h0, .int x1, .ref o] : List Value).toArray wsL_parent RL := ⟨hx, hb, hml, hown, hts⟩
  have hl := lv_entry ([.ref h0, .int x1, .ref o]) (n := 4) (Nat.le_of_ble_eq_true rfl)
  rw [lg_entry_eq]
  generalize (lg_sl ([.ref h0, .int x1, .ref o]) ++ List.replicate (4 - (lg_sl ([.ref h0, .int x1, .ref o])).length) Slot.unset).toArray = ls at hl ⊢
  have hl : lv_has ls 4 [(0, .ref h0), (1, .int x1), (2, .ref o)] := hl
  refine lv_aload_n hx hb dL_parent_0 rfl (lv_at hl 2 rfl) ?_
  refine lv_iconst (v := 0) hx hb dL_parent_1 (by decide) ?_
  refine lv_aload_n hx hb dL_parent_2 rfl (lv_at hl 0 rfl) ?_
  refine lv_iload_n hx hb dL_parent_3 rfl (lv_at hl 1 rfl) ?_
  refine vx_calli (A1 := (fun _ => False)) (free := A) (vx_runV (As := [.int x1]) (rest := [.int 0, .ref o]) S0 (c_X4_parent (nv := 0) l hst A D ac dE _ hP hI.w x1) (cwV 1 hts gL_parent_X4_parent rfl rfl rfl (by decide +kernel) ⟨Nat.le_of_ble_eq_true rfl, Nat.le_of_ble_eq_true rfl⟩) ⟨fun a U g mk q => ⟨q.1, tkX.blind U g mk a q.2⟩, tk_recv hK hM hP.h rfl, fun U hU hW => ⟨rfl, tkX.at hM hK hA hF hO va_S.rf U hU hW⟩⟩ rfl rfl hl.1 rfl (lv_room (Nat.le_of_ble_eq_true rfl)) dL_parent_4 ⟨Nat.le_of_ble_eq_true rfl, Nat.le_of_ble_eq_true rfl⟩) hS (fun q _ h => h.elim) (fun q h => Or.inl h) (fun q _ h => h.elim) (fun E ce q9 u9 t H locs ht hal _ hX hz hq hS hce hcv hcl => ?_) (fun r G9 t H locs ht hal hp hBB hz hq hS => ?_)
  · have hM := hM.keptE (fun q h9 => hq q h9 (fun z => z))
    have hMo := hMo.keptE (fun q h9 => hq q h9 (fun z => z))
    rcases List.mem_cons.mp hX with h9 | hX
    · obtain ⟨e9, hc9⟩ := Prod.mk.inj h9
      subst e9
      refine vx_catch (name := "java/lang/IndexOutOfBoundsException") hown [] ⟨0, 9, 12, 13⟩ [⟨0, 9, 15, 48⟩] htab (fun _ h => absurd h List.not_mem_nil) (by decide) (by decide) (hts (.classLink RL 13 "java/lang/IndexOutOfBoundsException") (by decide +kernel)) (va_Nw.use rfl (hF.2.2.2 ("java/lang/IndexOutOfBoundsException", "java/lang/IndexOutOfBoundsException") (by decide))) hce hcv hcl ?_
      refine lv_astore_n (lv' := [(3, .ref q9), (0, .ref h0), (1, .int x1), (2, .ref o)]) hx hb dL_parent_12 rfl hl (by decide) rfl (fun ls hl => ?_)
      refine lv_iconst (v := 1) hx hb dL_parent_13 (by decide) ?_
      refine vx_ret ?_
      refine W.widen (k := 2) (n := 12) (Nat.le_of_ble_eq_true rfl) (Nat.le_of_ble_eq_true rfl) ?_
      exact W.iret (v := 1) hx hb hr (fun t9 h8 w9 => ⟨⟨1, (G, f), rfl, ⟨hc9.symm, fun z => absurd (hc9.symm.trans z) (by decide), ⟨α, (by rw [rd_parent]; exact hP)⟩⟩, by dsimp only; rw [h8]; exact ⟨hM, hMo⟩⟩, hS.F h8⟩) hS.2.2 dL_parent_14
    have h9 := List.mem_singleton.mp hX
    obtain ⟨e9, hc9⟩ := Prod.mk.inj h9
    subst e9
    refine vx_catch (name := "java/util/NoSuchElementException") hown [⟨0, 9, 12, 13⟩] ⟨0, 9, 15, 48⟩ [] htab (List.forall_mem_cons.mpr ⟨Or.inr ⟨by decide, "java/lang/IndexOutOfBoundsException", (hts (.classLink RL 13 "java/lang/IndexOutOfBoundsException") (by decide +kernel)), hNc ("java/util/NoSuchElementException", "java/lang/IndexOutOfBoundsException") (by decide)⟩, (fun _ h => absurd h List.not_mem_nil)⟩) (by decide) (by decide) (hts (.classLink RL 48 "java/util/NoSuchElementException") (by decide +kernel)) (va_Nw.use rfl (hF.2.2.2 ("java/util/NoSuchElementException", "java/util/NoSuchElementException") (by decide))) hce hcv hcl ?_
    refine lv_astore_n (lv' := [(3, .ref q9), (0, .ref h0), (1, .int x1), (2, .ref o)]) hx hb dL_parent_15 rfl hl (by decide) rfl (fun ls hl => ?_)
    refine lv_iconst (v := 2) hx hb dL_parent_16 (by decide) ?_
    refine vx_ret ?_
    refine W.widen (k := 2) (n := 12) (Nat.le_of_ble_eq_true rfl) (Nat.le_of_ble_eq_true rfl) ?_
    exact W.iret (v := 2) hx hb hr (fun t9 h8 w9 => ⟨⟨2, (G, f), rfl, ⟨hc9.symm, fun z => absurd (hc9.symm.trans z) (by decide), ⟨α, (by rw [rd_parent]; exact hP)⟩⟩, by dsimp only; rw [h8]; exact ⟨hM, hMo⟩⟩, hS.F h8⟩) hS.2.2 dL_parent_17
  · obtain ⟨h1, hr9⟩ := hp
    have hM := hM.keptE (fun q h9 => hq q h9 (fun z => z))
    have hMo := hMo.keptE (fun q h9 => hq q h9 (fun z => z))
    have hP9 : PX ac dE h0 α (S_parent M x1).2.1 (nV (S_parent M x1).2.1) G := by rw [rd_parent]; exact hP
    have hMc := hM.un hMo hoA
    refine lv_i2l hx hb dL_parent_7 rfl ?_
    refine tk_last hx hb hK hMc hS 4 (va_up_self _ _ _) rfl (by unfold vp_in; decide) dL_parent_8 (fun H locs hM2 hS => ?_)
    rw [va_up2] at hM2
    obtain ⟨hM3, hMo3⟩ := hM2.cut hoA (fun a e9 h9 => hM.isA h9)
    refine lv_goto (tgt := 18) hx hb dL_parent_9 (by decide) ?_
    refine lv_iconst (v := 0) hx hb dL_parent_18 (by decide) ?_
    refine vx_ret ?_
    refine W.widen (k := 2) (n := 12) (Nat.le_of_ble_eq_true rfl) (Nat.le_of_ble_eq_true rfl) ?_
    exact W.iret (v := 0) hx hb hr (fun t9 h8 w9 => ⟨⟨0, (G, vp_updL f 0 (r.toInt64)), rfl, ⟨h1.symm, fun _ => (by rw [hr9]; rfl), ⟨α, hP9⟩⟩, by dsimp only; rw [h8]; exact ⟨hM3, hMo3⟩⟩, hS.F h8⟩) hS.2.2 dL_parent_19
set_option maxHeartbeats 4000000 in
set_option maxRecDepth 100000 in
theorem c_L_treeSize (l : Launch) (hst : l.stackTraces = false) (A : Nat → Prop) (o : Nat) (D : va_G) (ac : Nat → ClassId) (dE : Nat) (G : TG) {h0 : Nat} {α : Nat → Nat → Nat} {M : TS} (hP : PX ac dE h0 α M (nV M) G) (hI : IV M) (f : Nat → Int64) (x1 : Int32) : vx_Met l yL_treeSize wsL_treeSize ({ frames := 10, cells := 1, slots := 6, locals := 600 } : Room) (va_Pc [.ref h0, .int x1, .ref o] (tkW A o D ac dE G (oGL ac o f))) (va_Qi (fun (z : Int32) (u : TG × (Nat → Int64)) => z = (S_treeSize M x1).1 ∧ ((S_treeSize M x1).1 = 0 → u.2 0 = (S_treeSize M x1).2.2.toInt64) ∧ ∃ α9 : Nat → Nat → Nat, PX ac dE h0 α9 (S_treeSize M x1).2.1 (nV (S_treeSize M x1).2.1) u.1) (fun (u : TG × (Nat → Int64)) t => tkM A D u.1 t.heap ∧ tkM (fun q => q = o) D (oGL ac o u.2) t.heap) (fun q => A q ∨ q = o)) (XG (fun _ => False)) 1 6 (fun q => A q ∨ q = o) := by
  refine vx_ofWH (cc := cL_treeSize) (maxL := 4) (ret := (some .int)) (hh := [(0, 9, 12, 13)]) (by decide) rfl ?_
  intro p e s m args below meth c s₁ B hml hv
  obtain ⟨rfl, ⟨⟨hM, hK, hA, hF⟩, hO⟩, hMo, hoA, hNc⟩ := hv
  have hS : va_S (fun q => A q ∨ q = o) s.heap s.heap [] := va_S.rf
  have hx := B.exec
  have hb := B.bytes
  have hr := B.returns
  have hts := atoms_spec (ws := wsL_treeSize) B.pre
  have htab : c.exceptionTable.toList = tableOf [(0, 9, 12, 13)] := vx_table (x := yL_treeSize) B (hts _ List.mem_cons_self)
  have hown : s.vm.findClass RL = some m.cls := findClass_of_methodNamed B.named
  have hlocks := B.notSynchronized
  have S0 : CallFix p m c cL_treeSize 4 s ([.ref h0, .int x1, .ref o] : List Value).toArray wsL_treeSize RL := ⟨hx, hb, hml, hown, hts⟩
  have hl := lv_entry ([.ref h0, .int x1, .ref o]) (n := 4) (Nat.le_of_ble_eq_true rfl)
  rw [lg_entry_eq]
  generalize (lg_sl ([.ref h0, .int x1, .ref o]) ++ List.replicate (4 - (lg_sl ([.ref h0, .int x1, .ref o])).length) Slot.unset).toArray = ls at hl ⊢
  have hl : lv_has ls 4 [(0, .ref h0), (1, .int x1), (2, .ref o)] := hl
  refine lv_aload_n hx hb dL_treeSize_0 rfl (lv_at hl 2 rfl) ?_
  refine lv_iconst (v := 0) hx hb dL_treeSize_1 (by decide) ?_
  refine lv_aload_n hx hb dL_treeSize_2 rfl (lv_at hl 0 rfl) ?_
  refine lv_iload_n hx hb dL_treeSize_3 rfl (lv_at hl 1 rfl) ?_
  refine vx_calli (A1 := (fun _ => False)) (free := A) (vx_runV (As := [.int x1]) (rest := [.int 0, .ref o]) S0 (c_X4_treeSize (nv := 0) l hst A D ac dE _ hP hI.w x1) (cwV 1 hts gL_treeSize_X4_treeSize rfl rfl rfl (by decide +kernel) ⟨Nat.le_of_ble_eq_true rfl, Nat.le_of_ble_eq_true rfl⟩) ⟨fun a U g mk q => ⟨q.1, tkX.blind U g mk a q.2⟩, tk_recv hK hM hP.h rfl, fun U hU hW => ⟨rfl, tkX.at hM hK hA hF hO va_S.rf U hU hW⟩⟩ rfl rfl hl.1 rfl (lv_room (Nat.le_of_ble_eq_true rfl)) dL_treeSize_4 ⟨Nat.le_of_ble_eq_true rfl, Nat.le_of_ble_eq_true rfl⟩) hS (fun q _ h => h.elim) (fun q h => Or.inl h) (fun q _ h => h.elim) (fun E ce q9 u9 t H locs ht hal _ hX hz hq hS hce hcv hcl => ?_) (fun r G9 t H locs ht hal hp hBB hz hq hS => ?_)
  · have hM := hM.keptE (fun q h9 => hq q h9 (fun z => z))
    have hMo := hMo.keptE (fun q h9 => hq q h9 (fun z => z))
    have h9 := List.mem_singleton.mp hX
    obtain ⟨e9, hc9⟩ := Prod.mk.inj h9
    subst e9
    refine vx_catch (name := "java/lang/IndexOutOfBoundsException") hown [] ⟨0, 9, 12, 13⟩ [] htab (fun _ h => absurd h List.not_mem_nil) (by decide) (by decide) (hts (.classLink RL 13 "java/lang/IndexOutOfBoundsException") (by decide +kernel)) (va_Nw.use rfl (hF.2.2.2 ("java/lang/IndexOutOfBoundsException", "java/lang/IndexOutOfBoundsException") (by decide))) hce hcv hcl ?_
    refine lv_astore_n (lv' := [(3, .ref q9), (0, .ref h0), (1, .int x1), (2, .ref o)]) hx hb dL_treeSize_12 rfl hl (by decide) rfl (fun ls hl => ?_)
    refine lv_iconst (v := 1) hx hb dL_treeSize_13 (by decide) ?_
    refine vx_ret ?_
    refine W.widen (k := 1) (n := 6) (Nat.le_of_ble_eq_true rfl) (Nat.le_of_ble_eq_true rfl) ?_
    exact W.iret (v := 1) hx hb hr (fun t9 h8 w9 => ⟨⟨1, (G, f), rfl, ⟨hc9.symm, fun z => absurd (hc9.symm.trans z) (by decide), ⟨α, (by rw [rd_treeSize]; exact hP)⟩⟩, by dsimp only; rw [h8]; exact ⟨hM, hMo⟩⟩, hS.F h8⟩) hS.2.2 dL_treeSize_14
  · obtain ⟨h1, hr9⟩ := hp
    have hM := hM.keptE (fun q h9 => hq q h9 (fun z => z))
    have hMo := hMo.keptE (fun q h9 => hq q h9 (fun z => z))
    have hP9 : PX ac dE h0 α (S_treeSize M x1).2.1 (nV (S_treeSize M x1).2.1) G := by rw [rd_treeSize]; exact hP
    have hMc := hM.un hMo hoA
    refine lv_i2l hx hb dL_treeSize_7 rfl ?_
    refine tk_last hx hb hK hMc hS 4 (va_up_self _ _ _) rfl (by unfold vp_in; decide) dL_treeSize_8 (fun H locs hM2 hS => ?_)
    rw [va_up2] at hM2
    obtain ⟨hM3, hMo3⟩ := hM2.cut hoA (fun a e9 h9 => hM.isA h9)
    refine lv_goto (tgt := 15) hx hb dL_treeSize_9 (by decide) ?_
    refine lv_iconst (v := 0) hx hb dL_treeSize_15 (by decide) ?_
    refine vx_ret ?_
    refine W.widen (k := 1) (n := 6) (Nat.le_of_ble_eq_true rfl) (Nat.le_of_ble_eq_true rfl) ?_
    exact W.iret (v := 0) hx hb hr (fun t9 h8 w9 => ⟨⟨0, (G, vp_updL f 0 (r.toInt64)), rfl, ⟨h1.symm, fun _ => (by rw [hr9]; rfl), ⟨α, hP9⟩⟩, by dsimp only; rw [h8]; exact ⟨hM3, hMo3⟩⟩, hS.F h8⟩) hS.2.2 dL_treeSize_16
set_option maxHeartbeats 4000000 in
set_option maxRecDepth 100000 in
theorem c_L_canBegin (l : Launch) (hst : l.stackTraces = false) (A : Nat → Prop) (o : Nat) (D : va_G) (ac : Nat → ClassId) (dE : Nat) (G : TG) {h0 : Nat} {α : Nat → Nat → Nat} {M : TS} (hP : PX ac dE h0 α M (nV M) G) (hI : IV M) (f : Nat → Int64) (x1 : Int32) : vx_Met l yL_canBegin wsL_canBegin ({ frames := 10, cells := 1, slots := 6, locals := 600 } : Room) (va_Pc [.ref h0, .int x1, .ref o] (tkW A o D ac dE G (oGL ac o f))) (va_Qi (fun (z : Int32) (u : TG × (Nat → Int64)) => z = (S_canBegin M x1).1 ∧ ((S_canBegin M x1).1 = 0 → u.2 0 = (if (S_canBegin M x1).2.2 = true then 1 else 0)) ∧ ∃ α9 : Nat → Nat → Nat, PX ac dE h0 α9 (S_canBegin M x1).2.1 (nV (S_canBegin M x1).2.1) u.1) (fun (u : TG × (Nat → Int64)) t => tkM A D u.1 t.heap ∧ tkM (fun q => q = o) D (oGL ac o u.2) t.heap) (fun q => A q ∨ q = o)) (XG (fun _ => False)) 1 6 (fun q => A q ∨ q = o) := by
  refine vx_ofWH (cc := cL_canBegin) (maxL := 4) (ret := (some .int)) (hh := [(0, 16, 19, 13)]) (by decide) rfl ?_
  intro p e s m args below meth c s₁ B hml hv
  obtain ⟨rfl, ⟨⟨hM, hK, hA, hF⟩, hO⟩, hMo, hoA, hNc⟩ := hv
  have hS : va_S (fun q => A q ∨ q = o) s.heap s.heap [] := va_S.rf
  have hx := B.exec
  have hb := B.bytes
  have hr := B.returns
  have hts := atoms_spec (ws := wsL_canBegin) B.pre
  have htab : c.exceptionTable.toList = tableOf [(0, 16, 19, 13)] := vx_table (x := yL_canBegin) B (hts _ List.mem_cons_self)
  have hown : s.vm.findClass RL = some m.cls := findClass_of_methodNamed B.named
  have hlocks := B.notSynchronized
  have S0 : CallFix p m c cL_canBegin 4 s ([.ref h0, .int x1, .ref o] : List Value).toArray wsL_canBegin RL := ⟨hx, hb, hml, hown, hts⟩
  have hl := lv_entry ([.ref h0, .int x1, .ref o]) (n := 4) (Nat.le_of_ble_eq_true rfl)
  rw [lg_entry_eq]
  generalize (lg_sl ([.ref h0, .int x1, .ref o]) ++ List.replicate (4 - (lg_sl ([.ref h0, .int x1, .ref o])).length) Slot.unset).toArray = ls at hl ⊢
  have hl : lv_has ls 4 [(0, .ref h0), (1, .int x1), (2, .ref o)] := hl
  refine lv_aload_n hx hb dL_canBegin_0 rfl (lv_at hl 2 rfl) ?_
  refine lv_iconst (v := 0) hx hb dL_canBegin_1 (by decide) ?_
  refine lv_aload_n hx hb dL_canBegin_2 rfl (lv_at hl 0 rfl) ?_
  refine lv_iload_n hx hb dL_canBegin_3 rfl (lv_at hl 1 rfl) ?_
  refine vx_calli (A1 := (fun _ => False)) (free := A) (vx_runV (As := [.int x1]) (rest := [.int 0, .ref o]) S0 (c_X4_canBegin (nv := 0) l hst A D ac dE _ hP hI.w x1) (cwV 1 hts gL_canBegin_X4_canBegin rfl rfl rfl (by decide +kernel) ⟨Nat.le_of_ble_eq_true rfl, Nat.le_of_ble_eq_true rfl⟩) ⟨fun a U g mk q => ⟨q.1, tkX.blind U g mk a q.2⟩, tk_recv hK hM hP.h rfl, fun U hU hW => ⟨rfl, tkX.at hM hK hA hF hO va_S.rf U hU hW⟩⟩ rfl rfl hl.1 rfl (lv_room (Nat.le_of_ble_eq_true rfl)) dL_canBegin_4 ⟨Nat.le_of_ble_eq_true rfl, Nat.le_of_ble_eq_true rfl⟩) hS (fun q _ h => h.elim) (fun q h => Or.inl h) (fun q _ h => h.elim) (fun E ce q9 u9 t H locs ht hal _ hX hz hq hS hce hcv hcl => ?_) (fun r G9 t H locs ht hal hp hBB hz hq hS => ?_)
  · have hM := hM.keptE (fun q h9 => hq q h9 (fun z => z))
    have hMo := hMo.keptE (fun q h9 => hq q h9 (fun z => z))
    rw [eq_canBegin hI] at hX
    have h9 := List.mem_singleton.mp hX
    obtain ⟨e9, hc9⟩ := Prod.mk.inj h9
    subst e9
    refine vx_catch (name := "java/lang/IndexOutOfBoundsException") hown [] ⟨0, 16, 19, 13⟩ [] htab (fun _ h => absurd h List.not_mem_nil) (by decide) (by decide) (hts (.classLink RL 13 "java/lang/IndexOutOfBoundsException") (by decide +kernel)) (va_Nw.use rfl (hF.2.2.2 ("java/lang/IndexOutOfBoundsException", "java/lang/IndexOutOfBoundsException") (by decide))) hce hcv hcl ?_
    refine lv_astore_n (lv' := [(3, .ref q9), (0, .ref h0), (1, .int x1), (2, .ref o)]) hx hb dL_canBegin_19 rfl hl (by decide) rfl (fun ls hl => ?_)
    refine lv_iconst (v := 1) hx hb dL_canBegin_20 (by decide) ?_
    refine vx_ret ?_
    refine W.widen (k := 1) (n := 6) (Nat.le_of_ble_eq_true rfl) (Nat.le_of_ble_eq_true rfl) ?_
    exact W.iret (v := 1) hx hb hr (fun t9 h8 w9 => ⟨⟨1, (G, f), rfl, ⟨hc9.symm, fun z => absurd (hc9.symm.trans z) (by decide), ⟨α, (by rw [rd_canBegin]; exact hP)⟩⟩, by dsimp only; rw [h8]; exact ⟨hM, hMo⟩⟩, hS.F h8⟩) hS.2.2 dL_canBegin_21
  · rw [eq_canBegin hI] at hp
    obtain ⟨h1, hr9⟩ := hp
    have hM := hM.keptE (fun q h9 => hq q h9 (fun z => z))
    have hMo := hMo.keptE (fun q h9 => hq q h9 (fun z => z))
    have hP9 : PX ac dE h0 α (S_canBegin M x1).2.1 (nV (S_canBegin M x1).2.1) G := by rw [rd_canBegin]; exact hP
    have hMc := hM.un hMo hoA
    rcases hr9 with ⟨rfl, hb9⟩ | ⟨rfl, hb9⟩
    · refine lv_if_eq (tgt := 14) hx hb dL_canBegin_7 (by decide) (fun z => absurd z (by decide)) (fun _ => ?_)
      refine lv_lconst (v := 1) hx hb dL_canBegin_10 (by decide) ?_
      refine lv_goto (tgt := 15) hx hb dL_canBegin_11 (by decide) ?_
      refine tk_last hx hb hK hMc hS 4 (va_up_self _ _ _) rfl (by unfold vp_in; decide) dL_canBegin_15 (fun H locs hM2 hS => ?_)
      rw [va_up2] at hM2
      obtain ⟨hM3, hMo3⟩ := hM2.cut hoA (fun a e9 h9 => hM.isA h9)
      refine lv_goto (tgt := 22) hx hb dL_canBegin_16 (by decide) ?_
      refine lv_iconst (v := 0) hx hb dL_canBegin_22 (by decide) ?_
      refine vx_ret ?_
      refine W.widen (k := 1) (n := 6) (Nat.le_of_ble_eq_true rfl) (Nat.le_of_ble_eq_true rfl) ?_
      exact W.iret (v := 0) hx hb hr (fun t9 h8 w9 => ⟨⟨0, (G, vp_updL f 0 (1)), rfl, ⟨h1.symm, fun _ => (by rw [if_pos hb9]; rfl), ⟨α, hP9⟩⟩, by dsimp only; rw [h8]; exact ⟨hM3, hMo3⟩⟩, hS.F h8⟩) hS.2.2 dL_canBegin_23
    · refine lv_if_eq (tgt := 14) hx hb dL_canBegin_7 (by decide) (fun _ => ?_) (fun z => absurd rfl z)
      refine lv_lconst (v := 0) hx hb dL_canBegin_14 (by decide) ?_
      refine tk_last hx hb hK hMc hS 4 (va_up_self _ _ _) rfl (by unfold vp_in; decide) dL_canBegin_15 (fun H locs hM2 hS => ?_)
      rw [va_up2] at hM2
      obtain ⟨hM3, hMo3⟩ := hM2.cut hoA (fun a e9 h9 => hM.isA h9)
      refine lv_goto (tgt := 22) hx hb dL_canBegin_16 (by decide) ?_
      refine lv_iconst (v := 0) hx hb dL_canBegin_22 (by decide) ?_
      refine vx_ret ?_
      refine W.widen (k := 1) (n := 6) (Nat.le_of_ble_eq_true rfl) (Nat.le_of_ble_eq_true rfl) ?_
      exact W.iret (v := 0) hx hb hr (fun t9 h8 w9 => ⟨⟨0, (G, vp_updL f 0 (0)), rfl, ⟨h1.symm, fun _ => (by rw [hb9]; rfl), ⟨α, hP9⟩⟩, by dsimp only; rw [h8]; exact ⟨hM3, hMo3⟩⟩, hS.F h8⟩) hS.2.2 dL_canBegin_23
