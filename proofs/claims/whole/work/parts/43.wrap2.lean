/-! the law: wrappers -/
set_option maxHeartbeats 4000000 in
set_option maxRecDepth 100000 in
theorem c_L_note (l : Launch) (hst : l.stackTraces = false) (A : Nat → Prop) (o : Nat) (D : va_G) (ac : Nat → ClassId) (dE : Nat) (G : TG) {h0 : Nat} {α : Nat → Nat → Nat} {M : TS} (hP : PX ac dE h0 α M (nV M) G) (hI : IV M) (f : Nat → Int64) (x1 x2 x3 x4 : Int32) : vx_Met l yL_note wsL_note ({ frames := 10, cells := 3, slots := 103, locals := 700 } : Room) (va_Pc [.ref h0, .int x1, .int x2, .int x3, .int x4, .ref o] (tkW A o D ac dE G (oGL ac o f))) (va_Qi (fun (z : Int32) (u : TG × (Nat → Int64)) => z = (S_note M x1 x2 x3 x4).1 ∧ ((S_note M x1 x2 x3 x4).1 = 0 → u.2 0 = (S_note M x1 x2 x3 x4).2.2.toInt64) ∧ ∃ α9 : Nat → Nat → Nat, PX ac dE h0 α9 (S_note M x1 x2 x3 x4).2.1 (nV (S_note M x1 x2 x3 x4).2.1) u.1) (fun (u : TG × (Nat → Int64)) t => tkM A D u.1 t.heap ∧ tkM (fun q => q = o) D (oGL ac o u.2) t.heap) (fun q => A q ∨ q = o)) (XG (fun _ => False)) 3 103 (fun q => A q ∨ q = o) := by
  refine vx_ofWH (cc := cL_note) (maxL := 7) (ret := (some .int)) (hh := [(0, 14, 17, 13), (0, 14, 21, 15), (0, 14, 25, 19), (0, 14, 29, 17)]) (by decide) rfl ?_
  intro p e s m args below meth c s₁ B hml hv
  obtain ⟨rfl, ⟨⟨hM, hK, hA, hF⟩, hO⟩, hMo, hoA, hNc⟩ := hv
  have hS : va_S (fun q => A q ∨ q = o) s.heap s.heap [] := va_S.rf
  have hx := B.exec
  have hb := B.bytes
  have hr := B.returns
  have hts := atoms_spec (ws := wsL_note) B.pre
  have htab : c.exceptionTable.toList = tableOf [(0, 14, 17, 13), (0, 14, 21, 15), (0, 14, 25, 19), (0, 14, 29, 17)] := vx_table (x := yL_note) B (hts _ List.mem_cons_self)
  have hown : s.vm.findClass RL = some m.cls := findClass_of_methodNamed B.named
  have hlocks := B.notSynchronized
  have S0 : CallFix p m c cL_note 7 s ([.ref h0, .int x1, .int x2, .int x3, .int x4, .ref o] : List Value).toArray wsL_note RL := ⟨hx, hb, hml, hown, hts⟩
  have hl := lv_entry ([.ref h0, .int x1, .int x2, .int x3, .int x4, .ref o]) (n := 7) (Nat.le_of_ble_eq_true rfl)
  rw [lg_entry_eq]
  generalize (lg_sl ([.ref h0, .int x1, .int x2, .int x3, .int x4, .ref o]) ++ List.replicate (7 - (lg_sl ([.ref h0, .int x1, .int x2, .int x3, .int x4, .ref o])).length) Slot.unset).toArray = ls at hl ⊢
  have hl : lv_has ls 7 [(0, .ref h0), (1, .int x1), (2, .int x2), (3, .int x3), (4, .int x4), (5, .ref o)] := hl
  refine lv_aload hx hb dL_note_0 (lv_at hl 5 rfl) ?_
  refine lv_iconst (v := 0) hx hb dL_note_2 (by decide) ?_
  refine lv_aload_n hx hb dL_note_3 rfl (lv_at hl 0 rfl) ?_
  refine lv_iload_n hx hb dL_note_4 rfl (lv_at hl 1 rfl) ?_
  refine lv_iload_n hx hb dL_note_5 rfl (lv_at hl 2 rfl) ?_
  refine lv_iload_n hx hb dL_note_6 rfl (lv_at hl 3 rfl) ?_
  refine lv_iload hx hb dL_note_7 (lv_at hl 4 rfl) ?_
  refine vx_calli (A1 := A) (free := A) (vx_runV (As := [.int x1, .int x2, .int x3, .int x4]) (rest := [.int 0, .ref o]) S0 (c_X4_note (nv := 0) l hst A D ac dE _ hP hI.w (m13_0 hI) x1 x2 x3 x4) (cwV 4 hts gL_note_X4_note rfl rfl rfl (by decide +kernel) ⟨Nat.le_of_ble_eq_true rfl, Nat.le_of_ble_eq_true rfl⟩) ⟨fun a U g mk q => ⟨q.1, tkX.blind U g mk a q.2⟩, tk_recv hK hM hP.h rfl, fun U hU hW => ⟨rfl, tkX.at hM hK hA hF hO va_S.rf U hU hW⟩⟩ rfl rfl hl.1 rfl (lv_room (Nat.le_of_ble_eq_true rfl)) dL_note_9 ⟨Nat.le_of_ble_eq_true rfl, Nat.le_of_ble_eq_true rfl⟩) hS (fun q _ h => Or.inl h) (fun q h => Or.inl h) (fun q _ h => h.elim) (fun E ce q9 u9 t H locs ht hal _ hX hz hq hS hce hcv hcl => ?_) (fun r G9 t H locs ht hal hp hBB hz hq hS => ?_)
  · have hM := hM.keptE (fun q h9 => hq q h9 (fun z => z))
    have hMo := hMo.keptE (fun q h9 => hq q h9 (fun z => z))
    rw [eq_note hI] at hX
    rcases List.mem_cons.mp hX with h9 | hX
    · obtain ⟨e9, hc9⟩ := Prod.mk.inj h9
      subst e9
      refine vx_catch (name := "java/lang/IndexOutOfBoundsException") hown [] ⟨0, 14, 17, 13⟩ [⟨0, 14, 21, 15⟩, ⟨0, 14, 25, 19⟩, ⟨0, 14, 29, 17⟩] htab (fun _ h => absurd h List.not_mem_nil) (by decide) (by decide) (hts (.classLink RL 13 "java/lang/IndexOutOfBoundsException") (by decide +kernel)) (va_Nw.use rfl (hF.2.2.2 ("java/lang/IndexOutOfBoundsException", "java/lang/IndexOutOfBoundsException") (by decide))) hce hcv hcl ?_
      refine lv_astore (lv' := [(6, .ref q9), (0, .ref h0), (1, .int x1), (2, .int x2), (3, .int x3), (4, .int x4), (5, .ref o)]) hx hb dL_note_17 hl (by decide) rfl (fun ls hl => ?_)
      refine lv_iconst (v := 1) hx hb dL_note_19 (by decide) ?_
      refine vx_ret ?_
      refine W.widen (k := 3) (n := 103) (Nat.le_of_ble_eq_true rfl) (Nat.le_of_ble_eq_true rfl) ?_
      exact W.iret (v := 1) hx hb hr (fun t9 h8 w9 => ⟨⟨1, (G, f), rfl, ⟨hc9.symm, fun z => absurd (hc9.symm.trans z) (by decide), ⟨α, (by rw [ne_note (fun z => absurd (hc9.symm.trans z) (by decide))]; exact hP)⟩⟩, by dsimp only; rw [h8]; exact ⟨hM, hMo⟩⟩, hS.F h8⟩) hS.2.2 dL_note_20
    rcases List.mem_cons.mp hX with h9 | hX
    · obtain ⟨e9, hc9⟩ := Prod.mk.inj h9
      subst e9
      refine vx_catch (name := "java/lang/IllegalArgumentException") hown [⟨0, 14, 17, 13⟩] ⟨0, 14, 21, 15⟩ [⟨0, 14, 25, 19⟩, ⟨0, 14, 29, 17⟩] htab (List.forall_mem_cons.mpr ⟨Or.inr ⟨by decide, "java/lang/IndexOutOfBoundsException", (hts (.classLink RL 13 "java/lang/IndexOutOfBoundsException") (by decide +kernel)), hNc ("java/lang/IllegalArgumentException", "java/lang/IndexOutOfBoundsException") (by decide)⟩, (fun _ h => absurd h List.not_mem_nil)⟩) (by decide) (by decide) (hts (.classLink RL 15 "java/lang/IllegalArgumentException") (by decide +kernel)) (va_Nw.use rfl (hF.2.2.2 ("java/lang/IllegalArgumentException", "java/lang/IllegalArgumentException") (by decide))) hce hcv hcl ?_
      refine lv_astore (lv' := [(6, .ref q9), (0, .ref h0), (1, .int x1), (2, .int x2), (3, .int x3), (4, .int x4), (5, .ref o)]) hx hb dL_note_21 hl (by decide) rfl (fun ls hl => ?_)
      refine lv_iconst (v := 2) hx hb dL_note_23 (by decide) ?_
      refine vx_ret ?_
      refine W.widen (k := 3) (n := 103) (Nat.le_of_ble_eq_true rfl) (Nat.le_of_ble_eq_true rfl) ?_
      exact W.iret (v := 2) hx hb hr (fun t9 h8 w9 => ⟨⟨2, (G, f), rfl, ⟨hc9.symm, fun z => absurd (hc9.symm.trans z) (by decide), ⟨α, (by rw [ne_note (fun z => absurd (hc9.symm.trans z) (by decide))]; exact hP)⟩⟩, by dsimp only; rw [h8]; exact ⟨hM, hMo⟩⟩, hS.F h8⟩) hS.2.2 dL_note_24
    rcases List.mem_cons.mp hX with h9 | hX
    · obtain ⟨e9, hc9⟩ := Prod.mk.inj h9
      subst e9
      refine vx_catch (name := "java/lang/UnsupportedOperationException") hown [⟨0, 14, 17, 13⟩, ⟨0, 14, 21, 15⟩] ⟨0, 14, 25, 19⟩ [⟨0, 14, 29, 17⟩] htab (List.forall_mem_cons.mpr ⟨Or.inr ⟨by decide, "java/lang/IndexOutOfBoundsException", (hts (.classLink RL 13 "java/lang/IndexOutOfBoundsException") (by decide +kernel)), hNc ("java/lang/UnsupportedOperationException", "java/lang/IndexOutOfBoundsException") (by decide)⟩, (List.forall_mem_cons.mpr ⟨Or.inr ⟨by decide, "java/lang/IllegalArgumentException", (hts (.classLink RL 15 "java/lang/IllegalArgumentException") (by decide +kernel)), hNc ("java/lang/UnsupportedOperationException", "java/lang/IllegalArgumentException") (by decide)⟩, (fun _ h => absurd h List.not_mem_nil)⟩)⟩) (by decide) (by decide) (hts (.classLink RL 19 "java/lang/UnsupportedOperationException") (by decide +kernel)) (va_Nw.use rfl (hF.2.2.2 ("java/lang/UnsupportedOperationException", "java/lang/UnsupportedOperationException") (by decide))) hce hcv hcl ?_
      refine lv_astore (lv' := [(6, .ref q9), (0, .ref h0), (1, .int x1), (2, .int x2), (3, .int x3), (4, .int x4), (5, .ref o)]) hx hb dL_note_25 hl (by decide) rfl (fun ls hl => ?_)
      refine lv_iconst (v := 3) hx hb dL_note_27 (by decide) ?_
      refine vx_ret ?_
      refine W.widen (k := 3) (n := 103) (Nat.le_of_ble_eq_true rfl) (Nat.le_of_ble_eq_true rfl) ?_
      exact W.iret (v := 3) hx hb hr (fun t9 h8 w9 => ⟨⟨3, (G, f), rfl, ⟨hc9.symm, fun z => absurd (hc9.symm.trans z) (by decide), ⟨α, (by rw [ne_note (fun z => absurd (hc9.symm.trans z) (by decide))]; exact hP)⟩⟩, by dsimp only; rw [h8]; exact ⟨hM, hMo⟩⟩, hS.F h8⟩) hS.2.2 dL_note_28
    have h9 := List.mem_singleton.mp hX
    obtain ⟨e9, hc9⟩ := Prod.mk.inj h9
    subst e9
    refine vx_catch (name := "java/lang/IllegalStateException") hown [⟨0, 14, 17, 13⟩, ⟨0, 14, 21, 15⟩, ⟨0, 14, 25, 19⟩] ⟨0, 14, 29, 17⟩ [] htab (List.forall_mem_cons.mpr ⟨Or.inr ⟨by decide, "java/lang/IndexOutOfBoundsException", (hts (.classLink RL 13 "java/lang/IndexOutOfBoundsException") (by decide +kernel)), hNc ("java/lang/IllegalStateException", "java/lang/IndexOutOfBoundsException") (by decide)⟩, (List.forall_mem_cons.mpr ⟨Or.inr ⟨by decide, "java/lang/IllegalArgumentException", (hts (.classLink RL 15 "java/lang/IllegalArgumentException") (by decide +kernel)), hNc ("java/lang/IllegalStateException", "java/lang/IllegalArgumentException") (by decide)⟩, (List.forall_mem_cons.mpr ⟨Or.inr ⟨by decide, "java/lang/UnsupportedOperationException", (hts (.classLink RL 19 "java/lang/UnsupportedOperationException") (by decide +kernel)), hNc ("java/lang/IllegalStateException", "java/lang/UnsupportedOperationException") (by decide)⟩, (fun _ h => absurd h List.not_mem_nil)⟩)⟩)⟩) (by decide) (by decide) (hts (.classLink RL 17 "java/lang/IllegalStateException") (by decide +kernel)) (va_Nw.use rfl (hF.2.2.2 ("java/lang/IllegalStateException", "java/lang/IllegalStateException") (by decide))) hce hcv hcl ?_
    refine lv_astore (lv' := [(6, .ref q9), (0, .ref h0), (1, .int x1), (2, .int x2), (3, .int x3), (4, .int x4), (5, .ref o)]) hx hb dL_note_29 hl (by decide) rfl (fun ls hl => ?_)
    refine lv_iconst (v := 4) hx hb dL_note_31 (by decide) ?_
    refine vx_ret ?_
    refine W.widen (k := 3) (n := 103) (Nat.le_of_ble_eq_true rfl) (Nat.le_of_ble_eq_true rfl) ?_
    exact W.iret (v := 4) hx hb hr (fun t9 h8 w9 => ⟨⟨4, (G, f), rfl, ⟨hc9.symm, fun z => absurd (hc9.symm.trans z) (by decide), ⟨α, (by rw [ne_note (fun z => absurd (hc9.symm.trans z) (by decide))]; exact hP)⟩⟩, by dsimp only; rw [h8]; exact ⟨hM, hMo⟩⟩, hS.F h8⟩) hS.2.2 dL_note_32
  · rw [eq_note hI] at hp
    obtain ⟨h1, ⟨α9, hP9⟩, hr9⟩ := hp
    have hM : tkM A D G9 H := by rw [← ht]; exact hBB
    have hMo := hMo.kept (H1 := H) (fun q h2 h3 => hq q h2 (by rw [h3]; exact hoA))
    have hMc := hM.un hMo hoA
    refine lv_i2l hx hb dL_note_12 rfl ?_
    refine tk_last hx hb hK hMc hS 4 (va_up_self _ _ _) rfl (by unfold vp_in; decide) dL_note_13 (fun H locs hM2 hS => ?_)
    rw [va_up2] at hM2
    obtain ⟨hM3, hMo3⟩ := hM2.cut hoA (fun a e9 h9 => hM.isA h9)
    refine lv_goto (tgt := 33) hx hb dL_note_14 (by decide) ?_
    refine lv_iconst (v := 0) hx hb dL_note_33 (by decide) ?_
    refine vx_ret ?_
    refine W.widen (k := 3) (n := 103) (Nat.le_of_ble_eq_true rfl) (Nat.le_of_ble_eq_true rfl) ?_
    exact W.iret (v := 0) hx hb hr (fun t9 h8 w9 => ⟨⟨0, (G9, vp_updL f 0 (r.toInt64)), rfl, ⟨h1.symm, fun _ => (by rw [hr9]; rfl), ⟨α9, hP9⟩⟩, by dsimp only; rw [h8]; exact ⟨hM3, hMo3⟩⟩, hS.F h8⟩) hS.2.2 dL_note_34
set_option maxHeartbeats 4000000 in
set_option maxRecDepth 100000 in
theorem c_L_approve (l : Launch) (hst : l.stackTraces = false) (A : Nat → Prop) (o : Nat) (D : va_G) (ac : Nat → ClassId) (dE : Nat) (G : TG) {h0 : Nat} {α : Nat → Nat → Nat} {M : TS} (hP : PX ac dE h0 α M (nV M) G) (hI : IV M) (f : Nat → Int64) (x1 : Int32) : vx_Met l yL_approve wsL_approve ({ frames := 10, cells := 2, slots := 12, locals := 600 } : Room) (va_Pc [.ref h0, .int x1, .ref o] (tkW A o D ac dE G (oGL ac o f))) (va_Qi (fun (z : Int32) (u : TG × (Nat → Int64)) => z = (S_approve M x1).1 ∧ ((S_approve M x1).1 = 0 → u.2 0 = (S_approve M x1).2.2.toInt64) ∧ ∃ α9 : Nat → Nat → Nat, PX ac dE h0 α9 (S_approve M x1).2.1 (nV (S_approve M x1).2.1) u.1) (fun (u : TG × (Nat → Int64)) t => tkM A D u.1 t.heap ∧ tkM (fun q => q = o) D (oGL ac o u.2) t.heap) (fun q => A q ∨ q = o)) (XG (fun _ => False)) 2 12 (fun q => A q ∨ q = o) := by
  refine vx_ofWH (cc := cL_approve) (maxL := 4) (ret := (some .int)) (hh := [(0, 9, 12, 48), (0, 9, 15, 17), (0, 9, 18, 19)]) (by decide) rfl ?_
  intro p e s m args below meth c s₁ B hml hv
  obtain ⟨rfl, ⟨⟨hM, hK, hA, hF⟩, hO⟩, hMo, hoA, hNc⟩ := hv
  have hS : va_S (fun q => A q ∨ q = o) s.heap s.heap [] := va_S.rf
  have hx := B.exec
  have hb := B.bytes
  have hr := B.returns
  have hts := atoms_spec (ws := wsL_approve) B.pre
  have htab : c.exceptionTable.toList = tableOf [(0, 9, 12, 48), (0, 9, 15, 17), (0, 9, 18, 19)] := vx_table (x := yL_approve) B (hts _ List.mem_cons_self)
  have hown : s.vm.findClass RL = some m.cls := findClass_of_methodNamed B.named
  have hlocks := B.notSynchronized
  have S0 : CallFix p m c cL_approve 4 s ([.ref h0, .int x1, .ref o] : List Value).toArray wsL_approve RL := ⟨hx, hb, hml, hown, hts⟩
  have hl := lv_entry ([.ref h0, .int x1, .ref o]) (n := 4) (Nat.le_of_ble_eq_true rfl)
  rw [lg_entry_eq]
  generalize (lg_sl ([.ref h0, .int x1, .ref o]) ++ List.replicate (4 - (lg_sl ([.ref h0, .int x1, .ref o])).length) Slot.unset).toArray = ls at hl ⊢
  have hl : lv_has ls 4 [(0, .ref h0), (1, .int x1), (2, .ref o)] := hl
  refine lv_aload_n hx hb dL_approve_0 rfl (lv_at hl 2 rfl) ?_
  refine lv_iconst (v := 0) hx hb dL_approve_1 (by decide) ?_
  refine lv_aload_n hx hb dL_approve_2 rfl (lv_at hl 0 rfl) ?_
  refine lv_iload_n hx hb dL_approve_3 rfl (lv_at hl 1 rfl) ?_
  refine vx_calli (A1 := A) (free := A) (vx_runV (As := [.int x1]) (rest := [.int 0, .ref o]) S0 (c_X4_approve (nv := 0) l hst A D ac dE _ hP hI.w x1) (cwV 1 hts gL_approve_X4_approve rfl rfl rfl (by decide +kernel) ⟨Nat.le_of_ble_eq_true rfl, Nat.le_of_ble_eq_true rfl⟩) ⟨fun a U g mk q => ⟨q.1, tkX.blind U g mk a q.2⟩, tk_recv hK hM hP.h rfl, fun U hU hW => ⟨rfl, tkX.at hM hK hA hF hO va_S.rf U hU hW⟩⟩ rfl rfl hl.1 rfl (lv_room (Nat.le_of_ble_eq_true rfl)) dL_approve_4 ⟨Nat.le_of_ble_eq_true rfl, Nat.le_of_ble_eq_true rfl⟩) hS (fun q _ h => Or.inl h) (fun q h => Or.inl h) (fun q _ h => h.elim) (fun E ce q9 u9 t H locs ht hal _ hX hz hq hS hce hcv hcl => ?_) (fun r G9 t H locs ht hal hp hBB hz hq hS => ?_)
  · have hM := hM.keptE (fun q h9 => hq q h9 (fun z => z))
    have hMo := hMo.keptE (fun q h9 => hq q h9 (fun z => z))
    rw [eq_approve hI] at hX
    rcases List.mem_cons.mp hX with h9 | hX
    · obtain ⟨e9, hc9⟩ := Prod.mk.inj h9
      subst e9
      refine vx_catch (name := "java/util/NoSuchElementException") hown [] ⟨0, 9, 12, 48⟩ [⟨0, 9, 15, 17⟩, ⟨0, 9, 18, 19⟩] htab (fun _ h => absurd h List.not_mem_nil) (by decide) (by decide) (hts (.classLink RL 48 "java/util/NoSuchElementException") (by decide +kernel)) (va_Nw.use rfl (hF.2.2.2 ("java/util/NoSuchElementException", "java/util/NoSuchElementException") (by decide))) hce hcv hcl ?_
      refine lv_astore_n (lv' := [(3, .ref q9), (0, .ref h0), (1, .int x1), (2, .ref o)]) hx hb dL_approve_12 rfl hl (by decide) rfl (fun ls hl => ?_)
      refine lv_iconst (v := 1) hx hb dL_approve_13 (by decide) ?_
      refine vx_ret ?_
      refine W.widen (k := 2) (n := 12) (Nat.le_of_ble_eq_true rfl) (Nat.le_of_ble_eq_true rfl) ?_
      exact W.iret (v := 1) hx hb hr (fun t9 h8 w9 => ⟨⟨1, (G, f), rfl, ⟨hc9.symm, fun z => absurd (hc9.symm.trans z) (by decide), ⟨α, (by rw [ne_approve (fun z => absurd (hc9.symm.trans z) (by decide))]; exact hP)⟩⟩, by dsimp only; rw [h8]; exact ⟨hM, hMo⟩⟩, hS.F h8⟩) hS.2.2 dL_approve_14
    rcases List.mem_cons.mp hX with h9 | hX
    · obtain ⟨e9, hc9⟩ := Prod.mk.inj h9
      subst e9
      refine vx_catch (name := "java/lang/IllegalStateException") hown [⟨0, 9, 12, 48⟩] ⟨0, 9, 15, 17⟩ [⟨0, 9, 18, 19⟩] htab (List.forall_mem_cons.mpr ⟨Or.inr ⟨by decide, "java/util/NoSuchElementException", (hts (.classLink RL 48 "java/util/NoSuchElementException") (by decide +kernel)), hNc ("java/lang/IllegalStateException", "java/util/NoSuchElementException") (by decide)⟩, (fun _ h => absurd h List.not_mem_nil)⟩) (by decide) (by decide) (hts (.classLink RL 17 "java/lang/IllegalStateException") (by decide +kernel)) (va_Nw.use rfl (hF.2.2.2 ("java/lang/IllegalStateException", "java/lang/IllegalStateException") (by decide))) hce hcv hcl ?_
      refine lv_astore_n (lv' := [(3, .ref q9), (0, .ref h0), (1, .int x1), (2, .ref o)]) hx hb dL_approve_15 rfl hl (by decide) rfl (fun ls hl => ?_)
      refine lv_iconst (v := 2) hx hb dL_approve_16 (by decide) ?_
      refine vx_ret ?_
      refine W.widen (k := 2) (n := 12) (Nat.le_of_ble_eq_true rfl) (Nat.le_of_ble_eq_true rfl) ?_
      exact W.iret (v := 2) hx hb hr (fun t9 h8 w9 => ⟨⟨2, (G, f), rfl, ⟨hc9.symm, fun z => absurd (hc9.symm.trans z) (by decide), ⟨α, (by rw [ne_approve (fun z => absurd (hc9.symm.trans z) (by decide))]; exact hP)⟩⟩, by dsimp only; rw [h8]; exact ⟨hM, hMo⟩⟩, hS.F h8⟩) hS.2.2 dL_approve_17
    have h9 := List.mem_singleton.mp hX
    obtain ⟨e9, hc9⟩ := Prod.mk.inj h9
    subst e9
    refine vx_catch (name := "java/lang/UnsupportedOperationException") hown [⟨0, 9, 12, 48⟩, ⟨0, 9, 15, 17⟩] ⟨0, 9, 18, 19⟩ [] htab (List.forall_mem_cons.mpr ⟨Or.inr ⟨by decide, "java/util/NoSuchElementException", (hts (.classLink RL 48 "java/util/NoSuchElementException") (by decide +kernel)), hNc ("java/lang/UnsupportedOperationException", "java/util/NoSuchElementException") (by decide)⟩, (List.forall_mem_cons.mpr ⟨Or.inr ⟨by decide, "java/lang/IllegalStateException", (hts (.classLink RL 17 "java/lang/IllegalStateException") (by decide +kernel)), hNc ("java/lang/UnsupportedOperationException", "java/lang/IllegalStateException") (by decide)⟩, (fun _ h => absurd h List.not_mem_nil)⟩)⟩) (by decide) (by decide) (hts (.classLink RL 19 "java/lang/UnsupportedOperationException") (by decide +kernel)) (va_Nw.use rfl (hF.2.2.2 ("java/lang/UnsupportedOperationException", "java/lang/UnsupportedOperationException") (by decide))) hce hcv hcl ?_
    refine lv_astore_n (lv' := [(3, .ref q9), (0, .ref h0), (1, .int x1), (2, .ref o)]) hx hb dL_approve_18 rfl hl (by decide) rfl (fun ls hl => ?_)
    refine lv_iconst (v := 3) hx hb dL_approve_19 (by decide) ?_
    refine vx_ret ?_
    refine W.widen (k := 2) (n := 12) (Nat.le_of_ble_eq_true rfl) (Nat.le_of_ble_eq_true rfl) ?_
    exact W.iret (v := 3) hx hb hr (fun t9 h8 w9 => ⟨⟨3, (G, f), rfl, ⟨hc9.symm, fun z => absurd (hc9.symm.trans z) (by decide), ⟨α, (by rw [ne_approve (fun z => absurd (hc9.symm.trans z) (by decide))]; exact hP)⟩⟩, by dsimp only; rw [h8]; exact ⟨hM, hMo⟩⟩, hS.F h8⟩) hS.2.2 dL_approve_20
  · rw [eq_approve hI] at hp
    obtain ⟨h1, ⟨α9, hP9⟩, hr9⟩ := hp
    have hM : tkM A D G9 H := by rw [← ht]; exact hBB
    have hMo := hMo.kept (H1 := H) (fun q h2 h3 => hq q h2 (by rw [h3]; exact hoA))
    have hMc := hM.un hMo hoA
    refine lv_i2l hx hb dL_approve_7 rfl ?_
    refine tk_last hx hb hK hMc hS 4 (va_up_self _ _ _) rfl (by unfold vp_in; decide) dL_approve_8 (fun H locs hM2 hS => ?_)
    rw [va_up2] at hM2
    obtain ⟨hM3, hMo3⟩ := hM2.cut hoA (fun a e9 h9 => hM.isA h9)
    refine lv_goto (tgt := 21) hx hb dL_approve_9 (by decide) ?_
    refine lv_iconst (v := 0) hx hb dL_approve_21 (by decide) ?_
    refine vx_ret ?_
    refine W.widen (k := 2) (n := 12) (Nat.le_of_ble_eq_true rfl) (Nat.le_of_ble_eq_true rfl) ?_
    exact W.iret (v := 0) hx hb hr (fun t9 h8 w9 => ⟨⟨0, (G9, vp_updL f 0 (r.toInt64)), rfl, ⟨h1.symm, fun _ => (by rw [hr9]; rfl), ⟨α9, hP9⟩⟩, by dsimp only; rw [h8]; exact ⟨hM3, hMo3⟩⟩, hS.F h8⟩) hS.2.2 dL_approve_22
set_option maxHeartbeats 4000000 in
set_option maxRecDepth 100000 in
theorem c_L_lock (l : Launch) (hst : l.stackTraces = false) (A : Nat → Prop) (o : Nat) (D : va_G) (ac : Nat → ClassId) (dE : Nat) (G : TG) {h0 : Nat} {α : Nat → Nat → Nat} {M : TS} (hP : PX ac dE h0 α M (nV M) G) (hI : IV M) (f : Nat → Int64) (x1 : Int32) : vx_Met l yL_lock wsL_lock ({ frames := 10, cells := 2, slots := 12, locals := 600 } : Room) (va_Pc [.ref h0, .int x1, .ref o] (tkW A o D ac dE G (oGL ac o f))) (va_Qi (fun (z : Int32) (u : TG × (Nat → Int64)) => z = (S_lock M x1).1 ∧ ((S_lock M x1).1 = 0 → u.2 0 = (S_lock M x1).2.2.toInt64) ∧ ∃ α9 : Nat → Nat → Nat, PX ac dE h0 α9 (S_lock M x1).2.1 (nV (S_lock M x1).2.1) u.1) (fun (u : TG × (Nat → Int64)) t => tkM A D u.1 t.heap ∧ tkM (fun q => q = o) D (oGL ac o u.2) t.heap) (fun q => A q ∨ q = o)) (XG (fun _ => False)) 2 12 (fun q => A q ∨ q = o) := by
  refine vx_ofWH (cc := cL_lock) (maxL := 4) (ret := (some .int)) (hh := [(0, 9, 12, 15), (0, 9, 15, 17)]) (by decide) rfl ?_
  intro p e s m args below meth c s₁ B hml hv
  obtain ⟨rfl, ⟨⟨hM, hK, hA, hF⟩, hO⟩, hMo, hoA, hNc⟩ := hv
  have hS : va_S (fun q => A q ∨ q = o) s.heap s.heap [] := va_S.rf
  have hx := B.exec
  have hb := B.bytes
  have hr := B.returns
  have hts := atoms_spec (ws := wsL_lock) B.pre
  have htab : c.exceptionTable.toList = tableOf [(0, 9, 12, 15), (0, 9, 15, 17)] := vx_table (x := yL_lock) B (hts _ List.mem_cons_self)
  have hown : s.vm.findClass RL = some m.cls := findClass_of_methodNamed B.named
  have hlocks := B.notSynchronized
  have S0 : CallFix p m c cL_lock 4 s ([.ref h0, .int x1, .ref o] : List Value).toArray wsL_lock RL := ⟨hx, hb, hml, hown, hts⟩
  have hl := lv_entry ([.ref h0, .int x1, .ref o]) (n := 4) (Nat.le_of_ble_eq_true rfl)
  rw [lg_entry_eq]
  generalize (lg_sl ([.ref h0, .int x1, .ref o]) ++ List.replicate (4 - (lg_sl ([.ref h0, .int x1, .ref o])).length) Slot.unset).toArray = ls at hl ⊢
  have hl : lv_has ls 4 [(0, .ref h0), (1, .int x1), (2, .ref o)] := hl
  refine lv_aload_n hx hb dL_lock_0 rfl (lv_at hl 2 rfl) ?_
  refine lv_iconst (v := 0) hx hb dL_lock_1 (by decide) ?_
  refine lv_aload_n hx hb dL_lock_2 rfl (lv_at hl 0 rfl) ?_
  refine lv_iload_n hx hb dL_lock_3 rfl (lv_at hl 1 rfl) ?_
  refine vx_calli (A1 := A) (free := A) (vx_runV (As := [.int x1]) (rest := [.int 0, .ref o]) S0 (c_X4_lock (nv := 0) l hst A D ac dE _ hP hI.w x1) (cwV 1 hts gL_lock_X4_lock rfl rfl rfl (by decide +kernel) ⟨Nat.le_of_ble_eq_true rfl, Nat.le_of_ble_eq_true rfl⟩) ⟨fun a U g mk q => ⟨q.1, tkX.blind U g mk a q.2⟩, tk_recv hK hM hP.h rfl, fun U hU hW => ⟨rfl, tkX.at hM hK hA hF hO va_S.rf U hU hW⟩⟩ rfl rfl hl.1 rfl (lv_room (Nat.le_of_ble_eq_true rfl)) dL_lock_4 ⟨Nat.le_of_ble_eq_true rfl, Nat.le_of_ble_eq_true rfl⟩) hS (fun q _ h => Or.inl h) (fun q h => Or.inl h) (fun q _ h => h.elim) (fun E ce q9 u9 t H locs ht hal _ hX hz hq hS hce hcv hcl => ?_) (fun r G9 t H locs ht hal hp hBB hz hq hS => ?_)
  · have hM := hM.keptE (fun q h9 => hq q h9 (fun z => z))
    have hMo := hMo.keptE (fun q h9 => hq q h9 (fun z => z))
    rw [eq_lock hI] at hX
    rcases List.mem_cons.mp hX with h9 | hX
    · obtain ⟨e9, hc9⟩ := Prod.mk.inj h9
      subst e9
      refine vx_catch (name := "java/lang/IllegalArgumentException") hown [] ⟨0, 9, 12, 15⟩ [⟨0, 9, 15, 17⟩] htab (fun _ h => absurd h List.not_mem_nil) (by decide) (by decide) (hts (.classLink RL 15 "java/lang/IllegalArgumentException") (by decide +kernel)) (va_Nw.use rfl (hF.2.2.2 ("java/lang/IllegalArgumentException", "java/lang/IllegalArgumentException") (by decide))) hce hcv hcl ?_
      refine lv_astore_n (lv' := [(3, .ref q9), (0, .ref h0), (1, .int x1), (2, .ref o)]) hx hb dL_lock_12 rfl hl (by decide) rfl (fun ls hl => ?_)
      refine lv_iconst (v := 1) hx hb dL_lock_13 (by decide) ?_
      refine vx_ret ?_
      refine W.widen (k := 2) (n := 12) (Nat.le_of_ble_eq_true rfl) (Nat.le_of_ble_eq_true rfl) ?_
      exact W.iret (v := 1) hx hb hr (fun t9 h8 w9 => ⟨⟨1, (G, f), rfl, ⟨hc9.symm, fun z => absurd (hc9.symm.trans z) (by decide), ⟨α, (by rw [ne_lock (fun z => absurd (hc9.symm.trans z) (by decide))]; exact hP)⟩⟩, by dsimp only; rw [h8]; exact ⟨hM, hMo⟩⟩, hS.F h8⟩) hS.2.2 dL_lock_14
    have h9 := List.mem_singleton.mp hX
    obtain ⟨e9, hc9⟩ := Prod.mk.inj h9
    subst e9
    refine vx_catch (name := "java/lang/IllegalStateException") hown [⟨0, 9, 12, 15⟩] ⟨0, 9, 15, 17⟩ [] htab (List.forall_mem_cons.mpr ⟨Or.inr ⟨by decide, "java/lang/IllegalArgumentException", (hts (.classLink RL 15 "java/lang/IllegalArgumentException") (by decide +kernel)), hNc ("java/lang/IllegalStateException", "java/lang/IllegalArgumentException") (by decide)⟩, (fun _ h => absurd h List.not_mem_nil)⟩) (by decide) (by decide) (hts (.classLink RL 17 "java/lang/IllegalStateException") (by decide +kernel)) (va_Nw.use rfl (hF.2.2.2 ("java/lang/IllegalStateException", "java/lang/IllegalStateException") (by decide))) hce hcv hcl ?_
    refine lv_astore_n (lv' := [(3, .ref q9), (0, .ref h0), (1, .int x1), (2, .ref o)]) hx hb dL_lock_15 rfl hl (by decide) rfl (fun ls hl => ?_)
    refine lv_iconst (v := 2) hx hb dL_lock_16 (by decide) ?_
    refine vx_ret ?_
    refine W.widen (k := 2) (n := 12) (Nat.le_of_ble_eq_true rfl) (Nat.le_of_ble_eq_true rfl) ?_
    exact W.iret (v := 2) hx hb hr (fun t9 h8 w9 => ⟨⟨2, (G, f), rfl, ⟨hc9.symm, fun z => absurd (hc9.symm.trans z) (by decide), ⟨α, (by rw [ne_lock (fun z => absurd (hc9.symm.trans z) (by decide))]; exact hP)⟩⟩, by dsimp only; rw [h8]; exact ⟨hM, hMo⟩⟩, hS.F h8⟩) hS.2.2 dL_lock_17
  · rw [eq_lock hI] at hp
    obtain ⟨h1, ⟨α9, hP9⟩, hr9⟩ := hp
    have hM : tkM A D G9 H := by rw [← ht]; exact hBB
    have hMo := hMo.kept (H1 := H) (fun q h2 h3 => hq q h2 (by rw [h3]; exact hoA))
    have hMc := hM.un hMo hoA
    refine lv_i2l hx hb dL_lock_7 rfl ?_
    refine tk_last hx hb hK hMc hS 4 (va_up_self _ _ _) rfl (by unfold vp_in; decide) dL_lock_8 (fun H locs hM2 hS => ?_)
    rw [va_up2] at hM2
    obtain ⟨hM3, hMo3⟩ := hM2.cut hoA (fun a e9 h9 => hM.isA h9)
    refine lv_goto (tgt := 18) hx hb dL_lock_9 (by decide) ?_
    refine lv_iconst (v := 0) hx hb dL_lock_18 (by decide) ?_
    refine vx_ret ?_
    refine W.widen (k := 2) (n := 12) (Nat.le_of_ble_eq_true rfl) (Nat.le_of_ble_eq_true rfl) ?_
    exact W.iret (v := 0) hx hb hr (fun t9 h8 w9 => ⟨⟨0, (G9, vp_updL f 0 (r.toInt64)), rfl, ⟨h1.symm, fun _ => (by rw [hr9]; rfl), ⟨α9, hP9⟩⟩, by dsimp only; rw [h8]; exact ⟨hM3, hMo3⟩⟩, hS.F h8⟩) hS.2.2 dL_lock_19
set_option maxHeartbeats 4000000 in
set_option maxRecDepth 100000 in
theorem c_L_entryState (l : Launch) (hst : l.stackTraces = false) (A : Nat → Prop) (o : Nat) (D : va_G) (ac : Nat → ClassId) (dE : Nat) (G : TG) {h0 : Nat} {α : Nat → Nat → Nat} {M : TS} (hP : PX ac dE h0 α M (nV M) G) (hI : IV M) (f : Nat → Int64) (x1 : Int32) : vx_Met l yL_entryState wsL_entryState ({ frames := 10, cells := 1, slots := 6, locals := 600 } : Room) (va_Pc [.ref h0, .int x1, .ref o] (tkW A o D ac dE G (oGL ac o f))) (va_Qi (fun (z : Int32) (u : TG × (Nat → Int64)) => z = (S_entryState M x1).1 ∧ ((S_entryState M x1).1 = 0 → u.2 0 = (S_entryState M x1).2.2.toInt64) ∧ ∃ α9 : Nat → Nat → Nat, PX ac dE h0 α9 (S_entryState M x1).2.1 (nV (S_entryState M x1).2.1) u.1) (fun (u : TG × (Nat → Int64)) t => tkM A D u.1 t.heap ∧ tkM (fun q => q = o) D (oGL ac o u.2) t.heap) (fun q => A q ∨ q = o)) (XG (fun _ => False)) 1 6 (fun q => A q ∨ q = o) := by
  refine vx_ofWH (cc := cL_entryState) (maxL := 4) (ret := (some .int)) (hh := [(0, 9, 12, 48)]) (by decide) rfl ?_
  intro p e s m args below meth c s₁ B hml hv
  obtain ⟨rfl, ⟨⟨hM, hK, hA, hF⟩, hO⟩, hMo, hoA, hNc⟩ := hv
  have hS : va_S (fun q => A q ∨ q = o) s.heap s.heap [] := va_S.rf
  have hx := B.exec
  have hb := B.bytes
  have hr := B.returns
  have hts := atoms_spec (ws := wsL_entryState) B.pre
  have htab : c.exceptionTable.toList = tableOf [(0, 9, 12, 48)] := vx_table (x := yL_entryState) B (hts _ List.mem_cons_self)
  have hown : s.vm.findClass RL = some m.cls := findClass_of_methodNamed B.named
  have hlocks := B.notSynchronized
  have S0 : CallFix p m c cL_entryState 4 s ([.ref h0, .int x1, .ref o] : List Value).toArray wsL_entryState RL := ⟨hx, hb, hml, hown, hts⟩
  have hl := lv_entry ([.ref h0, .int x1, .ref o]) (n := 4) (Nat.le_of_ble_eq_true rfl)
  rw [lg_entry_eq]
  generalize (lg_sl ([.ref h0, .int x1, .ref o]) ++ List.replicate (4 - (lg_sl ([.ref h0, .int x1, .ref o])).length) Slot.unset).toArray = ls at hl ⊢
  have hl : lv_has ls 4 [(0, .ref h0), (1, .int x1), (2, .ref o)] := hl
  refine lv_aload_n hx hb dL_entryState_0 rfl (lv_at hl 2 rfl) ?_
  refine lv_iconst (v := 0) hx hb dL_entryState_1 (by decide) ?_
  refine lv_aload_n hx hb dL_entryState_2 rfl (lv_at hl 0 rfl) ?_
  refine lv_iload_n hx hb dL_entryState_3 rfl (lv_at hl 1 rfl) ?_
  refine vx_calli (A1 := (fun _ => False)) (free := A) (vx_runV (As := [.int x1]) (rest := [.int 0, .ref o]) S0 (c_X4_entryState (nv := 0) l hst A D ac dE _ hP hI.w hI.w1 x1) (cwV 1 hts gL_entryState_X4_entryState rfl rfl rfl (by decide +kernel) ⟨Nat.le_of_ble_eq_true rfl, Nat.le_of_ble_eq_true rfl⟩) ⟨fun a U g mk q => ⟨q.1, tkX.blind U g mk a q.2⟩, tk_recv hK hM hP.h rfl, fun U hU hW => ⟨rfl, tkX.at hM hK hA hF hO va_S.rf U hU hW⟩⟩ rfl rfl hl.1 rfl (lv_room (Nat.le_of_ble_eq_true rfl)) dL_entryState_4 ⟨Nat.le_of_ble_eq_true rfl, Nat.le_of_ble_eq_true rfl⟩) hS (fun q _ h => h.elim) (fun q h => Or.inl h) (fun q _ h => h.elim) (fun E ce q9 u9 t H locs ht hal _ hX hz hq hS hce hcv hcl => ?_) (fun r G9 t H locs ht hal hp hBB hz hq hS => ?_)
  · have hM := hM.keptE (fun q h9 => hq q h9 (fun z => z))
    have hMo := hMo.keptE (fun q h9 => hq q h9 (fun z => z))
    have h9 := List.mem_singleton.mp hX
    obtain ⟨e9, hc9⟩ := Prod.mk.inj h9
    subst e9
    refine vx_catch (name := "java/util/NoSuchElementException") hown [] ⟨0, 9, 12, 48⟩ [] htab (fun _ h => absurd h List.not_mem_nil) (by decide) (by decide) (hts (.classLink RL 48 "java/util/NoSuchElementException") (by decide +kernel)) (va_Nw.use rfl (hF.2.2.2 ("java/util/NoSuchElementException", "java/util/NoSuchElementException") (by decide))) hce hcv hcl ?_
    refine lv_astore_n (lv' := [(3, .ref q9), (0, .ref h0), (1, .int x1), (2, .ref o)]) hx hb dL_entryState_12 rfl hl (by decide) rfl (fun ls hl => ?_)
    refine lv_iconst (v := 1) hx hb dL_entryState_13 (by decide) ?_
    refine vx_ret ?_
    refine W.widen (k := 1) (n := 6) (Nat.le_of_ble_eq_true rfl) (Nat.le_of_ble_eq_true rfl) ?_
    exact W.iret (v := 1) hx hb hr (fun t9 h8 w9 => ⟨⟨1, (G, f), rfl, ⟨hc9.symm, fun z => absurd (hc9.symm.trans z) (by decide), ⟨α, (by rw [rd_entryState]; exact hP)⟩⟩, by dsimp only; rw [h8]; exact ⟨hM, hMo⟩⟩, hS.F h8⟩) hS.2.2 dL_entryState_14
  · obtain ⟨h1, hr9⟩ := hp
    have hM := hM.keptE (fun q h9 => hq q h9 (fun z => z))
    have hMo := hMo.keptE (fun q h9 => hq q h9 (fun z => z))
    have hP9 : PX ac dE h0 α (S_entryState M x1).2.1 (nV (S_entryState M x1).2.1) G := by rw [rd_entryState]; exact hP
    have hMc := hM.un hMo hoA
    refine lv_i2l hx hb dL_entryState_7 rfl ?_
    refine tk_last hx hb hK hMc hS 4 (va_up_self _ _ _) rfl (by unfold vp_in; decide) dL_entryState_8 (fun H locs hM2 hS => ?_)
    rw [va_up2] at hM2
    obtain ⟨hM3, hMo3⟩ := hM2.cut hoA (fun a e9 h9 => hM.isA h9)
    refine lv_goto (tgt := 15) hx hb dL_entryState_9 (by decide) ?_
    refine lv_iconst (v := 0) hx hb dL_entryState_15 (by decide) ?_
    refine vx_ret ?_
    refine W.widen (k := 1) (n := 6) (Nat.le_of_ble_eq_true rfl) (Nat.le_of_ble_eq_true rfl) ?_
    exact W.iret (v := 0) hx hb hr (fun t9 h8 w9 => ⟨⟨0, (G, vp_updL f 0 (r.toInt64)), rfl, ⟨h1.symm, fun _ => (by rw [hr9]; rfl), ⟨α, hP9⟩⟩, by dsimp only; rw [h8]; exact ⟨hM3, hMo3⟩⟩, hS.F h8⟩) hS.2.2 dL_entryState_16
set_option maxHeartbeats 4000000 in
set_option maxRecDepth 100000 in
theorem c_L_price (l : Launch) (hst : l.stackTraces = false) (A : Nat → Prop) (o : Nat) (D : va_G) (ac : Nat → ClassId) (dE : Nat) (G : TG) {h0 : Nat} {α : Nat → Nat → Nat} {M : TS} (hP : PX ac dE h0 α M (nV M) G) (hI : IV M) (f : Nat → Int64) (x1 : Int32) : vx_Met l yL_price wsL_price ({ frames := 10, cells := 2, slots := 12, locals := 600 } : Room) (va_Pc [.ref h0, .int x1, .ref o] (tkW A o D ac dE G (oGL ac o f))) (va_Qi (fun (z : Int32) (u : TG × (Nat → Int64)) => z = (S_price M x1).1 ∧ ((S_price M x1).1 = 0 → u.2 0 = (S_price M x1).2.2.toInt64) ∧ ∃ α9 : Nat → Nat → Nat, PX ac dE h0 α9 (S_price M x1).2.1 (nV (S_price M x1).2.1) u.1) (fun (u : TG × (Nat → Int64)) t => tkM A D u.1 t.heap ∧ tkM (fun q => q = o) D (oGL ac o u.2) t.heap) (fun q => A q ∨ q = o)) (XG (fun _ => False)) 2 12 (fun q => A q ∨ q = o) := by
  refine vx_ofWH (cc := cL_price) (maxL := 4) (ret := (some .int)) (hh := [(0, 9, 12, 48), (0, 9, 15, 17)]) (by decide) rfl ?_
  intro p e s m args below meth c s₁ B hml hv
  obtain ⟨rfl, ⟨⟨hM, hK, hA, hF⟩, hO⟩, hMo, hoA, hNc⟩ := hv
  have hS : va_S (fun q => A q ∨ q = o) s.heap s.heap [] := va_S.rf
  have hx := B.exec
  have hb := B.bytes
  have hr := B.returns
  have hts := atoms_spec (ws := wsL_price) B.pre
  have htab : c.exceptionTable.toList = tableOf [(0, 9, 12, 48), (0, 9, 15, 17)] := vx_table (x := yL_price) B (hts _ List.mem_cons_self)
  have hown : s.vm.findClass RL = some m.cls := findClass_of_methodNamed B.named
  have hlocks := B.notSynchronized
  have S0 : CallFix p m c cL_price 4 s ([.ref h0, .int x1, .ref o] : List Value).toArray wsL_price RL := ⟨hx, hb, hml, hown, hts⟩
  have hl := lv_entry ([.ref h0, .int x1, .ref o]) (n := 4) (Nat.le_of_ble_eq_true rfl)
  rw [lg_entry_eq]
  generalize (lg_sl ([.ref h0, .int x1, .ref o]) ++ List.replicate (4 - (lg_sl ([.ref h0, .int x1, .ref o])).length) Slot.unset).toArray = ls at hl ⊢
  have hl : lv_has ls 4 [(0, .ref h0), (1, .int x1), (2, .ref o)] := hl
  refine lv_aload_n hx hb dL_price_0 rfl (lv_at hl 2 rfl) ?_
  refine lv_iconst (v := 0) hx hb dL_price_1 (by decide) ?_
  refine lv_aload_n hx hb dL_price_2 rfl (lv_at hl 0 rfl) ?_
  refine lv_iload_n hx hb dL_price_3 rfl (lv_at hl 1 rfl) ?_
  refine vx_calli (A1 := (fun _ => False)) (free := A) (vx_runV (As := [.int x1]) (rest := [.int 0, .ref o]) S0 (c_X4_price (nv := 0) l hst A D ac dE _ hP hI.w hI.wb x1) (cwV 1 hts gL_price_X4_price rfl rfl rfl (by decide +kernel) ⟨Nat.le_of_ble_eq_true rfl, Nat.le_of_ble_eq_true rfl⟩) ⟨fun a U g mk q => ⟨q.1, tkX.blind U g mk a q.2⟩, tk_recv hK hM hP.h rfl, fun U hU hW => ⟨rfl, tkX.at hM hK hA hF hO va_S.rf U hU hW⟩⟩ rfl rfl hl.1 rfl (lv_room (Nat.le_of_ble_eq_true rfl)) dL_price_4 ⟨Nat.le_of_ble_eq_true rfl, Nat.le_of_ble_eq_true rfl⟩) hS (fun q _ h => h.elim) (fun q h => Or.inl h) (fun q _ h => h.elim) (fun E ce q9 u9 t H locs ht hal _ hX hz hq hS hce hcv hcl => ?_) (fun r G9 t H locs ht hal hp hBB hz hq hS => ?_)
  · have hM := hM.keptE (fun q h9 => hq q h9 (fun z => z))
    have hMo := hMo.keptE (fun q h9 => hq q h9 (fun z => z))
    rcases List.mem_cons.mp hX with h9 | hX
    · obtain ⟨e9, hc9⟩ := Prod.mk.inj h9
      subst e9
      refine vx_catch (name := "java/util/NoSuchElementException") hown [] ⟨0, 9, 12, 48⟩ [⟨0, 9, 15, 17⟩] htab (fun _ h => absurd h List.not_mem_nil) (by decide) (by decide) (hts (.classLink RL 48 "java/util/NoSuchElementException") (by decide +kernel)) (va_Nw.use rfl (hF.2.2.2 ("java/util/NoSuchElementException", "java/util/NoSuchElementException") (by decide))) hce hcv hcl ?_
      refine lv_astore_n (lv' := [(3, .ref q9), (0, .ref h0), (1, .int x1), (2, .ref o)]) hx hb dL_price_12 rfl hl (by decide) rfl (fun ls hl => ?_)
      refine lv_iconst (v := 1) hx hb dL_price_13 (by decide) ?_
      refine vx_ret ?_
      refine W.widen (k := 2) (n := 12) (Nat.le_of_ble_eq_true rfl) (Nat.le_of_ble_eq_true rfl) ?_
      exact W.iret (v := 1) hx hb hr (fun t9 h8 w9 => ⟨⟨1, (G, f), rfl, ⟨hc9.symm, fun z => absurd (hc9.symm.trans z) (by decide), ⟨α, (by rw [rd_price]; exact hP)⟩⟩, by dsimp only; rw [h8]; exact ⟨hM, hMo⟩⟩, hS.F h8⟩) hS.2.2 dL_price_14
    have h9 := List.mem_singleton.mp hX
    obtain ⟨e9, hc9⟩ := Prod.mk.inj h9
    subst e9
    refine vx_catch (name := "java/lang/IllegalStateException") hown [⟨0, 9, 12, 48⟩] ⟨0, 9, 15, 17⟩ [] htab (List.forall_mem_cons.mpr ⟨Or.inr ⟨by decide, "java/util/NoSuchElementException", (hts (.classLink RL 48 "java/util/NoSuchElementException") (by decide +kernel)), hNc ("java/lang/IllegalStateException", "java/util/NoSuchElementException") (by decide)⟩, (fun _ h => absurd h List.not_mem_nil)⟩) (by decide) (by decide) (hts (.classLink RL 17 "java/lang/IllegalStateException") (by decide +kernel)) (va_Nw.use rfl (hF.2.2.2 ("java/lang/IllegalStateException", "java/lang/IllegalStateException") (by decide))) hce hcv hcl ?_
    refine lv_astore_n (lv' := [(3, .ref q9), (0, .ref h0), (1, .int x1), (2, .ref o)]) hx hb dL_price_15 rfl hl (by decide) rfl (fun ls hl => ?_)
    refine lv_iconst (v := 2) hx hb dL_price_16 (by decide) ?_
    refine vx_ret ?_
    refine W.widen (k := 2) (n := 12) (Nat.le_of_ble_eq_true rfl) (Nat.le_of_ble_eq_true rfl) ?_
    exact W.iret (v := 2) hx hb hr (fun t9 h8 w9 => ⟨⟨2, (G, f), rfl, ⟨hc9.symm, fun z => absurd (hc9.symm.trans z) (by decide), ⟨α, (by rw [rd_price]; exact hP)⟩⟩, by dsimp only; rw [h8]; exact ⟨hM, hMo⟩⟩, hS.F h8⟩) hS.2.2 dL_price_17
  · obtain ⟨h1, hr9⟩ := hp
    have hM := hM.keptE (fun q h9 => hq q h9 (fun z => z))
    have hMo := hMo.keptE (fun q h9 => hq q h9 (fun z => z))
    have hP9 : PX ac dE h0 α (S_price M x1).2.1 (nV (S_price M x1).2.1) G := by rw [rd_price]; exact hP
    have hMc := hM.un hMo hoA
    refine lv_i2l hx hb dL_price_7 rfl ?_
    refine tk_last hx hb hK hMc hS 4 (va_up_self _ _ _) rfl (by unfold vp_in; decide) dL_price_8 (fun H locs hM2 hS => ?_)
    rw [va_up2] at hM2
    obtain ⟨hM3, hMo3⟩ := hM2.cut hoA (fun a e9 h9 => hM.isA h9)
    refine lv_goto (tgt := 18) hx hb dL_price_9 (by decide) ?_
    refine lv_iconst (v := 0) hx hb dL_price_18 (by decide) ?_
    refine vx_ret ?_
    refine W.widen (k := 2) (n := 12) (Nat.le_of_ble_eq_true rfl) (Nat.le_of_ble_eq_true rfl) ?_
    exact W.iret (v := 0) hx hb hr (fun t9 h8 w9 => ⟨⟨0, (G, vp_updL f 0 (r.toInt64)), rfl, ⟨h1.symm, fun _ => (by rw [hr9]; rfl), ⟨α, hP9⟩⟩, by dsimp only; rw [h8]; exact ⟨hM3, hMo3⟩⟩, hS.F h8⟩) hS.2.2 dL_price_19
set_option maxHeartbeats 4000000 in
set_option maxRecDepth 100000 in
theorem c_L_hours (l : Launch) (hst : l.stackTraces = false) (A : Nat → Prop) (o : Nat) (D : va_G) (ac : Nat → ClassId) (dE : Nat) (G : TG) {h0 : Nat} {α : Nat → Nat → Nat} {M : TS} (hP : PX ac dE h0 α M (nV M) G) (hI : IV M) (f : Nat → Int64) (x1 : Int32) : vx_Met l yL_hours wsL_hours ({ frames := 10, cells := 1, slots := 6, locals := 600 } : Room) (va_Pc [.ref h0, .int x1, .ref o] (tkW A o D ac dE G (oGL ac o f))) (va_Qi (fun (z : Int32) (u : TG × (Nat → Int64)) => z = (S_hours M x1).1 ∧ ((S_hours M x1).1 = 0 → u.2 0 = (S_hours M x1).2.2.toInt64) ∧ ∃ α9 : Nat → Nat → Nat, PX ac dE h0 α9 (S_hours M x1).2.1 (nV (S_hours M x1).2.1) u.1) (fun (u : TG × (Nat → Int64)) t => tkM A D u.1 t.heap ∧ tkM (fun q => q = o) D (oGL ac o u.2) t.heap) (fun q => A q ∨ q = o)) (XG (fun _ => False)) 1 6 (fun q => A q ∨ q = o) := by
  refine vx_ofWH (cc := cL_hours) (maxL := 4) (ret := (some .int)) (hh := [(0, 9, 12, 13)]) (by decide) rfl ?_
  intro p e s m args below meth c s₁ B hml hv
  obtain ⟨rfl, ⟨⟨hM, hK, hA, hF⟩, hO⟩, hMo, hoA, hNc⟩ := hv
  have hS : va_S (fun q => A q ∨ q = o) s.heap s.heap [] := va_S.rf
  have hx := B.exec
  have hb := B.bytes
  have hr := B.returns
  have hts := atoms_spec (ws := wsL_hours) B.pre
  have htab : c.exceptionTable.toList = tableOf [(0, 9, 12, 13)] := vx_table (x := yL_hours) B (hts _ List.mem_cons_self)
  have hown : s.vm.findClass RL = some m.cls := findClass_of_methodNamed B.named
  have hlocks := B.notSynchronized
  have S0 : CallFix p m c cL_hours 4 s ([.ref h0, .int x1, .ref o] : List Value).toArray wsL_hours RL := ⟨hx, hb, hml, hown, hts⟩
  have hl := lv_entry ([.ref h0, .int x1, .ref o]) (n := 4) (Nat.le_of_ble_eq_true rfl)
  rw [lg_entry_eq]
  generalize (lg_sl ([.ref h0, .int x1, .ref o]) ++ List.replicate (4 - (lg_sl ([.ref h0, .int x1, .ref o])).length) Slot.unset).toArray = ls at hl ⊢
  have hl : lv_has ls 4 [(0, .ref h0), (1, .int x1), (2, .ref o)] := hl
  refine lv_aload_n hx hb dL_hours_0 rfl (lv_at hl 2 rfl) ?_
  refine lv_iconst (v := 0) hx hb dL_hours_1 (by decide) ?_
  refine lv_aload_n hx hb dL_hours_2 rfl (lv_at hl 0 rfl) ?_
  refine lv_iload_n hx hb dL_hours_3 rfl (lv_at hl 1 rfl) ?_
  refine vx_calli (A1 := (fun _ => False)) (free := A) (vx_runV (As := [.int x1]) (rest := [.int 0, .ref o]) S0 (c_X4_hours (nv := 0) l hst A D ac dE _ hP hI.w x1) (cwV 1 hts gL_hours_X4_hours rfl rfl rfl (by decide +kernel) ⟨Nat.le_of_ble_eq_true rfl, Nat.le_of_ble_eq_true rfl⟩) ⟨fun a U g mk q => ⟨q.1, tkX.blind U g mk a q.2⟩, tk_recv hK hM hP.h rfl, fun U hU hW => ⟨rfl, tkX.at hM hK hA hF hO va_S.rf U hU hW⟩⟩ rfl rfl hl.1 rfl (lv_room (Nat.le_of_ble_eq_true rfl)) dL_hours_4 ⟨Nat.le_of_ble_eq_true rfl, Nat.le_of_ble_eq_true rfl⟩) hS (fun q _ h => h.elim) (fun q h => Or.inl h) (fun q _ h => h.elim) (fun E ce q9 u9 t H locs ht hal _ hX hz hq hS hce hcv hcl => ?_) (fun r G9 t H locs ht hal hp hBB hz hq hS => ?_)
  · have hM := hM.keptE (fun q h9 => hq q h9 (fun z => z))
    have hMo := hMo.keptE (fun q h9 => hq q h9 (fun z => z))
    have h9 := List.mem_singleton.mp hX
    obtain ⟨e9, hc9⟩ := Prod.mk.inj h9
    subst e9
    refine vx_catch (name := "java/lang/IndexOutOfBoundsException") hown [] ⟨0, 9, 12, 13⟩ [] htab (fun _ h => absurd h List.not_mem_nil) (by decide) (by decide) (hts (.classLink RL 13 "java/lang/IndexOutOfBoundsException") (by decide +kernel)) (va_Nw.use rfl (hF.2.2.2 ("java/lang/IndexOutOfBoundsException", "java/lang/IndexOutOfBoundsException") (by decide))) hce hcv hcl ?_
    refine lv_astore_n (lv' := [(3, .ref q9), (0, .ref h0), (1, .int x1), (2, .ref o)]) hx hb dL_hours_12 rfl hl (by decide) rfl (fun ls hl => ?_)
    refine lv_iconst (v := 1) hx hb dL_hours_13 (by decide) ?_
    refine vx_ret ?_
    refine W.widen (k := 1) (n := 6) (Nat.le_of_ble_eq_true rfl) (Nat.le_of_ble_eq_true rfl) ?_
    exact W.iret (v := 1) hx hb hr (fun t9 h8 w9 => ⟨⟨1, (G, f), rfl, ⟨hc9.symm, fun z => absurd (hc9.symm.trans z) (by decide), ⟨α, (by rw [rd_hours]; exact hP)⟩⟩, by dsimp only; rw [h8]; exact ⟨hM, hMo⟩⟩, hS.F h8⟩) hS.2.2 dL_hours_14
  · obtain ⟨h1, hr9⟩ := hp
    have hM := hM.keptE (fun q h9 => hq q h9 (fun z => z))
    have hMo := hMo.keptE (fun q h9 => hq q h9 (fun z => z))
    have hP9 : PX ac dE h0 α (S_hours M x1).2.1 (nV (S_hours M x1).2.1) G := by rw [rd_hours]; exact hP
    have hMc := hM.un hMo hoA
    refine lv_i2l hx hb dL_hours_7 rfl ?_
    refine tk_last hx hb hK hMc hS 4 (va_up_self _ _ _) rfl (by unfold vp_in; decide) dL_hours_8 (fun H locs hM2 hS => ?_)
    rw [va_up2] at hM2
    obtain ⟨hM3, hMo3⟩ := hM2.cut hoA (fun a e9 h9 => hM.isA h9)
    refine lv_goto (tgt := 15) hx hb dL_hours_9 (by decide) ?_
    refine lv_iconst (v := 0) hx hb dL_hours_15 (by decide) ?_
    refine vx_ret ?_
    refine W.widen (k := 1) (n := 6) (Nat.le_of_ble_eq_true rfl) (Nat.le_of_ble_eq_true rfl) ?_
    exact W.iret (v := 0) hx hb hr (fun t9 h8 w9 => ⟨⟨0, (G, vp_updL f 0 (r.toInt64)), rfl, ⟨h1.symm, fun _ => (by rw [hr9]; rfl), ⟨α, hP9⟩⟩, by dsimp only; rw [h8]; exact ⟨hM3, hMo3⟩⟩, hS.F h8⟩) hS.2.2 dL_hours_16
set_option maxHeartbeats 4000000 in
set_option maxRecDepth 100000 in
theorem c_L_room (l : Launch) (hst : l.stackTraces = false) (A : Nat → Prop) (o : Nat) (D : va_G) (ac : Nat → ClassId) (dE : Nat) (G : TG) {h0 : Nat} {α : Nat → Nat → Nat} {M : TS} (hP : PX ac dE h0 α M (nV M) G) (hI : IV M) (f : Nat → Int64) (x1 : Int32) : vx_Met l yL_room wsL_room ({ frames := 10, cells := 2, slots := 12, locals := 600 } : Room) (va_Pc [.ref h0, .int x1, .ref o] (tkW A o D ac dE G (oGL ac o f))) (va_Qi (fun (z : Int32) (u : TG × (Nat → Int64)) => z = (S_room M x1).1 ∧ ((S_room M x1).1 = 0 → u.2 0 = (S_room M x1).2.2.toInt64) ∧ ∃ α9 : Nat → Nat → Nat, PX ac dE h0 α9 (S_room M x1).2.1 (nV (S_room M x1).2.1) u.1) (fun (u : TG × (Nat → Int64)) t => tkM A D u.1 t.heap ∧ tkM (fun q => q = o) D (oGL ac o u.2) t.heap) (fun q => A q ∨ q = o)) (XG (fun _ => False)) 2 12 (fun q => A q ∨ q = o) := by
  refine vx_ofWH (cc := cL_room) (maxL := 4) (ret := (some .int)) (hh := [(0, 9, 12, 13), (0, 9, 15, 48)]) (by decide) rfl ?_
  intro p e s m args below meth c s₁ B hml hv
  obtain ⟨rfl, ⟨⟨hM, hK, hA, hF⟩, hO⟩, hMo, hoA, hNc⟩ := hv
  have hS : va_S (fun q => A q ∨ q = o) s.heap s.heap [] := va_S.rf
  have hx := B.exec
  have hb := B.bytes
  have hr := B.returns
  have hts := atoms_spec (ws := wsL_room) B.pre
  have htab : c.exceptionTable.toList = tableOf [(0, 9, 12, 13), (0, 9, 15, 48)] := vx_table (x := yL_room) B (hts _ List.mem_cons_self)
  have hown : s.vm.findClass RL = some m.cls := findClass_of_methodNamed B.named
  have hlocks := B.notSynchronized
  have S0 : CallFix p m c cL_room 4 s ([.ref h0, .int x1, .ref o] : List Value).toArray wsL_room RL := ⟨hx, hb, hml, hown, hts⟩
  have hl := lv_entry ([.ref h0, .int x1, .ref o]) (n := 4) (Nat.le_of_ble_eq_true rfl)
  rw [lg_entry_eq]
  generalize (lg_sl ([.ref h0, .int x1, .ref o]) ++ List.replicate (4 - (lg_sl ([.ref h0, .int x1, .ref o])).length) Slot.unset).toArray = ls at hl ⊢
  have hl : lv_has ls 4 [(0, .ref h0), (1, .int x1), (2, .ref o)] := hl
  refine lv_aload_n hx hb dL_room_0 rfl (lv_at hl 2 rfl) ?_
  refine lv_iconst (v := 0) hx hb dL_room_1 (by decide) ?_
  refine lv_aload_n hx hb dL_room_2 rfl (lv_at hl 0 rfl) ?_
  refine lv_iload_n hx hb dL_room_3 rfl (lv_at hl 1 rfl) ?_
  refine vx_calli (A1 := (fun _ => False)) (free := A) (vx_runV (As := [.int x1]) (rest := [.int 0, .ref o]) S0 (c_X4_room (nv := 0) l hst A D ac dE _ hP hI.w x1) (cwV 1 hts gL_room_X4_room rfl rfl rfl (by decide +kernel) ⟨Nat.le_of_ble_eq_true rfl, Nat.le_of_ble_eq_true rfl⟩) ⟨fun a U g mk q => ⟨q.1, tkX.blind U g mk a q.2⟩, tk_recv hK hM hP.h rfl, fun U hU hW => ⟨rfl, tkX.at hM hK hA hF hO va_S.rf U hU hW⟩⟩ rfl rfl hl.1 rfl (lv_room (Nat.le_of_ble_eq_true rfl)) dL_room_4 ⟨Nat.le_of_ble_eq_true rfl, Nat.le_of_ble_eq_true rfl⟩) hS (fun q _ h => h.elim) (fun q h => Or.inl h) (fun q _ h => h.elim) (fun E ce q9 u9 t H locs ht hal _ hX hz hq hS hce hcv hcl => ?_) (fun r G9 t H locs ht hal hp hBB hz hq hS => ?_)
  · have hM := hM.keptE (fun q h9 => hq q h9 (fun z => z))
    have hMo := hMo.keptE (fun q h9 => hq q h9 (fun z => z))
    rw [eq_room hI] at hX
    rcases List.mem_cons.mp hX with h9 | hX
    · obtain ⟨e9, hc9⟩ := Prod.mk.inj h9
      subst e9
      refine vx_catch (name := "java/lang/IndexOutOfBoundsException") hown [] ⟨0, 9, 12, 13⟩ [⟨0, 9, 15, 48⟩] htab (fun _ h => absurd h List.not_mem_nil) (by decide) (by decide) (hts (.classLink RL 13 "java/lang/IndexOutOfBoundsException") (by decide +kernel)) (va_Nw.use rfl (hF.2.2.2 ("java/lang/IndexOutOfBoundsException", "java/lang/IndexOutOfBoundsException") (by decide))) hce hcv hcl ?_
      refine lv_astore_n (lv' := [(3, .ref q9), (0, .ref h0), (1, .int x1), (2, .ref o)]) hx hb dL_room_12 rfl hl (by decide) rfl (fun ls hl => ?_)
      refine lv_iconst (v := 1) hx hb dL_room_13 (by decide) ?_
      refine vx_ret ?_
      refine W.widen (k := 2) (n := 12) (Nat.le_of_ble_eq_true rfl) (Nat.le_of_ble_eq_true rfl) ?_
      exact W.iret (v := 1) hx hb hr (fun t9 h8 w9 => ⟨⟨1, (G, f), rfl, ⟨hc9.symm, fun z => absurd (hc9.symm.trans z) (by decide), ⟨α, (by rw [rd_room]; exact hP)⟩⟩, by dsimp only; rw [h8]; exact ⟨hM, hMo⟩⟩, hS.F h8⟩) hS.2.2 dL_room_14
    have h9 := List.mem_singleton.mp hX
    obtain ⟨e9, hc9⟩ := Prod.mk.inj h9
    subst e9
    refine vx_catch (name := "java/util/NoSuchElementException") hown [⟨0, 9, 12, 13⟩] ⟨0, 9, 15, 48⟩ [] htab (List.forall_mem_cons.mpr ⟨Or.inr ⟨by decide, "java/lang/IndexOutOfBoundsException", (hts (.classLink RL 13 "java/lang/IndexOutOfBoundsException") (by decide +kernel)), hNc ("java/util/NoSuchElementException", "java/lang/IndexOutOfBoundsException") (by decide)⟩, (fun _ h => absurd h List.not_mem_nil)⟩) (by decide) (by decide) (hts (.classLink RL 48 "java/util/NoSuchElementException") (by decide +kernel)) (va_Nw.use rfl (hF.2.2.2 ("java/util/NoSuchElementException", "java/util/NoSuchElementException") (by decide))) hce hcv hcl ?_
    refine lv_astore_n (lv' := [(3, .ref q9), (0, .ref h0), (1, .int x1), (2, .ref o)]) hx hb dL_room_15 rfl hl (by decide) rfl (fun ls hl => ?_)
    refine lv_iconst (v := 2) hx hb dL_room_16 (by decide) ?_
    refine vx_ret ?_
    refine W.widen (k := 2) (n := 12) (Nat.le_of_ble_eq_true rfl) (Nat.le_of_ble_eq_true rfl) ?_
    exact W.iret (v := 2) hx hb hr (fun t9 h8 w9 => ⟨⟨2, (G, f), rfl, ⟨hc9.symm, fun z => absurd (hc9.symm.trans z) (by decide), ⟨α, (by rw [rd_room]; exact hP)⟩⟩, by dsimp only; rw [h8]; exact ⟨hM, hMo⟩⟩, hS.F h8⟩) hS.2.2 dL_room_17
  · rw [eq_room hI] at hp
    obtain ⟨h1, hr9⟩ := hp
    have hM := hM.keptE (fun q h9 => hq q h9 (fun z => z))
    have hMo := hMo.keptE (fun q h9 => hq q h9 (fun z => z))
    have hP9 : PX ac dE h0 α (S_room M x1).2.1 (nV (S_room M x1).2.1) G := by rw [rd_room]; exact hP
    have hMc := hM.un hMo hoA
    refine lv_i2l hx hb dL_room_7 rfl ?_
    refine tk_last hx hb hK hMc hS 4 (va_up_self _ _ _) rfl (by unfold vp_in; decide) dL_room_8 (fun H locs hM2 hS => ?_)
    rw [va_up2] at hM2
    obtain ⟨hM3, hMo3⟩ := hM2.cut hoA (fun a e9 h9 => hM.isA h9)
    refine lv_goto (tgt := 18) hx hb dL_room_9 (by decide) ?_
    refine lv_iconst (v := 0) hx hb dL_room_18 (by decide) ?_
    refine vx_ret ?_
    refine W.widen (k := 2) (n := 12) (Nat.le_of_ble_eq_true rfl) (Nat.le_of_ble_eq_true rfl) ?_
    exact W.iret (v := 0) hx hb hr (fun t9 h8 w9 => ⟨⟨0, (G, vp_updL f 0 (r.toInt64)), rfl, ⟨h1.symm, fun _ => (by rw [hr9]; rfl), ⟨α, hP9⟩⟩, by dsimp only; rw [h8]; exact ⟨hM3, hMo3⟩⟩, hS.F h8⟩) hS.2.2 dL_room_19
set_option maxHeartbeats 4000000 in
set_option maxRecDepth 100000 in
theorem c_L_setRate (l : Launch) (hst : l.stackTraces = false) (A : Nat → Prop) (o : Nat) (D : va_G) (ac : Nat → ClassId) (dE : Nat) (G : TG) {h0 : Nat} {α : Nat → Nat → Nat} {M : TS} (hP : PX ac dE h0 α M (nV M) G) (hI : IV M) (f : Nat → Int64) (x1 x2 : Int32) : vx_Met l yL_setRate wsL_setRate ({ frames := 10, cells := 1, slots := 6, locals := 600 } : Room) (va_Pc [.ref h0, .int x1, .int x2, .ref o] (tkW A o D ac dE G (oGL ac o f))) (va_Qi (fun (z : Int32) (u : TG × (Nat → Int64)) => z = (S_setRate M x1 x2).1 ∧ ((S_setRate M x1 x2).1 = 0 → u.2 0 = (S_setRate M x1 x2).2.2.toInt64) ∧ ∃ α9 : Nat → Nat → Nat, PX ac dE h0 α9 (S_setRate M x1 x2).2.1 (nV (S_setRate M x1 x2).2.1) u.1) (fun (u : TG × (Nat → Int64)) t => tkM A D u.1 t.heap ∧ tkM (fun q => q = o) D (oGL ac o u.2) t.heap) (fun q => A q ∨ q = o)) (XG (fun _ => False)) 1 6 (fun q => A q ∨ q = o) := by
  refine vx_ofWH (cc := cL_setRate) (maxL := 5) (ret := (some .int)) (hh := [(0, 10, 13, 15)]) (by decide) rfl ?_
  intro p e s m args below meth c s₁ B hml hv
  obtain ⟨rfl, ⟨⟨hM, hK, hA, hF⟩, hO⟩, hMo, hoA, hNc⟩ := hv
  have hS : va_S (fun q => A q ∨ q = o) s.heap s.heap [] := va_S.rf
  have hx := B.exec
  have hb := B.bytes
  have hr := B.returns
  have hts := atoms_spec (ws := wsL_setRate) B.pre
  have htab : c.exceptionTable.toList = tableOf [(0, 10, 13, 15)] := vx_table (x := yL_setRate) B (hts _ List.mem_cons_self)
  have hown : s.vm.findClass RL = some m.cls := findClass_of_methodNamed B.named
  have hlocks := B.notSynchronized
  have S0 : CallFix p m c cL_setRate 5 s ([.ref h0, .int x1, .int x2, .ref o] : List Value).toArray wsL_setRate RL := ⟨hx, hb, hml, hown, hts⟩
  have hl := lv_entry ([.ref h0, .int x1, .int x2, .ref o]) (n := 5) (Nat.le_of_ble_eq_true rfl)
  rw [lg_entry_eq]
  generalize (lg_sl ([.ref h0, .int x1, .int x2, .ref o]) ++ List.replicate (5 - (lg_sl ([.ref h0, .int x1, .int x2, .ref o])).length) Slot.unset).toArray = ls at hl ⊢
  have hl : lv_has ls 5 [(0, .ref h0), (1, .int x1), (2, .int x2), (3, .ref o)] := hl
  refine lv_aload_n hx hb dL_setRate_0 rfl (lv_at hl 3 rfl) ?_
  refine lv_iconst (v := 0) hx hb dL_setRate_1 (by decide) ?_
  refine lv_aload_n hx hb dL_setRate_2 rfl (lv_at hl 0 rfl) ?_
  refine lv_iload_n hx hb dL_setRate_3 rfl (lv_at hl 1 rfl) ?_
  refine lv_iload_n hx hb dL_setRate_4 rfl (lv_at hl 2 rfl) ?_
  refine vx_calli (A1 := A) (free := A) (vx_runV (As := [.int x1, .int x2]) (rest := [.int 0, .ref o]) S0 (c_X4_setRate (nv := 0) l hst A D ac dE _ hP hI.w x1 x2) (cwV 2 hts gL_setRate_X4_setRate rfl rfl rfl (by decide +kernel) ⟨Nat.le_of_ble_eq_true rfl, Nat.le_of_ble_eq_true rfl⟩) ⟨fun a U g mk q => ⟨q.1, tkX.blind U g mk a q.2⟩, tk_recv hK hM hP.h rfl, fun U hU hW => ⟨rfl, tkX.at hM hK hA hF hO va_S.rf U hU hW⟩⟩ rfl rfl hl.1 rfl (lv_room (Nat.le_of_ble_eq_true rfl)) dL_setRate_5 ⟨Nat.le_of_ble_eq_true rfl, Nat.le_of_ble_eq_true rfl⟩) hS (fun q _ h => Or.inl h) (fun q h => Or.inl h) (fun q _ h => h.elim) (fun E ce q9 u9 t H locs ht hal _ hX hz hq hS hce hcv hcl => ?_) (fun r G9 t H locs ht hal hp hBB hz hq hS => ?_)
  · have hM := hM.keptE (fun q h9 => hq q h9 (fun z => z))
    have hMo := hMo.keptE (fun q h9 => hq q h9 (fun z => z))
    have h9 := List.mem_singleton.mp hX
    obtain ⟨e9, hc9⟩ := Prod.mk.inj h9
    subst e9
    refine vx_catch (name := "java/lang/IllegalArgumentException") hown [] ⟨0, 10, 13, 15⟩ [] htab (fun _ h => absurd h List.not_mem_nil) (by decide) (by decide) (hts (.classLink RL 15 "java/lang/IllegalArgumentException") (by decide +kernel)) (va_Nw.use rfl (hF.2.2.2 ("java/lang/IllegalArgumentException", "java/lang/IllegalArgumentException") (by decide))) hce hcv hcl ?_
    refine lv_astore (lv' := [(4, .ref q9), (0, .ref h0), (1, .int x1), (2, .int x2), (3, .ref o)]) hx hb dL_setRate_13 hl (by decide) rfl (fun ls hl => ?_)
    refine lv_iconst (v := 1) hx hb dL_setRate_15 (by decide) ?_
    refine vx_ret ?_
    refine W.widen (k := 1) (n := 6) (Nat.le_of_ble_eq_true rfl) (Nat.le_of_ble_eq_true rfl) ?_
    exact W.iret (v := 1) hx hb hr (fun t9 h8 w9 => ⟨⟨1, (G, f), rfl, ⟨hc9.symm, fun z => absurd (hc9.symm.trans z) (by decide), ⟨α, (by rw [ne_setRate (fun z => absurd (hc9.symm.trans z) (by decide))]; exact hP)⟩⟩, by dsimp only; rw [h8]; exact ⟨hM, hMo⟩⟩, hS.F h8⟩) hS.2.2 dL_setRate_16
  · obtain ⟨h1, ⟨α9, hP9⟩, hr9⟩ := hp
    have hM : tkM A D G9 H := by rw [← ht]; exact hBB
    have hMo := hMo.kept (H1 := H) (fun q h2 h3 => hq q h2 (by rw [h3]; exact hoA))
    have hMc := hM.un hMo hoA
    refine lv_i2l hx hb dL_setRate_8 rfl ?_
    refine tk_last hx hb hK hMc hS 4 (va_up_self _ _ _) rfl (by unfold vp_in; decide) dL_setRate_9 (fun H locs hM2 hS => ?_)
    rw [va_up2] at hM2
    obtain ⟨hM3, hMo3⟩ := hM2.cut hoA (fun a e9 h9 => hM.isA h9)
    refine lv_goto (tgt := 17) hx hb dL_setRate_10 (by decide) ?_
    refine lv_iconst (v := 0) hx hb dL_setRate_17 (by decide) ?_
    refine vx_ret ?_
    refine W.widen (k := 1) (n := 6) (Nat.le_of_ble_eq_true rfl) (Nat.le_of_ble_eq_true rfl) ?_
    exact W.iret (v := 0) hx hb hr (fun t9 h8 w9 => ⟨⟨0, (G9, vp_updL f 0 (r.toInt64)), rfl, ⟨h1.symm, fun _ => (by rw [hr9]; rfl), ⟨α9, hP9⟩⟩, by dsimp only; rw [h8]; exact ⟨hM3, hMo3⟩⟩, hS.F h8⟩) hS.2.2 dL_setRate_18
set_option maxHeartbeats 4000000 in
set_option maxRecDepth 100000 in
theorem c_L_setCap (l : Launch) (hst : l.stackTraces = false) (A : Nat → Prop) (o : Nat) (D : va_G) (ac : Nat → ClassId) (dE : Nat) (G : TG) {h0 : Nat} {α : Nat → Nat → Nat} {M : TS} (hP : PX ac dE h0 α M (nV M) G) (hI : IV M) (f : Nat → Int64) (x1 : Int32) : vx_Met l yL_setCap wsL_setCap ({ frames := 10, cells := 1, slots := 6, locals := 600 } : Room) (va_Pc [.ref h0, .int x1, .ref o] (tkW A o D ac dE G (oGL ac o f))) (va_Qi (fun (z : Int32) (u : TG × (Nat → Int64)) => z = (S_setCap M x1).1 ∧ ((S_setCap M x1).1 = 0 → u.2 0 = (S_setCap M x1).2.2.toInt64) ∧ ∃ α9 : Nat → Nat → Nat, PX ac dE h0 α9 (S_setCap M x1).2.1 (nV (S_setCap M x1).2.1) u.1) (fun (u : TG × (Nat → Int64)) t => tkM A D u.1 t.heap ∧ tkM (fun q => q = o) D (oGL ac o u.2) t.heap) (fun q => A q ∨ q = o)) (XG (fun _ => False)) 1 6 (fun q => A q ∨ q = o) := by
  refine vx_ofWH (cc := cL_setCap) (maxL := 4) (ret := (some .int)) (hh := [(0, 9, 12, 15)]) (by decide) rfl ?_
  intro p e s m args below meth c s₁ B hml hv
  obtain ⟨rfl, ⟨⟨hM, hK, hA, hF⟩, hO⟩, hMo, hoA, hNc⟩ := hv
  have hS : va_S (fun q => A q ∨ q = o) s.heap s.heap [] := va_S.rf
  have hx := B.exec
  have hb := B.bytes
  have hr := B.returns
  have hts := atoms_spec (ws := wsL_setCap) B.pre
  have htab : c.exceptionTable.toList = tableOf [(0, 9, 12, 15)] := vx_table (x := yL_setCap) B (hts _ List.mem_cons_self)
  have hown : s.vm.findClass RL = some m.cls := findClass_of_methodNamed B.named
  have hlocks := B.notSynchronized
  have S0 : CallFix p m c cL_setCap 4 s ([.ref h0, .int x1, .ref o] : List Value).toArray wsL_setCap RL := ⟨hx, hb, hml, hown, hts⟩
  have hl := lv_entry ([.ref h0, .int x1, .ref o]) (n := 4) (Nat.le_of_ble_eq_true rfl)
  rw [lg_entry_eq]
  generalize (lg_sl ([.ref h0, .int x1, .ref o]) ++ List.replicate (4 - (lg_sl ([.ref h0, .int x1, .ref o])).length) Slot.unset).toArray = ls at hl ⊢
  have hl : lv_has ls 4 [(0, .ref h0), (1, .int x1), (2, .ref o)] := hl
  refine lv_aload_n hx hb dL_setCap_0 rfl (lv_at hl 2 rfl) ?_
  refine lv_iconst (v := 0) hx hb dL_setCap_1 (by decide) ?_
  refine lv_aload_n hx hb dL_setCap_2 rfl (lv_at hl 0 rfl) ?_
  refine lv_iload_n hx hb dL_setCap_3 rfl (lv_at hl 1 rfl) ?_
  refine vx_calli (A1 := A) (free := A) (vx_runV (As := [.int x1]) (rest := [.int 0, .ref o]) S0 (c_X4_setCap (nv := 0) l hst A D ac dE _ hP hI.w x1) (cwV 1 hts gL_setCap_X4_setCap rfl rfl rfl (by decide +kernel) ⟨Nat.le_of_ble_eq_true rfl, Nat.le_of_ble_eq_true rfl⟩) ⟨fun a U g mk q => ⟨q.1, tkX.blind U g mk a q.2⟩, tk_recv hK hM hP.h rfl, fun U hU hW => ⟨rfl, tkX.at hM hK hA hF hO va_S.rf U hU hW⟩⟩ rfl rfl hl.1 rfl (lv_room (Nat.le_of_ble_eq_true rfl)) dL_setCap_4 ⟨Nat.le_of_ble_eq_true rfl, Nat.le_of_ble_eq_true rfl⟩) hS (fun q _ h => Or.inl h) (fun q h => Or.inl h) (fun q _ h => h.elim) (fun E ce q9 u9 t H locs ht hal _ hX hz hq hS hce hcv hcl => ?_) (fun r G9 t H locs ht hal hp hBB hz hq hS => ?_)
  · have hM := hM.keptE (fun q h9 => hq q h9 (fun z => z))
    have hMo := hMo.keptE (fun q h9 => hq q h9 (fun z => z))
    have h9 := List.mem_singleton.mp hX
    obtain ⟨e9, hc9⟩ := Prod.mk.inj h9
    subst e9
    refine vx_catch (name := "java/lang/IllegalArgumentException") hown [] ⟨0, 9, 12, 15⟩ [] htab (fun _ h => absurd h List.not_mem_nil) (by decide) (by decide) (hts (.classLink RL 15 "java/lang/IllegalArgumentException") (by decide +kernel)) (va_Nw.use rfl (hF.2.2.2 ("java/lang/IllegalArgumentException", "java/lang/IllegalArgumentException") (by decide))) hce hcv hcl ?_
    refine lv_astore_n (lv' := [(3, .ref q9), (0, .ref h0), (1, .int x1), (2, .ref o)]) hx hb dL_setCap_12 rfl hl (by decide) rfl (fun ls hl => ?_)
    refine lv_iconst (v := 1) hx hb dL_setCap_13 (by decide) ?_
    refine vx_ret ?_
    refine W.widen (k := 1) (n := 6) (Nat.le_of_ble_eq_true rfl) (Nat.le_of_ble_eq_true rfl) ?_
    exact W.iret (v := 1) hx hb hr (fun t9 h8 w9 => ⟨⟨1, (G, f), rfl, ⟨hc9.symm, fun z => absurd (hc9.symm.trans z) (by decide), ⟨α, (by rw [ne_setCap (fun z => absurd (hc9.symm.trans z) (by decide))]; exact hP)⟩⟩, by dsimp only; rw [h8]; exact ⟨hM, hMo⟩⟩, hS.F h8⟩) hS.2.2 dL_setCap_14
  · obtain ⟨h1, ⟨α9, hP9⟩, hr9⟩ := hp
    have hM : tkM A D G9 H := by rw [← ht]; exact hBB
    have hMo := hMo.kept (H1 := H) (fun q h2 h3 => hq q h2 (by rw [h3]; exact hoA))
    have hMc := hM.un hMo hoA
    refine lv_i2l hx hb dL_setCap_7 rfl ?_
    refine tk_last hx hb hK hMc hS 4 (va_up_self _ _ _) rfl (by unfold vp_in; decide) dL_setCap_8 (fun H locs hM2 hS => ?_)
    rw [va_up2] at hM2
    obtain ⟨hM3, hMo3⟩ := hM2.cut hoA (fun a e9 h9 => hM.isA h9)
    refine lv_goto (tgt := 15) hx hb dL_setCap_9 (by decide) ?_
    refine lv_iconst (v := 0) hx hb dL_setCap_15 (by decide) ?_
    refine vx_ret ?_
    refine W.widen (k := 1) (n := 6) (Nat.le_of_ble_eq_true rfl) (Nat.le_of_ble_eq_true rfl) ?_
    exact W.iret (v := 0) hx hb hr (fun t9 h8 w9 => ⟨⟨0, (G9, vp_updL f 0 (r.toInt64)), rfl, ⟨h1.symm, fun _ => (by rw [hr9]; rfl), ⟨α9, hP9⟩⟩, by dsimp only; rw [h8]; exact ⟨hM3, hMo3⟩⟩, hS.F h8⟩) hS.2.2 dL_setCap_16
set_option maxHeartbeats 4000000 in
set_option maxRecDepth 100000 in
theorem c_L_setDiscount (l : Launch) (hst : l.stackTraces = false) (A : Nat → Prop) (o : Nat) (D : va_G) (ac : Nat → ClassId) (dE : Nat) (G : TG) {h0 : Nat} {α : Nat → Nat → Nat} {M : TS} (hP : PX ac dE h0 α M (nV M) G) (hI : IV M) (f : Nat → Int64) (x1 x2 : Int32) : vx_Met l yL_setDiscount wsL_setDiscount ({ frames := 10, cells := 1, slots := 6, locals := 600 } : Room) (va_Pc [.ref h0, .int x1, .int x2, .ref o] (tkW A o D ac dE G (oGL ac o f))) (va_Qi (fun (z : Int32) (u : TG × (Nat → Int64)) => z = (S_setDiscount M x1 x2).1 ∧ ((S_setDiscount M x1 x2).1 = 0 → u.2 0 = (S_setDiscount M x1 x2).2.2.toInt64) ∧ ∃ α9 : Nat → Nat → Nat, PX ac dE h0 α9 (S_setDiscount M x1 x2).2.1 (nV (S_setDiscount M x1 x2).2.1) u.1) (fun (u : TG × (Nat → Int64)) t => tkM A D u.1 t.heap ∧ tkM (fun q => q = o) D (oGL ac o u.2) t.heap) (fun q => A q ∨ q = o)) (XG (fun _ => False)) 1 6 (fun q => A q ∨ q = o) := by
  refine vx_ofWH (cc := cL_setDiscount) (maxL := 5) (ret := (some .int)) (hh := [(0, 10, 13, 15)]) (by decide) rfl ?_
  intro p e s m args below meth c s₁ B hml hv
  obtain ⟨rfl, ⟨⟨hM, hK, hA, hF⟩, hO⟩, hMo, hoA, hNc⟩ := hv
  have hS : va_S (fun q => A q ∨ q = o) s.heap s.heap [] := va_S.rf
  have hx := B.exec
  have hb := B.bytes
  have hr := B.returns
  have hts := atoms_spec (ws := wsL_setDiscount) B.pre
  have htab : c.exceptionTable.toList = tableOf [(0, 10, 13, 15)] := vx_table (x := yL_setDiscount) B (hts _ List.mem_cons_self)
  have hown : s.vm.findClass RL = some m.cls := findClass_of_methodNamed B.named
  have hlocks := B.notSynchronized
  have S0 : CallFix p m c cL_setDiscount 5 s ([.ref h0, .int x1, .int x2, .ref o] : List Value).toArray wsL_setDiscount RL := ⟨hx, hb, hml, hown, hts⟩
  have hl := lv_entry ([.ref h0, .int x1, .int x2, .ref o]) (n := 5) (Nat.le_of_ble_eq_true rfl)
  rw [lg_entry_eq]
  generalize (lg_sl ([.ref h0, .int x1, .int x2, .ref o]) ++ List.replicate (5 - (lg_sl ([.ref h0, .int x1, .int x2, .ref o])).length) Slot.unset).toArray = ls at hl ⊢
  have hl : lv_has ls 5 [(0, .ref h0), (1, .int x1), (2, .int x2), (3, .ref o)] := hl
  refine lv_aload_n hx hb dL_setDiscount_0 rfl (lv_at hl 3 rfl) ?_
  refine lv_iconst (v := 0) hx hb dL_setDiscount_1 (by decide) ?_
  refine lv_aload_n hx hb dL_setDiscount_2 rfl (lv_at hl 0 rfl) ?_
  refine lv_iload_n hx hb dL_setDiscount_3 rfl (lv_at hl 1 rfl) ?_
  refine lv_iload_n hx hb dL_setDiscount_4 rfl (lv_at hl 2 rfl) ?_
  refine vx_calli (A1 := A) (free := A) (vx_runV (As := [.int x1, .int x2]) (rest := [.int 0, .ref o]) S0 (c_X4_setDiscount (nv := 0) l hst A D ac dE _ hP hI.w x1 x2) (cwV 2 hts gL_setDiscount_X4_setDiscount rfl rfl rfl (by decide +kernel) ⟨Nat.le_of_ble_eq_true rfl, Nat.le_of_ble_eq_true rfl⟩) ⟨fun a U g mk q => ⟨q.1, tkX.blind U g mk a q.2⟩, tk_recv hK hM hP.h rfl, fun U hU hW => ⟨rfl, tkX.at hM hK hA hF hO va_S.rf U hU hW⟩⟩ rfl rfl hl.1 rfl (lv_room (Nat.le_of_ble_eq_true rfl)) dL_setDiscount_5 ⟨Nat.le_of_ble_eq_true rfl, Nat.le_of_ble_eq_true rfl⟩) hS (fun q _ h => Or.inl h) (fun q h => Or.inl h) (fun q _ h => h.elim) (fun E ce q9 u9 t H locs ht hal _ hX hz hq hS hce hcv hcl => ?_) (fun r G9 t H locs ht hal hp hBB hz hq hS => ?_)
  · have hM := hM.keptE (fun q h9 => hq q h9 (fun z => z))
    have hMo := hMo.keptE (fun q h9 => hq q h9 (fun z => z))
    have h9 := List.mem_singleton.mp hX
    obtain ⟨e9, hc9⟩ := Prod.mk.inj h9
    subst e9
    refine vx_catch (name := "java/lang/IllegalArgumentException") hown [] ⟨0, 10, 13, 15⟩ [] htab (fun _ h => absurd h List.not_mem_nil) (by decide) (by decide) (hts (.classLink RL 15 "java/lang/IllegalArgumentException") (by decide +kernel)) (va_Nw.use rfl (hF.2.2.2 ("java/lang/IllegalArgumentException", "java/lang/IllegalArgumentException") (by decide))) hce hcv hcl ?_
    refine lv_astore (lv' := [(4, .ref q9), (0, .ref h0), (1, .int x1), (2, .int x2), (3, .ref o)]) hx hb dL_setDiscount_13 hl (by decide) rfl (fun ls hl => ?_)
    refine lv_iconst (v := 1) hx hb dL_setDiscount_15 (by decide) ?_
    refine vx_ret ?_
    refine W.widen (k := 1) (n := 6) (Nat.le_of_ble_eq_true rfl) (Nat.le_of_ble_eq_true rfl) ?_
    exact W.iret (v := 1) hx hb hr (fun t9 h8 w9 => ⟨⟨1, (G, f), rfl, ⟨hc9.symm, fun z => absurd (hc9.symm.trans z) (by decide), ⟨α, (by rw [ne_setDiscount (fun z => absurd (hc9.symm.trans z) (by decide))]; exact hP)⟩⟩, by dsimp only; rw [h8]; exact ⟨hM, hMo⟩⟩, hS.F h8⟩) hS.2.2 dL_setDiscount_16
  · obtain ⟨h1, ⟨α9, hP9⟩, hr9⟩ := hp
    have hM : tkM A D G9 H := by rw [← ht]; exact hBB
    have hMo := hMo.kept (H1 := H) (fun q h2 h3 => hq q h2 (by rw [h3]; exact hoA))
    have hMc := hM.un hMo hoA
    refine lv_i2l hx hb dL_setDiscount_8 rfl ?_
    refine tk_last hx hb hK hMc hS 4 (va_up_self _ _ _) rfl (by unfold vp_in; decide) dL_setDiscount_9 (fun H locs hM2 hS => ?_)
    rw [va_up2] at hM2
    obtain ⟨hM3, hMo3⟩ := hM2.cut hoA (fun a e9 h9 => hM.isA h9)
    refine lv_goto (tgt := 17) hx hb dL_setDiscount_10 (by decide) ?_
    refine lv_iconst (v := 0) hx hb dL_setDiscount_17 (by decide) ?_
    refine vx_ret ?_
    refine W.widen (k := 1) (n := 6) (Nat.le_of_ble_eq_true rfl) (Nat.le_of_ble_eq_true rfl) ?_
    exact W.iret (v := 0) hx hb hr (fun t9 h8 w9 => ⟨⟨0, (G9, vp_updL f 0 (r.toInt64)), rfl, ⟨h1.symm, fun _ => (by rw [hr9]; rfl), ⟨α9, hP9⟩⟩, by dsimp only; rw [h8]; exact ⟨hM3, hMo3⟩⟩, hS.F h8⟩) hS.2.2 dL_setDiscount_18
