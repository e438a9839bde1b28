/-! the law: base -/
theorem ne_addTask {M : TS} {p es bu : Int32} : ¬ (S_addTask M p es bu).1 = 0 → (S_addTask M p es bu).2.1 = M := by
  unfold S_addTask
  repeat' split
  all_goals first | exact fun _ => rfl | exact fun h => absurd rfl h
theorem ne_block {M : TS} {x y : Int32} : ¬ (S_block M x y).1 = 0 → (S_block M x y).2.1 = M := by
  unfold S_block
  repeat' split
  all_goals first | exact fun _ => rfl | exact fun h => absurd rfl h
theorem ne_begin {M : TS} {x : Int32} : ¬ (S_begin M x).1 = 0 → (S_begin M x).2.1 = M := by
  unfold S_begin
  repeat' split
  all_goals first | exact fun _ => rfl | exact fun h => absurd rfl h
theorem ne_propose {M : TS} {x : Int32} : ¬ (S_propose M x).1 = 0 → (S_propose M x).2.1 = M := by
  unfold S_propose
  repeat' split
  all_goals first | exact fun _ => rfl | exact fun h => absurd rfl h
theorem ne_reject {M : TS} {x : Int32} : ¬ (S_reject M x).1 = 0 → (S_reject M x).2.1 = M := by
  unfold S_reject
  repeat' split
  all_goals first | exact fun _ => rfl | exact fun h => absurd rfl h
theorem ne_merge {M : TS} {x : Int32} : ¬ (S_merge M x).1 = 0 → (S_merge M x).2.1 = M := by
  unfold S_merge
  repeat' split
  all_goals first | exact fun _ => rfl | exact fun h => absurd rfl h
theorem ne_reopen {M : TS} {x : Int32} : ¬ (S_reopen M x).1 = 0 → (S_reopen M x).2.1 = M := by
  unfold S_reopen
  repeat' split
  all_goals first | exact fun _ => rfl | exact fun h => absurd rfl h
theorem ne_note {M : TS} {x p w h : Int32} : ¬ (S_note M x p w h).1 = 0 → (S_note M x p w h).2.1 = M := by
  unfold S_note
  repeat' split
  all_goals first | exact fun _ => rfl | exact fun h => absurd rfl h
theorem ne_approve {M : TS} {x : Int32} : ¬ (S_approve M x).1 = 0 → (S_approve M x).2.1 = M := by
  unfold S_approve
  repeat' split
  all_goals first | exact fun _ => rfl | exact fun h => absurd rfl h
theorem ne_lock {M : TS} {w : Int32} : ¬ (S_lock M w).1 = 0 → (S_lock M w).2.1 = M := by
  unfold S_lock
  repeat' split
  all_goals first | exact fun _ => rfl | exact fun h => absurd rfl h
theorem ne_setRate {M : TS} {p r : Int32} : ¬ (S_setRate M p r).1 = 0 → (S_setRate M p r).2.1 = M := by
  unfold S_setRate
  repeat' split
  all_goals first | exact fun _ => rfl | exact fun h => absurd rfl h
theorem ne_setCap {M : TS} {h : Int32} : ¬ (S_setCap M h).1 = 0 → (S_setCap M h).2.1 = M := by
  unfold S_setCap
  repeat' split
  all_goals first | exact fun _ => rfl | exact fun h => absurd rfl h
theorem ne_setDiscount {M : TS} {f q : Int32} : ¬ (S_setDiscount M f q).1 = 0 → (S_setDiscount M f q).2.1 = M := by
  unfold S_setDiscount
  repeat' split
  all_goals first | exact fun _ => rfl | exact fun h => absurd rfl h
theorem ne_invoice {M : TS} {x w : Int32} : ¬ (S_invoice M x w).1 = 0 → (S_invoice M x w).2.1 = M := by
  unfold S_invoice
  repeat' split
  all_goals first | exact fun _ => rfl | exact fun h => absurd rfl h
theorem rd_state {M : TS} {x : Int32} : (S_state M x).2.1 = M := by
  unfold S_state
  repeat' split
  all_goals rfl
theorem rd_parent {M : TS} {x : Int32} : (S_parent M x).2.1 = M := by
  unfold S_parent
  repeat' split
  all_goals rfl
theorem rd_treeSize {M : TS} {x : Int32} : (S_treeSize M x).2.1 = M := by
  unfold S_treeSize
  repeat' split
  all_goals rfl
theorem rd_canBegin {M : TS} {x : Int32} : (S_canBegin M x).2.1 = M := by
  unfold S_canBegin
  repeat' split
  all_goals rfl
theorem rd_entryState {M : TS} {x : Int32} : (S_entryState M x).2.1 = M := by
  unfold S_entryState
  repeat' split
  all_goals rfl
theorem rd_price {M : TS} {x : Int32} : (S_price M x).2.1 = M := by
  unfold S_price
  repeat' split
  all_goals rfl
theorem rd_invoiceOf {M : TS} {x : Int32} : (S_invoiceOf M x).2.1 = M := by
  unfold S_invoiceOf
  repeat' split
  all_goals rfl
theorem rd_hours {M : TS} {x : Int32} : (S_hours M x).2.1 = M := by
  unfold S_hours
  repeat' split
  all_goals rfl
theorem rd_room {M : TS} {x : Int32} : (S_room M x).2.1 = M := by
  unfold S_room
  repeat' split
  all_goals rfl
theorem rd_total {M : TS} {x : Int32} : (S_total M x).2.1 = M := by
  unfold S_total
  repeat' split
  all_goals rfl
theorem rd_credited {M : TS} {x : Int32} : (S_credited M x).2.1 = M := by
  unfold S_credited
  repeat' split
  all_goals rfl
theorem rd_items {M : TS} {x : Int32} : (S_items M x).2.1 = M := by
  unfold S_items
  repeat' split
  all_goals rfl
theorem rd_left {M : TS} {x : Int32} : (S_left M x).2.1 = M := by
  unfold S_left
  repeat' split
  all_goals rfl
theorem rd_pace {M : TS} {w : Int32} : (S_pace M w).2.1 = M := by
  unfold S_pace
  repeat' split
  all_goals rfl
theorem rd_forecast {M : TS} {x w : Int32} : (S_forecast M x w).2.1 = M := by
  unfold S_forecast
  repeat' split
  all_goals rfl
theorem rd_meanPrice {M : TS} : (S_meanPrice M).2.1 = M := by
  unfold S_meanPrice
  repeat' split
  all_goals rfl
theorem pace_n {M : TS} {w : Int32} (h : (S_pace M w).1 = 0) : vf_n32 (S_pace M w).2.2 := by
  unfold S_pace at h ⊢
  split at h
  · exact absurd (show (1 : Int32) = 0 from h) (by decide)
  · rename_i c
    rw [if_neg c]
    exact fl_pace _
theorem mean_n {M : TS} (h : (S_meanPrice M).1 = 0) : vf_n64 (S_meanPrice M).2.2 := by
  unfold S_meanPrice at h ⊢
  split at h
  · rename_i c
    rw [if_pos c]
    exact fl_mean _ _ (fun z => by rw [z] at c; exact absurd c (by decide))
  · exact absurd (show (1 : Int32) = 0 from h) (by decide)
theorem dself {z : UInt64} (h : vf_n64 z) (op : CmpOp) : Op.cmpValue (FP.dcmp z z) op = 0 := by rw [fl_self h]; rfl
theorem lself (z : Int64) : lg_cmp z z = 0 := by simp [lg_cmp]
theorem m19_0 {M : TS} (h : IV M) : M 19 (nT M) = 0 := h.q.2.2 _ (Nat.le_refl _)
theorem m13_0 {M : TS} (h : IV M) : M 13 (nE M) = 0 := h.q.2.1 _ (Nat.le_refl _)
theorem m16_0 {M : TS} (h : IV M) : M 16 (nV M) = 0 := (h.q.1 _ (Nat.le_refl _)).1
theorem m17_0 {M : TS} (h : IV M) : M 17 (nV M) = 0 := (h.q.1 _ (Nat.le_refl _)).2.1
theorem IV_0 : IV (MI 4) := by
  have eT : nT (MI 4) = 0 := rfl
  have eE : nE (MI 4) = 0 := rfl
  have eV : nV (MI 4) = 0 := rfl
  refine ⟨⟨⟨⟨rfl, by decide⟩, ⟨rfl, by decide⟩, ⟨rfl, by decide⟩, ?_, ?_, ?_, ?_, fun _ => Or.inl rfl, fun _ => Or.inl rfl⟩, ?_, ?_, ?_⟩, ⟨?_, fun _ _ _ _ _ => rfl, ?_⟩, ⟨?_, ?_⟩, ⟨⟨fun _ _ => ⟨rfl, rfl, rfl⟩, fun _ _ => rfl, fun _ _ => rfl⟩, ?_, ?_, by decide⟩, ⟨0, by decide, rfl⟩⟩
  · intro t ht; exact absurd ht (Nat.not_lt_zero _)
  · intro k hk; exact absurd hk (Nat.not_lt_zero _)
  · intro k hk; exact absurd hk (Nat.not_lt_zero _)
  · intro k hk; exact absurd hk (Nat.not_lt_zero _)
  · intro t ht; exact absurd ht (Nat.not_lt_zero _)
  · intro k hk; exact absurd hk (Nat.not_lt_zero _)
  · intro k hk; exact absurd hk (Nat.not_lt_zero _)
  · intro t ht
    refine ⟨⟨0, by decide, rfl⟩, fun k hk => ?_⟩
    show hb 0 k = decide (¬ (0 : Int32) = 0)
    rw [hb_0 (by omega)]; rfl
  · intro w hw
    have : hb 0 w = false := hb_0 (by omega)
    exact this
  · intro k hk; exact absurd hk (Nat.not_lt_zero _)
  · intro t ht; exact absurd ht (Nat.not_lt_zero _)
  · intro v hv; exact absurd hv (Nat.not_lt_zero _)
  · intro p w; show (0 : Int32) ≤ 40; decide
/-! worlds cut and joined -/
theorem nd_of {A : Nat → Prop} {ws : va_W} (h : va_D A ws) : ws.Pairwise (fun p q => p.1 ≠ q.1) := by
  rw [List.pairwise_iff_getElem]
  intro i j hi hj hij e
  have := h.1 i j _ _ (List.getElem?_eq_getElem hi) (List.getElem?_eq_getElem hj) e
  omega
theorem nd_to {A : Nat → Prop} {ws : va_W} (h : ws.Pairwise (fun p q => p.1 ≠ q.1)) (hA : ∀ q ∈ ws, A q.1) : va_D A ws := by
  rw [List.pairwise_iff_getElem] at h
  refine ⟨fun i j p q hp hq e => ?_, fun k q hq => hA q (List.mem_of_getElem? hq)⟩
  obtain ⟨hi, ei⟩ := List.getElem?_eq_some_iff.mp hp
  obtain ⟨hj, ej⟩ := List.getElem?_eq_some_iff.mp hq
  rcases Nat.lt_trichotomy i j with z | z | z
  · exact absurd (by rw [ei, ej]; exact e) (h i j hi hj z)
  · exact z
  · exact absurd (by rw [ei, ej]; exact e.symm) (h j i hj hi z)
theorem tkM.part {A B : Nat → Prop} {D : va_G} {G G1 : TG} {H : Heap} (h : tkM A D G H) (hs : ∀ a e, G1 a = some e → G a = some e ∧ B a) : tkM B D G1 H := by
  classical
  obtain ⟨ws, hP, hD, hG⟩ := h
  refine ⟨ws.filter (fun q => decide (B q.1)), ?_, nd_to ((nd_of hD).filter _) (fun q hq => of_decide_eq_true (List.mem_filter.mp hq).2), fun a e he => ?_⟩
  · intro k q hk
    obtain ⟨j, hj⟩ := List.getElem?_of_mem (List.mem_filter.mp (List.mem_of_getElem? hk)).1
    exact hP j q hj
  · obtain ⟨h1, h2⟩ := hs a e he
    obtain ⟨k, hk⟩ := hG a e h1
    exact List.getElem?_of_mem (List.mem_filter.mpr ⟨List.mem_of_getElem? hk, decide_eq_true h2⟩)
theorem tkM.un {A : Nat → Prop} {o : Nat} {D : va_G} {G : TG} {H : Heap} {e0 : va_E} (h : tkM A D G H) (h1 : tkM (fun q => q = o) D (va_up (fun _ => none) o (some e0)) H) (ho : ¬ A o) : tkM (fun q => A q ∨ q = o) D (va_up G o (some e0)) H := by
  have hp1 := h1.one (va_up_self _ _ _)
  obtain ⟨ws, hP, hD, hG⟩ := h
  refine ⟨ws ++ [(o, e0)], ?_, nd_to (List.pairwise_append.mpr ⟨nd_of hD, List.pairwise_singleton _ _, fun a ha b hb e => ?_⟩) (fun q hq => ?_), fun a e he => ?_⟩
  · intro k q hk
    rcases List.mem_append.mp (List.mem_of_getElem? hk) with z | z
    · obtain ⟨j, hj⟩ := List.getElem?_of_mem z
      exact hP j q hj
    · cases List.mem_singleton.mp z
      exact hp1 0 _ rfl
  · cases List.mem_singleton.mp hb
    obtain ⟨j, hj⟩ := List.getElem?_of_mem ha
    have e2 : a.1 = o := e
    have h9 := hD.2 j a hj
    rw [e2] at h9
    exact ho h9
  · rcases List.mem_append.mp hq with z | z
    · obtain ⟨j, hj⟩ := List.getElem?_of_mem z
      exact Or.inl (hD.2 j q hj)
    · cases List.mem_singleton.mp z
      exact Or.inr rfl
  · by_cases ha : a = o
    · subst ha
      rw [va_up_self] at he
      cases he
      exact List.getElem?_of_mem (List.mem_append_right _ (List.mem_singleton.mpr rfl))
    · rw [va_up_ne _ _ ha] at he
      obtain ⟨k, hk⟩ := hG a e he
      exact List.getElem?_of_mem (List.mem_append_left _ (List.mem_of_getElem? hk))
theorem tkM.cut {A : Nat → Prop} {o : Nat} {D : va_G} {G : TG} {H : Heap} {e0 : va_E} (h : tkM (fun q => A q ∨ q = o) D (va_up G o (some e0)) H) (ho : ¬ A o) (hA : ∀ a e, G a = some e → A a) : tkM A D G H ∧ tkM (fun q => q = o) D (va_up (fun _ => none) o (some e0)) H := by
  refine ⟨h.part (fun a e he => ⟨?_, hA a e he⟩), h.part (fun a e he => ?_)⟩
  · have hne : a ≠ o := fun q => ho (by rw [← q]; exact hA a e he)
    rw [va_up_ne _ _ hne]; exact he
  · by_cases ha : a = o
    · subst ha
      rw [va_up_self] at he ⊢
      exact ⟨he, rfl⟩
    · rw [va_up_ne _ _ ha] at he; cases he
theorem tkM.one_o {o : Nat} {D : va_G} {H : Heap} {A : Nat → Prop} {G : TG} {e0 : va_E} (h : tkM A D G H) (he : G o = some e0) : tkM (fun q => q = o) D (va_up (fun _ => none) o (some e0)) H := h.part (fun a e hx => by
  by_cases ha : a = o
  · subst ha
    rw [va_up_self] at hx
    cases hx
    exact ⟨he, rfl⟩
  · rw [va_up_ne _ _ ha] at hx; cases hx)
def oGL (ac : Nat → ClassId) (o : Nat) (f : Nat → Int64) : TG := va_up (fun _ => none) o (some (.inl (ac 4, 1, .inr (.inl f))))
def oGD (ac : Nat → ClassId) (o : Nat) (f : Nat → UInt64) : TG := va_up (fun _ => none) o (some (.inl (ac 5, 1, .inr (.inr (.inr (.inl f))))))
/-! exceptions that are apart -/
abbrev tkNl : List (String × String) := [("java/lang/IllegalArgumentException", "java/lang/IndexOutOfBoundsException"), ("java/lang/IllegalStateException", "java/lang/IndexOutOfBoundsException"), ("java/lang/IllegalStateException", "java/lang/IllegalArgumentException"), ("java/lang/UnsupportedOperationException", "java/lang/IndexOutOfBoundsException"), ("java/lang/UnsupportedOperationException", "java/lang/IllegalArgumentException"), ("java/lang/UnsupportedOperationException", "java/lang/IllegalStateException"), ("java/util/NoSuchElementException", "java/lang/IndexOutOfBoundsException"), ("java/lang/IllegalStateException", "java/lang/UnsupportedOperationException"), ("java/lang/IllegalStateException", "java/util/NoSuchElementException"), ("java/lang/UnsupportedOperationException", "java/util/NoSuchElementException"), ("java/lang/ArithmeticException", "java/lang/IndexOutOfBoundsException"), ("java/lang/ArithmeticException", "java/lang/IllegalArgumentException")]
def tkN (U : State) : Prop := ∀ x ∈ tkNl, va_Nc x.1 x.2 U
theorem tkN.warm {s U : State} (hW : s.WarmedH U.vm) (h : tkN s) : tkN U := fun x hx => (h x hx).moved hW.alike
theorem tkN.blind {U : State} {g : JFrame} {mk : MethodId} {a : Array Value} (h : tkN U) : tkN (U.calling g mk a) := fun x hx => va_Nc.moved (u := U) (U := U.calling g mk a) (Vm.Alike.refl U.vm) (h x hx)
/-- what a wrapper of the law asks of its start -/
def tkW (A : Nat → Prop) (o : Nat) (D : va_G) (ac : Nat → ClassId) (dE : Nat) (G Go : TG) (U : State) : Prop := tkX A D ac dE G U ∧ tkM (fun q => q = o) D Go U.heap ∧ ¬ A o ∧ tkN U
theorem tkW.blind {A : Nat → Prop} {o : Nat} {D : va_G} {ac : Nat → ClassId} {dE : Nat} {G Go : TG} (U : State) (g : JFrame) (mk : MethodId) (a : Array Value) (h : tkW A o D ac dE G Go U) : tkW A o D ac dE G Go (U.calling g mk a) := ⟨tkX.blind U g mk a h.1, h.2.1, h.2.2.1, h.2.2.2.blind⟩
theorem tkF.nar {A B : Nat → Prop} {U : State} {H : Heap} (h : tkF A U H) (hAB : ∀ q, B q → A q) : tkF B U H := ⟨h.1.narrow hAB, h.2.1.narrow hAB, h.2.2⟩
theorem tkO.nar {ac : Nat → ClassId} {A B : Nat → Prop} {dE : Nat} {U : State} {H : Heap} (h : tkO ac A dE U H) (hAB : ∀ q, B q → A q) : tkO ac B dE U H := ⟨h.1.narrow hAB, h.2.1.narrow hAB, h.2.2⟩
/-- in the law: the class's cells are a part of all new cells -/
theorem tkX.law {A A0 : Nat → Prop} {D : va_G} {ac : Nat → ClassId} {dE : Nat} {G : TG} {s : State} {H : Heap} {locs : List Loc} (hM : tkM A D G H) (hK : va_K D vwCl (tkT ac) s) (hA : ∀ q, H.size ≤ q → A q) (hAA : ∀ q, A q → A0 q) (hF : tkF A0 s s.heap) (hO : tkO ac A0 dE s s.heap) (hS : va_S A0 s.heap H locs) (U : State) (hU : U.heap = H) (hW : s.WarmedH U.vm) : tkX A D ac dE G U := by
  refine ⟨⟨by rw [hU]; exact hM, va_K.moved hW.alike hK, fun q h => hA q (by rw [← hU]; exact h), ?_⟩, ?_⟩
  · rw [hU]; exact ((hF.kept hS.2.1).nar hAA).warm hW
  · rw [hU]; exact ((hO.kept hS.2.1).nar hAA).warm hW
theorem tkW.law {A A0 : Nat → Prop} {o : Nat} {D : va_G} {ac : Nat → ClassId} {dE : Nat} {G Go : TG} {s : State} {H : Heap} {locs : List Loc} (hM : tkM A D G H) (hMo : tkM (fun q => q = o) D Go H) (ho : ¬ A o) (hN : tkN s) (hK : va_K D vwCl (tkT ac) s) (hA : ∀ q, H.size ≤ q → A q) (hAA : ∀ q, A q → A0 q) (hF : tkF A0 s s.heap) (hO : tkO ac A0 dE s s.heap) (hS : va_S A0 s.heap H locs) (U : State) (hU : U.heap = H) (hW : s.WarmedH U.vm) : tkW A o D ac dE G Go U := ⟨tkX.law hM hK hA hAA hF hO hS U hU hW, by rw [hU]; exact hMo, ho, hN.warm hW⟩
set_option maxHeartbeats 4000000 in
set_option maxRecDepth 100000 in
theorem c_X5_thrown (l : Launch) (A : Nat → Prop) (D : va_G) (ac : Nat → ClassId) (G : TG) {m0 : Nat} {am : Nat → Nat} {th : Int32} {M : TS} (hR : PR ac m0 am th M G) : Met l yX5_thrown wsX5_thrown ({ frames := 0, cells := 0, slots := 0, locals := 60 } : Room) (va_Pc [.ref m0] (tkJ A D ac G)) (vp_Si (fun z => z = th)) 0 0 (fun _ => False) := by
  refine Met.ofW (cc := cX5_thrown) (maxL := 1) (ret := (some .int)) (by decide) rfl ?_
  intro p e s m args below meth c s₁ B hml hv
  obtain ⟨rfl, hM, hK⟩ := hv
  have hx := B.exec
  have hb := B.bytes
  have hr := B.returns
  have hts := atoms_spec (ws := wsX5_thrown) B.pre
  have hown : s.vm.findClass RX5 = some m.cls := findClass_of_methodNamed B.named
  have hlocks := B.notSynchronized
  have inX5 : ∀ w ∈ wsX50, w ∈ wsX5_thrown := by decide +kernel
  have hl := lv_entry ([.ref m0]) (n := 1) (Nat.le_of_ble_eq_true rfl)
  rw [lg_entry_eq]
  generalize (lg_sl ([.ref m0]) ++ List.replicate (1 - (lg_sl ([.ref m0])).length) Slot.unset).toArray = ls at hl ⊢
  have hl : lv_has ls 1 [(0, .ref m0)] := hl
  refine lv_aload_n hx hb dX5_thrown_0 rfl (lv_at hl 0 rfl) ?_
  refine tk_get hx hb hts inX5 hown hK hM hR.1 rfl 18 (by decide) (hts (.fieldLink RX5 66 "TicketForgeModel" "thrown" "I") (by decide +kernel)) (fun _ h9 => h9) rfl dX5_thrown_1 ?_
  exact W.iret (v := th) hx hb hr (fun t9 h9 w9 => ⟨th, rfl, rfl, h9⟩) (fun q hq => absurd hq List.not_mem_nil) dX5_thrown_4
