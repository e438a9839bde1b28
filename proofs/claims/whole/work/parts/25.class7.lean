/-! the class: helpers that change cells -/
theorem W0.of0 {M : TS} (h : W0 M) {k : Nat} {v : Int32} (hk : ¬ k = 19 ∧ ¬ k = 21 ∧ ¬ k = 22) : W0 (st M 0 k v) := h.w (st_nei M v (Ne.symm hk.1)) (st_nei M v (Ne.symm hk.2.1)) (st_nei M v (Ne.symm hk.2.2)) rfl rfl rfl rfl rfl rfl
theorem W0.cg {M N : TS} (h : W0 M) (e : ∀ f, f ≠ 5 → f ≠ 13 → f ≠ 14 → f ≠ 17 → N f = M f) : W0 N := by
  have e0 := e 0 (by decide) (by decide) (by decide) (by decide)
  exact h.w (by rw [e0]) (by rw [e0]) (by rw [e0]) (e 1 (by decide) (by decide) (by decide) (by decide)) (e 9 (by decide) (by decide) (by decide) (by decide)) (e 11 (by decide) (by decide) (by decide) (by decide)) (e 10 (by decide) (by decide) (by decide) (by decide)) (e 6 (by decide) (by decide) (by decide) (by decide)) (e 7 (by decide) (by decide) (by decide) (by decide))
theorem nT_cg {M N : TS} (e : N 0 = M 0) : nT N = nT M := by unfold nT; rw [e]
theorem nE_cg {M N : TS} (e : N 0 = M 0) : nE N = nE M := by unfold nE; rw [e]
theorem nV_cg {M N : TS} (e : N 0 = M 0) : nV N = nV M := by unfold nV; rw [e]
theorem dropS_W {M : TS} (h : W0 M) (w : Int32) (n : Nat) : W0 (dropS M w n).1 := h.cg (fun f h5 _ _ _ => dropS_f h5 n)
theorem crS_W {M : TS} (h : W0 M) (t n : Nat) : W0 (crS M t n).1 := h.cg (fun f h5 _ _ h17 => crS_f h5 h17 n)
theorem crS_B {M : TS} {t nv : Nat} (h : WB M nv) : ∀ n, WB (crS M t n).1 nv ∧ ∀ k, billed (crS M t n).1 k = billed M k
  | 0 => ⟨h, fun _ => rfl⟩
  | n + 1 => by
    have hh := crS_B (t := t) h n
    have hb : ∀ k, billed (crS M t (n + 1)).1 k = billed M k := by
      intro k
      rw [crS]
      split
      · rename_i c
        dsimp only
        rw [billed, st_ne _ _ _ (show 5 ≠ 17 by decide)]
        by_cases hk : k = n
        · subst hk
          rw [st_self, billed, c.2]
          decide
        · rw [st_nei _ _ hk]; exact hh.2 k
      · exact hh.2 k
    refine ⟨⟨h.1, fun k hk hbk => ?_⟩, hb⟩
    rw [nE_cg (crS_f (by decide) (by decide) _)] at hk
    rw [hb k] at hbk
    rw [crS_f (by decide) (by decide) _]
    exact h.2 k hk hbk
/-- billing as the class does it -/
def cbS (M : TS) (r : Nat) (w : Int32) (v : Nat) : Nat → TS × Int32
  | 0 => (M, 0)
  | n + 1 => if lookedAt (cbS M r w v n).1 r w n = true then
      (if charged (cbS M r w v n).1 (M 10 n) (M 11 n) + M 12 n ≤ M 21 v then
        (st (st (st (cbS M r w v n).1 5 n 98) 14 n (nI v)) 13 n (priceV M v n), (cbS M r w v n).2 + priceV M v n) else (st (cbS M r w v n).1 5 n 120, (cbS M r w v n).2)) else cbS M r w v n
theorem cbS_f {M : TS} {r v f : Nat} {w : Int32} (h5 : f ≠ 5) (h13 : f ≠ 13) (h14 : f ≠ 14) : ∀ n, (cbS M r w v n).1 f = M f
  | 0 => rfl
  | n + 1 => by
    rw [cbS]
    split
    · split
      · dsimp only; rw [st_ne _ _ _ h13, st_ne _ _ _ h14, st_ne _ _ _ h5]; exact cbS_f h5 h13 h14 n
      · dsimp only; rw [st_ne _ _ _ h5]; exact cbS_f h5 h13 h14 n
    · exact cbS_f h5 h13 h14 n
theorem cbS_W {M : TS} (h : W0 M) (r : Nat) (w : Int32) (v n : Nat) : W0 (cbS M r w v n).1 := h.cg (fun f h5 h13 h14 _ => cbS_f h5 h13 h14 n)
theorem cbS_B {M : TS} {r v nv : Nat} {w : Int32} (h : WB M nv) (hv : v < nv) : ∀ n, WB (cbS M r w v n).1 nv
  | 0 => h
  | n + 1 => by
    have hh := cbS_B (r := r) (w := w) h hv n
    refine ⟨h.1, fun k hk hb => ?_⟩
    rw [nE_cg (cbS_f (by decide) (by decide) (by decide) _)] at hk
    have hk2 : k < nE (cbS M r w v n).1 := by rw [nE_cg (cbS_f (by decide) (by decide) (by decide) _)]; exact hk
    rw [cbS] at hb ⊢
    split at hb
    · rename_i c
      rw [if_pos c]
      split at hb
      · rename_i c2
        rw [if_pos c2]
        dsimp only at hb ⊢
        by_cases e : k = n
        · subst e
          exact ⟨v, hv, by rw [st_ne _ _ _ (show 14 ≠ 13 by decide), st_self]⟩
        · rw [billed, st_ne _ _ _ (show 5 ≠ 13 by decide), st_ne _ _ _ (show 5 ≠ 14 by decide), st_nei _ _ e] at hb
          rw [st_ne _ _ _ (show 14 ≠ 13 by decide), st_nei _ _ e, st_ne _ _ _ (show 14 ≠ 5 by decide)]
          exact hh.2 k hk2 hb
      · rename_i c2
        rw [if_neg c2]
        dsimp only at hb ⊢
        by_cases e : k = n
        · subst e
          rw [billed, st_self] at hb
          exact absurd hb (by decide)
        · rw [billed, st_nei _ _ e] at hb
          rw [st_ne _ _ _ (show 14 ≠ 5 by decide)]
          exact hh.2 k hk2 hb
    · rename_i c
      rw [if_neg c]
      exact hh.2 k hk2 hb
def cdS (M : TS) (v : Nat) (s : Int32) : Nat → TS × Int32
  | 0 => (M, 0)
  | n + 1 => if billed M n = true ∧ M 14 n = nI v then (st (cdS M v s n).1 13 n (disc (M 22 v) (M 23 v) (M 13 n) s), (cdS M v s n).2 + disc (M 22 v) (M 23 v) (M 13 n) s) else cdS M v s n
theorem cdS_f {M : TS} {v f : Nat} {s : Int32} (h : f ≠ 13) : ∀ n, (cdS M v s n).1 f = M f
  | 0 => rfl
  | n + 1 => by
    rw [cdS]
    split
    · dsimp only; rw [st_ne _ _ _ h]; exact cdS_f h n
    · exact cdS_f h n
theorem cdS_13 {M : TS} {v : Nat} {s : Int32} : ∀ (n : Nat) {j : Nat}, n ≤ j → (cdS M v s n).1 13 j = M 13 j
  | 0, _, _ => rfl
  | n + 1, j, hj => by
    rw [cdS]
    split
    · dsimp only; rw [st_nei _ _ (show j ≠ n by omega)]; exact cdS_13 n (by omega)
    · exact cdS_13 n (by omega)
theorem cdS_W {M : TS} (h : W0 M) (v : Nat) (s : Int32) (n : Nat) : W0 (cdS M v s n).1 := h.cg (fun f _ h13 _ _ => cdS_f h13 n)
theorem bil_cg {M N : TS} {k : Nat} (e : N 5 k = M 5 k) : billed N k = billed M k := by rw [billed, billed, e]
theorem cdS_B {M : TS} {v nv : Nat} {s : Int32} (h : WB M nv) (n : Nat) : WB (cdS M v s n).1 nv := by
  refine ⟨h.1, fun k hk hb => ?_⟩
  rw [nE_cg (cdS_f (by decide) n)] at hk
  rw [bil_cg (M := M) (by rw [cdS_f (by decide) n])] at hb
  rw [cdS_f (by decide) n]
  exact h.2 k hk hb
set_option maxHeartbeats 4000000 in
set_option maxRecDepth 100000 in
theorem c_X2_changeRate (l : Launch) (A : Nat → Prop) (D : va_G) (ac : Nat → ClassId) (dE : Nat) (G : TG) {q ra : Nat} {a b c0 : Int32} {f : Nat → Int32} (hq : G q = some (.inr (5, rF ra a b c0))) (ha : G ra = some (.inl (ac 1, 4, .inl f))) (x y : Int32) (hx0 : tkOk 4 x = true) : Met l yX2_changeRate wsX2_changeRate ({ frames := 0, cells := 0, slots := 0, locals := 60 } : Room) (va_Pc [.ref q, .int x, .int y] (tkX A D ac dE G)) (va_Qv (fun G9 => G9 = va_up G ra (some (.inl (ac 1, 4, .inl (upd f x.toNatClampNeg y))))) (fun (G9 : TG) t => tkM A D G9 t.heap) A) 0 0 A := by
  refine Met.ofW (cc := cX2_changeRate) (maxL := 3) (ret := none) (by decide) rfl ?_
  intro p e s m args below meth c s₁ B hml hv
  obtain ⟨rfl, ⟨hM, hK, hA, hF⟩, hO⟩ := hv
  have hS : va_S A s.heap s.heap [] := va_S.rf
  have hx := B.exec
  have hb := B.bytes
  have hr := B.returns
  have hts := atoms_spec (ws := wsX2_changeRate) B.pre
  have hown : s.vm.findClass RX2 = some m.cls := findClass_of_methodNamed B.named
  have hlocks := B.notSynchronized
  have S0 : CallFix p m c cX2_changeRate 3 s ([.ref q, .int x, .int y] : List Value).toArray wsX2_changeRate RX2 := ⟨hx, hb, hml, hown, hts⟩
  have inX2 : ∀ w ∈ wsX20, w ∈ wsX2_changeRate := by decide +kernel
  have hl := lv_entry ([.ref q, .int x, .int y]) (n := 3) (Nat.le_of_ble_eq_true rfl)
  rw [lg_entry_eq]
  generalize (lg_sl ([.ref q, .int x, .int y]) ++ List.replicate (3 - (lg_sl ([.ref q, .int x, .int y])).length) Slot.unset).toArray = ls at hl ⊢
  have hl : lv_has ls 3 [(0, .ref q), (1, .int x), (2, .int y)] := hl
  refine lv_iload_n hx hb dX2_changeRate_0 rfl (lv_at hl 1 rfl) ?_
  refine lv_if_lt (tgt := 20) hx hb dX2_changeRate_1 (by decide) (fun c_1 => ?_) (fun c_1 => ?_)
  · skip
    refine W.widen (k := 0) (n := 0) (Nat.le_of_ble_eq_true rfl) (Nat.le_of_ble_eq_true rfl) ?_
    exact W.vret hx hb hr (fun t9 h9 w9 => ⟨⟨_, rfl, absurd (tkOk_lo c_1) (by rw [hx0]; decide), (by show tkM A D _ _; rw [h9]; exact hM)⟩, hS.F h9⟩) hS.2.2 dX2_changeRate_20
  · skip
    refine lv_iload_n hx hb dX2_changeRate_4 rfl (lv_at hl 1 rfl) ?_
    refine lv_aload_n hx hb dX2_changeRate_5 rfl (lv_at hl 0 rfl) ?_
    refine tk_get hx hb hts inX2 hown hK hM hq rfl 0 (by decide) (hts (.fieldLink RX2 7 "TicketForge$Rules" "rates" "[I") (by decide +kernel)) (fun _ h9 => h9) rfl dX2_changeRate_6 ?_
    refine tk_alen (v := 4) hx hb hK hM 1 ha rfl rfl dX2_changeRate_9 ?_
    refine lv_icmp_ge (tgt := 20) hx hb dX2_changeRate_10 (by decide) (fun c_2 => ?_) (fun c_2 => ?_)
    · skip
      refine W.widen (k := 0) (n := 0) (Nat.le_of_ble_eq_true rfl) (Nat.le_of_ble_eq_true rfl) ?_
      exact W.vret hx hb hr (fun t9 h9 w9 => ⟨⟨_, rfl, absurd (tkOk_hi c_2) (by rw [hx0]; decide), (by show tkM A D _ _; rw [h9]; exact hM)⟩, hS.F h9⟩) hS.2.2 dX2_changeRate_20
    · skip
      refine lv_aload_n hx hb dX2_changeRate_13 rfl (lv_at hl 0 rfl) ?_
      refine tk_get hx hb hts inX2 hown hK hM hq rfl 0 (by decide) (hts (.fieldLink RX2 7 "TicketForge$Rules" "rates" "[I") (by decide +kernel)) (fun _ h9 => h9) rfl dX2_changeRate_14 ?_
      refine lv_iload_n hx hb dX2_changeRate_17 rfl (lv_at hl 1 rfl) ?_
      refine lv_iload_n hx hb dX2_changeRate_18 rfl (lv_at hl 2 rfl) ?_
      refine tk_iast hx hb hK hM hS 1 ha rfl (tk_in_of (by decide) hx0) dX2_changeRate_19 (fun H locs hM hS => ?_)
      refine W.widen (k := 0) (n := 0) (Nat.le_of_ble_eq_true rfl) (Nat.le_of_ble_eq_true rfl) ?_
      exact W.vret hx hb hr (fun t9 h9 w9 => ⟨⟨_, rfl, rfl, (by show tkM A D _ _; rw [h9]; exact hM)⟩, hS.F h9⟩) hS.2.2 dX2_changeRate_20
set_option maxHeartbeats 4000000 in
set_option maxRecDepth 100000 in
theorem c_X3_addBlocker (l : Launch) (A : Nat → Prop) (D : va_G) (ac : Nat → ClassId) (dE : Nat) (G : TG) {h0 : Nat} {α : Nat → Nat → Nat} {M : TS} {nv : Nat} (hP : PX ac dE h0 α M nv G) (t u : Nat) (ht : t < nT M) (hu : u < nT M) : Met l yX3_addBlocker wsX3_addBlocker ({ frames := 1, cells := 0, slots := 0, locals := 100 } : Room) (va_Pc [.ref (α 1 t), .ref (α 1 u)] (tkX A D ac dE G)) (va_Qv (fun G9 => PX ac dE h0 α (st M 19 t (M 19 t ||| bitOf u)) nv G9) (fun (G9 : TG) t => tkM A D G9 t.heap) A) 0 0 A := by
  refine Met.ofW (cc := cX3_addBlocker) (maxL := 2) (ret := none) (by decide) rfl ?_
  intro p e s m args below meth c s₁ B hml hv
  obtain ⟨rfl, ⟨hM, hK, hA, hF⟩, hO⟩ := hv
  have hS : va_S A s.heap s.heap [] := va_S.rf
  have hx := B.exec
  have hb := B.bytes
  have hr := B.returns
  have hts := atoms_spec (ws := wsX3_addBlocker) B.pre
  have hown : s.vm.findClass RX3 = some m.cls := findClass_of_methodNamed B.named
  have hlocks := B.notSynchronized
  have S0 : CallFix p m c cX3_addBlocker 2 s ([.ref (α 1 t), .ref (α 1 u)] : List Value).toArray wsX3_addBlocker RX3 := ⟨hx, hb, hml, hown, hts⟩
  have inX3 : ∀ w ∈ wsX30, w ∈ wsX3_addBlocker := by decide +kernel
  have hl := lv_entry ([.ref (α 1 t), .ref (α 1 u)]) (n := 2) (Nat.le_of_ble_eq_true rfl)
  rw [lg_entry_eq]
  generalize (lg_sl ([.ref (α 1 t), .ref (α 1 u)]) ++ List.replicate (2 - (lg_sl ([.ref (α 1 t), .ref (α 1 u)])).length) Slot.unset).toArray = ls at hl ⊢
  have hl : lv_has ls 2 [(0, .ref (α 1 t)), (1, .ref (α 1 u))] := hl
  refine lv_aload_n hx hb dX3_addBlocker_0 rfl (lv_at hl 0 rfl) ?_
  refine lv_dup hx hb dX3_addBlocker_1 rfl ?_
  refine tk_get hx hb hts inX3 hown hK hM (hP.t ht) rfl 5 (by decide) (hts (.fieldLink RX3 29 "TicketForge$Task" "blockers" "I") (by decide +kernel)) (fun _ h9 => h9) rfl dX3_addBlocker_2 ?_
  refine lv_aload_n hx hb dX3_addBlocker_5 rfl (lv_at hl 1 rfl) ?_
  refine tk_cVi (As := []) S0 (c_X3_bit l A D ac dE _ hP u hu) (cwV 0 hts gX3_addBlocker_X3_bit rfl rfl rfl (by decide +kernel) ⟨Nat.le_of_ble_eq_true rfl, Nat.le_of_ble_eq_true rfl⟩) (tkX.blind) (tkX.at hM hK hA hF hO hS) (tk_recv hK hM (hP.t hu) rfl) rfl hl.1 rfl (Nat.le_of_ble_eq_true rfl) dX3_addBlocker_6 ⟨Nat.le_of_ble_eq_true rfl, Nat.le_of_ble_eq_true rfl⟩ (fun r_1 hr_1 => ?_)
  subst hr_1
  refine lv_ior hx hb dX3_addBlocker_9 ?_
  refine tk_put (ty := .int) hx hb hts inX3 tyX3 tyX3_ok nmX3 hown hK hM hS (hP.t ht) rfl 5 (by decide) (hts (.fieldLink RX3 29 "TicketForge$Task" "blockers" "I") (by decide +kernel)) (fun _ h9 => h9) rfl (by decide +kernel) rfl rfl (Nat.le_of_ble_eq_true rfl) dX3_addBlocker_10 (fun H locs hM hS => ?_)
  have hP := hP.p5 ht (v := ((M 19 t) ||| (bitOf u)))
  refine W.widen (k := 0) (n := 0) (Nat.le_of_ble_eq_true rfl) (Nat.le_of_ble_eq_true rfl) ?_
  exact W.vret hx hb hr (fun t9 h9 w9 => ⟨⟨_, rfl, hP, (by show tkM A D _ _; rw [h9]; exact hM)⟩, hS.F h9⟩) hS.2.2 dX3_addBlocker_13
set_option maxHeartbeats 4000000 in
set_option maxRecDepth 100000 in
theorem c_X4_dropNotedEntries (l : Launch) (A : Nat → Prop) (D : va_G) (ac : Nat → ClassId) (dE : Nat) (G : TG) {h0 : Nat} {α : Nat → Nat → Nat} {M : TS} {nv : Nat} (hP : PX ac dE h0 α M nv G) (hW : W0 M) (w : Int32) : Met l yX4_dropNotedEntries wsX4_dropNotedEntries ({ frames := 3, cells := 0, slots := 0, locals := 180 } : Room) (va_Pc [.ref h0, .int w] (tkX A D ac dE G)) (va_Qi (fun z G9 => PX ac dE h0 α (dropS M w (nE M)).1 nv G9 ∧ z = (dropS M w (nE M)).2) (fun (G9 : TG) t => tkM A D G9 t.heap) A) 0 0 A := by
  refine Met.ofW (cc := cX4_dropNotedEntries) (maxL := 5) (ret := (some .int)) (by decide) rfl ?_
  intro p e s m args below meth c s₁ B hml hv
  obtain ⟨rfl, ⟨hM, hK, hA, hF⟩, hO⟩ := hv
  have hS : va_S A s.heap s.heap [] := va_S.rf
  have hx := B.exec
  have hb := B.bytes
  have hr := B.returns
  have hts := atoms_spec (ws := wsX4_dropNotedEntries) B.pre
  have hown : s.vm.findClass RX4 = some m.cls := findClass_of_methodNamed B.named
  have hlocks := B.notSynchronized
  have S0 : CallFix p m c cX4_dropNotedEntries 5 s ([.ref h0, .int w] : List Value).toArray wsX4_dropNotedEntries RX4 := ⟨hx, hb, hml, hown, hts⟩
  have inX4 : ∀ w ∈ wsX40, w ∈ wsX4_dropNotedEntries := by decide +kernel
  have inX0 : ∀ w ∈ wsX00, w ∈ wsX4_dropNotedEntries := by decide +kernel
  have hl := lv_entry ([.ref h0, .int w]) (n := 5) (Nat.le_of_ble_eq_true rfl)
  rw [lg_entry_eq]
  generalize (lg_sl ([.ref h0, .int w]) ++ List.replicate (5 - (lg_sl ([.ref h0, .int w])).length) Slot.unset).toArray = ls at hl ⊢
  have hl : lv_has ls 5 [(0, .ref h0), (1, .int w)] := hl
  have bT := hW.t.2
  have bE := hW.e.2
  have bV := hW.v.2
  refine lv_iconst (v := 0) hx hb dX4_dropNotedEntries_0 (by decide) ?_
  refine lv_istore_n (lv' := [(2, .int 0), (0, .ref h0), (1, .int w)]) hx hb dX4_dropNotedEntries_1 rfl hl (by decide) rfl (fun ls hl => ?_)
  refine lv_iconst (v := 0) hx hb dX4_dropNotedEntries_2 (by decide) ?_
  refine lv_istore_n (lv' := [(3, .int 0), (2, .int 0), (0, .ref h0), (1, .int w)]) hx hb dX4_dropNotedEntries_3 rfl hl (by decide) rfl (fun ls hl => ?_)
  refine tk_g1 (Wf := fun H locs g => W p l e _ s m _ below meth c H locs _ _ _ g) (nE M) (fun i (acc : Int32) H locs ls => lv_has ls 5 [(0, .ref h0), (1, .int w), (3, .int (nI i)), (2, .int acc)] ∧ acc = (dropS M w i).2 ∧ ∃ G : TG, PX ac dE h0 α ((dropS M w i).1) nv G ∧ tkM A D G H ∧ va_S A s.heap H locs) (fun i acc H locs ls hi hinv ih => ?_) _ _ _ ls ⟨(lv_sub hl [2, 3, 0, 1] rfl), rfl, _, hP, hM, hS⟩
  obtain ⟨hl, hacc, G, hP, hM, hS⟩ := hinv
  have e0 : ((dropS M w i).1) 0 = M 0 := dropS_f (by decide) i
  have eT : nT ((dropS M w i).1) = nT M := nT_cg e0
  have eE : nE ((dropS M w i).1) = nE M := nE_cg e0
  have eV : nV ((dropS M w i).1) = nV M := nV_cg e0
  have hW := dropS_W hW w i
  have bT := hW.t.2
  have bE := hW.e.2
  have bV := hW.v.2
  refine lv_iload_n hx hb dX4_dropNotedEntries_4 rfl (lv_at hl 2 rfl) ?_
  refine lv_aload_n hx hb dX4_dropNotedEntries_5 rfl (lv_at hl 0 rfl) ?_
  refine tk_get hx hb hts inX4 hown hK hM hP.h rfl 1 (by decide) (hts (.fieldLink RX4 16 "TicketForge" "entryList" "Ljava/util/ArrayList;") (by decide +kernel)) (fun _ h9 => h9) rfl dX4_dropNotedEntries_6 ?_
  refine tk_cVi (As := []) S0 (c_Jx4a65c_size_8abf5 l A D ac dE _ hP.le) (cwV 0 hts gX4_dropNotedEntries_Jx4a65c_size_8abf5 rfl rfl rfl (by decide +kernel) ⟨Nat.le_of_ble_eq_true rfl, Nat.le_of_ble_eq_true rfl⟩) (tkX.blind) (tkX.at hM hK hA hF hO hS) (LX.rec hP.le hK hM) rfl hl.1 rfl (Nat.le_of_ble_eq_true rfl) dX4_dropNotedEntries_9 ⟨Nat.le_of_ble_eq_true rfl, Nat.le_of_ble_eq_true rfl⟩ (fun r_1 hr_1 => ?_)
  subst hr_1
  refine lv_icmp_ge (tgt := 63) hx hb dX4_dropNotedEntries_12 (by decide) (fun c_2 => ?_) (fun c_2 => ?_)
  · have hge := tk_ge (by omega) (by omega) c_2
    obtain rfl : i = nE M := Nat.le_antisymm hi (by omega)
    refine lv_iload_n hx hb dX4_dropNotedEntries_63 rfl (lv_at hl 3 rfl) ?_
    refine W.widen (k := 0) (n := 0) (Nat.le_of_ble_eq_true rfl) (Nat.le_of_ble_eq_true rfl) ?_
    exact W.iret (v := acc) hx hb hr (fun t9 h9 w9 => ⟨⟨acc, _, rfl, ⟨hP, hacc⟩, (by show tkM A D _ _; rw [h9]; exact hM)⟩, hS.F h9⟩) hS.2.2 dX4_dropNotedEntries_64
  · have hlt0 := tk_lt (by omega) (by omega) c_2
    have hlt : i < nE M := by omega
    refine lv_aload_n hx hb dX4_dropNotedEntries_15 rfl (lv_at hl 0 rfl) ?_
    refine tk_get hx hb hts inX4 hown hK hM hP.h rfl 1 (by decide) (hts (.fieldLink RX4 16 "TicketForge" "entryList" "Ljava/util/ArrayList;") (by decide +kernel)) (fun _ h9 => h9) rfl dX4_dropNotedEntries_16 ?_
    refine lv_iload_n hx hb dX4_dropNotedEntries_19 rfl (lv_at hl 2 rfl) ?_
    have hg_4 : i < nE ((dropS M w i).1) := by omega
    refine tk_cVq (As := [.int (nI i)]) S0 (c_Jx4a65c_get_915e3 l A D ac dE _ hP.le i hg_4 (by omega)) (cwV 1 hts gX4_dropNotedEntries_Jx4a65c_get_915e3 rfl rfl rfl (by decide +kernel) ⟨Nat.le_of_ble_eq_true rfl, Nat.le_of_ble_eq_true rfl⟩) (tkX.blind) (tkX.at hM hK hA hF hO hS) (LX.rec hP.le hK hM) rfl hl.1 rfl (Nat.le_of_ble_eq_true rfl) dX4_dropNotedEntries_20 ⟨Nat.le_of_ble_eq_true rfl, Nat.le_of_ble_eq_true rfl⟩ (fun r_3 hr_3 => ?_)
    subst hr_3
    refine va_castY (C := "TicketForge$Entry") hx hb hown (hts (.classLink RX4 178 "TicketForge$Entry") (by decide +kernel)) (hF.2.2.2 ("TicketForge$Entry", "TicketForge$Entry") (by decide +kernel)) (tk_recv hK hM (hP.e hg_4) rfl (ci := 3) (q := (RX0, TX0, 7))) dX4_dropNotedEntries_23 ?_
    refine lv_astore (lv' := [(4, .ref (α 2 i)), (0, .ref h0), (1, .int w), (3, .int (nI i)), (2, .int acc)]) hx hb dX4_dropNotedEntries_26 hl (by decide) rfl (fun ls hl => ?_)
    refine lv_aload hx hb dX4_dropNotedEntries_28 (lv_at hl 0 rfl) ?_
    refine tk_get hx hb hts inX0 hown hK hM (hP.e hg_4) rfl 2 (by decide) (hts (.fieldLink RX4 190 "TicketForge$Entry" "week" "I") (by decide +kernel)) (fun _ h9 => h9) rfl dX4_dropNotedEntries_30 ?_
    refine lv_iload_n hx hb dX4_dropNotedEntries_33 rfl (lv_at hl 2 rfl) ?_
    refine lv_icmp_ne (tgt := 57) hx hb dX4_dropNotedEntries_34 (by decide) (fun c_5 => ?_) (fun c_5 => ?_)
    · skip
      refine lv_iinc (v := (nI (i + 1))) (lv' := [(3, .int (nI (i + 1))), (4, .ref (α 2 i)), (0, .ref h0), (1, .int w), (2, .int acc)]) hx hb dX4_dropNotedEntries_57 hl (k := 3) rfl (nI_1 i) (by decide) rfl (fun ls hl => ?_)
      refine lv_goto (tgt := 4) hx hb dX4_dropNotedEntries_60 (by decide) ?_
      have hstep : dropS M w (i + 1) = ((dropS M w i).1, acc) := (by rw [dropS, if_neg (fun h9 => c_5 (by rw [dropS_f (by decide)]; exact h9.1))]; exact Prod.ext rfl hacc.symm)
      exact ih _ _ _ ls (by omega) ⟨(lv_sub hl [2, 3, 0, 4] rfl), (by rw [hstep]), _, (by rw [hstep]; exact hP), hM, hS⟩
    · skip
      refine lv_aload hx hb dX4_dropNotedEntries_37 (lv_at hl 0 rfl) ?_
      refine tk_get hx hb hts inX0 hown hK hM (hP.e hg_4) rfl 4 (by decide) (hts (.fieldLink RX4 187 "TicketForge$Entry" "state" "C") (by decide +kernel)) (fun _ h9 => h9) rfl dX4_dropNotedEntries_39 ?_
      refine lv_bipush (v := 110) hx hb dX4_dropNotedEntries_42 (by decide) ?_
      refine lv_icmp_ne (tgt := 57) hx hb dX4_dropNotedEntries_44 (by decide) (fun c_6 => ?_) (fun c_6 => ?_)
      · skip
        refine lv_iinc (v := (nI (i + 1))) (lv' := [(3, .int (nI (i + 1))), (4, .ref (α 2 i)), (0, .ref h0), (1, .int w), (2, .int acc)]) hx hb dX4_dropNotedEntries_57 hl (k := 3) rfl (nI_1 i) (by decide) rfl (fun ls hl => ?_)
        refine lv_goto (tgt := 4) hx hb dX4_dropNotedEntries_60 (by decide) ?_
        have hstep : dropS M w (i + 1) = ((dropS M w i).1, acc) := (by rw [dropS, if_neg (fun h9 => c_6 (by rw [dropS_5 _ (Nat.le_refl _)]; exact h9.2))]; exact Prod.ext rfl hacc.symm)
        exact ih _ _ _ ls (by omega) ⟨(lv_sub hl [2, 3, 0, 4] rfl), (by rw [hstep]), _, (by rw [hstep]; exact hP), hM, hS⟩
      · skip
        refine lv_aload hx hb dX4_dropNotedEntries_47 (lv_at hl 0 rfl) ?_
        refine lv_bipush (v := 120) hx hb dX4_dropNotedEntries_49 (by decide) ?_
        refine tk_put (ty := .char) hx hb hts inX0 tyX0 tyX0_ok nmX0 hown hK hM hS (hP.e hg_4) rfl 4 (by decide) (hts (.fieldLink RX4 187 "TicketForge$Entry" "state" "C") (by decide +kernel)) (fun _ h9 => h9) rfl (by decide +kernel) rfl rfl (Nat.le_of_ble_eq_true rfl) dX4_dropNotedEntries_51 (fun H locs hM hS => ?_)
        have hP := hP.e4 hg_4 (v := 120) (by rw [billed, billed, st_self, c_6]; decide)
        refine lv_iinc (v := (acc + 1)) (lv' := [(2, .int (acc + 1)), (4, .ref (α 2 i)), (0, .ref h0), (1, .int w), (3, .int (nI i))]) hx hb dX4_dropNotedEntries_54 hl (k := 4) rfl rfl (by decide) rfl (fun ls hl => ?_)
        refine lv_iinc (v := (nI (i + 1))) (lv' := [(3, .int (nI (i + 1))), (2, .int (acc + 1)), (4, .ref (α 2 i)), (0, .ref h0), (1, .int w)]) hx hb dX4_dropNotedEntries_57 hl (k := 4) rfl (nI_1 i) (by decide) rfl (fun ls hl => ?_)
        refine lv_goto (tgt := 4) hx hb dX4_dropNotedEntries_60 (by decide) ?_
        have hstep : dropS M w (i + 1) = ((st ((dropS M w i).1) 5 i 120), (acc + 1)) := (by rw [dropS, if_pos ⟨by rw [← c_5, dropS_f (by decide)], by rw [← c_6, dropS_5 _ (Nat.le_refl _)]⟩, hacc])
        exact ih _ _ _ ls (by omega) ⟨(lv_sub hl [3, 4, 0, 1] rfl), (by rw [hstep]), _, (by rw [hstep]; exact hP), hM, hS⟩
set_option maxHeartbeats 4000000 in
set_option maxRecDepth 100000 in
theorem c_X4_creditEntries (l : Launch) (A : Nat → Prop) (D : va_G) (ac : Nat → ClassId) (dE : Nat) (G : TG) {h0 : Nat} {α : Nat → Nat → Nat} {M : TS} {nv : Nat} (hP : PX ac dE h0 α M nv G) (hW : W0 M) (hB : WB M nv) (t : Nat) (ht : t < nT M) : Met l yX4_creditEntries wsX4_creditEntries ({ frames := 3, cells := 0, slots := 0, locals := 180 } : Room) (va_Pc [.ref h0, .ref (α 1 t)] (tkX A D ac dE G)) (va_Qi (fun z G9 => PX ac dE h0 α (crS M t (nE M)).1 nv G9 ∧ z = (crS M t (nE M)).2) (fun (G9 : TG) t => tkM A D G9 t.heap) A) 0 0 A := by
  refine Met.ofW (cc := cX4_creditEntries) (maxL := 6) (ret := (some .int)) (by decide) rfl ?_
  intro p e s m args below meth c s₁ B hml hv
  obtain ⟨rfl, ⟨hM, hK, hA, hF⟩, hO⟩ := hv
  have hS : va_S A s.heap s.heap [] := va_S.rf
  have hx := B.exec
  have hb := B.bytes
  have hr := B.returns
  have hts := atoms_spec (ws := wsX4_creditEntries) B.pre
  have hown : s.vm.findClass RX4 = some m.cls := findClass_of_methodNamed B.named
  have hlocks := B.notSynchronized
  have S0 : CallFix p m c cX4_creditEntries 6 s ([.ref h0, .ref (α 1 t)] : List Value).toArray wsX4_creditEntries RX4 := ⟨hx, hb, hml, hown, hts⟩
  have inX4 : ∀ w ∈ wsX40, w ∈ wsX4_creditEntries := by decide +kernel
  have inX0 : ∀ w ∈ wsX00, w ∈ wsX4_creditEntries := by decide +kernel
  have inX1 : ∀ w ∈ wsX10, w ∈ wsX4_creditEntries := by decide +kernel
  have hl := lv_entry ([.ref h0, .ref (α 1 t)]) (n := 6) (Nat.le_of_ble_eq_true rfl)
  rw [lg_entry_eq]
  generalize (lg_sl ([.ref h0, .ref (α 1 t)]) ++ List.replicate (6 - (lg_sl ([.ref h0, .ref (α 1 t)])).length) Slot.unset).toArray = ls at hl ⊢
  have hl : lv_has ls 6 [(0, .ref h0), (1, .ref (α 1 t))] := hl
  have bT := hW.t.2
  have bE := hW.e.2
  have bV := hW.v.2
  refine lv_iconst (v := 0) hx hb dX4_creditEntries_0 (by decide) ?_
  refine lv_istore_n (lv' := [(2, .int 0), (0, .ref h0), (1, .ref (α 1 t))]) hx hb dX4_creditEntries_1 rfl hl (by decide) rfl (fun ls hl => ?_)
  refine lv_iconst (v := 0) hx hb dX4_creditEntries_2 (by decide) ?_
  refine lv_istore_n (lv' := [(3, .int 0), (2, .int 0), (0, .ref h0), (1, .ref (α 1 t))]) hx hb dX4_creditEntries_3 rfl hl (by decide) rfl (fun ls hl => ?_)
  refine tk_g1 (Wf := fun H locs g => W p l e _ s m _ below meth c H locs _ _ _ g) (nE M) (fun i (acc : Int32) H locs ls => lv_has ls 6 [(0, .ref h0), (1, .ref (α 1 t)), (3, .int (nI i)), (2, .int acc)] ∧ acc = (crS M t i).2 ∧ ∃ G : TG, PX ac dE h0 α ((crS M t i).1) nv G ∧ tkM A D G H ∧ va_S A s.heap H locs) (fun i acc H locs ls hi hinv ih => ?_) _ _ _ ls ⟨(lv_sub hl [2, 3, 0, 1] rfl), rfl, _, hP, hM, hS⟩
  obtain ⟨hl, hacc, G, hP, hM, hS⟩ := hinv
  have e0 : ((crS M t i).1) 0 = M 0 := crS_f (by decide) (by decide) i
  have eT : nT ((crS M t i).1) = nT M := nT_cg e0
  have eE : nE ((crS M t i).1) = nE M := nE_cg e0
  have eV : nV ((crS M t i).1) = nV M := nV_cg e0
  have hW := crS_W hW t i
  have bT := hW.t.2
  have bE := hW.e.2
  have bV := hW.v.2
  have hB := (crS_B (t := t) hB i).1
  refine lv_iload_n hx hb dX4_creditEntries_4 rfl (lv_at hl 2 rfl) ?_
  refine lv_aload_n hx hb dX4_creditEntries_5 rfl (lv_at hl 0 rfl) ?_
  refine tk_get hx hb hts inX4 hown hK hM hP.h rfl 1 (by decide) (hts (.fieldLink RX4 16 "TicketForge" "entryList" "Ljava/util/ArrayList;") (by decide +kernel)) (fun _ h9 => h9) rfl dX4_creditEntries_6 ?_
  refine tk_cVi (As := []) S0 (c_Jx4a65c_size_8abf5 l A D ac dE _ hP.le) (cwV 0 hts gX4_creditEntries_Jx4a65c_size_8abf5 rfl rfl rfl (by decide +kernel) ⟨Nat.le_of_ble_eq_true rfl, Nat.le_of_ble_eq_true rfl⟩) (tkX.blind) (tkX.at hM hK hA hF hO hS) (LX.rec hP.le hK hM) rfl hl.1 rfl (Nat.le_of_ble_eq_true rfl) dX4_creditEntries_9 ⟨Nat.le_of_ble_eq_true rfl, Nat.le_of_ble_eq_true rfl⟩ (fun r_1 hr_1 => ?_)
  subst hr_1
  refine lv_icmp_ge (tgt := 95) hx hb dX4_creditEntries_12 (by decide) (fun c_2 => ?_) (fun c_2 => ?_)
  · have hge := tk_ge (by omega) (by omega) c_2
    obtain rfl : i = nE M := Nat.le_antisymm hi (by omega)
    refine lv_iload_n hx hb dX4_creditEntries_95 rfl (lv_at hl 3 rfl) ?_
    refine W.widen (k := 0) (n := 0) (Nat.le_of_ble_eq_true rfl) (Nat.le_of_ble_eq_true rfl) ?_
    exact W.iret (v := acc) hx hb hr (fun t9 h9 w9 => ⟨⟨acc, _, rfl, ⟨hP, hacc⟩, (by show tkM A D _ _; rw [h9]; exact hM)⟩, hS.F h9⟩) hS.2.2 dX4_creditEntries_96
  · have hlt0 := tk_lt (by omega) (by omega) c_2
    have hlt : i < nE M := by omega
    refine lv_aload_n hx hb dX4_creditEntries_15 rfl (lv_at hl 0 rfl) ?_
    refine tk_get hx hb hts inX4 hown hK hM hP.h rfl 1 (by decide) (hts (.fieldLink RX4 16 "TicketForge" "entryList" "Ljava/util/ArrayList;") (by decide +kernel)) (fun _ h9 => h9) rfl dX4_creditEntries_16 ?_
    refine lv_iload_n hx hb dX4_creditEntries_19 rfl (lv_at hl 2 rfl) ?_
    have hg_4 : i < nE ((crS M t i).1) := by omega
    refine tk_cVq (As := [.int (nI i)]) S0 (c_Jx4a65c_get_915e3 l A D ac dE _ hP.le i hg_4 (by omega)) (cwV 1 hts gX4_creditEntries_Jx4a65c_get_915e3 rfl rfl rfl (by decide +kernel) ⟨Nat.le_of_ble_eq_true rfl, Nat.le_of_ble_eq_true rfl⟩) (tkX.blind) (tkX.at hM hK hA hF hO hS) (LX.rec hP.le hK hM) rfl hl.1 rfl (Nat.le_of_ble_eq_true rfl) dX4_creditEntries_20 ⟨Nat.le_of_ble_eq_true rfl, Nat.le_of_ble_eq_true rfl⟩ (fun r_3 hr_3 => ?_)
    subst hr_3
    refine va_castY (C := "TicketForge$Entry") hx hb hown (hts (.classLink RX4 178 "TicketForge$Entry") (by decide +kernel)) (hF.2.2.2 ("TicketForge$Entry", "TicketForge$Entry") (by decide +kernel)) (tk_recv hK hM (hP.e hg_4) rfl (ci := 3) (q := (RX0, TX0, 7))) dX4_creditEntries_23 ?_
    refine lv_astore (lv' := [(4, .ref (α 2 i)), (0, .ref h0), (1, .ref (α 1 t)), (3, .int (nI i)), (2, .int acc)]) hx hb dX4_creditEntries_26 hl (by decide) rfl (fun ls hl => ?_)
    refine lv_aload hx hb dX4_creditEntries_28 (lv_at hl 0 rfl) ?_
    refine tk_get hx hb hts inX0 hown hK hM (hP.e hg_4) rfl 6 (by decide) (hts (.fieldLink RX4 284 "TicketForge$Entry" "invoice" "LTicketForge$Invoice;") (by decide +kernel)) (fun _ h9 => h9) rfl dX4_creditEntries_30 ?_
    refine tk_astore (lv' := [(5, va_rf (invR α ((crS M t i).1) i)), (4, .ref (α 2 i)), (0, .ref h0), (1, .ref (α 1 t)), (3, .int (nI i)), (2, .int acc)]) hx hb dX4_creditEntries_33 hl (by decide) rfl (fun ls hl => ?_)
    refine lv_aload hx hb dX4_creditEntries_35 (lv_at hl 1 rfl) ?_
    refine tk_get hx hb hts inX0 hown hK hM (hP.e hg_4) rfl 0 (by decide) (hts (.fieldLink RX4 329 "TicketForge$Entry" "task" "LTicketForge$Task;") (by decide +kernel)) (fun _ h9 => h9) rfl dX4_creditEntries_37 ?_
    obtain ⟨t_5, ht_5, et_5⟩ := hW.et hg_4
    rw [show α 1 (tn ((crS M t i).1 9 i)) = α 1 t_5 from by rw [et_5, show tn (nI t_5) = t_5 from nI_clamp (by omega)]]
    have ett : M 9 i = nI t_5 := by rw [← et_5, crS_f (by decide) (by decide)]
    refine lv_aload_n hx hb dX4_creditEntries_40 rfl (lv_at hl 3 rfl) ?_
    refine lv_acmp_ne (rx := (some (α 1 t_5))) (ry := (some (α 1 t))) (tgt := 89) hx hb dX4_creditEntries_41 (by decide) (fun c_6 => ?_) (fun c_6 => ?_)
    · have c_6 := mt (hP.tskE ht_5 (by omega)).mpr c_6
      refine lv_iinc (v := (nI (i + 1))) (lv' := [(3, .int (nI (i + 1))), (5, va_rf (invR α ((crS M t i).1) i)), (4, .ref (α 2 i)), (0, .ref h0), (1, .ref (α 1 t)), (2, .int acc)]) hx hb dX4_creditEntries_89 hl (k := 4) rfl (nI_1 i) (by decide) rfl (fun ls hl => ?_)
      refine lv_goto (tgt := 4) hx hb dX4_creditEntries_92 (by decide) ?_
      have hstep : crS M t (i + 1) = ((crS M t i).1, acc) := (by rw [crS, if_neg (fun h9 => c_6 ((nI_eq (by omega) (by omega)).mp (by rw [← ett]; exact h9.1)))]; exact Prod.ext rfl hacc.symm)
      exact ih _ _ _ ls (by omega) ⟨(lv_sub hl [3, 4, 0, 5] rfl), (by rw [hstep]), _, (by rw [hstep]; exact hP), hM, hS⟩
    · have c_6 := (hP.tskE ht_5 (by omega)).mp c_6
      refine lv_aload hx hb dX4_creditEntries_44 (lv_at hl 1 rfl) ?_
      refine tk_get hx hb hts inX0 hown hK hM (hP.e hg_4) rfl 4 (by decide) (hts (.fieldLink RX4 187 "TicketForge$Entry" "state" "C") (by decide +kernel)) (fun _ h9 => h9) rfl dX4_creditEntries_46 ?_
      refine lv_bipush (v := 98) hx hb dX4_creditEntries_49 (by decide) ?_
      refine lv_icmp_ne (tgt := 89) hx hb dX4_creditEntries_51 (by decide) (fun c_7 => ?_) (fun c_7 => ?_)
      · skip
        refine lv_iinc (v := (nI (i + 1))) (lv' := [(3, .int (nI (i + 1))), (5, va_rf (invR α ((crS M t i).1) i)), (4, .ref (α 2 i)), (0, .ref h0), (1, .ref (α 1 t)), (2, .int acc)]) hx hb dX4_creditEntries_89 hl (k := 4) rfl (nI_1 i) (by decide) rfl (fun ls hl => ?_)
        refine lv_goto (tgt := 4) hx hb dX4_creditEntries_92 (by decide) ?_
        have hstep : crS M t (i + 1) = ((crS M t i).1, acc) := (by rw [crS, if_neg (fun h9 => c_7 (by rw [crS_5 _ (Nat.le_refl _)]; exact h9.2))]; exact Prod.ext rfl hacc.symm)
        exact ih _ _ _ ls (by omega) ⟨(lv_sub hl [3, 4, 0, 5] rfl), (by rw [hstep]), _, (by rw [hstep]; exact hP), hM, hS⟩
      · skip
        refine tk_aload hx hb dX4_creditEntries_54 (lv_at hl 0 rfl) ?_
        rcases tk_bool (billed (crS M t i).1 i) with hbvs_8 | hbvs_8
        · rw [invR_n hbvs_8] at hl ⊢
          refine lv_ifnullN (tgt := 89) hx hb dX4_creditEntries_56 (by decide) ?_
          refine lv_iinc (v := (nI (i + 1))) (lv' := [(3, .int (nI (i + 1))), (5, .null), (4, .ref (α 2 i)), (0, .ref h0), (1, .ref (α 1 t)), (2, .int acc)]) hx hb dX4_creditEntries_89 hl (k := 4) rfl (nI_1 i) (by decide) rfl (fun ls hl => ?_)
          refine lv_goto (tgt := 4) hx hb dX4_creditEntries_92 (by decide) ?_
          have hstep : crS M t (i + 1) = ((crS M t i).1, acc) := (by exfalso; rw [billed, c_7] at hbvs_8; exact absurd hbvs_8 (by decide))
          exact ih _ _ _ ls (by omega) ⟨(lv_sub hl [3, 4, 0, 5] rfl), (by rw [hstep]), _, (by rw [hstep]; exact hP), hM, hS⟩
        · obtain ⟨s_8, hls_8, evs_8⟩ := hB.2 i hg_4 hbvs_8
          have hzs_8 := hB.1
          rw [invR_s (by omega) hbvs_8 evs_8] at hl ⊢
          refine lv_ifnull hx hb dX4_creditEntries_56 ?_
          refine lv_aload hx hb dX4_creditEntries_59 (lv_at hl 1 rfl) ?_
          refine lv_bipush (v := 99) hx hb dX4_creditEntries_61 (by decide) ?_
          refine tk_put (ty := .char) hx hb hts inX0 tyX0 tyX0_ok nmX0 hown hK hM hS (hP.e hg_4) rfl 4 (by decide) (hts (.fieldLink RX4 187 "TicketForge$Entry" "state" "C") (by decide +kernel)) (fun _ h9 => h9) rfl (by decide +kernel) rfl rfl (Nat.le_of_ble_eq_true rfl) dX4_creditEntries_63 (fun H locs hM hS => ?_)
          have hP := hP.e4 hg_4 (v := 99) (by rw [billed, billed, st_self, c_7]; decide)
          refine lv_aload hx hb dX4_creditEntries_66 (lv_at hl 0 rfl) ?_
          refine lv_dup hx hb dX4_creditEntries_68 rfl ?_
          refine tk_get hx hb hts inX1 hown hK hM (hP.v hls_8) rfl 3 (by decide) (hts (.fieldLink RX4 281 "TicketForge$Invoice" "credited" "I") (by decide +kernel)) (fun _ h9 => h9) rfl dX4_creditEntries_69 ?_
          refine lv_aload hx hb dX4_creditEntries_72 (lv_at hl 1 rfl) ?_
          refine tk_get hx hb hts inX0 hown hK hM (hP.e hg_4) rfl 5 (by decide) (hts (.fieldLink RX4 207 "TicketForge$Entry" "price" "I") (by decide +kernel)) (fun _ h9 => h9) rfl dX4_creditEntries_74 ?_
          refine lv_iadd hx hb dX4_creditEntries_77 ?_
          refine tk_put (ty := .int) hx hb hts inX1 tyX1 tyX1_ok nmX1 hown hK hM hS (hP.v hls_8) rfl 3 (by decide) (hts (.fieldLink RX4 281 "TicketForge$Invoice" "credited" "I") (by decide +kernel)) (fun _ h9 => h9) rfl (by decide +kernel) rfl rfl (Nat.le_of_ble_eq_true rfl) dX4_creditEntries_78 (fun H locs hM hS => ?_)
          have hP := hP.i3 hls_8 (v := (((st ((crS M t i).1) 5 i 99) 17 s_8) + ((st ((crS M t i).1) 5 i 99) 13 i)))
          refine lv_iload_n hx hb dX4_creditEntries_81 rfl (lv_at hl 5 rfl) ?_
          refine lv_aload hx hb dX4_creditEntries_82 (lv_at hl 1 rfl) ?_
          refine tk_get hx hb hts inX0 hown hK hM (hP.e hg_4) rfl 5 (by decide) (hts (.fieldLink RX4 207 "TicketForge$Entry" "price" "I") (by decide +kernel)) (fun _ h9 => h9) rfl dX4_creditEntries_84 ?_
          refine lv_iadd hx hb dX4_creditEntries_87 ?_
          refine lv_istore_n (lv' := [(2, .int (acc + ((st (st ((crS M t i).1) 5 i 99) 17 s_8 (((st ((crS M t i).1) 5 i 99) 17 s_8) + ((st ((crS M t i).1) 5 i 99) 13 i))) 13 i))), (5, .ref (α 3 s_8)), (4, .ref (α 2 i)), (0, .ref h0), (1, .ref (α 1 t)), (3, .int (nI i))]) hx hb dX4_creditEntries_88 rfl hl (by decide) rfl (fun ls hl => ?_)
          refine lv_iinc (v := (nI (i + 1))) (lv' := [(3, .int (nI (i + 1))), (2, .int (acc + ((st (st ((crS M t i).1) 5 i 99) 17 s_8 (((st ((crS M t i).1) 5 i 99) 17 s_8) + ((st ((crS M t i).1) 5 i 99) 13 i))) 13 i))), (5, .ref (α 3 s_8)), (4, .ref (α 2 i)), (0, .ref h0), (1, .ref (α 1 t))]) hx hb dX4_creditEntries_89 hl (k := 5) rfl (nI_1 i) (by decide) rfl (fun ls hl => ?_)
          refine lv_goto (tgt := 4) hx hb dX4_creditEntries_92 (by decide) ?_
          have hstep : crS M t (i + 1) = ((st (st ((crS M t i).1) 5 i 99) 17 s_8 (((st ((crS M t i).1) 5 i 99) 17 s_8) + ((st ((crS M t i).1) 5 i 99) 13 i))), (acc + ((st (st ((crS M t i).1) 5 i 99) 17 s_8 (((st ((crS M t i).1) 5 i 99) 17 s_8) + ((st ((crS M t i).1) 5 i 99) 13 i))) 13 i))) := (by rw [crS, if_pos ⟨by rw [ett, c_6], by rw [← crS_5 (M := M) (t := t) i (Nat.le_refl _)]; exact c_7⟩, hacc, show tn (M 14 i) = s_8 from by rw [← crS_f (M := M) (t := t) (f := 14) (by decide) (by decide) i, evs_8]; exact nI_clamp (by omega), ← crS_f (f := 13) (M := M) (t := t) (by decide) (by decide) i]; rfl)
          exact ih _ _ _ ls (by omega) ⟨(lv_sub hl [4, 5, 0, 1] rfl), (by rw [hstep]), _, (by rw [hstep]; exact hP), hM, hS⟩
