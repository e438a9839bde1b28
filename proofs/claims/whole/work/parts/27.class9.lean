/-! the class: what changes -/
def K_begin (M : TS) (x : Int32) : Int32 × TS × Int32 :=
  if tkOk (nT M) x = false then (1, M, 0) else if ¬ M 4 (tn x) = 111 then (2, M, 0) else if freeC M (tn x) = false then (3, M, 0) else (0, st M 4 (tn x) 119, manyIn (st M 4 (tn x) 119) 119)
def K_approve (M : TS) (x : Int32) : Int32 × TS × Int32 :=
  if tkOk (nE M) x = false then (1, M, 0) else if ¬ M 5 (tn x) = 110 then (2, M, 0) else if lkB M (tn (M 11 (tn x))) = true then (3, M, 0) else (0, st M 5 (tn x) 97, apS (st M 5 (tn x) 97) (M 11 (tn x)))
def K_lock (M : TS) (w : Int32) : Int32 × TS × Int32 :=
  if tkOk 30 w = false then (1, M, 0) else if lkB M (tn w) = true then (2, M, 0) else (0, (dropS (nLock M (tn w)) w (nE M)).1, (dropS (nLock M (tn w)) w (nE M)).2)
def K_block (M : TS) (x y : Int32) : Int32 × TS × Int32 :=
  if tkOk (nT M) x = false ∨ tkOk (nT M) y = false then (1, M, 0) else if x = y then (2, M, 0) else if hasB M (tn y) (tn x) = true ∨ 20 ≤ M 0 20 then (3, M, 0) else if (!decide (fR M (M 19 (tn x)) 16 &&& bitOf (tn y) = 0)) = true then (4, M, 0) else
  (0, nBlock M (tn x) (tn y), bcI (M 19 (tn y) ||| bitOf (tn x)))
theorem PX.nvE {ac : Nat → ClassId} {dE h0 : Nat} {α : Nat → Nat → Nat} {M : TS} {nv n2 : Nat} {G : TG} (hP : PX ac dE h0 α M nv G) (e : nv = n2) : PX ac dE h0 α M n2 G := e ▸ hP
theorem st_comm {M : TS} {f g i j : Nat} {v w : Int32} (h : f ≠ g) : st (st M f i v) g j w = st (st M g j w) f i v := by
  funext a
  by_cases h1 : a = g
  · subst h1
    rw [st_eq, st_ne _ _ _ (Ne.symm h), st_ne _ _ _ (Ne.symm h), st_eq]
  · by_cases h2 : a = f
    · subst h2
      rw [st_ne _ _ _ h1, st_eq, st_eq, st_ne _ _ _ h1]
    · rw [st_ne _ _ _ h1, st_ne _ _ _ h2, st_ne _ _ _ h2, st_ne _ _ _ h1]
set_option maxHeartbeats 4000000 in
set_option maxRecDepth 100000 in
theorem c_X4_begin (l : Launch) (hst : l.stackTraces = false) (A : Nat → Prop) (D : va_G) (ac : Nat → ClassId) (dE : Nat) (G : TG) {h0 : Nat} {α : Nat → Nat → Nat} {M : TS} {nv : Nat} (hP : PX ac dE h0 α M (nV M) G) (hW : W0 M) (x : Int32) : vx_Met l yX4_begin wsX4_begin ({ frames := 9, cells := 3, slots := 18, locals := 500 } : Room) (va_Pc [.ref h0, .int x] (tkX A D ac dE G)) (va_Qi (fun (z : Int32) (G9 : TG) => (K_begin M x).1 = 0 ∧ (∃ α9 : Nat → Nat → Nat, PX ac dE h0 α9 (K_begin M x).2.1 (nV (K_begin M x).2.1) G9) ∧ z = (K_begin M x).2.2) (fun (G9 : TG) t => tkM A D G9 t.heap) A) (XG (fun E => (E, (K_begin M x).1) ∈ ([("java/lang/IndexOutOfBoundsException", 1), ("java/lang/IllegalStateException", 2), ("java/lang/UnsupportedOperationException", 3)] : List (String × Int32)))) 3 18 A := by
  refine vx_ofW (cc := cX4_begin) (maxL := 3) (ret := (some .int)) (by decide) rfl ?_
  intro p e s m args below meth c s₁ B hml hno hv
  obtain ⟨rfl, ⟨hM, hK, hA, hF⟩, hO⟩ := hv
  have hS : va_S A s.heap s.heap [] := va_S.rf
  have hE : tkE s.heap s.heap := tkE.rf
  have hx := B.exec
  have hb := B.bytes
  have hr := B.returns
  have hts := atoms_spec (ws := wsX4_begin) B.pre
  have hown : s.vm.findClass RX4 = some m.cls := findClass_of_methodNamed B.named
  have hlocks := B.notSynchronized
  have S0 : CallFix p m c cX4_begin 3 s ([.ref h0, .int x] : List Value).toArray wsX4_begin RX4 := ⟨hx, hb, hml, hown, hts⟩
  have inX3 : ∀ w ∈ wsX30, w ∈ wsX4_begin := by decide +kernel
  have hl := lv_entry ([.ref h0, .int x]) (n := 3) (Nat.le_of_ble_eq_true rfl)
  rw [lg_entry_eq]
  generalize (lg_sl ([.ref h0, .int x]) ++ List.replicate (3 - (lg_sl ([.ref h0, .int x])).length) Slot.unset).toArray = ls at hl ⊢
  have hl : lv_has ls 3 [(0, .ref h0), (1, .int x)] := hl
  have bT := hW.t.2
  have bE := hW.e.2
  have bV := hW.v.2
  refine lv_aload_n hx hb dX4_begin_0 rfl (lv_at hl 0 rfl) ?_
  refine lv_iload_n hx hb dX4_begin_1 rfl (lv_at hl 1 rfl) ?_
  refine tk_xVq (As := [.int x]) S0 (c_X4_requireTask l hst A D ac dE _ hP hW x) (cwV 1 hts gX4_begin_X4_requireTask rfl rfl rfl (by decide +kernel) ⟨Nat.le_of_ble_eq_true rfl, Nat.le_of_ble_eq_true rfl⟩) (tkX.blind) (tkX.at hM hK hA hF hO hS) (tk_recv hK hM hP.h rfl) rfl hl.1 rfl (Nat.le_of_ble_eq_true rfl) dX4_begin_2 ⟨Nat.le_of_ble_eq_true rfl, Nat.le_of_ble_eq_true rfl⟩ hS hE hno hlocks ⟨Nat.le_of_ble_eq_true rfl, Nat.le_of_ble_eq_true rfl⟩ (fun E h9 => by obtain ⟨rfl, h9⟩ := h9; exact (xl (k := 1) (by rw [K_begin, if_pos h9]) (by decide +kernel))) (fun r_1 H locs hr_1 hq9 hE hS => ?_)
  have hM := hM.keptE hq9
  obtain ⟨hok, rfl⟩ := hr_1
  have hokc := hok
  obtain ⟨t, ht, rfl⟩ := tkOk_ex (by omega) hokc
  rw [show tn (nI t) = t from nI_clamp (by omega)]
  refine lv_astore_n (lv' := [(2, .ref (α 1 t)), (0, .ref h0), (1, .int (nI t))]) hx hb dX4_begin_5 rfl hl (by decide) rfl (fun ls hl => ?_)
  refine lv_aload_n hx hb dX4_begin_6 rfl (lv_at hl 0 rfl) ?_
  refine lv_bipush (v := 111) hx hb dX4_begin_7 (by decide) ?_
  refine tk_xSv (As := [.ref (α 1 t), .int 111]) S0 (c_X4_requireState l hst A D ac dE _ hP t ht 111) (va_cwS 2 hts gX4_begin_X4_requireState rfl rfl rfl (by decide +kernel) ⟨Nat.le_of_ble_eq_true rfl, Nat.le_of_ble_eq_true rfl⟩) (tkX.blind) (tkX.at hM hK hA hF hO hS) rfl hl.1 rfl (Nat.le_of_ble_eq_true rfl) dX4_begin_9 ⟨Nat.le_of_ble_eq_true rfl, Nat.le_of_ble_eq_true rfl⟩ hS hE hno hlocks ⟨Nat.le_of_ble_eq_true rfl, Nat.le_of_ble_eq_true rfl⟩ (fun E h9 => by obtain ⟨rfl, h9⟩ := h9; exact (xl (k := 2) (by rw [K_begin, show tn (nI t) = t from nI_clamp (show t < 2 ^ 31 by omega), if_neg (by rw [hok]; decide), if_pos h9]) (by decide +kernel))) (fun H locs hr_2 hq9 hE hS => ?_)
  have hM := hM.keptE hq9
  have hst4 := hr_2
  refine lv_aload_n hx hb dX4_begin_12 rfl (lv_at hl 1 rfl) ?_
  refine lv_aload_n hx hb dX4_begin_13 rfl (lv_at hl 0 rfl) ?_
  refine tk_cVi (As := [.ref (α 1 t)]) S0 (c_X4_areBlockersDone l A D ac dE _ hP hW t ht) (cwV 1 hts gX4_begin_X4_areBlockersDone rfl rfl rfl (by decide +kernel) ⟨Nat.le_of_ble_eq_true rfl, Nat.le_of_ble_eq_true rfl⟩) (tkX.blind) (tkX.at hM hK hA hF hO hS) (tk_recv hK hM hP.h rfl) rfl hl.1 rfl (Nat.le_of_ble_eq_true rfl) dX4_begin_14 ⟨Nat.le_of_ble_eq_true rfl, Nat.le_of_ble_eq_true rfl⟩ (fun r_3 hr_3 => ?_)
  rcases hr_3 with ⟨rfl, hr_3⟩ | ⟨rfl, hr_3⟩
  · skip
    refine lv_if_ne (tgt := 30) hx hb dX4_begin_17 (by decide) (fun c_4 => ?_) (fun c_4 => absurd c_4 (by decide))
    refine lv_aload_n hx hb dX4_begin_30 rfl (lv_at hl 0 rfl) ?_
    refine lv_bipush (v := 119) hx hb dX4_begin_31 (by decide) ?_
    refine tk_put (ty := .char) hx hb hts inX3 tyX3 tyX3_ok nmX3 hown hK hM hS (hP.t ht) rfl 4 (by decide) (hts (.fieldLink RX4 71 "TicketForge$Task" "state" "C") (by decide +kernel)) (fun _ h9 => h9) rfl (by decide +kernel) rfl rfl (Nat.le_of_ble_eq_true rfl) dX4_begin_33 (fun H locs hM hS => ?_)
    have hP := hP.p4 ht (v := 119)
    have hW := hW.ofst 4 (by decide) (i := t) (v := 119)
    have eT : nT (st M 4 t 119) = nT M := rfl
    have eE : nE (st M 4 t 119) = nE M := rfl
    have eV : nV (st M 4 t 119) = nV M := rfl
    have bT := hW.t.2
    have bE := hW.e.2
    have bV := hW.v.2
    refine lv_aload_n hx hb dX4_begin_36 rfl (lv_at hl 1 rfl) ?_
    refine lv_bipush (v := 119) hx hb dX4_begin_37 (by decide) ?_
    refine tk_cVi (As := [.int 119]) S0 (c_X4_countTasks l A D ac dE _ hP hW 119) (cwV 1 hts gX4_begin_X4_countTasks rfl rfl rfl (by decide +kernel) ⟨Nat.le_of_ble_eq_true rfl, Nat.le_of_ble_eq_true rfl⟩) (tkX.blind) (tkX.at hM hK hA hF hO hS) (tk_recv hK hM hP.h rfl) rfl hl.1 rfl (Nat.le_of_ble_eq_true rfl) dX4_begin_39 ⟨Nat.le_of_ble_eq_true rfl, Nat.le_of_ble_eq_true rfl⟩ (fun r_5 hr_5 => ?_)
    refine vx_ret ?_
    refine W.widen (k := 3) (n := 18) (Nat.le_of_ble_eq_true rfl) (Nat.le_of_ble_eq_true rfl) ?_
    have eS : K_begin M (nI t) = (0, (st M 4 t 119), r_5) := (by rw [K_begin, show tn (nI t) = t from nI_clamp (show t < 2 ^ 31 by omega), if_neg (by rw [hok]; decide), if_neg (fun h9 => h9 hst4), if_neg (by rw [hr_3]; decide), hr_5])
    exact W.iret (v := r_5) hx hb hr (fun t9 h9 w9 => ⟨⟨r_5, _, rfl, (by rw [eS]; exact ⟨rfl, ⟨_, hP⟩, rfl⟩), (by show tkM A D _ _; rw [h9]; exact hM)⟩, hS.F h9⟩) hS.2.2 dX4_begin_42
  · skip
    refine lv_if_ne (tgt := 30) hx hb dX4_begin_17 (by decide) (fun c_6 => absurd c_6 (by decide)) (fun c_6 => ?_)
    exact tk_th hst hx hb hown (by decide) (hts (.classLink RX4 77 "java/lang/UnsupportedOperationException") (by decide +kernel)) (hts (.initialized "java/lang/UnsupportedOperationException") (by decide +kernel)) (text := "a task that blocks it is not done") (by decide) (by decide) (fun w hw => hts w (List.mem_cons_of_mem _ (List.mem_append_left _ (List.mem_append_left _ (List.mem_append_right _ hw))))) ng_81 ot_81 hF hO hS hE (hl.1.trans hml.symm) hno hlocks dX4_begin_20 dX4_begin_23 dX4_begin_24 dX4_begin_26 dX4_begin_29 (Nat.le_of_ble_eq_true rfl) (Nat.le_of_ble_eq_true rfl) ⟨Nat.le_of_ble_eq_true rfl, Nat.le_of_ble_eq_true rfl⟩ ⟨Nat.le_of_ble_eq_true rfl, Nat.le_of_ble_eq_true rfl⟩ (xl (k := 3) (by rw [K_begin, show tn (nI t) = t from nI_clamp (show t < 2 ^ 31 by omega), if_neg (by rw [hok]; decide), if_neg (fun h9 => h9 hst4), if_pos hr_3]) (by decide +kernel))
set_option maxHeartbeats 4000000 in
set_option maxRecDepth 100000 in
theorem c_X4_propose (l : Launch) (hst : l.stackTraces = false) (A : Nat → Prop) (D : va_G) (ac : Nat → ClassId) (dE : Nat) (G : TG) {h0 : Nat} {α : Nat → Nat → Nat} {M : TS} {nv : Nat} (hP : PX ac dE h0 α M (nV M) G) (hW : W0 M) (x : Int32) : vx_Met l yX4_propose wsX4_propose ({ frames := 9, cells := 2, slots := 12, locals := 500 } : Room) (va_Pc [.ref h0, .int x] (tkX A D ac dE G)) (va_Qi (fun (z : Int32) (G9 : TG) => (S_propose M x).1 = 0 ∧ (∃ α9 : Nat → Nat → Nat, PX ac dE h0 α9 (S_propose M x).2.1 (nV (S_propose M x).2.1) G9) ∧ z = (S_propose M x).2.2) (fun (G9 : TG) t => tkM A D G9 t.heap) A) (XG (fun E => (E, (S_propose M x).1) ∈ ([("java/lang/IndexOutOfBoundsException", 1), ("java/lang/IllegalStateException", 2)] : List (String × Int32)))) 2 12 A := by
  refine vx_ofW (cc := cX4_propose) (maxL := 3) (ret := (some .int)) (by decide) rfl ?_
  intro p e s m args below meth c s₁ B hml hno hv
  obtain ⟨rfl, ⟨hM, hK, hA, hF⟩, hO⟩ := hv
  have hS : va_S A s.heap s.heap [] := va_S.rf
  have hE : tkE s.heap s.heap := tkE.rf
  have hx := B.exec
  have hb := B.bytes
  have hr := B.returns
  have hts := atoms_spec (ws := wsX4_propose) B.pre
  have hown : s.vm.findClass RX4 = some m.cls := findClass_of_methodNamed B.named
  have hlocks := B.notSynchronized
  have S0 : CallFix p m c cX4_propose 3 s ([.ref h0, .int x] : List Value).toArray wsX4_propose RX4 := ⟨hx, hb, hml, hown, hts⟩
  have inX3 : ∀ w ∈ wsX30, w ∈ wsX4_propose := by decide +kernel
  have hl := lv_entry ([.ref h0, .int x]) (n := 3) (Nat.le_of_ble_eq_true rfl)
  rw [lg_entry_eq]
  generalize (lg_sl ([.ref h0, .int x]) ++ List.replicate (3 - (lg_sl ([.ref h0, .int x])).length) Slot.unset).toArray = ls at hl ⊢
  have hl : lv_has ls 3 [(0, .ref h0), (1, .int x)] := hl
  have bT := hW.t.2
  have bE := hW.e.2
  have bV := hW.v.2
  refine lv_aload_n hx hb dX4_propose_0 rfl (lv_at hl 0 rfl) ?_
  refine lv_iload_n hx hb dX4_propose_1 rfl (lv_at hl 1 rfl) ?_
  refine tk_xVq (As := [.int x]) S0 (c_X4_requireTask l hst A D ac dE _ hP hW x) (cwV 1 hts gX4_propose_X4_requireTask rfl rfl rfl (by decide +kernel) ⟨Nat.le_of_ble_eq_true rfl, Nat.le_of_ble_eq_true rfl⟩) (tkX.blind) (tkX.at hM hK hA hF hO hS) (tk_recv hK hM hP.h rfl) rfl hl.1 rfl (Nat.le_of_ble_eq_true rfl) dX4_propose_2 ⟨Nat.le_of_ble_eq_true rfl, Nat.le_of_ble_eq_true rfl⟩ hS hE hno hlocks ⟨Nat.le_of_ble_eq_true rfl, Nat.le_of_ble_eq_true rfl⟩ (fun E h9 => by obtain ⟨rfl, h9⟩ := h9; exact (xl (k := 1) (by rw [S_propose, if_pos h9]) (by decide +kernel))) (fun r_1 H locs hr_1 hq9 hE hS => ?_)
  have hM := hM.keptE hq9
  obtain ⟨hok, rfl⟩ := hr_1
  have hokc := hok
  obtain ⟨t, ht, rfl⟩ := tkOk_ex (by omega) hokc
  rw [show tn (nI t) = t from nI_clamp (by omega)]
  refine lv_astore_n (lv' := [(2, .ref (α 1 t)), (0, .ref h0), (1, .int (nI t))]) hx hb dX4_propose_5 rfl hl (by decide) rfl (fun ls hl => ?_)
  refine lv_aload_n hx hb dX4_propose_6 rfl (lv_at hl 0 rfl) ?_
  refine lv_bipush (v := 119) hx hb dX4_propose_7 (by decide) ?_
  refine tk_xSv (As := [.ref (α 1 t), .int 119]) S0 (c_X4_requireState l hst A D ac dE _ hP t ht 119) (va_cwS 2 hts gX4_propose_X4_requireState rfl rfl rfl (by decide +kernel) ⟨Nat.le_of_ble_eq_true rfl, Nat.le_of_ble_eq_true rfl⟩) (tkX.blind) (tkX.at hM hK hA hF hO hS) rfl hl.1 rfl (Nat.le_of_ble_eq_true rfl) dX4_propose_9 ⟨Nat.le_of_ble_eq_true rfl, Nat.le_of_ble_eq_true rfl⟩ hS hE hno hlocks ⟨Nat.le_of_ble_eq_true rfl, Nat.le_of_ble_eq_true rfl⟩ (fun E h9 => by obtain ⟨rfl, h9⟩ := h9; exact (xl (k := 2) (by rw [S_propose, show tn (nI t) = t from nI_clamp (show t < 2 ^ 31 by omega), if_neg (by rw [hok]; decide), if_pos h9]) (by decide +kernel))) (fun H locs hr_2 hq9 hE hS => ?_)
  have hM := hM.keptE hq9
  have hst4 := hr_2
  refine lv_aload_n hx hb dX4_propose_12 rfl (lv_at hl 0 rfl) ?_
  refine lv_bipush (v := 114) hx hb dX4_propose_13 (by decide) ?_
  refine tk_put (ty := .char) hx hb hts inX3 tyX3 tyX3_ok nmX3 hown hK hM hS (hP.t ht) rfl 4 (by decide) (hts (.fieldLink RX4 71 "TicketForge$Task" "state" "C") (by decide +kernel)) (fun _ h9 => h9) rfl (by decide +kernel) rfl rfl (Nat.le_of_ble_eq_true rfl) dX4_propose_15 (fun H locs hM hS => ?_)
  have hP := hP.p4 ht (v := 114)
  have hW := hW.ofst 4 (by decide) (i := t) (v := 114)
  have eT : nT (st M 4 t 114) = nT M := rfl
  have eE : nE (st M 4 t 114) = nE M := rfl
  have eV : nV (st M 4 t 114) = nV M := rfl
  have bT := hW.t.2
  have bE := hW.e.2
  have bV := hW.v.2
  refine lv_aload_n hx hb dX4_propose_18 rfl (lv_at hl 1 rfl) ?_
  refine lv_bipush (v := 114) hx hb dX4_propose_19 (by decide) ?_
  refine tk_cVi (As := [.int 114]) S0 (c_X4_countTasks l A D ac dE _ hP hW 114) (cwV 1 hts gX4_propose_X4_countTasks rfl rfl rfl (by decide +kernel) ⟨Nat.le_of_ble_eq_true rfl, Nat.le_of_ble_eq_true rfl⟩) (tkX.blind) (tkX.at hM hK hA hF hO hS) (tk_recv hK hM hP.h rfl) rfl hl.1 rfl (Nat.le_of_ble_eq_true rfl) dX4_propose_21 ⟨Nat.le_of_ble_eq_true rfl, Nat.le_of_ble_eq_true rfl⟩ (fun r_3 hr_3 => ?_)
  refine vx_ret ?_
  refine W.widen (k := 2) (n := 12) (Nat.le_of_ble_eq_true rfl) (Nat.le_of_ble_eq_true rfl) ?_
  have eS : S_propose M (nI t) = (0, (st M 4 t 114), r_3) := (by rw [S_propose, show tn (nI t) = t from nI_clamp (show t < 2 ^ 31 by omega), if_neg (by rw [hok]; decide), if_neg (fun h9 => h9 hst4), hr_3])
  exact W.iret (v := r_3) hx hb hr (fun t9 h9 w9 => ⟨⟨r_3, _, rfl, (by rw [eS]; exact ⟨rfl, ⟨_, hP⟩, rfl⟩), (by show tkM A D _ _; rw [h9]; exact hM)⟩, hS.F h9⟩) hS.2.2 dX4_propose_24
set_option maxHeartbeats 4000000 in
set_option maxRecDepth 100000 in
theorem c_X4_reject (l : Launch) (hst : l.stackTraces = false) (A : Nat → Prop) (D : va_G) (ac : Nat → ClassId) (dE : Nat) (G : TG) {h0 : Nat} {α : Nat → Nat → Nat} {M : TS} {nv : Nat} (hP : PX ac dE h0 α M (nV M) G) (hW : W0 M) (x : Int32) : vx_Met l yX4_reject wsX4_reject ({ frames := 9, cells := 2, slots := 12, locals := 500 } : Room) (va_Pc [.ref h0, .int x] (tkX A D ac dE G)) (va_Qi (fun (z : Int32) (G9 : TG) => (S_reject M x).1 = 0 ∧ (∃ α9 : Nat → Nat → Nat, PX ac dE h0 α9 (S_reject M x).2.1 (nV (S_reject M x).2.1) G9) ∧ z = (S_reject M x).2.2) (fun (G9 : TG) t => tkM A D G9 t.heap) A) (XG (fun E => (E, (S_reject M x).1) ∈ ([("java/lang/IndexOutOfBoundsException", 1), ("java/lang/IllegalStateException", 2)] : List (String × Int32)))) 2 12 A := by
  refine vx_ofW (cc := cX4_reject) (maxL := 3) (ret := (some .int)) (by decide) rfl ?_
  intro p e s m args below meth c s₁ B hml hno hv
  obtain ⟨rfl, ⟨hM, hK, hA, hF⟩, hO⟩ := hv
  have hS : va_S A s.heap s.heap [] := va_S.rf
  have hE : tkE s.heap s.heap := tkE.rf
  have hx := B.exec
  have hb := B.bytes
  have hr := B.returns
  have hts := atoms_spec (ws := wsX4_reject) B.pre
  have hown : s.vm.findClass RX4 = some m.cls := findClass_of_methodNamed B.named
  have hlocks := B.notSynchronized
  have S0 : CallFix p m c cX4_reject 3 s ([.ref h0, .int x] : List Value).toArray wsX4_reject RX4 := ⟨hx, hb, hml, hown, hts⟩
  have inX3 : ∀ w ∈ wsX30, w ∈ wsX4_reject := by decide +kernel
  have hl := lv_entry ([.ref h0, .int x]) (n := 3) (Nat.le_of_ble_eq_true rfl)
  rw [lg_entry_eq]
  generalize (lg_sl ([.ref h0, .int x]) ++ List.replicate (3 - (lg_sl ([.ref h0, .int x])).length) Slot.unset).toArray = ls at hl ⊢
  have hl : lv_has ls 3 [(0, .ref h0), (1, .int x)] := hl
  have bT := hW.t.2
  have bE := hW.e.2
  have bV := hW.v.2
  refine lv_aload_n hx hb dX4_reject_0 rfl (lv_at hl 0 rfl) ?_
  refine lv_iload_n hx hb dX4_reject_1 rfl (lv_at hl 1 rfl) ?_
  refine tk_xVq (As := [.int x]) S0 (c_X4_requireTask l hst A D ac dE _ hP hW x) (cwV 1 hts gX4_reject_X4_requireTask rfl rfl rfl (by decide +kernel) ⟨Nat.le_of_ble_eq_true rfl, Nat.le_of_ble_eq_true rfl⟩) (tkX.blind) (tkX.at hM hK hA hF hO hS) (tk_recv hK hM hP.h rfl) rfl hl.1 rfl (Nat.le_of_ble_eq_true rfl) dX4_reject_2 ⟨Nat.le_of_ble_eq_true rfl, Nat.le_of_ble_eq_true rfl⟩ hS hE hno hlocks ⟨Nat.le_of_ble_eq_true rfl, Nat.le_of_ble_eq_true rfl⟩ (fun E h9 => by obtain ⟨rfl, h9⟩ := h9; exact (xl (k := 1) (by rw [S_reject, if_pos h9]) (by decide +kernel))) (fun r_1 H locs hr_1 hq9 hE hS => ?_)
  have hM := hM.keptE hq9
  obtain ⟨hok, rfl⟩ := hr_1
  have hokc := hok
  obtain ⟨t, ht, rfl⟩ := tkOk_ex (by omega) hokc
  rw [show tn (nI t) = t from nI_clamp (by omega)]
  refine lv_astore_n (lv' := [(2, .ref (α 1 t)), (0, .ref h0), (1, .int (nI t))]) hx hb dX4_reject_5 rfl hl (by decide) rfl (fun ls hl => ?_)
  refine lv_aload_n hx hb dX4_reject_6 rfl (lv_at hl 0 rfl) ?_
  refine lv_bipush (v := 114) hx hb dX4_reject_7 (by decide) ?_
  refine tk_xSv (As := [.ref (α 1 t), .int 114]) S0 (c_X4_requireState l hst A D ac dE _ hP t ht 114) (va_cwS 2 hts gX4_reject_X4_requireState rfl rfl rfl (by decide +kernel) ⟨Nat.le_of_ble_eq_true rfl, Nat.le_of_ble_eq_true rfl⟩) (tkX.blind) (tkX.at hM hK hA hF hO hS) rfl hl.1 rfl (Nat.le_of_ble_eq_true rfl) dX4_reject_9 ⟨Nat.le_of_ble_eq_true rfl, Nat.le_of_ble_eq_true rfl⟩ hS hE hno hlocks ⟨Nat.le_of_ble_eq_true rfl, Nat.le_of_ble_eq_true rfl⟩ (fun E h9 => by obtain ⟨rfl, h9⟩ := h9; exact (xl (k := 2) (by rw [S_reject, show tn (nI t) = t from nI_clamp (show t < 2 ^ 31 by omega), if_neg (by rw [hok]; decide), if_pos h9]) (by decide +kernel))) (fun H locs hr_2 hq9 hE hS => ?_)
  have hM := hM.keptE hq9
  have hst4 := hr_2
  refine lv_aload_n hx hb dX4_reject_12 rfl (lv_at hl 0 rfl) ?_
  refine lv_bipush (v := 119) hx hb dX4_reject_13 (by decide) ?_
  refine tk_put (ty := .char) hx hb hts inX3 tyX3 tyX3_ok nmX3 hown hK hM hS (hP.t ht) rfl 4 (by decide) (hts (.fieldLink RX4 71 "TicketForge$Task" "state" "C") (by decide +kernel)) (fun _ h9 => h9) rfl (by decide +kernel) rfl rfl (Nat.le_of_ble_eq_true rfl) dX4_reject_15 (fun H locs hM hS => ?_)
  have hP := hP.p4 ht (v := 119)
  have hW := hW.ofst 4 (by decide) (i := t) (v := 119)
  have eT : nT (st M 4 t 119) = nT M := rfl
  have eE : nE (st M 4 t 119) = nE M := rfl
  have eV : nV (st M 4 t 119) = nV M := rfl
  have bT := hW.t.2
  have bE := hW.e.2
  have bV := hW.v.2
  refine lv_aload_n hx hb dX4_reject_18 rfl (lv_at hl 1 rfl) ?_
  refine lv_bipush (v := 114) hx hb dX4_reject_19 (by decide) ?_
  refine tk_cVi (As := [.int 114]) S0 (c_X4_countTasks l A D ac dE _ hP hW 114) (cwV 1 hts gX4_reject_X4_countTasks rfl rfl rfl (by decide +kernel) ⟨Nat.le_of_ble_eq_true rfl, Nat.le_of_ble_eq_true rfl⟩) (tkX.blind) (tkX.at hM hK hA hF hO hS) (tk_recv hK hM hP.h rfl) rfl hl.1 rfl (Nat.le_of_ble_eq_true rfl) dX4_reject_21 ⟨Nat.le_of_ble_eq_true rfl, Nat.le_of_ble_eq_true rfl⟩ (fun r_3 hr_3 => ?_)
  refine vx_ret ?_
  refine W.widen (k := 2) (n := 12) (Nat.le_of_ble_eq_true rfl) (Nat.le_of_ble_eq_true rfl) ?_
  have eS : S_reject M (nI t) = (0, (st M 4 t 119), r_3) := (by rw [S_reject, show tn (nI t) = t from nI_clamp (show t < 2 ^ 31 by omega), if_neg (by rw [hok]; decide), if_neg (fun h9 => h9 hst4), hr_3])
  exact W.iret (v := r_3) hx hb hr (fun t9 h9 w9 => ⟨⟨r_3, _, rfl, (by rw [eS]; exact ⟨rfl, ⟨_, hP⟩, rfl⟩), (by show tkM A D _ _; rw [h9]; exact hM)⟩, hS.F h9⟩) hS.2.2 dX4_reject_24
set_option maxHeartbeats 4000000 in
set_option maxRecDepth 100000 in
theorem c_X4_merge (l : Launch) (hst : l.stackTraces = false) (A : Nat → Prop) (D : va_G) (ac : Nat → ClassId) (dE : Nat) (G : TG) {h0 : Nat} {α : Nat → Nat → Nat} {M : TS} {nv : Nat} (hP : PX ac dE h0 α M (nV M) G) (hW : W0 M) (x : Int32) : vx_Met l yX4_merge wsX4_merge ({ frames := 9, cells := 3, slots := 18, locals := 500 } : Room) (va_Pc [.ref h0, .int x] (tkX A D ac dE G)) (va_Qi (fun (z : Int32) (G9 : TG) => (S_merge M x).1 = 0 ∧ (∃ α9 : Nat → Nat → Nat, PX ac dE h0 α9 (S_merge M x).2.1 (nV (S_merge M x).2.1) G9) ∧ z = (S_merge M x).2.2) (fun (G9 : TG) t => tkM A D G9 t.heap) A) (XG (fun E => (E, (S_merge M x).1) ∈ ([("java/lang/IndexOutOfBoundsException", 1), ("java/lang/IllegalStateException", 2), ("java/lang/UnsupportedOperationException", 3)] : List (String × Int32)))) 3 18 A := by
  refine vx_ofW (cc := cX4_merge) (maxL := 3) (ret := (some .int)) (by decide) rfl ?_
  intro p e s m args below meth c s₁ B hml hno hv
  obtain ⟨rfl, ⟨hM, hK, hA, hF⟩, hO⟩ := hv
  have hS : va_S A s.heap s.heap [] := va_S.rf
  have hE : tkE s.heap s.heap := tkE.rf
  have hx := B.exec
  have hb := B.bytes
  have hr := B.returns
  have hts := atoms_spec (ws := wsX4_merge) B.pre
  have hown : s.vm.findClass RX4 = some m.cls := findClass_of_methodNamed B.named
  have hlocks := B.notSynchronized
  have S0 : CallFix p m c cX4_merge 3 s ([.ref h0, .int x] : List Value).toArray wsX4_merge RX4 := ⟨hx, hb, hml, hown, hts⟩
  have inX3 : ∀ w ∈ wsX30, w ∈ wsX4_merge := by decide +kernel
  have hl := lv_entry ([.ref h0, .int x]) (n := 3) (Nat.le_of_ble_eq_true rfl)
  rw [lg_entry_eq]
  generalize (lg_sl ([.ref h0, .int x]) ++ List.replicate (3 - (lg_sl ([.ref h0, .int x])).length) Slot.unset).toArray = ls at hl ⊢
  have hl : lv_has ls 3 [(0, .ref h0), (1, .int x)] := hl
  have bT := hW.t.2
  have bE := hW.e.2
  have bV := hW.v.2
  refine lv_aload_n hx hb dX4_merge_0 rfl (lv_at hl 0 rfl) ?_
  refine lv_iload_n hx hb dX4_merge_1 rfl (lv_at hl 1 rfl) ?_
  refine tk_xVq (As := [.int x]) S0 (c_X4_requireTask l hst A D ac dE _ hP hW x) (cwV 1 hts gX4_merge_X4_requireTask rfl rfl rfl (by decide +kernel) ⟨Nat.le_of_ble_eq_true rfl, Nat.le_of_ble_eq_true rfl⟩) (tkX.blind) (tkX.at hM hK hA hF hO hS) (tk_recv hK hM hP.h rfl) rfl hl.1 rfl (Nat.le_of_ble_eq_true rfl) dX4_merge_2 ⟨Nat.le_of_ble_eq_true rfl, Nat.le_of_ble_eq_true rfl⟩ hS hE hno hlocks ⟨Nat.le_of_ble_eq_true rfl, Nat.le_of_ble_eq_true rfl⟩ (fun E h9 => by obtain ⟨rfl, h9⟩ := h9; exact (xl (k := 1) (by rw [S_merge, if_pos h9]) (by decide +kernel))) (fun r_1 H locs hr_1 hq9 hE hS => ?_)
  have hM := hM.keptE hq9
  obtain ⟨hok, rfl⟩ := hr_1
  have hokc := hok
  obtain ⟨t, ht, rfl⟩ := tkOk_ex (by omega) hokc
  rw [show tn (nI t) = t from nI_clamp (by omega)]
  refine lv_astore_n (lv' := [(2, .ref (α 1 t)), (0, .ref h0), (1, .int (nI t))]) hx hb dX4_merge_5 rfl hl (by decide) rfl (fun ls hl => ?_)
  refine lv_aload_n hx hb dX4_merge_6 rfl (lv_at hl 0 rfl) ?_
  refine lv_bipush (v := 114) hx hb dX4_merge_7 (by decide) ?_
  refine tk_xSv (As := [.ref (α 1 t), .int 114]) S0 (c_X4_requireState l hst A D ac dE _ hP t ht 114) (va_cwS 2 hts gX4_merge_X4_requireState rfl rfl rfl (by decide +kernel) ⟨Nat.le_of_ble_eq_true rfl, Nat.le_of_ble_eq_true rfl⟩) (tkX.blind) (tkX.at hM hK hA hF hO hS) rfl hl.1 rfl (Nat.le_of_ble_eq_true rfl) dX4_merge_9 ⟨Nat.le_of_ble_eq_true rfl, Nat.le_of_ble_eq_true rfl⟩ hS hE hno hlocks ⟨Nat.le_of_ble_eq_true rfl, Nat.le_of_ble_eq_true rfl⟩ (fun E h9 => by obtain ⟨rfl, h9⟩ := h9; exact (xl (k := 2) (by rw [S_merge, show tn (nI t) = t from nI_clamp (show t < 2 ^ 31 by omega), if_neg (by rw [hok]; decide), if_pos h9]) (by decide +kernel))) (fun H locs hr_2 hq9 hE hS => ?_)
  have hM := hM.keptE hq9
  have hst4 := hr_2
  refine lv_aload_n hx hb dX4_merge_12 rfl (lv_at hl 1 rfl) ?_
  refine lv_aload_n hx hb dX4_merge_13 rfl (lv_at hl 0 rfl) ?_
  refine tk_cVi (As := [.ref (α 1 t)]) S0 (c_X4_areChildrenDone l A D ac dE _ hP hW t ht) (cwV 1 hts gX4_merge_X4_areChildrenDone rfl rfl rfl (by decide +kernel) ⟨Nat.le_of_ble_eq_true rfl, Nat.le_of_ble_eq_true rfl⟩) (tkX.blind) (tkX.at hM hK hA hF hO hS) (tk_recv hK hM hP.h rfl) rfl hl.1 rfl (Nat.le_of_ble_eq_true rfl) dX4_merge_14 ⟨Nat.le_of_ble_eq_true rfl, Nat.le_of_ble_eq_true rfl⟩ (fun r_3 hr_3 => ?_)
  rcases hr_3 with ⟨rfl, hr_3⟩ | ⟨rfl, hr_3⟩
  · skip
    refine lv_if_ne (tgt := 30) hx hb dX4_merge_17 (by decide) (fun c_4 => ?_) (fun c_4 => absurd c_4 (by decide))
    refine lv_aload_n hx hb dX4_merge_30 rfl (lv_at hl 0 rfl) ?_
    refine lv_bipush (v := 100) hx hb dX4_merge_31 (by decide) ?_
    refine tk_put (ty := .char) hx hb hts inX3 tyX3 tyX3_ok nmX3 hown hK hM hS (hP.t ht) rfl 4 (by decide) (hts (.fieldLink RX4 71 "TicketForge$Task" "state" "C") (by decide +kernel)) (fun _ h9 => h9) rfl (by decide +kernel) rfl rfl (Nat.le_of_ble_eq_true rfl) dX4_merge_33 (fun H locs hM hS => ?_)
    have hP := hP.p4 ht (v := 100)
    have hW := hW.ofst 4 (by decide) (i := t) (v := 100)
    have eT : nT (st M 4 t 100) = nT M := rfl
    have eE : nE (st M 4 t 100) = nE M := rfl
    have eV : nV (st M 4 t 100) = nV M := rfl
    have bT := hW.t.2
    have bE := hW.e.2
    have bV := hW.v.2
    refine lv_aload_n hx hb dX4_merge_36 rfl (lv_at hl 1 rfl) ?_
    refine lv_bipush (v := 100) hx hb dX4_merge_37 (by decide) ?_
    refine tk_cVi (As := [.int 100]) S0 (c_X4_countTasks l A D ac dE _ hP hW 100) (cwV 1 hts gX4_merge_X4_countTasks rfl rfl rfl (by decide +kernel) ⟨Nat.le_of_ble_eq_true rfl, Nat.le_of_ble_eq_true rfl⟩) (tkX.blind) (tkX.at hM hK hA hF hO hS) (tk_recv hK hM hP.h rfl) rfl hl.1 rfl (Nat.le_of_ble_eq_true rfl) dX4_merge_39 ⟨Nat.le_of_ble_eq_true rfl, Nat.le_of_ble_eq_true rfl⟩ (fun r_5 hr_5 => ?_)
    refine vx_ret ?_
    refine W.widen (k := 3) (n := 18) (Nat.le_of_ble_eq_true rfl) (Nat.le_of_ble_eq_true rfl) ?_
    have eS : S_merge M (nI t) = (0, (st M 4 t 100), r_5) := (by rw [S_merge, show tn (nI t) = t from nI_clamp (show t < 2 ^ 31 by omega), if_neg (by rw [hok]; decide), if_neg (fun h9 => h9 hst4), if_neg (by rw [hr_3]; decide), hr_5])
    exact W.iret (v := r_5) hx hb hr (fun t9 h9 w9 => ⟨⟨r_5, _, rfl, (by rw [eS]; exact ⟨rfl, ⟨_, hP⟩, rfl⟩), (by show tkM A D _ _; rw [h9]; exact hM)⟩, hS.F h9⟩) hS.2.2 dX4_merge_42
  · skip
    refine lv_if_ne (tgt := 30) hx hb dX4_merge_17 (by decide) (fun c_6 => absurd c_6 (by decide)) (fun c_6 => ?_)
    exact tk_th hst hx hb hown (by decide) (hts (.classLink RX4 77 "java/lang/UnsupportedOperationException") (by decide +kernel)) (hts (.initialized "java/lang/UnsupportedOperationException") (by decide +kernel)) (text := "a task whose parent it is is not done") (by decide) (by decide) (fun w hw => hts w (List.mem_cons_of_mem _ (List.mem_append_left _ (List.mem_append_left _ (List.mem_append_right _ hw))))) ng_81 ot_81 hF hO hS hE (hl.1.trans hml.symm) hno hlocks dX4_merge_20 dX4_merge_23 dX4_merge_24 dX4_merge_26 dX4_merge_29 (Nat.le_of_ble_eq_true rfl) (Nat.le_of_ble_eq_true rfl) ⟨Nat.le_of_ble_eq_true rfl, Nat.le_of_ble_eq_true rfl⟩ ⟨Nat.le_of_ble_eq_true rfl, Nat.le_of_ble_eq_true rfl⟩ (xl (k := 3) (by rw [S_merge, show tn (nI t) = t from nI_clamp (show t < 2 ^ 31 by omega), if_neg (by rw [hok]; decide), if_neg (fun h9 => h9 hst4), if_pos hr_3]) (by decide +kernel))
set_option maxHeartbeats 4000000 in
set_option maxRecDepth 100000 in
theorem c_X4_reopen (l : Launch) (hst : l.stackTraces = false) (A : Nat → Prop) (D : va_G) (ac : Nat → ClassId) (dE : Nat) (G : TG) {h0 : Nat} {α : Nat → Nat → Nat} {M : TS} {nv : Nat} (hP : PX ac dE h0 α M (nV M) G) (hW : W0 M) (hB : WB M (nV M)) (x : Int32) : vx_Met l yX4_reopen wsX4_reopen ({ frames := 9, cells := 3, slots := 18, locals := 500 } : Room) (va_Pc [.ref h0, .int x] (tkX A D ac dE G)) (va_Qi (fun (z : Int32) (G9 : TG) => (S_reopen M x).1 = 0 ∧ (∃ α9 : Nat → Nat → Nat, PX ac dE h0 α9 (S_reopen M x).2.1 (nV (S_reopen M x).2.1) G9) ∧ z = (S_reopen M x).2.2) (fun (G9 : TG) t => tkM A D G9 t.heap) A) (XG (fun E => (E, (S_reopen M x).1) ∈ ([("java/lang/IndexOutOfBoundsException", 1), ("java/lang/IllegalStateException", 2), ("java/lang/UnsupportedOperationException", 3)] : List (String × Int32)))) 3 18 A := by
  refine vx_ofW (cc := cX4_reopen) (maxL := 4) (ret := (some .int)) (by decide) rfl ?_
  intro p e s m args below meth c s₁ B hml hno hv
  obtain ⟨rfl, ⟨hM, hK, hA, hF⟩, hO⟩ := hv
  have hS : va_S A s.heap s.heap [] := va_S.rf
  have hE : tkE s.heap s.heap := tkE.rf
  have hx := B.exec
  have hb := B.bytes
  have hr := B.returns
  have hts := atoms_spec (ws := wsX4_reopen) B.pre
  have hown : s.vm.findClass RX4 = some m.cls := findClass_of_methodNamed B.named
  have hlocks := B.notSynchronized
  have S0 : CallFix p m c cX4_reopen 4 s ([.ref h0, .int x] : List Value).toArray wsX4_reopen RX4 := ⟨hx, hb, hml, hown, hts⟩
  have inX3 : ∀ w ∈ wsX30, w ∈ wsX4_reopen := by decide +kernel
  have hl := lv_entry ([.ref h0, .int x]) (n := 4) (Nat.le_of_ble_eq_true rfl)
  rw [lg_entry_eq]
  generalize (lg_sl ([.ref h0, .int x]) ++ List.replicate (4 - (lg_sl ([.ref h0, .int x])).length) Slot.unset).toArray = ls at hl ⊢
  have hl : lv_has ls 4 [(0, .ref h0), (1, .int x)] := hl
  have bT := hW.t.2
  have bE := hW.e.2
  have bV := hW.v.2
  refine lv_aload_n hx hb dX4_reopen_0 rfl (lv_at hl 0 rfl) ?_
  refine lv_iload_n hx hb dX4_reopen_1 rfl (lv_at hl 1 rfl) ?_
  refine tk_xVq (As := [.int x]) S0 (c_X4_requireTask l hst A D ac dE _ hP hW x) (cwV 1 hts gX4_reopen_X4_requireTask rfl rfl rfl (by decide +kernel) ⟨Nat.le_of_ble_eq_true rfl, Nat.le_of_ble_eq_true rfl⟩) (tkX.blind) (tkX.at hM hK hA hF hO hS) (tk_recv hK hM hP.h rfl) rfl hl.1 rfl (Nat.le_of_ble_eq_true rfl) dX4_reopen_2 ⟨Nat.le_of_ble_eq_true rfl, Nat.le_of_ble_eq_true rfl⟩ hS hE hno hlocks ⟨Nat.le_of_ble_eq_true rfl, Nat.le_of_ble_eq_true rfl⟩ (fun E h9 => by obtain ⟨rfl, h9⟩ := h9; exact (xl (k := 1) (by rw [S_reopen, if_pos h9]) (by decide +kernel))) (fun r_1 H locs hr_1 hq9 hE hS => ?_)
  have hM := hM.keptE hq9
  obtain ⟨hok, rfl⟩ := hr_1
  have hokc := hok
  obtain ⟨t, ht, rfl⟩ := tkOk_ex (by omega) hokc
  rw [show tn (nI t) = t from nI_clamp (by omega)]
  refine lv_astore_n (lv' := [(2, .ref (α 1 t)), (0, .ref h0), (1, .int (nI t))]) hx hb dX4_reopen_5 rfl hl (by decide) rfl (fun ls hl => ?_)
  refine lv_aload_n hx hb dX4_reopen_6 rfl (lv_at hl 0 rfl) ?_
  refine lv_bipush (v := 100) hx hb dX4_reopen_7 (by decide) ?_
  refine tk_xSv (As := [.ref (α 1 t), .int 100]) S0 (c_X4_requireState l hst A D ac dE _ hP t ht 100) (va_cwS 2 hts gX4_reopen_X4_requireState rfl rfl rfl (by decide +kernel) ⟨Nat.le_of_ble_eq_true rfl, Nat.le_of_ble_eq_true rfl⟩) (tkX.blind) (tkX.at hM hK hA hF hO hS) rfl hl.1 rfl (Nat.le_of_ble_eq_true rfl) dX4_reopen_9 ⟨Nat.le_of_ble_eq_true rfl, Nat.le_of_ble_eq_true rfl⟩ hS hE hno hlocks ⟨Nat.le_of_ble_eq_true rfl, Nat.le_of_ble_eq_true rfl⟩ (fun E h9 => by obtain ⟨rfl, h9⟩ := h9; exact (xl (k := 2) (by rw [S_reopen, show tn (nI t) = t from nI_clamp (by omega), if_neg (by rw [hok]; decide), if_pos h9]) (by decide +kernel))) (fun H locs hr_2 hq9 hE hS => ?_)
  have hM := hM.keptE hq9
  have hst4 := hr_2
  refine lv_aload_n hx hb dX4_reopen_12 rfl (lv_at hl 0 rfl) ?_
  refine tk_get hx hb hts inX3 hown hK hM (hP.t ht) rfl 1 (by decide) (hts (.fieldLink RX4 137 "TicketForge$Task" "parent" "LTicketForge$Task;") (by decide +kernel)) (fun _ h9 => h9) rfl dX4_reopen_13 ?_
  refine tk_astore_n (lv' := [(3, va_rf (parR α M t)), (2, .ref (α 1 t)), (0, .ref h0), (1, .int (nI t))]) hx hb dX4_reopen_16 rfl hl (by decide) rfl (fun ls hl => ?_)
  refine tk_aload_n hx hb dX4_reopen_17 rfl (lv_at hl 0 rfl) ?_
  rcases hW.p t ht with hns_3 | ⟨s_3, hqs_3, eqs_3⟩
  · rw [parR_n hns_3] at hl ⊢
    refine lv_ifnullN (tgt := 40) hx hb dX4_reopen_18 (by decide) ?_
    refine lv_aload_n hx hb dX4_reopen_40 rfl (lv_at hl 1 rfl) ?_
    refine lv_bipush (v := 119) hx hb dX4_reopen_41 (by decide) ?_
    refine tk_put (ty := .char) hx hb hts inX3 tyX3 tyX3_ok nmX3 hown hK hM hS (hP.t ht) rfl 4 (by decide) (hts (.fieldLink RX4 71 "TicketForge$Task" "state" "C") (by decide +kernel)) (fun _ h9 => h9) rfl (by decide +kernel) rfl rfl (Nat.le_of_ble_eq_true rfl) dX4_reopen_43 (fun H locs hM hS => ?_)
    have hP := hP.p4 ht (v := 119)
    have hW := hW.ofst 4 (by decide) (i := t) (v := 119)
    have eT : nT (st M 4 t 119) = nT M := rfl
    have eE : nE (st M 4 t 119) = nE M := rfl
    have eV : nV (st M 4 t 119) = nV M := rfl
    have bT := hW.t.2
    have bE := hW.e.2
    have bV := hW.v.2
    refine lv_aload_n hx hb dX4_reopen_46 rfl (lv_at hl 2 rfl) ?_
    refine lv_aload_n hx hb dX4_reopen_47 rfl (lv_at hl 1 rfl) ?_
    refine tk_mVi (As := [.ref (α 1 t)]) S0 (c_X4_creditEntries l A D ac dE _ hP hW hB t ht) (cwV 1 hts gX4_reopen_X4_creditEntries rfl rfl rfl (by decide +kernel) ⟨Nat.le_of_ble_eq_true rfl, Nat.le_of_ble_eq_true rfl⟩) (tkX.blind) (tkX.at hM hK hA hF hO hS) (tk_recv hK hM hP.h rfl) rfl hl.1 rfl (Nat.le_of_ble_eq_true rfl) dX4_reopen_48 ⟨Nat.le_of_ble_eq_true rfl, Nat.le_of_ble_eq_true rfl⟩ hS (fun r_4 G H locs hpr_4 hM hS => ?_)
    obtain ⟨hP, hr_4⟩ := hpr_4
    have eV2 : nV ((crS (st M 4 t 119) t (nE (st M 4 t 119))).1) = nV M := nV_cg (M := (st M 4 t 119)) (N := (crS (st M 4 t 119) t (nE (st M 4 t 119))).1) (crS_f (M := (st M 4 t 119)) (f := 0) (by decide) (by decide) _)
    refine vx_ret ?_
    refine W.widen (k := 3) (n := 18) (Nat.le_of_ble_eq_true rfl) (Nat.le_of_ble_eq_true rfl) ?_
    have eS : S_reopen M (nI t) = (0, (crS (st M 4 t 119) t (nE (st M 4 t 119))).1, r_4) := (by rw [S_reopen, show tn (nI t) = t from nI_clamp (by omega), if_neg (by rw [hok]; decide), if_neg (fun h9 => h9 hst4), if_neg (fun h9 => absurd h9.1 (Int32.not_le.mpr hns_3)), hr_4]; rfl)
    exact W.iret (v := r_4) hx hb hr (fun t9 h9 w9 => ⟨⟨r_4, _, rfl, (by rw [eS]; exact ⟨rfl, ⟨_, hP.nvE eV2.symm⟩, rfl⟩), (by show tkM A D _ _; rw [h9]; exact hM)⟩, hS.F h9⟩) hS.2.2 dX4_reopen_51
  · have hls_3 : s_3 < nT M := Nat.lt_trans hqs_3 ht
    rw [parR_s (by omega) eqs_3] at hl ⊢
    refine lv_ifnull hx hb dX4_reopen_18 ?_
    refine lv_aload_n hx hb dX4_reopen_21 rfl (lv_at hl 0 rfl) ?_
    refine tk_get hx hb hts inX3 hown hK hM (hP.t hls_3) rfl 4 (by decide) (hts (.fieldLink RX4 71 "TicketForge$Task" "state" "C") (by decide +kernel)) (fun _ h9 => h9) rfl dX4_reopen_22 ?_
    refine lv_bipush (v := 100) hx hb dX4_reopen_25 (by decide) ?_
    refine lv_icmp_ne (tgt := 40) hx hb dX4_reopen_27 (by decide) (fun c_5 => ?_) (fun c_5 => ?_)
    · skip
      refine lv_aload_n hx hb dX4_reopen_40 rfl (lv_at hl 1 rfl) ?_
      refine lv_bipush (v := 119) hx hb dX4_reopen_41 (by decide) ?_
      refine tk_put (ty := .char) hx hb hts inX3 tyX3 tyX3_ok nmX3 hown hK hM hS (hP.t ht) rfl 4 (by decide) (hts (.fieldLink RX4 71 "TicketForge$Task" "state" "C") (by decide +kernel)) (fun _ h9 => h9) rfl (by decide +kernel) rfl rfl (Nat.le_of_ble_eq_true rfl) dX4_reopen_43 (fun H locs hM hS => ?_)
      have hP := hP.p4 ht (v := 119)
      have hW := hW.ofst 4 (by decide) (i := t) (v := 119)
      have eT : nT (st M 4 t 119) = nT M := rfl
      have eE : nE (st M 4 t 119) = nE M := rfl
      have eV : nV (st M 4 t 119) = nV M := rfl
      have bT := hW.t.2
      have bE := hW.e.2
      have bV := hW.v.2
      refine lv_aload_n hx hb dX4_reopen_46 rfl (lv_at hl 2 rfl) ?_
      refine lv_aload_n hx hb dX4_reopen_47 rfl (lv_at hl 1 rfl) ?_
      refine tk_mVi (As := [.ref (α 1 t)]) S0 (c_X4_creditEntries l A D ac dE _ hP hW hB t ht) (cwV 1 hts gX4_reopen_X4_creditEntries rfl rfl rfl (by decide +kernel) ⟨Nat.le_of_ble_eq_true rfl, Nat.le_of_ble_eq_true rfl⟩) (tkX.blind) (tkX.at hM hK hA hF hO hS) (tk_recv hK hM hP.h rfl) rfl hl.1 rfl (Nat.le_of_ble_eq_true rfl) dX4_reopen_48 ⟨Nat.le_of_ble_eq_true rfl, Nat.le_of_ble_eq_true rfl⟩ hS (fun r_6 G H locs hpr_6 hM hS => ?_)
      obtain ⟨hP, hr_6⟩ := hpr_6
      have eV2 : nV ((crS (st M 4 t 119) t (nE (st M 4 t 119))).1) = nV M := nV_cg (M := (st M 4 t 119)) (N := (crS (st M 4 t 119) t (nE (st M 4 t 119))).1) (crS_f (M := (st M 4 t 119)) (f := 0) (by decide) (by decide) _)
      refine vx_ret ?_
      refine W.widen (k := 3) (n := 18) (Nat.le_of_ble_eq_true rfl) (Nat.le_of_ble_eq_true rfl) ?_
      have eS : S_reopen M (nI t) = (0, (crS (st M 4 t 119) t (nE (st M 4 t 119))).1, r_6) := (by rw [S_reopen, show tn (nI t) = t from nI_clamp (by omega), if_neg (by rw [hok]; decide), if_neg (fun h9 => h9 hst4), if_neg (fun h9 => c_5 (by have h8 := h9.2; rw [eqs_3, show tn (nI s_3) = s_3 from nI_clamp (by omega)] at h8; exact h8)), hr_6]; rfl)
      exact W.iret (v := r_6) hx hb hr (fun t9 h9 w9 => ⟨⟨r_6, _, rfl, (by rw [eS]; exact ⟨rfl, ⟨_, hP.nvE eV2.symm⟩, rfl⟩), (by show tkM A D _ _; rw [h9]; exact hM)⟩, hS.F h9⟩) hS.2.2 dX4_reopen_51
    · skip
      exact tk_th hst hx hb hown (by decide) (hts (.classLink RX4 77 "java/lang/UnsupportedOperationException") (by decide +kernel)) (hts (.initialized "java/lang/UnsupportedOperationException") (by decide +kernel)) (text := "the parent is done") (by decide) (by decide) (fun w hw => hts w (List.mem_cons_of_mem _ (List.mem_append_left _ (List.mem_append_left _ (List.mem_append_right _ hw))))) ng_81 ot_81 hF hO hS hE (hl.1.trans hml.symm) hno hlocks dX4_reopen_30 dX4_reopen_33 dX4_reopen_34 dX4_reopen_36 dX4_reopen_39 (Nat.le_of_ble_eq_true rfl) (Nat.le_of_ble_eq_true rfl) ⟨Nat.le_of_ble_eq_true rfl, Nat.le_of_ble_eq_true rfl⟩ ⟨Nat.le_of_ble_eq_true rfl, Nat.le_of_ble_eq_true rfl⟩ (xl (k := 3) (by rw [S_reopen, show tn (nI t) = t from nI_clamp (by omega), if_neg (by rw [hok]; decide), if_neg (fun h9 => h9 hst4), if_pos ⟨by rw [eqs_3]; exact nI_pos' (by omega), by rw [eqs_3, show tn (nI s_3) = s_3 from nI_clamp (by omega)]; exact c_5⟩]) (by decide +kernel))
set_option maxHeartbeats 4000000 in
set_option maxRecDepth 100000 in
theorem c_X4_approve (l : Launch) (hst : l.stackTraces = false) (A : Nat → Prop) (D : va_G) (ac : Nat → ClassId) (dE : Nat) (G : TG) {h0 : Nat} {α : Nat → Nat → Nat} {M : TS} {nv : Nat} (hP : PX ac dE h0 α M (nV M) G) (hW : W0 M) (x : Int32) : vx_Met l yX4_approve wsX4_approve ({ frames := 9, cells := 2, slots := 12, locals := 500 } : Room) (va_Pc [.ref h0, .int x] (tkX A D ac dE G)) (va_Qi (fun (z : Int32) (G9 : TG) => (K_approve M x).1 = 0 ∧ (∃ α9 : Nat → Nat → Nat, PX ac dE h0 α9 (K_approve M x).2.1 (nV (K_approve M x).2.1) G9) ∧ z = (K_approve M x).2.2) (fun (G9 : TG) t => tkM A D G9 t.heap) A) (XG (fun E => (E, (K_approve M x).1) ∈ ([("java/util/NoSuchElementException", 1), ("java/lang/IllegalStateException", 2), ("java/lang/UnsupportedOperationException", 3)] : List (String × Int32)))) 2 12 A := by
  refine vx_ofW (cc := cX4_approve) (maxL := 3) (ret := (some .int)) (by decide) rfl ?_
  intro p e s m args below meth c s₁ B hml hno hv
  obtain ⟨rfl, ⟨hM, hK, hA, hF⟩, hO⟩ := hv
  have hS : va_S A s.heap s.heap [] := va_S.rf
  have hE : tkE s.heap s.heap := tkE.rf
  have hx := B.exec
  have hb := B.bytes
  have hr := B.returns
  have hts := atoms_spec (ws := wsX4_approve) B.pre
  have hown : s.vm.findClass RX4 = some m.cls := findClass_of_methodNamed B.named
  have hlocks := B.notSynchronized
  have S0 : CallFix p m c cX4_approve 3 s ([.ref h0, .int x] : List Value).toArray wsX4_approve RX4 := ⟨hx, hb, hml, hown, hts⟩
  have inX0 : ∀ w ∈ wsX00, w ∈ wsX4_approve := by decide +kernel
  have hl := lv_entry ([.ref h0, .int x]) (n := 3) (Nat.le_of_ble_eq_true rfl)
  rw [lg_entry_eq]
  generalize (lg_sl ([.ref h0, .int x]) ++ List.replicate (3 - (lg_sl ([.ref h0, .int x])).length) Slot.unset).toArray = ls at hl ⊢
  have hl : lv_has ls 3 [(0, .ref h0), (1, .int x)] := hl
  have bT := hW.t.2
  have bE := hW.e.2
  have bV := hW.v.2
  refine lv_aload_n hx hb dX4_approve_0 rfl (lv_at hl 0 rfl) ?_
  refine lv_iload_n hx hb dX4_approve_1 rfl (lv_at hl 1 rfl) ?_
  refine tk_xVq (As := [.int x]) S0 (c_X4_requireEntry l hst A D ac dE _ hP hW x) (cwV 1 hts gX4_approve_X4_requireEntry rfl rfl rfl (by decide +kernel) ⟨Nat.le_of_ble_eq_true rfl, Nat.le_of_ble_eq_true rfl⟩) (tkX.blind) (tkX.at hM hK hA hF hO hS) (tk_recv hK hM hP.h rfl) rfl hl.1 rfl (Nat.le_of_ble_eq_true rfl) dX4_approve_2 ⟨Nat.le_of_ble_eq_true rfl, Nat.le_of_ble_eq_true rfl⟩ hS hE hno hlocks ⟨Nat.le_of_ble_eq_true rfl, Nat.le_of_ble_eq_true rfl⟩ (fun E h9 => by obtain ⟨rfl, h9⟩ := h9; exact (xl (k := 1) (by rw [K_approve, if_pos h9]) (by decide +kernel))) (fun r_1 H locs hr_1 hq9 hE hS => ?_)
  have hM := hM.keptE hq9
  obtain ⟨hok, rfl⟩ := hr_1
  have hokc := hok
  obtain ⟨k, hk, rfl⟩ := tkOk_ex (by omega) hokc
  rw [show tn (nI k) = k from nI_clamp (by omega)]
  refine lv_astore_n (lv' := [(2, .ref (α 2 k)), (0, .ref h0), (1, .int (nI k))]) hx hb dX4_approve_5 rfl hl (by decide) rfl (fun ls hl => ?_)
  refine lv_aload_n hx hb dX4_approve_6 rfl (lv_at hl 0 rfl) ?_
  refine tk_get hx hb hts inX0 hown hK hM (hP.e hk) rfl 4 (by decide) (hts (.fieldLink RX4 187 "TicketForge$Entry" "state" "C") (by decide +kernel)) (fun _ h9 => h9) rfl dX4_approve_7 ?_
  refine lv_bipush (v := 110) hx hb dX4_approve_10 (by decide) ?_
  refine lv_icmp_eq (tgt := 25) hx hb dX4_approve_12 (by decide) (fun c_2 => ?_) (fun c_2 => ?_)
  · skip
    refine lv_aload_n hx hb dX4_approve_25 rfl (lv_at hl 1 rfl) ?_
    refine lv_aload_n hx hb dX4_approve_26 rfl (lv_at hl 0 rfl) ?_
    refine tk_get hx hb hts inX0 hown hK hM (hP.e hk) rfl 2 (by decide) (hts (.fieldLink RX4 190 "TicketForge$Entry" "week" "I") (by decide +kernel)) (fun _ h9 => h9) rfl dX4_approve_27 ?_
    obtain ⟨t9, h9, e9⟩ := hW.ew hk
    rw [e9]
    refine tk_cVi (As := [.int (nI t9)]) S0 (c_X4_isLocked l A D ac dE _ hP t9) (cwV 1 hts gX4_approve_X4_isLocked rfl rfl rfl (by decide +kernel) ⟨Nat.le_of_ble_eq_true rfl, Nat.le_of_ble_eq_true rfl⟩) (tkX.blind) (tkX.at hM hK hA hF hO hS) (tk_recv hK hM hP.h rfl) rfl hl.1 rfl (Nat.le_of_ble_eq_true rfl) dX4_approve_30 ⟨Nat.le_of_ble_eq_true rfl, Nat.le_of_ble_eq_true rfl⟩ (fun r_3 hr_3 => ?_)
    rcases hr_3 with ⟨rfl, hr_3⟩ | ⟨rfl, hr_3⟩
    · skip
      refine lv_if_eq (tgt := 46) hx hb dX4_approve_33 (by decide) (fun c_4 => absurd c_4 (by decide)) (fun c_4 => ?_)
      exact tk_th hst hx hb hown (by decide) (hts (.classLink RX4 77 "java/lang/UnsupportedOperationException") (by decide +kernel)) (hts (.initialized "java/lang/UnsupportedOperationException") (by decide +kernel)) (text := "the week is locked") (by decide) (by decide) (fun w hw => hts w (List.mem_cons_of_mem _ (List.mem_append_left _ (List.mem_append_right _ hw)))) ng_81 ot_81 hF hO hS hE (hl.1.trans hml.symm) hno hlocks dX4_approve_36 dX4_approve_39 dX4_approve_40 dX4_approve_42 dX4_approve_45 (Nat.le_of_ble_eq_true rfl) (Nat.le_of_ble_eq_true rfl) ⟨Nat.le_of_ble_eq_true rfl, Nat.le_of_ble_eq_true rfl⟩ ⟨Nat.le_of_ble_eq_true rfl, Nat.le_of_ble_eq_true rfl⟩ (xl (k := 3) (by rw [K_approve, show tn (nI k) = k from nI_clamp (show k < 2 ^ 31 by omega), if_neg (by rw [hok]; decide), if_neg (fun h => h c_2), if_pos (by rw [e9, show tn (nI t9) = t9 from nI_clamp (by omega)]; exact hr_3)]) (by decide +kernel))
    · skip
      refine lv_if_eq (tgt := 46) hx hb dX4_approve_33 (by decide) (fun c_5 => ?_) (fun c_5 => absurd (by decide) c_5)
      refine lv_aload_n hx hb dX4_approve_46 rfl (lv_at hl 0 rfl) ?_
      refine lv_bipush (v := 97) hx hb dX4_approve_47 (by decide) ?_
      refine tk_put (ty := .char) hx hb hts inX0 tyX0 tyX0_ok nmX0 hown hK hM hS (hP.e hk) rfl 4 (by decide) (hts (.fieldLink RX4 187 "TicketForge$Entry" "state" "C") (by decide +kernel)) (fun _ h9 => h9) rfl (by decide +kernel) rfl rfl (Nat.le_of_ble_eq_true rfl) dX4_approve_49 (fun H locs hM hS => ?_)
      have hP := hP.e4 hk (v := 97) (by rw [billed, billed, st_self, c_2]; decide)
      have hW := hW.ofst 5 (by decide) (i := k) (v := 97)
      have eT : nT (st M 5 k 97) = nT M := rfl
      have eE : nE (st M 5 k 97) = nE M := rfl
      have eV : nV (st M 5 k 97) = nV M := rfl
      have bT := hW.t.2
      have bE := hW.e.2
      have bV := hW.v.2
      refine lv_aload_n hx hb dX4_approve_52 rfl (lv_at hl 1 rfl) ?_
      refine lv_aload_n hx hb dX4_approve_53 rfl (lv_at hl 0 rfl) ?_
      refine tk_get hx hb hts inX0 hown hK hM (hP.e hk) rfl 2 (by decide) (hts (.fieldLink RX4 190 "TicketForge$Entry" "week" "I") (by decide +kernel)) (fun _ h9 => h9) rfl dX4_approve_54 ?_
      refine tk_cVi (As := [.int ((st M 5 k 97) 11 k)]) S0 (c_X4_approvedHours l A D ac dE _ hP hW ((st M 5 k 97) 11 k)) (cwV 1 hts gX4_approve_X4_approvedHours rfl rfl rfl (by decide +kernel) ⟨Nat.le_of_ble_eq_true rfl, Nat.le_of_ble_eq_true rfl⟩) (tkX.blind) (tkX.at hM hK hA hF hO hS) (tk_recv hK hM hP.h rfl) rfl hl.1 rfl (Nat.le_of_ble_eq_true rfl) dX4_approve_57 ⟨Nat.le_of_ble_eq_true rfl, Nat.le_of_ble_eq_true rfl⟩ (fun r_6 hr_6 => ?_)
      refine vx_ret ?_
      refine W.widen (k := 2) (n := 12) (Nat.le_of_ble_eq_true rfl) (Nat.le_of_ble_eq_true rfl) ?_
      have eS : K_approve M (nI k) = (0, (st M 5 k 97), r_6) := (by rw [K_approve, show tn (nI k) = k from nI_clamp (show k < 2 ^ 31 by omega), if_neg (by rw [hok]; decide), if_neg (fun h => h c_2), if_neg (by rw [e9, show tn (nI t9) = t9 from nI_clamp (by omega), hr_3]; decide), hr_6]; rfl)
      exact W.iret (v := r_6) hx hb hr (fun t9 h9 w9 => ⟨⟨r_6, _, rfl, (by rw [eS]; exact ⟨rfl, ⟨_, hP⟩, rfl⟩), (by show tkM A D _ _; rw [h9]; exact hM)⟩, hS.F h9⟩) hS.2.2 dX4_approve_60
  · skip
    exact tk_th hst hx hb hown (by decide) (hts (.classLink RX4 66 "java/lang/IllegalStateException") (by decide +kernel)) (hts (.initialized "java/lang/IllegalStateException") (by decide +kernel)) (text := "the entry is not noted") (by decide) (by decide) (fun w hw => hts w (List.mem_cons_of_mem _ (List.mem_append_left _ (List.mem_append_left _ (List.mem_append_right _ hw))))) ng_70 ot_70 hF hO hS hE (hl.1.trans hml.symm) hno hlocks dX4_approve_15 dX4_approve_18 dX4_approve_19 dX4_approve_21 dX4_approve_24 (Nat.le_of_ble_eq_true rfl) (Nat.le_of_ble_eq_true rfl) ⟨Nat.le_of_ble_eq_true rfl, Nat.le_of_ble_eq_true rfl⟩ ⟨Nat.le_of_ble_eq_true rfl, Nat.le_of_ble_eq_true rfl⟩ (xl (k := 2) (by rw [K_approve, show tn (nI k) = k from nI_clamp (show k < 2 ^ 31 by omega), if_neg (by rw [hok]; decide), if_pos c_2]) (by decide +kernel))
