/-! the class: what reads alone -/
def fS (M : TS) (x : Int32) : Nat → Int32
  | 0 => x
  | n + 1 => if fS M x n &&& bitOf n = 0 then fS M x n else fS M x n ||| M 19 n
def fR (M : TS) (x : Int32) : Nat → Int32
  | 0 => x
  | r + 1 => fS M (fR M x r) (nT M)
theorem fS_f {M : TS} {x a : Int32} {n : Nat} (h : a = fS M x n) (h2 : a &&& bitOf n = 0) : a = fS M x (n + 1) := by rw [fS, ← h, if_pos h2]
theorem fS_t {M : TS} {x a : Int32} {n : Nat} (h : a = fS M x n) (h2 : ¬ a &&& bitOf n = 0) : a ||| M 19 n = fS M x (n + 1) := by rw [fS, ← h, if_neg h2]
theorem fS_e {M : TS} {x a y : Int32} {i r : Nat} (h : a = fS M y i) (h1 : i ≤ nT M) (h2 : nT M ≤ i) (h3 : y = fR M x r) : a = fR M x (r + 1) := by rw [h, Nat.le_antisymm h1 h2, h3]; rfl
def stpC (M : TS) (d : Nat) (a : Int32) : Int32 := if M 3 d = 0 then a else if M 3 d - hoursIn M d < a then M 3 d - hoursIn M d else a
def rmC (M : TS) : Nat → Nat → Int32 → Int32
  | 0, _, a => a
  | f + 1, t, a => if M 1 t < 0 then stpC M t a else rmC M f (tn (M 1 t)) (stpC M t a)
theorem rmC_fuel {M : TS} {n : Nat} (hn : n < 2 ^ 31) (hP : parOk (M 1) n) : ∀ (t : Nat), t < n → ∀ (f g : Nat) (a : Int32), t < f → t < g → rmC M f t a = rmC M g t a := by
  intro t
  induction t using Nat.strongRecOn with
  | ind t ih =>
    intro ht f g a hf hg
    cases f with
    | zero => exact absurd hf (Nat.not_lt_zero t)
    | succ f =>
      cases g with
      | zero => exact absurd hg (Nat.not_lt_zero t)
      | succ g =>
        show (if M 1 t < 0 then stpC M t a else rmC M f (tn (M 1 t)) (stpC M t a)) = (if M 1 t < 0 then stpC M t a else rmC M g (tn (M 1 t)) (stpC M t a))
        by_cases h2 : M 1 t < 0
        · rw [if_pos h2, if_pos h2]
        · rw [if_neg h2, if_neg h2]
          rcases hP t ht with h3 | ⟨q, hq, e⟩
          · exact absurd h3 h2
          · rw [e, show tn (nI q) = q from nI_clamp (by omega)]
            exact ih q hq (by omega) f g _ (by omega) (by omega)
theorem rmC_top {M : TS} {d : Nat} {a : Int32} (h : M 1 d < 0) : rmC M (d + 1) d a = stpC M d a := by
  show (if M 1 d < 0 then stpC M d a else _) = _
  rw [if_pos h]
theorem rmC_up {M : TS} {d u n : Nat} {a : Int32} (hn : n < 2 ^ 31) (hP : parOk (M 1) n) (hd : d < n) (hu : u < d) (e : M 1 d = nI u) : rmC M (d + 1) d a = rmC M (u + 1) u (stpC M d a) := by
  show (if M 1 d < 0 then stpC M d a else rmC M d (tn (M 1 d)) (stpC M d a)) = _
  rw [if_neg (by rw [e]; exact nI_pos (by omega)), e, show tn (nI u) = u from nI_clamp (by omega)]
  exact rmC_fuel hn hP u (by omega) d (u + 1) _ hu (Nat.lt_succ_self u)
theorem late30 : ∀ w : Fin 30, ∀ t : Fin 30, decide (nI t.val ≤ nI w.val - 3) = !decide (nI w.val - 2 ≤ nI t.val) := by decide +kernel
theorem late_f {w t : Nat} (hw : w < 30) (ht : t < 30) (h : nI t ≤ nI w - 3) : tkIn (nI t) (nI w - 2) (nI w) = false := by
  have := late30 ⟨w, hw⟩ ⟨t, ht⟩
  simp only [h, decide_true] at this
  rw [tkIn]
  cases hd : decide (nI w - 2 ≤ nI t) with
  | false => rfl
  | true => rw [hd] at this; cases this
theorem late_t {w t : Nat} (hw : w < 30) (ht : t < 30) (h0 : nI t ≤ nI w) (h : ¬ nI t ≤ nI w - 3) : tkIn (nI t) (nI w - 2) (nI w) = true := by
  have := late30 ⟨w, hw⟩ ⟨t, ht⟩
  simp only [h, decide_false] at this
  rw [tkIn]
  cases hd : decide (nI w - 2 ≤ nI t) with
  | true => simp only [h0, decide_true, Bool.true_and]
  | false => rw [hd] at this; cases this
def priceV (M : TS) (v k : Nat) : Int32 := M 12 k * M 20 (4 * v + tn (M 10 k))
def recS (M : TS) (v n : Nat) : Int32 := sumI (fun k => if billed M k = true ∧ M 14 k = nI v then priceV M v k else 0) n
def recT (M : TS) (v n : Nat) : Int32 := sumI (fun k => if billed M k = true ∧ M 14 k = nI v then disc (M 22 v) (M 23 v) (priceV M v k) (recS M v (nE M)) else 0) n
def crP (M : TS) (v n : Nat) : Int32 := sumI (fun k => if (billed M k = true ∧ M 14 k = nI v) ∧ M 5 k = 99 then M 13 k else 0) n
def wthn (M : TS) (cap : Int32) : Bool := allB (fun k => !billed M k || decide (charged M (M 10 k) (M 11 k) ≤ cap)) (nE M)
theorem rate_v {M : TS} (hW : W0 M) {f : Nat → Int32} {v k : Nat} (hf : ∀ j, j < 4 → f j = M 20 (4 * v + j)) (hk : k < nE M) : rateF f (M 10 k) = M 20 (4 * v + tn (M 10 k)) := by
  obtain ⟨q, hq, e⟩ := hW.ep hk
  rw [rateF, e, if_pos (tkOk_nI (by decide) hq), show tn (nI q) = q from nI_clamp (by omega), hf q hq]
set_option maxHeartbeats 4000000 in
set_option maxRecDepth 100000 in
theorem c_X4_isBetween (l : Launch) (A : Nat → Prop) (D : va_G) (ac : Nat → ClassId) (dE : Nat) (G : TG) (v a b : Int32) : Met l yX4_isBetween wsX4_isBetween ({ frames := 0, cells := 0, slots := 0, locals := 60 } : Room) (va_Pc [.int v, .int a, .int b] (tkX A D ac dE G)) (vp_Si (fun z => tkB z (tkIn v a b))) 0 0 (fun _ => False) := by
  refine Met.ofW (cc := cX4_isBetween) (maxL := 3) (ret := (some .boolean)) (by decide) rfl ?_
  intro p e s m args below meth c s₁ B hml hv
  obtain ⟨rfl, ⟨hM, hK, hA, hF⟩, hO⟩ := hv
  have hS : va_S A s.heap s.heap [] := va_S.rf
  have hx := B.exec
  have hb := B.bytes
  have hr := B.returns
  have hts := atoms_spec (ws := wsX4_isBetween) B.pre
  have hown : s.vm.findClass RX4 = some m.cls := findClass_of_methodNamed B.named
  have hlocks := B.notSynchronized
  have S0 : CallFix p m c cX4_isBetween 3 s ([.int v, .int a, .int b] : List Value).toArray wsX4_isBetween RX4 := ⟨hx, hb, hml, hown, hts⟩
  have hl := lv_entry ([.int v, .int a, .int b]) (n := 3) (Nat.le_of_ble_eq_true rfl)
  rw [lg_entry_eq]
  generalize (lg_sl ([.int v, .int a, .int b]) ++ List.replicate (3 - (lg_sl ([.int v, .int a, .int b])).length) Slot.unset).toArray = ls at hl ⊢
  have hl : lv_has ls 3 [(0, .int v), (1, .int a), (2, .int b)] := hl
  refine lv_iload_n hx hb dX4_isBetween_0 rfl (lv_at hl 0 rfl) ?_
  refine lv_iload_n hx hb dX4_isBetween_1 rfl (lv_at hl 1 rfl) ?_
  refine lv_icmp_lt (tgt := 14) hx hb dX4_isBetween_2 (by decide) (fun c_1 => ?_) (fun c_1 => ?_)
  · skip
    refine lv_iconst (v := 0) hx hb dX4_isBetween_14 (by decide) ?_
    exact W.zret (v := 0) hx hb hr rfl (fun t9 h9 w9 => ⟨0, rfl, (tkB_0 (tkIn_f1 (Int32.not_le.mpr c_1))), h9⟩) (fun q hq => absurd hq List.not_mem_nil) dX4_isBetween_15
  · skip
    refine lv_iload_n hx hb dX4_isBetween_5 rfl (lv_at hl 0 rfl) ?_
    refine lv_iload_n hx hb dX4_isBetween_6 rfl (lv_at hl 2 rfl) ?_
    refine lv_icmp_gt (tgt := 14) hx hb dX4_isBetween_7 (by decide) (fun c_2 => ?_) (fun c_2 => ?_)
    · skip
      refine lv_iconst (v := 0) hx hb dX4_isBetween_14 (by decide) ?_
      exact W.zret (v := 0) hx hb hr rfl (fun t9 h9 w9 => ⟨0, rfl, (tkB_0 (tkIn_f2 (Int32.not_le.mpr c_2))), h9⟩) (fun q hq => absurd hq List.not_mem_nil) dX4_isBetween_15
    · skip
      refine lv_iconst (v := 1) hx hb dX4_isBetween_10 (by decide) ?_
      refine lv_goto (tgt := 15) hx hb dX4_isBetween_11 (by decide) ?_
      exact W.zret (v := 1) hx hb hr rfl (fun t9 h9 w9 => ⟨1, rfl, (tkB_1 (tkIn_t (Int32.not_lt.mp c_1) (Int32.not_lt.mp c_2))), h9⟩) (fun q hq => absurd hq List.not_mem_nil) dX4_isBetween_15
set_option maxHeartbeats 4000000 in
set_option maxRecDepth 100000 in
theorem c_X4_isPerson (l : Launch) (A : Nat → Prop) (D : va_G) (ac : Nat → ClassId) (dE : Nat) (G : TG) (x : Int32) : Met l yX4_isPerson wsX4_isPerson ({ frames := 1, cells := 0, slots := 0, locals := 100 } : Room) (va_Pc [.int x] (tkX A D ac dE G)) (vp_Si (fun z => tkB z (tkOk 4 x))) 0 0 (fun _ => False) := by
  refine Met.ofW (cc := cX4_isPerson) (maxL := 1) (ret := (some .boolean)) (by decide) rfl ?_
  intro p e s m args below meth c s₁ B hml hv
  obtain ⟨rfl, ⟨hM, hK, hA, hF⟩, hO⟩ := hv
  have hS : va_S A s.heap s.heap [] := va_S.rf
  have hx := B.exec
  have hb := B.bytes
  have hr := B.returns
  have hts := atoms_spec (ws := wsX4_isPerson) B.pre
  have hown : s.vm.findClass RX4 = some m.cls := findClass_of_methodNamed B.named
  have hlocks := B.notSynchronized
  have S0 : CallFix p m c cX4_isPerson 1 s ([.int x] : List Value).toArray wsX4_isPerson RX4 := ⟨hx, hb, hml, hown, hts⟩
  have hl := lv_entry ([.int x]) (n := 1) (Nat.le_of_ble_eq_true rfl)
  rw [lg_entry_eq]
  generalize (lg_sl ([.int x]) ++ List.replicate (1 - (lg_sl ([.int x])).length) Slot.unset).toArray = ls at hl ⊢
  have hl : lv_has ls 1 [(0, .int x)] := hl
  refine lv_iload_n hx hb dX4_isPerson_0 rfl (lv_at hl 0 rfl) ?_
  refine lv_iconst (v := 0) hx hb dX4_isPerson_1 (by decide) ?_
  refine lv_iconst (v := 3) hx hb dX4_isPerson_2 (by decide) ?_
  refine tk_cSi (As := [.int x, .int 0, .int 3]) S0 (c_X4_isBetween l A D ac dE _ x 0 3) (va_cwS 3 hts gX4_isPerson_X4_isBetween rfl rfl rfl (by decide +kernel) ⟨Nat.le_of_ble_eq_true rfl, Nat.le_of_ble_eq_true rfl⟩) (tkX.blind) (tkX.at hM hK hA hF hO hS) rfl hl.1 rfl (Nat.le_of_ble_eq_true rfl) dX4_isPerson_3 ⟨Nat.zero_le _, Nat.zero_le _⟩ (fun r_1 hr_1 => ?_)
  exact W.zret (v := r_1) hx hb hr (tkB_nar hr_1) (fun t9 h9 w9 => ⟨r_1, rfl, (by rw [← tkIn_n (by decide)]; exact hr_1), h9⟩) (fun q hq => absurd hq List.not_mem_nil) dX4_isPerson_6
set_option maxHeartbeats 4000000 in
set_option maxRecDepth 100000 in
theorem c_X4_isWeek (l : Launch) (A : Nat → Prop) (D : va_G) (ac : Nat → ClassId) (dE : Nat) (G : TG) (x : Int32) : Met l yX4_isWeek wsX4_isWeek ({ frames := 1, cells := 0, slots := 0, locals := 100 } : Room) (va_Pc [.int x] (tkX A D ac dE G)) (vp_Si (fun z => tkB z (tkOk 30 x))) 0 0 (fun _ => False) := by
  refine Met.ofW (cc := cX4_isWeek) (maxL := 1) (ret := (some .boolean)) (by decide) rfl ?_
  intro p e s m args below meth c s₁ B hml hv
  obtain ⟨rfl, ⟨hM, hK, hA, hF⟩, hO⟩ := hv
  have hS : va_S A s.heap s.heap [] := va_S.rf
  have hx := B.exec
  have hb := B.bytes
  have hr := B.returns
  have hts := atoms_spec (ws := wsX4_isWeek) B.pre
  have hown : s.vm.findClass RX4 = some m.cls := findClass_of_methodNamed B.named
  have hlocks := B.notSynchronized
  have S0 : CallFix p m c cX4_isWeek 1 s ([.int x] : List Value).toArray wsX4_isWeek RX4 := ⟨hx, hb, hml, hown, hts⟩
  have hl := lv_entry ([.int x]) (n := 1) (Nat.le_of_ble_eq_true rfl)
  rw [lg_entry_eq]
  generalize (lg_sl ([.int x]) ++ List.replicate (1 - (lg_sl ([.int x])).length) Slot.unset).toArray = ls at hl ⊢
  have hl : lv_has ls 1 [(0, .int x)] := hl
  refine lv_iload_n hx hb dX4_isWeek_0 rfl (lv_at hl 0 rfl) ?_
  refine lv_iconst (v := 0) hx hb dX4_isWeek_1 (by decide) ?_
  refine lv_bipush (v := 29) hx hb dX4_isWeek_2 (by decide) ?_
  refine tk_cSi (As := [.int x, .int 0, .int 29]) S0 (c_X4_isBetween l A D ac dE _ x 0 29) (va_cwS 3 hts gX4_isWeek_X4_isBetween rfl rfl rfl (by decide +kernel) ⟨Nat.le_of_ble_eq_true rfl, Nat.le_of_ble_eq_true rfl⟩) (tkX.blind) (tkX.at hM hK hA hF hO hS) rfl hl.1 rfl (Nat.le_of_ble_eq_true rfl) dX4_isWeek_4 ⟨Nat.zero_le _, Nat.zero_le _⟩ (fun r_1 hr_1 => ?_)
  exact W.zret (v := r_1) hx hb hr (tkB_nar hr_1) (fun t9 h9 w9 => ⟨r_1, rfl, (by rw [← tkIn_n (by decide)]; exact hr_1), h9⟩) (fun q hq => absurd hq List.not_mem_nil) dX4_isWeek_7
set_option maxHeartbeats 4000000 in
set_option maxRecDepth 100000 in
theorem c_X4_countTasks (l : Launch) (A : Nat → Prop) (D : va_G) (ac : Nat → ClassId) (dE : Nat) (G : TG) {h0 : Nat} {α : Nat → Nat → Nat} {M : TS} {nv : Nat} (hP : PX ac dE h0 α M nv G) (hW : W0 M) (x : Int32) : Met l yX4_countTasks wsX4_countTasks ({ frames := 3, cells := 0, slots := 0, locals := 180 } : Room) (va_Pc [.ref h0, .int x] (tkX A D ac dE G)) (vp_Si (fun z => z = manyIn M x)) 0 0 (fun _ => False) := by
  refine Met.ofW (cc := cX4_countTasks) (maxL := 4) (ret := (some .int)) (by decide) rfl ?_
  intro p e s m args below meth c s₁ B hml hv
  obtain ⟨rfl, ⟨hM, hK, hA, hF⟩, hO⟩ := hv
  have hS : va_S A s.heap s.heap [] := va_S.rf
  have hx := B.exec
  have hb := B.bytes
  have hr := B.returns
  have hts := atoms_spec (ws := wsX4_countTasks) B.pre
  have hown : s.vm.findClass RX4 = some m.cls := findClass_of_methodNamed B.named
  have hlocks := B.notSynchronized
  have S0 : CallFix p m c cX4_countTasks 4 s ([.ref h0, .int x] : List Value).toArray wsX4_countTasks RX4 := ⟨hx, hb, hml, hown, hts⟩
  have inX4 : ∀ w ∈ wsX40, w ∈ wsX4_countTasks := by decide +kernel
  have inX3 : ∀ w ∈ wsX30, w ∈ wsX4_countTasks := by decide +kernel
  have hl := lv_entry ([.ref h0, .int x]) (n := 4) (Nat.le_of_ble_eq_true rfl)
  rw [lg_entry_eq]
  generalize (lg_sl ([.ref h0, .int x]) ++ List.replicate (4 - (lg_sl ([.ref h0, .int x])).length) Slot.unset).toArray = ls at hl ⊢
  have hl : lv_has ls 4 [(0, .ref h0), (1, .int x)] := hl
  have bT := hW.t.2
  have bE := hW.e.2
  have bV := hW.v.2
  refine lv_iconst (v := 0) hx hb dX4_countTasks_0 (by decide) ?_
  refine lv_istore_n (lv' := [(2, .int 0), (0, .ref h0), (1, .int x)]) hx hb dX4_countTasks_1 rfl hl (by decide) rfl (fun ls hl => ?_)
  refine lv_iconst (v := 0) hx hb dX4_countTasks_2 (by decide) ?_
  refine lv_istore_n (lv' := [(3, .int 0), (2, .int 0), (0, .ref h0), (1, .int x)]) hx hb dX4_countTasks_3 rfl hl (by decide) rfl (fun ls hl => ?_)
  refine tk_f1 (Wf := W p l e _ s m _ below meth c _ _ _ _ _) (nT M) (fun i acc ls => lv_has ls 4 [(0, .ref h0), (1, .int x), (3, .int (nI i)), (2, .int acc)] ∧ acc = sumI (fun k => if M 4 k = x then 1 else 0) i) (fun i acc ls hi hinv ih => ?_) _ ls ⟨(lv_sub hl [2, 3, 0, 1] rfl), rfl⟩
  obtain ⟨hl, hinv⟩ := hinv
  refine lv_iload_n hx hb dX4_countTasks_4 rfl (lv_at hl 2 rfl) ?_
  refine lv_aload_n hx hb dX4_countTasks_5 rfl (lv_at hl 0 rfl) ?_
  refine tk_get hx hb hts inX4 hown hK hM hP.h rfl 0 (by decide) (hts (.fieldLink RX4 12 "TicketForge" "taskList" "Ljava/util/ArrayList;") (by decide +kernel)) (fun _ h9 => h9) rfl dX4_countTasks_6 ?_
  refine tk_cVi (As := []) S0 (c_Jx4a65c_size_8abf5 l A D ac dE _ hP.lt) (cwV 0 hts gX4_countTasks_Jx4a65c_size_8abf5 rfl rfl rfl (by decide +kernel) ⟨Nat.le_of_ble_eq_true rfl, Nat.le_of_ble_eq_true rfl⟩) (tkX.blind) (tkX.at hM hK hA hF hO hS) (LX.rec hP.lt hK hM) rfl hl.1 rfl (Nat.le_of_ble_eq_true rfl) dX4_countTasks_9 ⟨Nat.zero_le _, Nat.zero_le _⟩ (fun r_1 hr_1 => ?_)
  subst hr_1
  refine lv_icmp_ge (tgt := 42) hx hb dX4_countTasks_12 (by decide) (fun c_2 => ?_) (fun c_2 => ?_)
  · have hge := tk_ge (by omega) (by omega) c_2
    refine lv_iload_n hx hb dX4_countTasks_42 rfl (lv_at hl 3 rfl) ?_
    exact W.iret (v := acc) hx hb hr (fun t9 h9 w9 => ⟨acc, rfl, sumI_e hinv hi hge, h9⟩) (fun q hq => absurd hq List.not_mem_nil) dX4_countTasks_43
  · have hlt := tk_lt (by omega) (by omega) c_2
    refine lv_aload_n hx hb dX4_countTasks_15 rfl (lv_at hl 0 rfl) ?_
    refine tk_get hx hb hts inX4 hown hK hM hP.h rfl 0 (by decide) (hts (.fieldLink RX4 12 "TicketForge" "taskList" "Ljava/util/ArrayList;") (by decide +kernel)) (fun _ h9 => h9) rfl dX4_countTasks_16 ?_
    refine lv_iload_n hx hb dX4_countTasks_19 rfl (lv_at hl 2 rfl) ?_
    have hg_4 : i < nT M := by omega
    refine tk_cVq (As := [.int (nI i)]) S0 (c_Jx4a65c_get_915e3 l A D ac dE _ hP.lt i hg_4 (by omega)) (cwV 1 hts gX4_countTasks_Jx4a65c_get_915e3 rfl rfl rfl (by decide +kernel) ⟨Nat.le_of_ble_eq_true rfl, Nat.le_of_ble_eq_true rfl⟩) (tkX.blind) (tkX.at hM hK hA hF hO hS) (LX.rec hP.lt hK hM) rfl hl.1 rfl (Nat.le_of_ble_eq_true rfl) dX4_countTasks_20 ⟨Nat.zero_le _, Nat.zero_le _⟩ (fun r_3 hr_3 => ?_)
    subst hr_3
    refine va_castY (C := "TicketForge$Task") hx hb hown (hts (.classLink RX4 72 "TicketForge$Task") (by decide +kernel)) (hF.2.2.2 ("TicketForge$Task", "TicketForge$Task") (by decide +kernel)) (tk_recv hK hM (hP.t hg_4) rfl (ci := 6) (q := (RX3, TX3, 6))) dX4_countTasks_23 ?_
    refine tk_get hx hb hts inX3 hown hK hM (hP.t hg_4) rfl 4 (by decide) (hts (.fieldLink RX4 71 "TicketForge$Task" "state" "C") (by decide +kernel)) (fun _ h9 => h9) rfl dX4_countTasks_26 ?_
    refine lv_iload_n hx hb dX4_countTasks_29 rfl (lv_at hl 1 rfl) ?_
    refine lv_icmp_ne (tgt := 36) hx hb dX4_countTasks_30 (by decide) (fun c_5 => ?_) (fun c_5 => ?_)
    · skip
      refine lv_iinc (v := (nI (i + 1))) (lv' := [(3, .int (nI (i + 1))), (0, .ref h0), (1, .int x), (2, .int acc)]) hx hb dX4_countTasks_36 hl (k := 2) rfl (nI_1 i) (by decide) rfl (fun ls hl => ?_)
      refine lv_goto (tgt := 4) hx hb dX4_countTasks_39 (by decide) ?_
      exact ih _ ls (by omega) ⟨(lv_sub hl [1, 2, 0, 3] rfl), sumI_f hinv (if_neg c_5)⟩
    · skip
      refine lv_iinc (v := (acc + 1)) (lv' := [(2, .int (acc + 1)), (0, .ref h0), (1, .int x), (3, .int (nI i))]) hx hb dX4_countTasks_33 hl (k := 3) rfl rfl (by decide) rfl (fun ls hl => ?_)
      refine lv_iinc (v := (nI (i + 1))) (lv' := [(3, .int (nI (i + 1))), (2, .int (acc + 1)), (0, .ref h0), (1, .int x)]) hx hb dX4_countTasks_36 hl (k := 3) rfl (nI_1 i) (by decide) rfl (fun ls hl => ?_)
      refine lv_goto (tgt := 4) hx hb dX4_countTasks_39 (by decide) ?_
      exact ih _ ls (by omega) ⟨(lv_sub hl [2, 3, 0, 1] rfl), sumI_t hinv (if_pos c_5)⟩
set_option maxHeartbeats 4000000 in
set_option maxRecDepth 100000 in
theorem c_X4_areBlockersDone (l : Launch) (A : Nat → Prop) (D : va_G) (ac : Nat → ClassId) (dE : Nat) (G : TG) {h0 : Nat} {α : Nat → Nat → Nat} {M : TS} {nv : Nat} (hP : PX ac dE h0 α M nv G) (hW : W0 M) (t : Nat) (ht : t < nT M) : Met l yX4_areBlockersDone wsX4_areBlockersDone ({ frames := 3, cells := 0, slots := 0, locals := 180 } : Room) (va_Pc [.ref h0, .ref (α 1 t)] (tkX A D ac dE G)) (vp_Si (fun z => tkB z (freeC M t))) 0 0 (fun _ => False) := by
  refine Met.ofW (cc := cX4_areBlockersDone) (maxL := 4) (ret := (some .boolean)) (by decide) rfl ?_
  intro p e s m args below meth c s₁ B hml hv
  obtain ⟨rfl, ⟨hM, hK, hA, hF⟩, hO⟩ := hv
  have hS : va_S A s.heap s.heap [] := va_S.rf
  have hx := B.exec
  have hb := B.bytes
  have hr := B.returns
  have hts := atoms_spec (ws := wsX4_areBlockersDone) B.pre
  have hown : s.vm.findClass RX4 = some m.cls := findClass_of_methodNamed B.named
  have hlocks := B.notSynchronized
  have S0 : CallFix p m c cX4_areBlockersDone 4 s ([.ref h0, .ref (α 1 t)] : List Value).toArray wsX4_areBlockersDone RX4 := ⟨hx, hb, hml, hown, hts⟩
  have inX4 : ∀ w ∈ wsX40, w ∈ wsX4_areBlockersDone := by decide +kernel
  have inX3 : ∀ w ∈ wsX30, w ∈ wsX4_areBlockersDone := by decide +kernel
  have hl := lv_entry ([.ref h0, .ref (α 1 t)]) (n := 4) (Nat.le_of_ble_eq_true rfl)
  rw [lg_entry_eq]
  generalize (lg_sl ([.ref h0, .ref (α 1 t)]) ++ List.replicate (4 - (lg_sl ([.ref h0, .ref (α 1 t)])).length) Slot.unset).toArray = ls at hl ⊢
  have hl : lv_has ls 4 [(0, .ref h0), (1, .ref (α 1 t))] := hl
  have bT := hW.t.2
  have bE := hW.e.2
  have bV := hW.v.2
  refine lv_iconst (v := 0) hx hb dX4_areBlockersDone_0 (by decide) ?_
  refine lv_istore_n (lv' := [(2, .int 0), (0, .ref h0), (1, .ref (α 1 t))]) hx hb dX4_areBlockersDone_1 rfl hl (by decide) rfl (fun ls hl => ?_)
  refine tk_f0 (Wf := W p l e _ s m _ below meth c _ _ _ _ _) (nT M) (fun i ls => lv_has ls 4 [(0, .ref h0), (1, .ref (α 1 t)), (2, .int (nI i))] ∧ allB (fun k => !hasB M t k || decide (M 4 k = 100)) i = true) (fun i ls hi hinv ih => ?_)  ls ⟨(lv_sub hl [1, 2, 0] rfl), rfl⟩
  obtain ⟨hl, hinv⟩ := hinv
  refine lv_iload_n hx hb dX4_areBlockersDone_2 rfl (lv_at hl 2 rfl) ?_
  refine lv_aload_n hx hb dX4_areBlockersDone_3 rfl (lv_at hl 0 rfl) ?_
  refine tk_get hx hb hts inX4 hown hK hM hP.h rfl 0 (by decide) (hts (.fieldLink RX4 12 "TicketForge" "taskList" "Ljava/util/ArrayList;") (by decide +kernel)) (fun _ h9 => h9) rfl dX4_areBlockersDone_4 ?_
  refine tk_cVi (As := []) S0 (c_Jx4a65c_size_8abf5 l A D ac dE _ hP.lt) (cwV 0 hts gX4_areBlockersDone_Jx4a65c_size_8abf5 rfl rfl rfl (by decide +kernel) ⟨Nat.le_of_ble_eq_true rfl, Nat.le_of_ble_eq_true rfl⟩) (tkX.blind) (tkX.at hM hK hA hF hO hS) (LX.rec hP.lt hK hM) rfl hl.1 rfl (Nat.le_of_ble_eq_true rfl) dX4_areBlockersDone_7 ⟨Nat.zero_le _, Nat.zero_le _⟩ (fun r_1 hr_1 => ?_)
  subst hr_1
  refine lv_icmp_ge (tgt := 50) hx hb dX4_areBlockersDone_10 (by decide) (fun c_2 => ?_) (fun c_2 => ?_)
  · have hge := tk_ge (by omega) (by omega) c_2
    refine lv_iconst (v := 1) hx hb dX4_areBlockersDone_50 (by decide) ?_
    exact W.zret (v := 1) hx hb hr rfl (fun t9 h9 w9 => ⟨1, rfl, (tkB_1 (allB_e hinv hi hge)), h9⟩) (fun q hq => absurd hq List.not_mem_nil) dX4_areBlockersDone_51
  · have hlt := tk_lt (by omega) (by omega) c_2
    refine lv_aload_n hx hb dX4_areBlockersDone_13 rfl (lv_at hl 0 rfl) ?_
    refine tk_get hx hb hts inX4 hown hK hM hP.h rfl 0 (by decide) (hts (.fieldLink RX4 12 "TicketForge" "taskList" "Ljava/util/ArrayList;") (by decide +kernel)) (fun _ h9 => h9) rfl dX4_areBlockersDone_14 ?_
    refine lv_iload_n hx hb dX4_areBlockersDone_17 rfl (lv_at hl 2 rfl) ?_
    have hg_4 : i < nT M := by omega
    refine tk_cVq (As := [.int (nI i)]) S0 (c_Jx4a65c_get_915e3 l A D ac dE _ hP.lt i hg_4 (by omega)) (cwV 1 hts gX4_areBlockersDone_Jx4a65c_get_915e3 rfl rfl rfl (by decide +kernel) ⟨Nat.le_of_ble_eq_true rfl, Nat.le_of_ble_eq_true rfl⟩) (tkX.blind) (tkX.at hM hK hA hF hO hS) (LX.rec hP.lt hK hM) rfl hl.1 rfl (Nat.le_of_ble_eq_true rfl) dX4_areBlockersDone_18 ⟨Nat.zero_le _, Nat.zero_le _⟩ (fun r_3 hr_3 => ?_)
    subst hr_3
    refine va_castY (C := "TicketForge$Task") hx hb hown (hts (.classLink RX4 72 "TicketForge$Task") (by decide +kernel)) (hF.2.2.2 ("TicketForge$Task", "TicketForge$Task") (by decide +kernel)) (tk_recv hK hM (hP.t hg_4) rfl (ci := 6) (q := (RX3, TX3, 6))) dX4_areBlockersDone_21 ?_
    refine lv_astore_n (lv' := [(3, .ref (α 1 i)), (0, .ref h0), (1, .ref (α 1 t)), (2, .int (nI i))]) hx hb dX4_areBlockersDone_24 rfl hl (by decide) rfl (fun ls hl => ?_)
    refine lv_aload_n hx hb dX4_areBlockersDone_25 rfl (lv_at hl 2 rfl) ?_
    refine lv_aload_n hx hb dX4_areBlockersDone_26 rfl (lv_at hl 0 rfl) ?_
    refine tk_cVi (As := [.ref (α 1 i)]) S0 (c_X3_isBlockedBy l A D ac dE _ hP t i ht hg_4) (cwV 1 hts gX4_areBlockersDone_X3_isBlockedBy rfl rfl rfl (by decide +kernel) ⟨Nat.le_of_ble_eq_true rfl, Nat.le_of_ble_eq_true rfl⟩) (tkX.blind) (tkX.at hM hK hA hF hO hS) (tk_recv hK hM (hP.t ht) rfl) rfl hl.1 rfl (Nat.le_of_ble_eq_true rfl) dX4_areBlockersDone_27 ⟨Nat.zero_le _, Nat.zero_le _⟩ (fun r_5 hr_5 => ?_)
    rcases hr_5 with ⟨rfl, hr_5⟩ | ⟨rfl, hr_5⟩
    · skip
      refine lv_if_eq (tgt := 44) hx hb dX4_areBlockersDone_30 (by decide) (fun c_6 => absurd c_6 (by decide)) (fun c_6 => ?_)
      refine lv_aload_n hx hb dX4_areBlockersDone_33 rfl (lv_at hl 0 rfl) ?_
      refine tk_get hx hb hts inX3 hown hK hM (hP.t hg_4) rfl 4 (by decide) (hts (.fieldLink RX4 71 "TicketForge$Task" "state" "C") (by decide +kernel)) (fun _ h9 => h9) rfl dX4_areBlockersDone_34 ?_
      refine lv_bipush (v := 100) hx hb dX4_areBlockersDone_37 (by decide) ?_
      refine lv_icmp_eq (tgt := 44) hx hb dX4_areBlockersDone_39 (by decide) (fun c_7 => ?_) (fun c_7 => ?_)
      · skip
        refine lv_iinc (v := (nI (i + 1))) (lv' := [(2, .int (nI (i + 1))), (3, .ref (α 1 i)), (0, .ref h0), (1, .ref (α 1 t))]) hx hb dX4_areBlockersDone_44 hl (k := 3) rfl (nI_1 i) (by decide) rfl (fun ls hl => ?_)
        refine lv_goto (tgt := 2) hx hb dX4_areBlockersDone_47 (by decide) ?_
        exact ih  ls (by omega) ⟨(lv_sub hl [2, 3, 0] rfl), allB_t hinv (by simp [c_7])⟩
      · skip
        refine lv_iconst (v := 0) hx hb dX4_areBlockersDone_42 (by decide) ?_
        exact W.zret (v := 0) hx hb hr rfl (fun t9 h9 w9 => ⟨0, rfl, (tkB_0 (allB_f (i := i) (by simp [hr_5, c_7]) hlt)), h9⟩) (fun q hq => absurd hq List.not_mem_nil) dX4_areBlockersDone_43
    · skip
      refine lv_if_eq (tgt := 44) hx hb dX4_areBlockersDone_30 (by decide) (fun c_8 => ?_) (fun c_8 => absurd (by decide) c_8)
      refine lv_iinc (v := (nI (i + 1))) (lv' := [(2, .int (nI (i + 1))), (3, .ref (α 1 i)), (0, .ref h0), (1, .ref (α 1 t))]) hx hb dX4_areBlockersDone_44 hl (k := 3) rfl (nI_1 i) (by decide) rfl (fun ls hl => ?_)
      refine lv_goto (tgt := 2) hx hb dX4_areBlockersDone_47 (by decide) ?_
      exact ih  ls (by omega) ⟨(lv_sub hl [2, 3, 0] rfl), allB_t hinv (by simp [hr_5])⟩
set_option maxHeartbeats 4000000 in
set_option maxRecDepth 100000 in
theorem c_X4_areChildrenDone (l : Launch) (A : Nat → Prop) (D : va_G) (ac : Nat → ClassId) (dE : Nat) (G : TG) {h0 : Nat} {α : Nat → Nat → Nat} {M : TS} {nv : Nat} (hP : PX ac dE h0 α M nv G) (hW : W0 M) (t : Nat) (ht : t < nT M) : Met l yX4_areChildrenDone wsX4_areChildrenDone ({ frames := 3, cells := 0, slots := 0, locals := 180 } : Room) (va_Pc [.ref h0, .ref (α 1 t)] (tkX A D ac dE G)) (vp_Si (fun z => tkB z (hasDoneCh M t))) 0 0 (fun _ => False) := by
  refine Met.ofW (cc := cX4_areChildrenDone) (maxL := 4) (ret := (some .boolean)) (by decide) rfl ?_
  intro p e s m args below meth c s₁ B hml hv
  obtain ⟨rfl, ⟨hM, hK, hA, hF⟩, hO⟩ := hv
  have hS : va_S A s.heap s.heap [] := va_S.rf
  have hx := B.exec
  have hb := B.bytes
  have hr := B.returns
  have hts := atoms_spec (ws := wsX4_areChildrenDone) B.pre
  have hown : s.vm.findClass RX4 = some m.cls := findClass_of_methodNamed B.named
  have hlocks := B.notSynchronized
  have S0 : CallFix p m c cX4_areChildrenDone 4 s ([.ref h0, .ref (α 1 t)] : List Value).toArray wsX4_areChildrenDone RX4 := ⟨hx, hb, hml, hown, hts⟩
  have inX4 : ∀ w ∈ wsX40, w ∈ wsX4_areChildrenDone := by decide +kernel
  have inX3 : ∀ w ∈ wsX30, w ∈ wsX4_areChildrenDone := by decide +kernel
  have hl := lv_entry ([.ref h0, .ref (α 1 t)]) (n := 4) (Nat.le_of_ble_eq_true rfl)
  rw [lg_entry_eq]
  generalize (lg_sl ([.ref h0, .ref (α 1 t)]) ++ List.replicate (4 - (lg_sl ([.ref h0, .ref (α 1 t)])).length) Slot.unset).toArray = ls at hl ⊢
  have hl : lv_has ls 4 [(0, .ref h0), (1, .ref (α 1 t))] := hl
  have bT := hW.t.2
  have bE := hW.e.2
  have bV := hW.v.2
  refine lv_iconst (v := 0) hx hb dX4_areChildrenDone_0 (by decide) ?_
  refine lv_istore_n (lv' := [(2, .int 0), (0, .ref h0), (1, .ref (α 1 t))]) hx hb dX4_areChildrenDone_1 rfl hl (by decide) rfl (fun ls hl => ?_)
  refine tk_f0 (Wf := W p l e _ s m _ below meth c _ _ _ _ _) (nT M) (fun i ls => lv_has ls 4 [(0, .ref h0), (1, .ref (α 1 t)), (2, .int (nI i))] ∧ allB (fun k => !decide (M 1 k = nI t) || decide (M 4 k = 100)) i = true) (fun i ls hi hinv ih => ?_)  ls ⟨(lv_sub hl [1, 2, 0] rfl), rfl⟩
  obtain ⟨hl, hinv⟩ := hinv
  refine lv_iload_n hx hb dX4_areChildrenDone_2 rfl (lv_at hl 2 rfl) ?_
  refine lv_aload_n hx hb dX4_areChildrenDone_3 rfl (lv_at hl 0 rfl) ?_
  refine tk_get hx hb hts inX4 hown hK hM hP.h rfl 0 (by decide) (hts (.fieldLink RX4 12 "TicketForge" "taskList" "Ljava/util/ArrayList;") (by decide +kernel)) (fun _ h9 => h9) rfl dX4_areChildrenDone_4 ?_
  refine tk_cVi (As := []) S0 (c_Jx4a65c_size_8abf5 l A D ac dE _ hP.lt) (cwV 0 hts gX4_areChildrenDone_Jx4a65c_size_8abf5 rfl rfl rfl (by decide +kernel) ⟨Nat.le_of_ble_eq_true rfl, Nat.le_of_ble_eq_true rfl⟩) (tkX.blind) (tkX.at hM hK hA hF hO hS) (LX.rec hP.lt hK hM) rfl hl.1 rfl (Nat.le_of_ble_eq_true rfl) dX4_areChildrenDone_7 ⟨Nat.zero_le _, Nat.zero_le _⟩ (fun r_1 hr_1 => ?_)
  subst hr_1
  refine lv_icmp_ge (tgt := 50) hx hb dX4_areChildrenDone_10 (by decide) (fun c_2 => ?_) (fun c_2 => ?_)
  · have hge := tk_ge (by omega) (by omega) c_2
    refine lv_iconst (v := 1) hx hb dX4_areChildrenDone_50 (by decide) ?_
    exact W.zret (v := 1) hx hb hr rfl (fun t9 h9 w9 => ⟨1, rfl, (tkB_1 (allB_e hinv hi hge)), h9⟩) (fun q hq => absurd hq List.not_mem_nil) dX4_areChildrenDone_51
  · have hlt := tk_lt (by omega) (by omega) c_2
    refine lv_aload_n hx hb dX4_areChildrenDone_13 rfl (lv_at hl 0 rfl) ?_
    refine tk_get hx hb hts inX4 hown hK hM hP.h rfl 0 (by decide) (hts (.fieldLink RX4 12 "TicketForge" "taskList" "Ljava/util/ArrayList;") (by decide +kernel)) (fun _ h9 => h9) rfl dX4_areChildrenDone_14 ?_
    refine lv_iload_n hx hb dX4_areChildrenDone_17 rfl (lv_at hl 2 rfl) ?_
    have hg_4 : i < nT M := by omega
    refine tk_cVq (As := [.int (nI i)]) S0 (c_Jx4a65c_get_915e3 l A D ac dE _ hP.lt i hg_4 (by omega)) (cwV 1 hts gX4_areChildrenDone_Jx4a65c_get_915e3 rfl rfl rfl (by decide +kernel) ⟨Nat.le_of_ble_eq_true rfl, Nat.le_of_ble_eq_true rfl⟩) (tkX.blind) (tkX.at hM hK hA hF hO hS) (LX.rec hP.lt hK hM) rfl hl.1 rfl (Nat.le_of_ble_eq_true rfl) dX4_areChildrenDone_18 ⟨Nat.zero_le _, Nat.zero_le _⟩ (fun r_3 hr_3 => ?_)
    subst hr_3
    refine va_castY (C := "TicketForge$Task") hx hb hown (hts (.classLink RX4 72 "TicketForge$Task") (by decide +kernel)) (hF.2.2.2 ("TicketForge$Task", "TicketForge$Task") (by decide +kernel)) (tk_recv hK hM (hP.t hg_4) rfl (ci := 6) (q := (RX3, TX3, 6))) dX4_areChildrenDone_21 ?_
    refine lv_astore_n (lv' := [(3, .ref (α 1 i)), (0, .ref h0), (1, .ref (α 1 t)), (2, .int (nI i))]) hx hb dX4_areChildrenDone_24 rfl hl (by decide) rfl (fun ls hl => ?_)
    refine lv_aload_n hx hb dX4_areChildrenDone_25 rfl (lv_at hl 0 rfl) ?_
    refine tk_get hx hb hts inX3 hown hK hM (hP.t hg_4) rfl 1 (by decide) (hts (.fieldLink RX4 137 "TicketForge$Task" "parent" "LTicketForge$Task;") (by decide +kernel)) (fun _ h9 => h9) rfl dX4_areChildrenDone_26 ?_
    refine lv_aload_n hx hb dX4_areChildrenDone_29 rfl (lv_at hl 2 rfl) ?_
    refine lv_acmp_ne (rx := (parR α M i)) (ry := (some (α 1 t))) (tgt := 44) hx hb dX4_areChildrenDone_30 (by decide) (fun c_5 => ?_) (fun c_5 => ?_)
    · have c_5 := mt (hP.parE hW hg_4 ht).mpr c_5
      refine lv_iinc (v := (nI (i + 1))) (lv' := [(2, .int (nI (i + 1))), (3, .ref (α 1 i)), (0, .ref h0), (1, .ref (α 1 t))]) hx hb dX4_areChildrenDone_44 hl (k := 3) rfl (nI_1 i) (by decide) rfl (fun ls hl => ?_)
      refine lv_goto (tgt := 2) hx hb dX4_areChildrenDone_47 (by decide) ?_
      exact ih  ls (by omega) ⟨(lv_sub hl [2, 3, 0] rfl), allB_t hinv (by simp [c_5])⟩
    · have c_5 := (hP.parE hW hg_4 ht).mp c_5
      refine lv_aload_n hx hb dX4_areChildrenDone_33 rfl (lv_at hl 0 rfl) ?_
      refine tk_get hx hb hts inX3 hown hK hM (hP.t hg_4) rfl 4 (by decide) (hts (.fieldLink RX4 71 "TicketForge$Task" "state" "C") (by decide +kernel)) (fun _ h9 => h9) rfl dX4_areChildrenDone_34 ?_
      refine lv_bipush (v := 100) hx hb dX4_areChildrenDone_37 (by decide) ?_
      refine lv_icmp_eq (tgt := 44) hx hb dX4_areChildrenDone_39 (by decide) (fun c_6 => ?_) (fun c_6 => ?_)
      · skip
        refine lv_iinc (v := (nI (i + 1))) (lv' := [(2, .int (nI (i + 1))), (3, .ref (α 1 i)), (0, .ref h0), (1, .ref (α 1 t))]) hx hb dX4_areChildrenDone_44 hl (k := 3) rfl (nI_1 i) (by decide) rfl (fun ls hl => ?_)
        refine lv_goto (tgt := 2) hx hb dX4_areChildrenDone_47 (by decide) ?_
        exact ih  ls (by omega) ⟨(lv_sub hl [2, 3, 0] rfl), allB_t hinv (by simp [c_6])⟩
      · skip
        refine lv_iconst (v := 0) hx hb dX4_areChildrenDone_42 (by decide) ?_
        exact W.zret (v := 0) hx hb hr rfl (fun t9 h9 w9 => ⟨0, rfl, (tkB_0 (allB_f (i := i) (by simp [c_5, c_6]) hlt)), h9⟩) (fun q hq => absurd hq List.not_mem_nil) dX4_areChildrenDone_43
set_option maxHeartbeats 4000000 in
set_option maxRecDepth 100000 in
theorem c_X4_isBlockedByChain (l : Launch) (A : Nat → Prop) (D : va_G) (ac : Nat → ClassId) (dE : Nat) (G : TG) {h0 : Nat} {α : Nat → Nat → Nat} {M : TS} {nv : Nat} (hP : PX ac dE h0 α M nv G) (hW : W0 M) (t u : Nat) (ht : t < nT M) (hu : u < nT M) : Met l yX4_isBlockedByChain wsX4_isBlockedByChain ({ frames := 3, cells := 0, slots := 0, locals := 180 } : Room) (va_Pc [.ref h0, .ref (α 1 t), .ref (α 1 u)] (tkX A D ac dE G)) (vp_Si (fun z => tkB z (!decide (fR M (M 19 t) 16 &&& bitOf u = 0)))) 0 0 (fun _ => False) := by
  refine Met.ofW (cc := cX4_isBlockedByChain) (maxL := 7) (ret := (some .boolean)) (by decide) rfl ?_
  intro p e s m args below meth c s₁ B hml hv
  obtain ⟨rfl, ⟨hM, hK, hA, hF⟩, hO⟩ := hv
  have hS : va_S A s.heap s.heap [] := va_S.rf
  have hx := B.exec
  have hb := B.bytes
  have hr := B.returns
  have hts := atoms_spec (ws := wsX4_isBlockedByChain) B.pre
  have hown : s.vm.findClass RX4 = some m.cls := findClass_of_methodNamed B.named
  have hlocks := B.notSynchronized
  have S0 : CallFix p m c cX4_isBlockedByChain 7 s ([.ref h0, .ref (α 1 t), .ref (α 1 u)] : List Value).toArray wsX4_isBlockedByChain RX4 := ⟨hx, hb, hml, hown, hts⟩
  have inX3 : ∀ w ∈ wsX30, w ∈ wsX4_isBlockedByChain := by decide +kernel
  have inX4 : ∀ w ∈ wsX40, w ∈ wsX4_isBlockedByChain := by decide +kernel
  have hl := lv_entry ([.ref h0, .ref (α 1 t), .ref (α 1 u)]) (n := 7) (Nat.le_of_ble_eq_true rfl)
  rw [lg_entry_eq]
  generalize (lg_sl ([.ref h0, .ref (α 1 t), .ref (α 1 u)]) ++ List.replicate (7 - (lg_sl ([.ref h0, .ref (α 1 t), .ref (α 1 u)])).length) Slot.unset).toArray = ls at hl ⊢
  have hl : lv_has ls 7 [(0, .ref h0), (1, .ref (α 1 t)), (2, .ref (α 1 u))] := hl
  have bT := hW.t.2
  have bE := hW.e.2
  have bV := hW.v.2
  refine lv_aload_n hx hb dX4_isBlockedByChain_0 rfl (lv_at hl 1 rfl) ?_
  refine tk_get hx hb hts inX3 hown hK hM (hP.t ht) rfl 5 (by decide) (hts (.fieldLink RX4 110 "TicketForge$Task" "blockers" "I") (by decide +kernel)) (fun _ h9 => h9) rfl dX4_isBlockedByChain_1 ?_
  refine lv_istore_n (lv' := [(3, .int (M 19 t)), (0, .ref h0), (1, .ref (α 1 t)), (2, .ref (α 1 u))]) hx hb dX4_isBlockedByChain_4 rfl hl (by decide) rfl (fun ls hl => ?_)
  refine lv_iconst (v := 0) hx hb dX4_isBlockedByChain_5 (by decide) ?_
  refine lv_istore (lv' := [(4, .int 0), (3, .int (M 19 t)), (0, .ref h0), (1, .ref (α 1 t)), (2, .ref (α 1 u))]) hx hb dX4_isBlockedByChain_6 hl (by decide) rfl (fun ls hl => ?_)
  refine tk_f1 (Wf := W p l e _ s m _ below meth c _ _ _ _ _) 16 (fun r (fd : Int32) ls => lv_has ls 7 [(0, .ref h0), (1, .ref (α 1 t)), (2, .ref (α 1 u)), (4, .int (nI r)), (3, .int fd)] ∧ fd = fR M (M 19 t) r) (fun r fd ls hir hfd ihr => ?_) _ ls ⟨(lv_sub hl [2, 3, 4, 0, 1] rfl), rfl⟩
  obtain ⟨hl, hfd⟩ := hfd
  refine lv_iload hx hb dX4_isBlockedByChain_8 (lv_at hl 3 rfl) ?_
  refine lv_bipush (v := 16) hx hb dX4_isBlockedByChain_10 (by decide) ?_
  refine lv_icmp_ge (tgt := 74) hx hb dX4_isBlockedByChain_12 (by decide) (fun c_1 => ?_) (fun c_1 => ?_)
  · have hge := tk_ge (a := 16) (by decide) (by omega) c_1
    obtain rfl : r = 16 := Nat.le_antisymm hir hge
    refine lv_iload_n hx hb dX4_isBlockedByChain_74 rfl (lv_at hl 4 rfl) ?_
    refine lv_aload_n hx hb dX4_isBlockedByChain_75 rfl (lv_at hl 2 rfl) ?_
    refine tk_cVi (As := []) S0 (c_X3_bit l A D ac dE _ hP u hu) (cwV 0 hts gX4_isBlockedByChain_X3_bit rfl rfl rfl (by decide +kernel) ⟨Nat.le_of_ble_eq_true rfl, Nat.le_of_ble_eq_true rfl⟩) (tkX.blind) (tkX.at hM hK hA hF hO hS) (tk_recv hK hM (hP.t hu) rfl) rfl hl.1 rfl (Nat.le_of_ble_eq_true rfl) dX4_isBlockedByChain_76 ⟨Nat.zero_le _, Nat.zero_le _⟩ (fun r_2 hr_2 => ?_)
    subst hr_2
    refine lv_iand hx hb dX4_isBlockedByChain_79 ?_
    refine lv_if_eq (tgt := 87) hx hb dX4_isBlockedByChain_80 (by decide) (fun c_3 => ?_) (fun c_3 => ?_)
    · skip
      refine lv_iconst (v := 0) hx hb dX4_isBlockedByChain_87 (by decide) ?_
      exact W.zret (v := 0) hx hb hr rfl (fun t9 h9 w9 => ⟨0, rfl, (tkB_0 (by rw [← hfd]; simp [c_3])), h9⟩) (fun q hq => absurd hq List.not_mem_nil) dX4_isBlockedByChain_88
    · skip
      refine lv_iconst (v := 1) hx hb dX4_isBlockedByChain_83 (by decide) ?_
      refine lv_goto (tgt := 88) hx hb dX4_isBlockedByChain_84 (by decide) ?_
      exact W.zret (v := 1) hx hb hr rfl (fun t9 h9 w9 => ⟨1, rfl, (tkB_1 (by rw [← hfd]; simp [c_3])), h9⟩) (fun q hq => absurd hq List.not_mem_nil) dX4_isBlockedByChain_88
  · have hlr := tk_lt (b := r) (a := 16) (by omega) (by omega) c_1
    refine lv_iconst (v := 0) hx hb dX4_isBlockedByChain_15 (by decide) ?_
    refine lv_istore (lv' := [(5, .int 0), (0, .ref h0), (1, .ref (α 1 t)), (2, .ref (α 1 u)), (4, .int (nI r)), (3, .int fd)]) hx hb dX4_isBlockedByChain_16 hl (by decide) rfl (fun ls hl => ?_)
    refine tk_f1 (Wf := W p l e _ s m _ below meth c _ _ _ _ _) (nT M) (fun i acc ls => lv_has ls 7 [(0, .ref h0), (1, .ref (α 1 t)), (2, .ref (α 1 u)), (4, .int (nI r)), (5, .int (nI i)), (3, .int acc)] ∧ acc = fS M fd i) (fun i acc ls hi hinv ih => ?_) _ ls ⟨(lv_sub hl [1, 2, 3, 4, 0, 5] rfl), rfl⟩
    obtain ⟨hl, hinv⟩ := hinv
    refine lv_iload hx hb dX4_isBlockedByChain_18 (lv_at hl 4 rfl) ?_
    refine lv_aload_n hx hb dX4_isBlockedByChain_20 rfl (lv_at hl 0 rfl) ?_
    refine tk_get hx hb hts inX4 hown hK hM hP.h rfl 0 (by decide) (hts (.fieldLink RX4 12 "TicketForge" "taskList" "Ljava/util/ArrayList;") (by decide +kernel)) (fun _ h9 => h9) rfl dX4_isBlockedByChain_21 ?_
    refine tk_cVi (As := []) S0 (c_Jx4a65c_size_8abf5 l A D ac dE _ hP.lt) (cwV 0 hts gX4_isBlockedByChain_Jx4a65c_size_8abf5 rfl rfl rfl (by decide +kernel) ⟨Nat.le_of_ble_eq_true rfl, Nat.le_of_ble_eq_true rfl⟩) (tkX.blind) (tkX.at hM hK hA hF hO hS) (LX.rec hP.lt hK hM) rfl hl.1 rfl (Nat.le_of_ble_eq_true rfl) dX4_isBlockedByChain_24 ⟨Nat.zero_le _, Nat.zero_le _⟩ (fun r_4 hr_4 => ?_)
    subst hr_4
    refine lv_icmp_ge (tgt := 68) hx hb dX4_isBlockedByChain_27 (by decide) (fun c_5 => ?_) (fun c_5 => ?_)
    · have hge := tk_ge (by omega) (by omega) c_5
      refine lv_iinc (v := (nI (r + 1))) (lv' := [(4, .int (nI (r + 1))), (0, .ref h0), (1, .ref (α 1 t)), (2, .ref (α 1 u)), (5, .int (nI i)), (3, .int acc)]) hx hb dX4_isBlockedByChain_68 hl (k := 3) rfl (nI_1 r) (by decide) rfl (fun ls hl => ?_)
      refine lv_goto (tgt := 8) hx hb dX4_isBlockedByChain_71 (by decide) ?_
      exact ihr _ ls (by omega) ⟨(lv_sub hl [1, 2, 3, 0, 5] rfl), fS_e hinv hi hge hfd⟩
    · have hlt := tk_lt (by omega) (by omega) c_5
      refine lv_aload_n hx hb dX4_isBlockedByChain_30 rfl (lv_at hl 0 rfl) ?_
      refine tk_get hx hb hts inX4 hown hK hM hP.h rfl 0 (by decide) (hts (.fieldLink RX4 12 "TicketForge" "taskList" "Ljava/util/ArrayList;") (by decide +kernel)) (fun _ h9 => h9) rfl dX4_isBlockedByChain_31 ?_
      refine lv_iload hx hb dX4_isBlockedByChain_34 (lv_at hl 4 rfl) ?_
      have hg_7 : i < nT M := by omega
      refine tk_cVq (As := [.int (nI i)]) S0 (c_Jx4a65c_get_915e3 l A D ac dE _ hP.lt i hg_7 (by omega)) (cwV 1 hts gX4_isBlockedByChain_Jx4a65c_get_915e3 rfl rfl rfl (by decide +kernel) ⟨Nat.le_of_ble_eq_true rfl, Nat.le_of_ble_eq_true rfl⟩) (tkX.blind) (tkX.at hM hK hA hF hO hS) (LX.rec hP.lt hK hM) rfl hl.1 rfl (Nat.le_of_ble_eq_true rfl) dX4_isBlockedByChain_36 ⟨Nat.zero_le _, Nat.zero_le _⟩ (fun r_6 hr_6 => ?_)
      subst hr_6
      refine va_castY (C := "TicketForge$Task") hx hb hown (hts (.classLink RX4 72 "TicketForge$Task") (by decide +kernel)) (hF.2.2.2 ("TicketForge$Task", "TicketForge$Task") (by decide +kernel)) (tk_recv hK hM (hP.t hg_7) rfl (ci := 6) (q := (RX3, TX3, 6))) dX4_isBlockedByChain_39 ?_
      refine lv_astore (lv' := [(6, .ref (α 1 i)), (0, .ref h0), (1, .ref (α 1 t)), (2, .ref (α 1 u)), (4, .int (nI r)), (5, .int (nI i)), (3, .int acc)]) hx hb dX4_isBlockedByChain_42 hl (by decide) rfl (fun ls hl => ?_)
      refine lv_iload_n hx hb dX4_isBlockedByChain_44 rfl (lv_at hl 6 rfl) ?_
      refine lv_aload hx hb dX4_isBlockedByChain_45 (lv_at hl 0 rfl) ?_
      refine tk_cVi (As := []) S0 (c_X3_bit l A D ac dE _ hP i hg_7) (cwV 0 hts gX4_isBlockedByChain_X3_bit rfl rfl rfl (by decide +kernel) ⟨Nat.le_of_ble_eq_true rfl, Nat.le_of_ble_eq_true rfl⟩) (tkX.blind) (tkX.at hM hK hA hF hO hS) (tk_recv hK hM (hP.t hg_7) rfl) rfl hl.1 rfl (Nat.le_of_ble_eq_true rfl) dX4_isBlockedByChain_47 ⟨Nat.zero_le _, Nat.zero_le _⟩ (fun r_8 hr_8 => ?_)
      subst hr_8
      refine lv_iand hx hb dX4_isBlockedByChain_50 ?_
      refine lv_if_eq (tgt := 62) hx hb dX4_isBlockedByChain_51 (by decide) (fun c_9 => ?_) (fun c_9 => ?_)
      · skip
        refine lv_iinc (v := (nI (i + 1))) (lv' := [(5, .int (nI (i + 1))), (6, .ref (α 1 i)), (0, .ref h0), (1, .ref (α 1 t)), (2, .ref (α 1 u)), (4, .int (nI r)), (3, .int acc)]) hx hb dX4_isBlockedByChain_62 hl (k := 5) rfl (nI_1 i) (by decide) rfl (fun ls hl => ?_)
        refine lv_goto (tgt := 18) hx hb dX4_isBlockedByChain_65 (by decide) ?_
        exact ih _ ls (by omega) ⟨(lv_sub hl [2, 3, 4, 5, 0, 6] rfl), fS_f hinv c_9⟩
      · skip
        refine lv_iload_n hx hb dX4_isBlockedByChain_54 rfl (lv_at hl 6 rfl) ?_
        refine lv_aload hx hb dX4_isBlockedByChain_55 (lv_at hl 0 rfl) ?_
        refine tk_get hx hb hts inX3 hown hK hM (hP.t hg_7) rfl 5 (by decide) (hts (.fieldLink RX4 110 "TicketForge$Task" "blockers" "I") (by decide +kernel)) (fun _ h9 => h9) rfl dX4_isBlockedByChain_57 ?_
        refine lv_ior hx hb dX4_isBlockedByChain_60 ?_
        refine lv_istore_n (lv' := [(3, .int (acc ||| (M 19 i))), (6, .ref (α 1 i)), (0, .ref h0), (1, .ref (α 1 t)), (2, .ref (α 1 u)), (4, .int (nI r)), (5, .int (nI i))]) hx hb dX4_isBlockedByChain_61 rfl hl (by decide) rfl (fun ls hl => ?_)
        refine lv_iinc (v := (nI (i + 1))) (lv' := [(5, .int (nI (i + 1))), (3, .int (acc ||| (M 19 i))), (6, .ref (α 1 i)), (0, .ref h0), (1, .ref (α 1 t)), (2, .ref (α 1 u)), (4, .int (nI r))]) hx hb dX4_isBlockedByChain_62 hl (k := 6) rfl (nI_1 i) (by decide) rfl (fun ls hl => ?_)
        refine lv_goto (tgt := 18) hx hb dX4_isBlockedByChain_65 (by decide) ?_
        exact ih _ ls (by omega) ⟨(lv_sub hl [3, 4, 5, 6, 0, 1] rfl), fS_t hinv c_9⟩
set_option maxHeartbeats 4000000 in
set_option maxRecDepth 100000 in
theorem c_X4_treeHours (l : Launch) (A : Nat → Prop) (D : va_G) (ac : Nat → ClassId) (dE : Nat) (G : TG) {h0 : Nat} {α : Nat → Nat → Nat} {M : TS} {nv : Nat} (hP : PX ac dE h0 α M nv G) (hW : W0 M) (r : Nat) (hr0 : r < nT M) : Met l yX4_treeHours wsX4_treeHours ({ frames := 3, cells := 0, slots := 0, locals := 180 } : Room) (va_Pc [.ref h0, .ref (α 1 r)] (tkX A D ac dE G)) (vp_Si (fun z => z = hoursIn M r)) 0 0 (fun _ => False) := by
  refine Met.ofW (cc := cX4_treeHours) (maxL := 5) (ret := (some .int)) (by decide) rfl ?_
  intro p e s m args below meth c s₁ B hml hv
  obtain ⟨rfl, ⟨hM, hK, hA, hF⟩, hO⟩ := hv
  have hS : va_S A s.heap s.heap [] := va_S.rf
  have hx := B.exec
  have hb := B.bytes
  have hr := B.returns
  have hts := atoms_spec (ws := wsX4_treeHours) B.pre
  have hown : s.vm.findClass RX4 = some m.cls := findClass_of_methodNamed B.named
  have hlocks := B.notSynchronized
  have S0 : CallFix p m c cX4_treeHours 5 s ([.ref h0, .ref (α 1 r)] : List Value).toArray wsX4_treeHours RX4 := ⟨hx, hb, hml, hown, hts⟩
  have inX4 : ∀ w ∈ wsX40, w ∈ wsX4_treeHours := by decide +kernel
  have inX0 : ∀ w ∈ wsX00, w ∈ wsX4_treeHours := by decide +kernel
  have hl := lv_entry ([.ref h0, .ref (α 1 r)]) (n := 5) (Nat.le_of_ble_eq_true rfl)
  rw [lg_entry_eq]
  generalize (lg_sl ([.ref h0, .ref (α 1 r)]) ++ List.replicate (5 - (lg_sl ([.ref h0, .ref (α 1 r)])).length) Slot.unset).toArray = ls at hl ⊢
  have hl : lv_has ls 5 [(0, .ref h0), (1, .ref (α 1 r))] := hl
  have bT := hW.t.2
  have bE := hW.e.2
  have bV := hW.v.2
  refine lv_iconst (v := 0) hx hb dX4_treeHours_0 (by decide) ?_
  refine lv_istore_n (lv' := [(2, .int 0), (0, .ref h0), (1, .ref (α 1 r))]) hx hb dX4_treeHours_1 rfl hl (by decide) rfl (fun ls hl => ?_)
  refine lv_iconst (v := 0) hx hb dX4_treeHours_2 (by decide) ?_
  refine lv_istore_n (lv' := [(3, .int 0), (2, .int 0), (0, .ref h0), (1, .ref (α 1 r))]) hx hb dX4_treeHours_3 rfl hl (by decide) rfl (fun ls hl => ?_)
  refine tk_f1 (Wf := W p l e _ s m _ below meth c _ _ _ _ _) (nE M) (fun i acc ls => lv_has ls 5 [(0, .ref h0), (1, .ref (α 1 r)), (3, .int (nI i)), (2, .int acc)] ∧ acc = sumI (fun k => if isIn M (M 9 k).toNatClampNeg r = true then M 12 k else 0) i) (fun i acc ls hi hinv ih => ?_) _ ls ⟨(lv_sub hl [2, 3, 0, 1] rfl), rfl⟩
  obtain ⟨hl, hinv⟩ := hinv
  refine lv_iload_n hx hb dX4_treeHours_4 rfl (lv_at hl 2 rfl) ?_
  refine lv_aload_n hx hb dX4_treeHours_5 rfl (lv_at hl 0 rfl) ?_
  refine tk_get hx hb hts inX4 hown hK hM hP.h rfl 1 (by decide) (hts (.fieldLink RX4 16 "TicketForge" "entryList" "Ljava/util/ArrayList;") (by decide +kernel)) (fun _ h9 => h9) rfl dX4_treeHours_6 ?_
  refine tk_cVi (As := []) S0 (c_Jx4a65c_size_8abf5 l A D ac dE _ hP.le) (cwV 0 hts gX4_treeHours_Jx4a65c_size_8abf5 rfl rfl rfl (by decide +kernel) ⟨Nat.le_of_ble_eq_true rfl, Nat.le_of_ble_eq_true rfl⟩) (tkX.blind) (tkX.at hM hK hA hF hO hS) (LX.rec hP.le hK hM) rfl hl.1 rfl (Nat.le_of_ble_eq_true rfl) dX4_treeHours_9 ⟨Nat.zero_le _, Nat.zero_le _⟩ (fun r_1 hr_1 => ?_)
  subst hr_1
  refine lv_icmp_ge (tgt := 54) hx hb dX4_treeHours_12 (by decide) (fun c_2 => ?_) (fun c_2 => ?_)
  · have hge := tk_ge (by omega) (by omega) c_2
    refine lv_iload_n hx hb dX4_treeHours_54 rfl (lv_at hl 3 rfl) ?_
    exact W.iret (v := acc) hx hb hr (fun t9 h9 w9 => ⟨acc, rfl, sumI_e hinv hi hge, h9⟩) (fun q hq => absurd hq List.not_mem_nil) dX4_treeHours_55
  · have hlt := tk_lt (by omega) (by omega) c_2
    refine lv_aload_n hx hb dX4_treeHours_15 rfl (lv_at hl 0 rfl) ?_
    refine tk_get hx hb hts inX4 hown hK hM hP.h rfl 1 (by decide) (hts (.fieldLink RX4 16 "TicketForge" "entryList" "Ljava/util/ArrayList;") (by decide +kernel)) (fun _ h9 => h9) rfl dX4_treeHours_16 ?_
    refine lv_iload_n hx hb dX4_treeHours_19 rfl (lv_at hl 2 rfl) ?_
    have hg_4 : i < nE M := by omega
    refine tk_cVq (As := [.int (nI i)]) S0 (c_Jx4a65c_get_915e3 l A D ac dE _ hP.le i hg_4 (by omega)) (cwV 1 hts gX4_treeHours_Jx4a65c_get_915e3 rfl rfl rfl (by decide +kernel) ⟨Nat.le_of_ble_eq_true rfl, Nat.le_of_ble_eq_true rfl⟩) (tkX.blind) (tkX.at hM hK hA hF hO hS) (LX.rec hP.le hK hM) rfl hl.1 rfl (Nat.le_of_ble_eq_true rfl) dX4_treeHours_20 ⟨Nat.zero_le _, Nat.zero_le _⟩ (fun r_3 hr_3 => ?_)
    subst hr_3
    refine va_castY (C := "TicketForge$Entry") hx hb hown (hts (.classLink RX4 178 "TicketForge$Entry") (by decide +kernel)) (hF.2.2.2 ("TicketForge$Entry", "TicketForge$Entry") (by decide +kernel)) (tk_recv hK hM (hP.e hg_4) rfl (ci := 3) (q := (RX0, TX0, 7))) dX4_treeHours_23 ?_
    refine lv_astore (lv' := [(4, .ref (α 2 i)), (0, .ref h0), (1, .ref (α 1 r)), (3, .int (nI i)), (2, .int acc)]) hx hb dX4_treeHours_26 hl (by decide) rfl (fun ls hl => ?_)
    refine lv_aload hx hb dX4_treeHours_28 (lv_at hl 0 rfl) ?_
    refine tk_get hx hb hts inX0 hown hK hM (hP.e hg_4) rfl 0 (by decide) (hts (.fieldLink RX4 329 "TicketForge$Entry" "task" "LTicketForge$Task;") (by decide +kernel)) (fun _ h9 => h9) rfl dX4_treeHours_30 ?_
    obtain ⟨t_5, ht_5, et_5⟩ := hW.et hg_4
    rw [show α 1 (tn (M 9 i)) = α 1 t_5 from by rw [et_5, show tn (nI t_5) = t_5 from nI_clamp (by omega)]]
    refine lv_aload_n hx hb dX4_treeHours_33 rfl (lv_at hl 2 rfl) ?_
    refine tk_cVi (As := [.ref (α 1 r)]) S0 (c_X3_isInTreeOf l A D ac dE _ hP hW t_5 r ht_5 hr0) (cwV 1 hts gX4_treeHours_X3_isInTreeOf rfl rfl rfl (by decide +kernel) ⟨Nat.le_of_ble_eq_true rfl, Nat.le_of_ble_eq_true rfl⟩) (tkX.blind) (tkX.at hM hK hA hF hO hS) (tk_recv hK hM (hP.t ht_5) rfl) rfl hl.1 rfl (Nat.le_of_ble_eq_true rfl) dX4_treeHours_34 ⟨Nat.zero_le _, Nat.zero_le _⟩ (fun r_6 hr_6 => ?_)
    rcases hr_6 with ⟨rfl, hr_6⟩ | ⟨rfl, hr_6⟩
    · skip
      refine lv_if_eq (tgt := 48) hx hb dX4_treeHours_37 (by decide) (fun c_7 => absurd c_7 (by decide)) (fun c_7 => ?_)
      refine lv_iload_n hx hb dX4_treeHours_40 rfl (lv_at hl 4 rfl) ?_
      refine lv_aload hx hb dX4_treeHours_41 (lv_at hl 0 rfl) ?_
      refine tk_get hx hb hts inX0 hown hK hM (hP.e hg_4) rfl 3 (by decide) (hts (.fieldLink RX4 300 "TicketForge$Entry" "hours" "I") (by decide +kernel)) (fun _ h9 => h9) rfl dX4_treeHours_43 ?_
      refine lv_iadd hx hb dX4_treeHours_46 ?_
      refine lv_istore_n (lv' := [(2, .int (acc + (M 12 i))), (4, .ref (α 2 i)), (0, .ref h0), (1, .ref (α 1 r)), (3, .int (nI i))]) hx hb dX4_treeHours_47 rfl hl (by decide) rfl (fun ls hl => ?_)
      refine lv_iinc (v := (nI (i + 1))) (lv' := [(3, .int (nI (i + 1))), (2, .int (acc + (M 12 i))), (4, .ref (α 2 i)), (0, .ref h0), (1, .ref (α 1 r))]) hx hb dX4_treeHours_48 hl (k := 4) rfl (nI_1 i) (by decide) rfl (fun ls hl => ?_)
      refine lv_goto (tgt := 4) hx hb dX4_treeHours_51 (by decide) ?_
      exact ih _ ls (by omega) ⟨(lv_sub hl [3, 4, 0, 1] rfl), sumI_t hinv (if_pos (by rw [et_5, nI_clamp (by omega)]; exact hr_6))⟩
    · skip
      refine lv_if_eq (tgt := 48) hx hb dX4_treeHours_37 (by decide) (fun c_8 => ?_) (fun c_8 => absurd (by decide) c_8)
      refine lv_iinc (v := (nI (i + 1))) (lv' := [(3, .int (nI (i + 1))), (4, .ref (α 2 i)), (0, .ref h0), (1, .ref (α 1 r)), (2, .int acc)]) hx hb dX4_treeHours_48 hl (k := 3) rfl (nI_1 i) (by decide) rfl (fun ls hl => ?_)
      refine lv_goto (tgt := 4) hx hb dX4_treeHours_51 (by decide) ?_
      exact ih _ ls (by omega) ⟨(lv_sub hl [2, 3, 0, 4] rfl), sumI_f hinv (if_neg (by rw [et_5, nI_clamp (by omega), hr_6]; exact Bool.false_ne_true))⟩
set_option maxHeartbeats 4000000 in
set_option maxRecDepth 100000 in
theorem c_X4_roomOf (l : Launch) (A : Nat → Prop) (D : va_G) (ac : Nat → ClassId) (dE : Nat) (G : TG) {h0 : Nat} {α : Nat → Nat → Nat} {M : TS} {nv : Nat} (hP : PX ac dE h0 α M nv G) (hW : W0 M) (t : Nat) (ht : t < nT M) : Met l yX4_roomOf wsX4_roomOf ({ frames := 4, cells := 0, slots := 0, locals := 220 } : Room) (va_Pc [.ref h0, .ref (α 1 t)] (tkX A D ac dE G)) (vp_Si (fun z => z = rmC M (t + 1) t 401)) 0 0 (fun _ => False) := by
  refine Met.ofW (cc := cX4_roomOf) (maxL := 4) (ret := (some .int)) (by decide) rfl ?_
  intro p e s m args below meth c s₁ B hml hv
  obtain ⟨rfl, ⟨hM, hK, hA, hF⟩, hO⟩ := hv
  have hS : va_S A s.heap s.heap [] := va_S.rf
  have hx := B.exec
  have hb := B.bytes
  have hr := B.returns
  have hts := atoms_spec (ws := wsX4_roomOf) B.pre
  have hown : s.vm.findClass RX4 = some m.cls := findClass_of_methodNamed B.named
  have hlocks := B.notSynchronized
  have S0 : CallFix p m c cX4_roomOf 4 s ([.ref h0, .ref (α 1 t)] : List Value).toArray wsX4_roomOf RX4 := ⟨hx, hb, hml, hown, hts⟩
  have inX3 : ∀ w ∈ wsX30, w ∈ wsX4_roomOf := by decide +kernel
  have hl := lv_entry ([.ref h0, .ref (α 1 t)]) (n := 4) (Nat.le_of_ble_eq_true rfl)
  rw [lg_entry_eq]
  generalize (lg_sl ([.ref h0, .ref (α 1 t)]) ++ List.replicate (4 - (lg_sl ([.ref h0, .ref (α 1 t)])).length) Slot.unset).toArray = ls at hl ⊢
  have hl : lv_has ls 4 [(0, .ref h0), (1, .ref (α 1 t))] := hl
  have bT := hW.t.2
  have bE := hW.e.2
  have bV := hW.v.2
  refine lv_sipush (v := 401) hx hb dX4_roomOf_0 (by decide) ?_
  refine lv_istore_n (lv' := [(2, .int 401), (0, .ref h0), (1, .ref (α 1 t))]) hx hb dX4_roomOf_3 rfl hl (by decide) rfl (fun ls hl => ?_)
  refine lv_aload_n hx hb dX4_roomOf_4 rfl (lv_at hl 2 rfl) ?_
  refine lv_astore_n (lv' := [(3, .ref (α 1 t)), (2, .int 401), (0, .ref h0), (1, .ref (α 1 t))]) hx hb dX4_roomOf_5 rfl hl (by decide) rfl (fun ls hl => ?_)
  refine tk_d2 (Wf := W p l e _ s m _ below meth c _ _ _ _ _) (fun q (x : Option Nat) (a : Int32) ls => lv_has ls 4 [(0, .ref h0), (3, va_rf x), (2, .int a)] ∧ ((x = none ∧ a = rmC M (t + 1) t 401) ∨ ∃ d : Nat, q = d + 1 ∧ d < nT M ∧ x = some (α 1 d) ∧ rmC M (t + 1) t 401 = rmC M (d + 1) d a)) (fun q x a ls hinv ih => ?_) (t + 1) (some (α 1 t)) 401 ls ⟨(lv_sub hl [2, 0, 1] rfl), Or.inr ⟨t, rfl, ht, rfl, rfl⟩⟩
  obtain ⟨hl, hinv⟩ := hinv
  rcases hinv with ⟨rfl, hno⟩ | ⟨d, rfl, hd, rfl, heq⟩
  · skip
    refine lv_aload_nN hx hb dX4_roomOf_6 rfl (lv_at hl 1 rfl) ?_
    refine lv_ifnullN (tgt := 40) hx hb dX4_roomOf_7 (by decide) ?_
    refine lv_iload_n hx hb dX4_roomOf_40 rfl (lv_at hl 2 rfl) ?_
    exact W.iret (v := a) hx hb hr (fun t9 h9 w9 => ⟨a, rfl, hno, h9⟩) (fun q hq => absurd hq List.not_mem_nil) dX4_roomOf_41
  · skip
    refine lv_aload_n hx hb dX4_roomOf_6 rfl (lv_at hl 1 rfl) ?_
    refine lv_ifnull hx hb dX4_roomOf_7 ?_
    refine lv_aload_n hx hb dX4_roomOf_10 rfl (lv_at hl 1 rfl) ?_
    refine tk_get hx hb hts inX3 hown hK hM (hP.t hd) rfl 3 (by decide) (hts (.fieldLink RX4 332 "TicketForge$Task" "budget" "I") (by decide +kernel)) (fun _ h9 => h9) rfl dX4_roomOf_11 ?_
    refine lv_if_eq (tgt := 32) hx hb dX4_roomOf_14 (by decide) (fun c_1 => ?_) (fun c_1 => ?_)
    · skip
      refine lv_aload_n hx hb dX4_roomOf_32 rfl (lv_at hl 1 rfl) ?_
      refine tk_get hx hb hts inX3 hown hK hM (hP.t hd) rfl 1 (by decide) (hts (.fieldLink RX4 137 "TicketForge$Task" "parent" "LTicketForge$Task;") (by decide +kernel)) (fun _ h9 => h9) rfl dX4_roomOf_33 ?_
      refine tk_astore_n (lv' := [(3, va_rf (parR α M d)), (0, .ref h0), (2, .int a)]) hx hb dX4_roomOf_36 rfl hl (by decide) rfl (fun ls hl => ?_)
      refine lv_goto (tgt := 6) hx hb dX4_roomOf_37 (by decide) ?_
      have hst : stpC M d a = a := (by rw [stpC, if_pos c_1])
      rcases hW.p d hd with hp | ⟨u, hu, eu⟩
      · rw [parR_n hp] at hl
        exact ih 0 none _ ls (by omega) ⟨(lv_sub hl [1, 0, 2] rfl), Or.inl ⟨rfl, by rw [heq, rmC_top hp, hst]⟩⟩
      · rw [parR_s (by omega) eu] at hl
        exact ih (u + 1) (some (α 1 u)) _ ls (by omega) ⟨(lv_sub hl [1, 0, 2] rfl), Or.inr ⟨u, rfl, by omega, rfl, by rw [heq, rmC_up (by omega) hW.p hd hu eu, hst]⟩⟩
    · skip
      refine lv_iload_n hx hb dX4_roomOf_17 rfl (lv_at hl 2 rfl) ?_
      refine lv_aload_n hx hb dX4_roomOf_18 rfl (lv_at hl 1 rfl) ?_
      refine tk_get hx hb hts inX3 hown hK hM (hP.t hd) rfl 3 (by decide) (hts (.fieldLink RX4 332 "TicketForge$Task" "budget" "I") (by decide +kernel)) (fun _ h9 => h9) rfl dX4_roomOf_19 ?_
      refine lv_aload_n hx hb dX4_roomOf_22 rfl (lv_at hl 0 rfl) ?_
      refine lv_aload_n hx hb dX4_roomOf_23 rfl (lv_at hl 1 rfl) ?_
      refine tk_cVi (As := [.ref (α 1 d)]) S0 (c_X4_treeHours l A D ac dE _ hP hW d hd) (cwV 1 hts gX4_roomOf_X4_treeHours rfl rfl rfl (by decide +kernel) ⟨Nat.le_of_ble_eq_true rfl, Nat.le_of_ble_eq_true rfl⟩) (tkX.blind) (tkX.at hM hK hA hF hO hS) (tk_recv hK hM hP.h rfl) rfl hl.1 rfl (Nat.le_of_ble_eq_true rfl) dX4_roomOf_24 ⟨Nat.zero_le _, Nat.zero_le _⟩ (fun r_2 hr_2 => ?_)
      subst hr_2
      refine lv_isub hx hb dX4_roomOf_27 ?_
      refine va_mmin hx hb (by rw [hml]; exact hl.1.symm) hown (hts (.methodLink RX4 335 Lib.Math.min.name) (by decide +kernel)) (hts (.static Lib.Math.min.name) (by decide +kernel)) (hts (.initialized "java/lang/Math") (by decide +kernel)) (hts (.code Lib.Math.min.name Lib.Math.min.code 2 (some .int)) (by decide +kernel)) (Nat.le_of_ble_eq_true rfl) (Nat.le_of_ble_eq_true rfl) (Nat.zero_le _) (Nat.zero_le _) dX4_roomOf_28 ?_
      refine lv_istore_n (lv' := [(2, .int (if ((M 3 d) - (hoursIn M d)) < a then ((M 3 d) - (hoursIn M d)) else a)), (0, .ref h0), (3, .ref (α 1 d))]) hx hb dX4_roomOf_31 rfl hl (by decide) rfl (fun ls hl => ?_)
      refine lv_aload_n hx hb dX4_roomOf_32 rfl (lv_at hl 2 rfl) ?_
      refine tk_get hx hb hts inX3 hown hK hM (hP.t hd) rfl 1 (by decide) (hts (.fieldLink RX4 137 "TicketForge$Task" "parent" "LTicketForge$Task;") (by decide +kernel)) (fun _ h9 => h9) rfl dX4_roomOf_33 ?_
      refine tk_astore_n (lv' := [(3, va_rf (parR α M d)), (2, .int (if ((M 3 d) - (hoursIn M d)) < a then ((M 3 d) - (hoursIn M d)) else a)), (0, .ref h0)]) hx hb dX4_roomOf_36 rfl hl (by decide) rfl (fun ls hl => ?_)
      refine lv_goto (tgt := 6) hx hb dX4_roomOf_37 (by decide) ?_
      have hst : stpC M d a = (if ((M 3 d) - (hoursIn M d)) < a then ((M 3 d) - (hoursIn M d)) else a) := (by rw [stpC, if_neg c_1])
      rcases hW.p d hd with hp | ⟨u, hu, eu⟩
      · rw [parR_n hp] at hl
        exact ih 0 none _ ls (by omega) ⟨(lv_sub hl [2, 0, 1] rfl), Or.inl ⟨rfl, by rw [heq, rmC_top hp, hst]⟩⟩
      · rw [parR_s (by omega) eu] at hl
        exact ih (u + 1) (some (α 1 u)) _ ls (by omega) ⟨(lv_sub hl [2, 0, 1] rfl), Or.inr ⟨u, rfl, by omega, rfl, by rw [heq, rmC_up (by omega) hW.p hd hu eu, hst]⟩⟩
theorem mx0 (a : Int32) : (if a < 0 then 0 else a) = if 0 < a then a else 0 := by
  by_cases h : a < 0
  · rw [if_pos h, if_neg (Int32.not_lt.mpr (Int32.le_of_lt h))]
  · rw [if_neg h]
    by_cases h2 : 0 < a
    · rw [if_pos h2]
    · rw [if_neg h2]
      exact Int32.le_antisymm (Int32.not_lt.mp h2) (Int32.not_lt.mp h)
set_option maxHeartbeats 4000000 in
set_option maxRecDepth 100000 in
theorem c_X4_leftOf (l : Launch) (A : Nat → Prop) (D : va_G) (ac : Nat → ClassId) (dE : Nat) (G : TG) {h0 : Nat} {α : Nat → Nat → Nat} {M : TS} {nv : Nat} (hP : PX ac dE h0 α M nv G) (hW : W0 M) (t : Nat) (ht : t < nT M) : Met l yX4_leftOf wsX4_leftOf ({ frames := 3, cells := 0, slots := 0, locals := 180 } : Room) (va_Pc [.ref h0, .ref (α 1 t)] (tkX A D ac dE G)) (vp_Si (fun z => z = leftOf M t)) 0 0 (fun _ => False) := by
  refine Met.ofW (cc := cX4_leftOf) (maxL := 5) (ret := (some .int)) (by decide) rfl ?_
  intro p e s m args below meth c s₁ B hml hv
  obtain ⟨rfl, ⟨hM, hK, hA, hF⟩, hO⟩ := hv
  have hS : va_S A s.heap s.heap [] := va_S.rf
  have hx := B.exec
  have hb := B.bytes
  have hr := B.returns
  have hts := atoms_spec (ws := wsX4_leftOf) B.pre
  have hown : s.vm.findClass RX4 = some m.cls := findClass_of_methodNamed B.named
  have hlocks := B.notSynchronized
  have S0 : CallFix p m c cX4_leftOf 5 s ([.ref h0, .ref (α 1 t)] : List Value).toArray wsX4_leftOf RX4 := ⟨hx, hb, hml, hown, hts⟩
  have inX3 : ∀ w ∈ wsX30, w ∈ wsX4_leftOf := by decide +kernel
  have inX4 : ∀ w ∈ wsX40, w ∈ wsX4_leftOf := by decide +kernel
  have inX0 : ∀ w ∈ wsX00, w ∈ wsX4_leftOf := by decide +kernel
  have hl := lv_entry ([.ref h0, .ref (α 1 t)]) (n := 5) (Nat.le_of_ble_eq_true rfl)
  rw [lg_entry_eq]
  generalize (lg_sl ([.ref h0, .ref (α 1 t)]) ++ List.replicate (5 - (lg_sl ([.ref h0, .ref (α 1 t)])).length) Slot.unset).toArray = ls at hl ⊢
  have hl : lv_has ls 5 [(0, .ref h0), (1, .ref (α 1 t))] := hl
  have bT := hW.t.2
  have bE := hW.e.2
  have bV := hW.v.2
  refine lv_aload_n hx hb dX4_leftOf_0 rfl (lv_at hl 1 rfl) ?_
  refine tk_get hx hb hts inX3 hown hK hM (hP.t ht) rfl 2 (by decide) (hts (.fieldLink RX4 338 "TicketForge$Task" "estimate" "I") (by decide +kernel)) (fun _ h9 => h9) rfl dX4_leftOf_1 ?_
  refine lv_istore_n (lv' := [(2, .int (M 2 t)), (0, .ref h0), (1, .ref (α 1 t))]) hx hb dX4_leftOf_4 rfl hl (by decide) rfl (fun ls hl => ?_)
  refine lv_iconst (v := 0) hx hb dX4_leftOf_5 (by decide) ?_
  refine lv_istore_n (lv' := [(3, .int 0), (2, .int (M 2 t)), (0, .ref h0), (1, .ref (α 1 t))]) hx hb dX4_leftOf_6 rfl hl (by decide) rfl (fun ls hl => ?_)
  refine tk_f1 (Wf := W p l e _ s m _ below meth c _ _ _ _ _) (nE M) (fun i acc ls => lv_has ls 5 [(0, .ref h0), (1, .ref (α 1 t)), (3, .int (nI i)), (2, .int acc)] ∧ acc = leftS M t i) (fun i acc ls hi hinv ih => ?_) _ ls ⟨(lv_sub hl [2, 3, 0, 1] rfl), (leftS_0 M t)⟩
  obtain ⟨hl, hinv⟩ := hinv
  refine lv_iload_n hx hb dX4_leftOf_7 rfl (lv_at hl 2 rfl) ?_
  refine lv_aload_n hx hb dX4_leftOf_8 rfl (lv_at hl 0 rfl) ?_
  refine tk_get hx hb hts inX4 hown hK hM hP.h rfl 1 (by decide) (hts (.fieldLink RX4 16 "TicketForge" "entryList" "Ljava/util/ArrayList;") (by decide +kernel)) (fun _ h9 => h9) rfl dX4_leftOf_9 ?_
  refine tk_cVi (As := []) S0 (c_Jx4a65c_size_8abf5 l A D ac dE _ hP.le) (cwV 0 hts gX4_leftOf_Jx4a65c_size_8abf5 rfl rfl rfl (by decide +kernel) ⟨Nat.le_of_ble_eq_true rfl, Nat.le_of_ble_eq_true rfl⟩) (tkX.blind) (tkX.at hM hK hA hF hO hS) (LX.rec hP.le hK hM) rfl hl.1 rfl (Nat.le_of_ble_eq_true rfl) dX4_leftOf_12 ⟨Nat.zero_le _, Nat.zero_le _⟩ (fun r_1 hr_1 => ?_)
  subst hr_1
  refine lv_icmp_ge (tgt := 54) hx hb dX4_leftOf_15 (by decide) (fun c_2 => ?_) (fun c_2 => ?_)
  · have hge := tk_ge (by omega) (by omega) c_2
    refine lv_iload_n hx hb dX4_leftOf_54 rfl (lv_at hl 3 rfl) ?_
    refine lv_iconst (v := 0) hx hb dX4_leftOf_55 (by decide) ?_
    refine va_mmax hx hb (by rw [hml]; exact hl.1.symm) hown (hts (.methodLink RX4 229 Lib.Math.max.name) (by decide +kernel)) (hts (.static Lib.Math.max.name) (by decide +kernel)) (hts (.initialized "java/lang/Math") (by decide +kernel)) (hts (.code Lib.Math.max.name Lib.Math.max.code 2 (some .int)) (by decide +kernel)) (Nat.le_of_ble_eq_true rfl) (Nat.le_of_ble_eq_true rfl) (Nat.zero_le _) (Nat.zero_le _) dX4_leftOf_56 ?_
    exact W.iret (v := (if acc < 0 then 0 else acc)) hx hb hr (fun t9 h9 w9 => ⟨(if acc < 0 then 0 else acc), rfl, (by rw [leftOf, ← leftS_e hinv hi hge]; exact mx0 acc), h9⟩) (fun q hq => absurd hq List.not_mem_nil) dX4_leftOf_59
  · have hlt := tk_lt (by omega) (by omega) c_2
    refine lv_aload_n hx hb dX4_leftOf_18 rfl (lv_at hl 0 rfl) ?_
    refine tk_get hx hb hts inX4 hown hK hM hP.h rfl 1 (by decide) (hts (.fieldLink RX4 16 "TicketForge" "entryList" "Ljava/util/ArrayList;") (by decide +kernel)) (fun _ h9 => h9) rfl dX4_leftOf_19 ?_
    refine lv_iload_n hx hb dX4_leftOf_22 rfl (lv_at hl 2 rfl) ?_
    have hg_4 : i < nE M := by omega
    refine tk_cVq (As := [.int (nI i)]) S0 (c_Jx4a65c_get_915e3 l A D ac dE _ hP.le i hg_4 (by omega)) (cwV 1 hts gX4_leftOf_Jx4a65c_get_915e3 rfl rfl rfl (by decide +kernel) ⟨Nat.le_of_ble_eq_true rfl, Nat.le_of_ble_eq_true rfl⟩) (tkX.blind) (tkX.at hM hK hA hF hO hS) (LX.rec hP.le hK hM) rfl hl.1 rfl (Nat.le_of_ble_eq_true rfl) dX4_leftOf_23 ⟨Nat.zero_le _, Nat.zero_le _⟩ (fun r_3 hr_3 => ?_)
    subst hr_3
    refine va_castY (C := "TicketForge$Entry") hx hb hown (hts (.classLink RX4 178 "TicketForge$Entry") (by decide +kernel)) (hF.2.2.2 ("TicketForge$Entry", "TicketForge$Entry") (by decide +kernel)) (tk_recv hK hM (hP.e hg_4) rfl (ci := 3) (q := (RX0, TX0, 7))) dX4_leftOf_26 ?_
    refine lv_astore (lv' := [(4, .ref (α 2 i)), (0, .ref h0), (1, .ref (α 1 t)), (3, .int (nI i)), (2, .int acc)]) hx hb dX4_leftOf_29 hl (by decide) rfl (fun ls hl => ?_)
    refine lv_aload hx hb dX4_leftOf_31 (lv_at hl 0 rfl) ?_
    refine tk_get hx hb hts inX0 hown hK hM (hP.e hg_4) rfl 0 (by decide) (hts (.fieldLink RX4 329 "TicketForge$Entry" "task" "LTicketForge$Task;") (by decide +kernel)) (fun _ h9 => h9) rfl dX4_leftOf_33 ?_
    obtain ⟨t_5, ht_5, et_5⟩ := hW.et hg_4
    rw [show α 1 (tn (M 9 i)) = α 1 t_5 from by rw [et_5, show tn (nI t_5) = t_5 from nI_clamp (by omega)]]
    refine lv_aload_n hx hb dX4_leftOf_36 rfl (lv_at hl 2 rfl) ?_
    refine lv_acmp_ne (rx := (some (α 1 t_5))) (ry := (some (α 1 t))) (tgt := 48) hx hb dX4_leftOf_37 (by decide) (fun c_6 => ?_) (fun c_6 => ?_)
    · have c_6 := mt (hP.tskE ht_5 ht).mpr c_6
      refine lv_iinc (v := (nI (i + 1))) (lv' := [(3, .int (nI (i + 1))), (4, .ref (α 2 i)), (0, .ref h0), (1, .ref (α 1 t)), (2, .int acc)]) hx hb dX4_leftOf_48 hl (k := 3) rfl (nI_1 i) (by decide) rfl (fun ls hl => ?_)
      refine lv_goto (tgt := 7) hx hb dX4_leftOf_51 (by decide) ?_
      exact ih _ ls (by omega) ⟨(lv_sub hl [2, 3, 0, 4] rfl), (by rw [← Int32.sub_zero acc]; exact leftS_f hinv (fun h9 => c_6 (by rw [et_5] at h9; exact (nI_eq (by omega) (by omega)).mp h9)))⟩
    · have c_6 := (hP.tskE ht_5 ht).mp c_6
      refine lv_iload_n hx hb dX4_leftOf_40 rfl (lv_at hl 4 rfl) ?_
      refine lv_aload hx hb dX4_leftOf_41 (lv_at hl 0 rfl) ?_
      refine tk_get hx hb hts inX0 hown hK hM (hP.e hg_4) rfl 3 (by decide) (hts (.fieldLink RX4 300 "TicketForge$Entry" "hours" "I") (by decide +kernel)) (fun _ h9 => h9) rfl dX4_leftOf_43 ?_
      refine lv_isub hx hb dX4_leftOf_46 ?_
      refine lv_istore_n (lv' := [(2, .int (acc - (M 12 i))), (4, .ref (α 2 i)), (0, .ref h0), (1, .ref (α 1 t)), (3, .int (nI i))]) hx hb dX4_leftOf_47 rfl hl (by decide) rfl (fun ls hl => ?_)
      refine lv_iinc (v := (nI (i + 1))) (lv' := [(3, .int (nI (i + 1))), (2, .int (acc - (M 12 i))), (4, .ref (α 2 i)), (0, .ref h0), (1, .ref (α 1 t))]) hx hb dX4_leftOf_48 hl (k := 4) rfl (nI_1 i) (by decide) rfl (fun ls hl => ?_)
      refine lv_goto (tgt := 7) hx hb dX4_leftOf_51 (by decide) ?_
      exact ih _ ls (by omega) ⟨(lv_sub hl [3, 4, 0, 1] rfl), leftS_t hinv (by rw [et_5, c_6])⟩
set_option maxHeartbeats 4000000 in
set_option maxRecDepth 100000 in
theorem c_X4_paceHours (l : Launch) (A : Nat → Prop) (D : va_G) (ac : Nat → ClassId) (dE : Nat) (G : TG) {h0 : Nat} {α : Nat → Nat → Nat} {M : TS} {nv : Nat} (hP : PX ac dE h0 α M nv G) (hW : W0 M) (w : Nat) (hw0 : w < 30) : Met l yX4_paceHours wsX4_paceHours ({ frames := 3, cells := 0, slots := 0, locals := 180 } : Room) (va_Pc [.ref h0, .int (nI w)] (tkX A D ac dE G)) (vp_Si (fun z => z = lately M (nI w))) 0 0 (fun _ => False) := by
  refine Met.ofW (cc := cX4_paceHours) (maxL := 5) (ret := (some .int)) (by decide) rfl ?_
  intro p e s m args below meth c s₁ B hml hv
  obtain ⟨rfl, ⟨hM, hK, hA, hF⟩, hO⟩ := hv
  have hS : va_S A s.heap s.heap [] := va_S.rf
  have hx := B.exec
  have hb := B.bytes
  have hr := B.returns
  have hts := atoms_spec (ws := wsX4_paceHours) B.pre
  have hown : s.vm.findClass RX4 = some m.cls := findClass_of_methodNamed B.named
  have hlocks := B.notSynchronized
  have S0 : CallFix p m c cX4_paceHours 5 s ([.ref h0, .int (nI w)] : List Value).toArray wsX4_paceHours RX4 := ⟨hx, hb, hml, hown, hts⟩
  have inX4 : ∀ w ∈ wsX40, w ∈ wsX4_paceHours := by decide +kernel
  have inX0 : ∀ w ∈ wsX00, w ∈ wsX4_paceHours := by decide +kernel
  have hl := lv_entry ([.ref h0, .int (nI w)]) (n := 5) (Nat.le_of_ble_eq_true rfl)
  rw [lg_entry_eq]
  generalize (lg_sl ([.ref h0, .int (nI w)]) ++ List.replicate (5 - (lg_sl ([.ref h0, .int (nI w)])).length) Slot.unset).toArray = ls at hl ⊢
  have hl : lv_has ls 5 [(0, .ref h0), (1, .int (nI w))] := hl
  have bT := hW.t.2
  have bE := hW.e.2
  have bV := hW.v.2
  refine lv_iconst (v := 0) hx hb dX4_paceHours_0 (by decide) ?_
  refine lv_istore_n (lv' := [(2, .int 0), (0, .ref h0), (1, .int (nI w))]) hx hb dX4_paceHours_1 rfl hl (by decide) rfl (fun ls hl => ?_)
  refine lv_iconst (v := 0) hx hb dX4_paceHours_2 (by decide) ?_
  refine lv_istore_n (lv' := [(3, .int 0), (2, .int 0), (0, .ref h0), (1, .int (nI w))]) hx hb dX4_paceHours_3 rfl hl (by decide) rfl (fun ls hl => ?_)
  refine tk_f1 (Wf := W p l e _ s m _ below meth c _ _ _ _ _) (nE M) (fun i acc ls => lv_has ls 5 [(0, .ref h0), (1, .int (nI w)), (3, .int (nI i)), (2, .int acc)] ∧ acc = sumI (fun k => if tkIn (M 11 k) (nI w - 2) (nI w) = true then M 12 k else 0) i) (fun i acc ls hi hinv ih => ?_) _ ls ⟨(lv_sub hl [2, 3, 0, 1] rfl), rfl⟩
  obtain ⟨hl, hinv⟩ := hinv
  refine lv_iload_n hx hb dX4_paceHours_4 rfl (lv_at hl 2 rfl) ?_
  refine lv_aload_n hx hb dX4_paceHours_5 rfl (lv_at hl 0 rfl) ?_
  refine tk_get hx hb hts inX4 hown hK hM hP.h rfl 1 (by decide) (hts (.fieldLink RX4 16 "TicketForge" "entryList" "Ljava/util/ArrayList;") (by decide +kernel)) (fun _ h9 => h9) rfl dX4_paceHours_6 ?_
  refine tk_cVi (As := []) S0 (c_Jx4a65c_size_8abf5 l A D ac dE _ hP.le) (cwV 0 hts gX4_paceHours_Jx4a65c_size_8abf5 rfl rfl rfl (by decide +kernel) ⟨Nat.le_of_ble_eq_true rfl, Nat.le_of_ble_eq_true rfl⟩) (tkX.blind) (tkX.at hM hK hA hF hO hS) (LX.rec hP.le hK hM) rfl hl.1 rfl (Nat.le_of_ble_eq_true rfl) dX4_paceHours_9 ⟨Nat.zero_le _, Nat.zero_le _⟩ (fun r_1 hr_1 => ?_)
  subst hr_1
  refine lv_icmp_ge (tgt := 62) hx hb dX4_paceHours_12 (by decide) (fun c_2 => ?_) (fun c_2 => ?_)
  · have hge := tk_ge (by omega) (by omega) c_2
    refine lv_iload_n hx hb dX4_paceHours_62 rfl (lv_at hl 3 rfl) ?_
    exact W.iret (v := acc) hx hb hr (fun t9 h9 w9 => ⟨acc, rfl, sumI_e hinv hi hge, h9⟩) (fun q hq => absurd hq List.not_mem_nil) dX4_paceHours_63
  · have hlt := tk_lt (by omega) (by omega) c_2
    obtain ⟨t9, h9, e9⟩ := hW.ew hlt
    refine lv_aload_n hx hb dX4_paceHours_15 rfl (lv_at hl 0 rfl) ?_
    refine tk_get hx hb hts inX4 hown hK hM hP.h rfl 1 (by decide) (hts (.fieldLink RX4 16 "TicketForge" "entryList" "Ljava/util/ArrayList;") (by decide +kernel)) (fun _ h9 => h9) rfl dX4_paceHours_16 ?_
    refine lv_iload_n hx hb dX4_paceHours_19 rfl (lv_at hl 2 rfl) ?_
    have hg_4 : i < nE M := by omega
    refine tk_cVq (As := [.int (nI i)]) S0 (c_Jx4a65c_get_915e3 l A D ac dE _ hP.le i hg_4 (by omega)) (cwV 1 hts gX4_paceHours_Jx4a65c_get_915e3 rfl rfl rfl (by decide +kernel) ⟨Nat.le_of_ble_eq_true rfl, Nat.le_of_ble_eq_true rfl⟩) (tkX.blind) (tkX.at hM hK hA hF hO hS) (LX.rec hP.le hK hM) rfl hl.1 rfl (Nat.le_of_ble_eq_true rfl) dX4_paceHours_20 ⟨Nat.zero_le _, Nat.zero_le _⟩ (fun r_3 hr_3 => ?_)
    subst hr_3
    refine va_castY (C := "TicketForge$Entry") hx hb hown (hts (.classLink RX4 178 "TicketForge$Entry") (by decide +kernel)) (hF.2.2.2 ("TicketForge$Entry", "TicketForge$Entry") (by decide +kernel)) (tk_recv hK hM (hP.e hg_4) rfl (ci := 3) (q := (RX0, TX0, 7))) dX4_paceHours_23 ?_
    refine lv_astore (lv' := [(4, .ref (α 2 i)), (0, .ref h0), (1, .int (nI w)), (3, .int (nI i)), (2, .int acc)]) hx hb dX4_paceHours_26 hl (by decide) rfl (fun ls hl => ?_)
    refine lv_aload hx hb dX4_paceHours_28 (lv_at hl 0 rfl) ?_
    refine tk_get hx hb hts inX0 hown hK hM (hP.e hg_4) rfl 2 (by decide) (hts (.fieldLink RX4 190 "TicketForge$Entry" "week" "I") (by decide +kernel)) (fun _ h9 => h9) rfl dX4_paceHours_30 ?_
    refine lv_iload_n hx hb dX4_paceHours_33 rfl (lv_at hl 2 rfl) ?_
    refine lv_icmp_gt (tgt := 56) hx hb dX4_paceHours_34 (by decide) (fun c_5 => ?_) (fun c_5 => ?_)
    · skip
      refine lv_iinc (v := (nI (i + 1))) (lv' := [(3, .int (nI (i + 1))), (4, .ref (α 2 i)), (0, .ref h0), (1, .int (nI w)), (2, .int acc)]) hx hb dX4_paceHours_56 hl (k := 3) rfl (nI_1 i) (by decide) rfl (fun ls hl => ?_)
      refine lv_goto (tgt := 4) hx hb dX4_paceHours_59 (by decide) ?_
      exact ih _ ls (by omega) ⟨(lv_sub hl [2, 3, 0, 4] rfl), sumI_f hinv (if_neg (by rw [tkIn_f2 (Int32.not_le.mpr c_5)]; decide))⟩
    · skip
      refine lv_aload hx hb dX4_paceHours_37 (lv_at hl 0 rfl) ?_
      refine tk_get hx hb hts inX0 hown hK hM (hP.e hg_4) rfl 2 (by decide) (hts (.fieldLink RX4 190 "TicketForge$Entry" "week" "I") (by decide +kernel)) (fun _ h9 => h9) rfl dX4_paceHours_39 ?_
      refine lv_iload_n hx hb dX4_paceHours_42 rfl (lv_at hl 2 rfl) ?_
      refine lv_iconst (v := 3) hx hb dX4_paceHours_43 (by decide) ?_
      refine lv_isub hx hb dX4_paceHours_44 ?_
      refine lv_icmp_le (tgt := 56) hx hb dX4_paceHours_45 (by decide) (fun c_6 => ?_) (fun c_6 => ?_)
      · skip
        refine lv_iinc (v := (nI (i + 1))) (lv' := [(3, .int (nI (i + 1))), (4, .ref (α 2 i)), (0, .ref h0), (1, .int (nI w)), (2, .int acc)]) hx hb dX4_paceHours_56 hl (k := 3) rfl (nI_1 i) (by decide) rfl (fun ls hl => ?_)
        refine lv_goto (tgt := 4) hx hb dX4_paceHours_59 (by decide) ?_
        exact ih _ ls (by omega) ⟨(lv_sub hl [2, 3, 0, 4] rfl), sumI_f hinv (if_neg (by rw [e9] at c_6 ⊢; rw [late_f hw0 h9 c_6]; decide))⟩
      · skip
        refine lv_iload_n hx hb dX4_paceHours_48 rfl (lv_at hl 4 rfl) ?_
        refine lv_aload hx hb dX4_paceHours_49 (lv_at hl 0 rfl) ?_
        refine tk_get hx hb hts inX0 hown hK hM (hP.e hg_4) rfl 3 (by decide) (hts (.fieldLink RX4 300 "TicketForge$Entry" "hours" "I") (by decide +kernel)) (fun _ h9 => h9) rfl dX4_paceHours_51 ?_
        refine lv_iadd hx hb dX4_paceHours_54 ?_
        refine lv_istore_n (lv' := [(2, .int (acc + (M 12 i))), (4, .ref (α 2 i)), (0, .ref h0), (1, .int (nI w)), (3, .int (nI i))]) hx hb dX4_paceHours_55 rfl hl (by decide) rfl (fun ls hl => ?_)
        refine lv_iinc (v := (nI (i + 1))) (lv' := [(3, .int (nI (i + 1))), (2, .int (acc + (M 12 i))), (4, .ref (α 2 i)), (0, .ref h0), (1, .int (nI w))]) hx hb dX4_paceHours_56 hl (k := 4) rfl (nI_1 i) (by decide) rfl (fun ls hl => ?_)
        refine lv_goto (tgt := 4) hx hb dX4_paceHours_59 (by decide) ?_
        exact ih _ ls (by omega) ⟨(lv_sub hl [3, 4, 0, 1] rfl), sumI_t hinv (if_pos (by rw [e9] at c_5 c_6 ⊢; exact late_t hw0 h9 (Int32.not_lt.mp c_5) c_6))⟩
set_option maxHeartbeats 4000000 in
set_option maxRecDepth 100000 in
theorem c_X4_isLocked (l : Launch) (A : Nat → Prop) (D : va_G) (ac : Nat → ClassId) (dE : Nat) (G : TG) {h0 : Nat} {α : Nat → Nat → Nat} {M : TS} {nv : Nat} (hP : PX ac dE h0 α M nv G) (w : Nat) : Met l yX4_isLocked wsX4_isLocked ({ frames := 0, cells := 0, slots := 0, locals := 60 } : Room) (va_Pc [.ref h0, .int (nI w)] (tkX A D ac dE G)) (vp_Si (fun z => tkB z (lkB M w))) 0 0 (fun _ => False) := by
  refine Met.ofW (cc := cX4_isLocked) (maxL := 2) (ret := (some .boolean)) (by decide) rfl ?_
  intro p e s m args below meth c s₁ B hml hv
  obtain ⟨rfl, ⟨hM, hK, hA, hF⟩, hO⟩ := hv
  have hS : va_S A s.heap s.heap [] := va_S.rf
  have hx := B.exec
  have hb := B.bytes
  have hr := B.returns
  have hts := atoms_spec (ws := wsX4_isLocked) B.pre
  have hown : s.vm.findClass RX4 = some m.cls := findClass_of_methodNamed B.named
  have hlocks := B.notSynchronized
  have S0 : CallFix p m c cX4_isLocked 2 s ([.ref h0, .int (nI w)] : List Value).toArray wsX4_isLocked RX4 := ⟨hx, hb, hml, hown, hts⟩
  have inX4 : ∀ w ∈ wsX40, w ∈ wsX4_isLocked := by decide +kernel
  have hl := lv_entry ([.ref h0, .int (nI w)]) (n := 2) (Nat.le_of_ble_eq_true rfl)
  rw [lg_entry_eq]
  generalize (lg_sl ([.ref h0, .int (nI w)]) ++ List.replicate (2 - (lg_sl ([.ref h0, .int (nI w)])).length) Slot.unset).toArray = ls at hl ⊢
  have hl : lv_has ls 2 [(0, .ref h0), (1, .int (nI w))] := hl
  refine lv_aload_n hx hb dX4_isLocked_0 rfl (lv_at hl 0 rfl) ?_
  refine tk_get hx hb hts inX4 hown hK hM hP.h rfl 6 (by decide) (hts (.fieldLink RX4 44 "TicketForge" "lockedWeeks" "I") (by decide +kernel)) (fun _ h9 => h9) rfl dX4_isLocked_1 ?_
  refine lv_iconst (v := 1) hx hb dX4_isLocked_4 (by decide) ?_
  refine lv_iload_n hx hb dX4_isLocked_5 rfl (lv_at hl 1 rfl) ?_
  refine lv_ishl hx hb dX4_isLocked_6 ?_
  refine lv_iand hx hb dX4_isLocked_7 ?_
  refine lv_if_eq (tgt := 15) hx hb dX4_isLocked_8 (by decide) (fun c_1 => ?_) (fun c_1 => ?_)
  · skip
    refine lv_iconst (v := 0) hx hb dX4_isLocked_15 (by decide) ?_
    exact W.zret (v := 0) hx hb hr rfl (fun t9 h9 w9 => ⟨0, rfl, (tkB_0 (by rw [lkB, bitOf]; simp [c_1])), h9⟩) (fun q hq => absurd hq List.not_mem_nil) dX4_isLocked_16
  · skip
    refine lv_iconst (v := 1) hx hb dX4_isLocked_11 (by decide) ?_
    refine lv_goto (tgt := 16) hx hb dX4_isLocked_12 (by decide) ?_
    exact W.zret (v := 1) hx hb hr rfl (fun t9 h9 w9 => ⟨1, rfl, (tkB_1 (by rw [lkB, bitOf]; simp [c_1])), h9⟩) (fun q hq => absurd hq List.not_mem_nil) dX4_isLocked_16
set_option maxHeartbeats 4000000 in
set_option maxRecDepth 100000 in
theorem c_X4_approvedHours (l : Launch) (A : Nat → Prop) (D : va_G) (ac : Nat → ClassId) (dE : Nat) (G : TG) {h0 : Nat} {α : Nat → Nat → Nat} {M : TS} {nv : Nat} (hP : PX ac dE h0 α M nv G) (hW : W0 M) (x : Int32) : Met l yX4_approvedHours wsX4_approvedHours ({ frames := 3, cells := 0, slots := 0, locals := 180 } : Room) (va_Pc [.ref h0, .int x] (tkX A D ac dE G)) (vp_Si (fun z => z = apS M x)) 0 0 (fun _ => False) := by
  refine Met.ofW (cc := cX4_approvedHours) (maxL := 5) (ret := (some .int)) (by decide) rfl ?_
  intro p e s m args below meth c s₁ B hml hv
  obtain ⟨rfl, ⟨hM, hK, hA, hF⟩, hO⟩ := hv
  have hS : va_S A s.heap s.heap [] := va_S.rf
  have hx := B.exec
  have hb := B.bytes
  have hr := B.returns
  have hts := atoms_spec (ws := wsX4_approvedHours) B.pre
  have hown : s.vm.findClass RX4 = some m.cls := findClass_of_methodNamed B.named
  have hlocks := B.notSynchronized
  have S0 : CallFix p m c cX4_approvedHours 5 s ([.ref h0, .int x] : List Value).toArray wsX4_approvedHours RX4 := ⟨hx, hb, hml, hown, hts⟩
  have inX4 : ∀ w ∈ wsX40, w ∈ wsX4_approvedHours := by decide +kernel
  have inX0 : ∀ w ∈ wsX00, w ∈ wsX4_approvedHours := by decide +kernel
  have hl := lv_entry ([.ref h0, .int x]) (n := 5) (Nat.le_of_ble_eq_true rfl)
  rw [lg_entry_eq]
  generalize (lg_sl ([.ref h0, .int x]) ++ List.replicate (5 - (lg_sl ([.ref h0, .int x])).length) Slot.unset).toArray = ls at hl ⊢
  have hl : lv_has ls 5 [(0, .ref h0), (1, .int x)] := hl
  have bT := hW.t.2
  have bE := hW.e.2
  have bV := hW.v.2
  refine lv_iconst (v := 0) hx hb dX4_approvedHours_0 (by decide) ?_
  refine lv_istore_n (lv' := [(2, .int 0), (0, .ref h0), (1, .int x)]) hx hb dX4_approvedHours_1 rfl hl (by decide) rfl (fun ls hl => ?_)
  refine lv_iconst (v := 0) hx hb dX4_approvedHours_2 (by decide) ?_
  refine lv_istore_n (lv' := [(3, .int 0), (2, .int 0), (0, .ref h0), (1, .int x)]) hx hb dX4_approvedHours_3 rfl hl (by decide) rfl (fun ls hl => ?_)
  refine tk_f1 (Wf := W p l e _ s m _ below meth c _ _ _ _ _) (nE M) (fun i acc ls => lv_has ls 5 [(0, .ref h0), (1, .int x), (3, .int (nI i)), (2, .int acc)] ∧ acc = sumI (fun k => if M 11 k = x ∧ M 5 k = 97 then M 12 k else 0) i) (fun i acc ls hi hinv ih => ?_) _ ls ⟨(lv_sub hl [2, 3, 0, 1] rfl), rfl⟩
  obtain ⟨hl, hinv⟩ := hinv
  refine lv_iload_n hx hb dX4_approvedHours_4 rfl (lv_at hl 2 rfl) ?_
  refine lv_aload_n hx hb dX4_approvedHours_5 rfl (lv_at hl 0 rfl) ?_
  refine tk_get hx hb hts inX4 hown hK hM hP.h rfl 1 (by decide) (hts (.fieldLink RX4 16 "TicketForge" "entryList" "Ljava/util/ArrayList;") (by decide +kernel)) (fun _ h9 => h9) rfl dX4_approvedHours_6 ?_
  refine tk_cVi (As := []) S0 (c_Jx4a65c_size_8abf5 l A D ac dE _ hP.le) (cwV 0 hts gX4_approvedHours_Jx4a65c_size_8abf5 rfl rfl rfl (by decide +kernel) ⟨Nat.le_of_ble_eq_true rfl, Nat.le_of_ble_eq_true rfl⟩) (tkX.blind) (tkX.at hM hK hA hF hO hS) (LX.rec hP.le hK hM) rfl hl.1 rfl (Nat.le_of_ble_eq_true rfl) dX4_approvedHours_9 ⟨Nat.zero_le _, Nat.zero_le _⟩ (fun r_1 hr_1 => ?_)
  subst hr_1
  refine lv_icmp_ge (tgt := 61) hx hb dX4_approvedHours_12 (by decide) (fun c_2 => ?_) (fun c_2 => ?_)
  · have hge := tk_ge (by omega) (by omega) c_2
    refine lv_iload_n hx hb dX4_approvedHours_61 rfl (lv_at hl 3 rfl) ?_
    exact W.iret (v := acc) hx hb hr (fun t9 h9 w9 => ⟨acc, rfl, sumI_e hinv hi hge, h9⟩) (fun q hq => absurd hq List.not_mem_nil) dX4_approvedHours_62
  · have hlt := tk_lt (by omega) (by omega) c_2
    refine lv_aload_n hx hb dX4_approvedHours_15 rfl (lv_at hl 0 rfl) ?_
    refine tk_get hx hb hts inX4 hown hK hM hP.h rfl 1 (by decide) (hts (.fieldLink RX4 16 "TicketForge" "entryList" "Ljava/util/ArrayList;") (by decide +kernel)) (fun _ h9 => h9) rfl dX4_approvedHours_16 ?_
    refine lv_iload_n hx hb dX4_approvedHours_19 rfl (lv_at hl 2 rfl) ?_
    have hg_4 : i < nE M := by omega
    refine tk_cVq (As := [.int (nI i)]) S0 (c_Jx4a65c_get_915e3 l A D ac dE _ hP.le i hg_4 (by omega)) (cwV 1 hts gX4_approvedHours_Jx4a65c_get_915e3 rfl rfl rfl (by decide +kernel) ⟨Nat.le_of_ble_eq_true rfl, Nat.le_of_ble_eq_true rfl⟩) (tkX.blind) (tkX.at hM hK hA hF hO hS) (LX.rec hP.le hK hM) rfl hl.1 rfl (Nat.le_of_ble_eq_true rfl) dX4_approvedHours_20 ⟨Nat.zero_le _, Nat.zero_le _⟩ (fun r_3 hr_3 => ?_)
    subst hr_3
    refine va_castY (C := "TicketForge$Entry") hx hb hown (hts (.classLink RX4 178 "TicketForge$Entry") (by decide +kernel)) (hF.2.2.2 ("TicketForge$Entry", "TicketForge$Entry") (by decide +kernel)) (tk_recv hK hM (hP.e hg_4) rfl (ci := 3) (q := (RX0, TX0, 7))) dX4_approvedHours_23 ?_
    refine lv_astore (lv' := [(4, .ref (α 2 i)), (0, .ref h0), (1, .int x), (3, .int (nI i)), (2, .int acc)]) hx hb dX4_approvedHours_26 hl (by decide) rfl (fun ls hl => ?_)
    refine lv_aload hx hb dX4_approvedHours_28 (lv_at hl 0 rfl) ?_
    refine tk_get hx hb hts inX0 hown hK hM (hP.e hg_4) rfl 2 (by decide) (hts (.fieldLink RX4 190 "TicketForge$Entry" "week" "I") (by decide +kernel)) (fun _ h9 => h9) rfl dX4_approvedHours_30 ?_
    refine lv_iload_n hx hb dX4_approvedHours_33 rfl (lv_at hl 2 rfl) ?_
    refine lv_icmp_ne (tgt := 55) hx hb dX4_approvedHours_34 (by decide) (fun c_5 => ?_) (fun c_5 => ?_)
    · skip
      refine lv_iinc (v := (nI (i + 1))) (lv' := [(3, .int (nI (i + 1))), (4, .ref (α 2 i)), (0, .ref h0), (1, .int x), (2, .int acc)]) hx hb dX4_approvedHours_55 hl (k := 3) rfl (nI_1 i) (by decide) rfl (fun ls hl => ?_)
      refine lv_goto (tgt := 4) hx hb dX4_approvedHours_58 (by decide) ?_
      exact ih _ ls (by omega) ⟨(lv_sub hl [2, 3, 0, 4] rfl), sumI_f hinv (if_neg (fun h9 => c_5 h9.1))⟩
    · skip
      refine lv_aload hx hb dX4_approvedHours_37 (lv_at hl 0 rfl) ?_
      refine tk_get hx hb hts inX0 hown hK hM (hP.e hg_4) rfl 4 (by decide) (hts (.fieldLink RX4 187 "TicketForge$Entry" "state" "C") (by decide +kernel)) (fun _ h9 => h9) rfl dX4_approvedHours_39 ?_
      refine lv_bipush (v := 97) hx hb dX4_approvedHours_42 (by decide) ?_
      refine lv_icmp_ne (tgt := 55) hx hb dX4_approvedHours_44 (by decide) (fun c_6 => ?_) (fun c_6 => ?_)
      · skip
        refine lv_iinc (v := (nI (i + 1))) (lv' := [(3, .int (nI (i + 1))), (4, .ref (α 2 i)), (0, .ref h0), (1, .int x), (2, .int acc)]) hx hb dX4_approvedHours_55 hl (k := 3) rfl (nI_1 i) (by decide) rfl (fun ls hl => ?_)
        refine lv_goto (tgt := 4) hx hb dX4_approvedHours_58 (by decide) ?_
        exact ih _ ls (by omega) ⟨(lv_sub hl [2, 3, 0, 4] rfl), sumI_f hinv (if_neg (fun h9 => c_6 h9.2))⟩
      · skip
        refine lv_iload_n hx hb dX4_approvedHours_47 rfl (lv_at hl 4 rfl) ?_
        refine lv_aload hx hb dX4_approvedHours_48 (lv_at hl 0 rfl) ?_
        refine tk_get hx hb hts inX0 hown hK hM (hP.e hg_4) rfl 3 (by decide) (hts (.fieldLink RX4 300 "TicketForge$Entry" "hours" "I") (by decide +kernel)) (fun _ h9 => h9) rfl dX4_approvedHours_50 ?_
        refine lv_iadd hx hb dX4_approvedHours_53 ?_
        refine lv_istore_n (lv' := [(2, .int (acc + (M 12 i))), (4, .ref (α 2 i)), (0, .ref h0), (1, .int x), (3, .int (nI i))]) hx hb dX4_approvedHours_54 rfl hl (by decide) rfl (fun ls hl => ?_)
        refine lv_iinc (v := (nI (i + 1))) (lv' := [(3, .int (nI (i + 1))), (2, .int (acc + (M 12 i))), (4, .ref (α 2 i)), (0, .ref h0), (1, .int x)]) hx hb dX4_approvedHours_55 hl (k := 4) rfl (nI_1 i) (by decide) rfl (fun ls hl => ?_)
        refine lv_goto (tgt := 4) hx hb dX4_approvedHours_58 (by decide) ?_
        exact ih _ ls (by omega) ⟨(lv_sub hl [3, 4, 0, 1] rfl), sumI_t hinv (if_pos ⟨c_5, c_6⟩)⟩
set_option maxHeartbeats 4000000 in
set_option maxRecDepth 100000 in
theorem c_X4_isToInvoice (l : Launch) (A : Nat → Prop) (D : va_G) (ac : Nat → ClassId) (dE : Nat) (G : TG) {h0 : Nat} {α : Nat → Nat → Nat} {M : TS} {nv : Nat} (hP : PX ac dE h0 α M nv G) (hW : W0 M) (k r : Nat) (w : Int32) (hk : k < nE M) (hr0 : r < nT M) : Met l yX4_isToInvoice wsX4_isToInvoice ({ frames := 1, cells := 0, slots := 0, locals := 100 } : Room) (va_Pc [.ref (α 2 k), .ref (α 1 r), .int w] (tkX A D ac dE G)) (vp_Si (fun z => tkB z (lookedAt M r w k))) 0 0 (fun _ => False) := by
  refine Met.ofW (cc := cX4_isToInvoice) (maxL := 3) (ret := (some .boolean)) (by decide) rfl ?_
  intro p e s m args below meth c s₁ B hml hv
  obtain ⟨rfl, ⟨hM, hK, hA, hF⟩, hO⟩ := hv
  have hS : va_S A s.heap s.heap [] := va_S.rf
  have hx := B.exec
  have hb := B.bytes
  have hr := B.returns
  have hts := atoms_spec (ws := wsX4_isToInvoice) B.pre
  have hown : s.vm.findClass RX4 = some m.cls := findClass_of_methodNamed B.named
  have hlocks := B.notSynchronized
  have S0 : CallFix p m c cX4_isToInvoice 3 s ([.ref (α 2 k), .ref (α 1 r), .int w] : List Value).toArray wsX4_isToInvoice RX4 := ⟨hx, hb, hml, hown, hts⟩
  have inX0 : ∀ w ∈ wsX00, w ∈ wsX4_isToInvoice := by decide +kernel
  have inX3 : ∀ w ∈ wsX30, w ∈ wsX4_isToInvoice := by decide +kernel
  have hl := lv_entry ([.ref (α 2 k), .ref (α 1 r), .int w]) (n := 3) (Nat.le_of_ble_eq_true rfl)
  rw [lg_entry_eq]
  generalize (lg_sl ([.ref (α 2 k), .ref (α 1 r), .int w]) ++ List.replicate (3 - (lg_sl ([.ref (α 2 k), .ref (α 1 r), .int w])).length) Slot.unset).toArray = ls at hl ⊢
  have hl : lv_has ls 3 [(0, .ref (α 2 k)), (1, .ref (α 1 r)), (2, .int w)] := hl
  have bT := hW.t.2
  have bE := hW.e.2
  have bV := hW.v.2
  refine lv_aload_n hx hb dX4_isToInvoice_0 rfl (lv_at hl 0 rfl) ?_
  refine tk_get hx hb hts inX0 hown hK hM (hP.e hk) rfl 4 (by decide) (hts (.fieldLink RX4 187 "TicketForge$Entry" "state" "C") (by decide +kernel)) (fun _ h9 => h9) rfl dX4_isToInvoice_1 ?_
  refine lv_bipush (v := 97) hx hb dX4_isToInvoice_4 (by decide) ?_
  refine lv_icmp_ne (tgt := 44) hx hb dX4_isToInvoice_6 (by decide) (fun c_1 => ?_) (fun c_1 => ?_)
  · skip
    refine lv_iconst (v := 0) hx hb dX4_isToInvoice_44 (by decide) ?_
    exact W.zret (v := 0) hx hb hr rfl (fun t9 h9 w9 => ⟨0, rfl, (tkB_0 (by rw [lookedAt]; simp [c_1])), h9⟩) (fun q hq => absurd hq List.not_mem_nil) dX4_isToInvoice_45
  · skip
    refine lv_aload_n hx hb dX4_isToInvoice_9 rfl (lv_at hl 0 rfl) ?_
    refine tk_get hx hb hts inX0 hown hK hM (hP.e hk) rfl 2 (by decide) (hts (.fieldLink RX4 190 "TicketForge$Entry" "week" "I") (by decide +kernel)) (fun _ h9 => h9) rfl dX4_isToInvoice_10 ?_
    refine lv_iload_n hx hb dX4_isToInvoice_13 rfl (lv_at hl 2 rfl) ?_
    refine lv_icmp_gt (tgt := 44) hx hb dX4_isToInvoice_14 (by decide) (fun c_2 => ?_) (fun c_2 => ?_)
    · skip
      refine lv_iconst (v := 0) hx hb dX4_isToInvoice_44 (by decide) ?_
      exact W.zret (v := 0) hx hb hr rfl (fun t9 h9 w9 => ⟨0, rfl, (tkB_0 (by rw [lookedAt]; simp [Int32.not_le.mpr c_2])), h9⟩) (fun q hq => absurd hq List.not_mem_nil) dX4_isToInvoice_45
    · skip
      refine lv_aload_n hx hb dX4_isToInvoice_17 rfl (lv_at hl 0 rfl) ?_
      refine tk_get hx hb hts inX0 hown hK hM (hP.e hk) rfl 0 (by decide) (hts (.fieldLink RX4 329 "TicketForge$Entry" "task" "LTicketForge$Task;") (by decide +kernel)) (fun _ h9 => h9) rfl dX4_isToInvoice_18 ?_
      obtain ⟨t_3, ht_3, et_3⟩ := hW.et hk
      rw [show α 1 (tn (M 9 k)) = α 1 t_3 from by rw [et_3, show tn (nI t_3) = t_3 from nI_clamp (by omega)]]
      refine tk_get hx hb hts inX3 hown hK hM (hP.t ht_3) rfl 4 (by decide) (hts (.fieldLink RX4 71 "TicketForge$Task" "state" "C") (by decide +kernel)) (fun _ h9 => h9) rfl dX4_isToInvoice_21 ?_
      refine lv_bipush (v := 100) hx hb dX4_isToInvoice_24 (by decide) ?_
      refine lv_icmp_ne (tgt := 44) hx hb dX4_isToInvoice_26 (by decide) (fun c_4 => ?_) (fun c_4 => ?_)
      · skip
        refine lv_iconst (v := 0) hx hb dX4_isToInvoice_44 (by decide) ?_
        exact W.zret (v := 0) hx hb hr rfl (fun t9 h9 w9 => ⟨0, rfl, (tkB_0 (by rw [lookedAt]; simp only [et_3, nI_clamp (show t_3 < 2 ^ 31 by omega)]; simp [c_4])), h9⟩) (fun q hq => absurd hq List.not_mem_nil) dX4_isToInvoice_45
      · skip
        refine lv_aload_n hx hb dX4_isToInvoice_29 rfl (lv_at hl 0 rfl) ?_
        refine tk_get hx hb hts inX0 hown hK hM (hP.e hk) rfl 0 (by decide) (hts (.fieldLink RX4 329 "TicketForge$Entry" "task" "LTicketForge$Task;") (by decide +kernel)) (fun _ h9 => h9) rfl dX4_isToInvoice_30 ?_
        rw [show α 1 (tn (M 9 k)) = α 1 t_3 from by rw [et_3, show tn (nI t_3) = t_3 from nI_clamp (by omega)]]
        refine lv_aload_n hx hb dX4_isToInvoice_33 rfl (lv_at hl 1 rfl) ?_
        refine tk_cVi (As := [.ref (α 1 r)]) S0 (c_X3_isInTreeOf l A D ac dE _ hP hW t_3 r ht_3 hr0) (cwV 1 hts gX4_isToInvoice_X3_isInTreeOf rfl rfl rfl (by decide +kernel) ⟨Nat.le_of_ble_eq_true rfl, Nat.le_of_ble_eq_true rfl⟩) (tkX.blind) (tkX.at hM hK hA hF hO hS) (tk_recv hK hM (hP.t ht_3) rfl) rfl hl.1 rfl (Nat.le_of_ble_eq_true rfl) dX4_isToInvoice_34 ⟨Nat.zero_le _, Nat.zero_le _⟩ (fun r_5 hr_5 => ?_)
        rcases hr_5 with ⟨rfl, hr_5⟩ | ⟨rfl, hr_5⟩
        · skip
          refine lv_if_eq (tgt := 44) hx hb dX4_isToInvoice_37 (by decide) (fun c_6 => absurd c_6 (by decide)) (fun c_6 => ?_)
          refine lv_iconst (v := 1) hx hb dX4_isToInvoice_40 (by decide) ?_
          refine lv_goto (tgt := 45) hx hb dX4_isToInvoice_41 (by decide) ?_
          exact W.zret (v := 1) hx hb hr rfl (fun t9 h9 w9 => ⟨1, rfl, (tkB_1 (by rw [lookedAt]; simp only [et_3, nI_clamp (show t_3 < 2 ^ 31 by omega)]; simp [c_1, hr_5, c_4, Int32.not_lt.mp c_2])), h9⟩) (fun q hq => absurd hq List.not_mem_nil) dX4_isToInvoice_45
        · skip
          refine lv_if_eq (tgt := 44) hx hb dX4_isToInvoice_37 (by decide) (fun c_7 => ?_) (fun c_7 => absurd (by decide) c_7)
          refine lv_iconst (v := 0) hx hb dX4_isToInvoice_44 (by decide) ?_
          exact W.zret (v := 0) hx hb hr rfl (fun t9 h9 w9 => ⟨0, rfl, (tkB_0 (by rw [lookedAt]; simp only [et_3, nI_clamp (show t_3 < 2 ^ 31 by omega)]; simp [hr_5])), h9⟩) (fun q hq => absurd hq List.not_mem_nil) dX4_isToInvoice_45
set_option maxHeartbeats 4000000 in
set_option maxRecDepth 100000 in
theorem c_X4_hasEntryToInvoice (l : Launch) (A : Nat → Prop) (D : va_G) (ac : Nat → ClassId) (dE : Nat) (G : TG) {h0 : Nat} {α : Nat → Nat → Nat} {M : TS} {nv : Nat} (hP : PX ac dE h0 α M nv G) (hW : W0 M) (r : Nat) (w : Int32) (hr0 : r < nT M) : Met l yX4_hasEntryToInvoice wsX4_hasEntryToInvoice ({ frames := 3, cells := 0, slots := 0, locals := 180 } : Room) (va_Pc [.ref h0, .ref (α 1 r), .int w] (tkX A D ac dE G)) (vp_Si (fun z => tkB z (anyB (lookedAt M r w) (nE M)))) 0 0 (fun _ => False) := by
  refine Met.ofW (cc := cX4_hasEntryToInvoice) (maxL := 4) (ret := (some .boolean)) (by decide) rfl ?_
  intro p e s m args below meth c s₁ B hml hv
  obtain ⟨rfl, ⟨hM, hK, hA, hF⟩, hO⟩ := hv
  have hS : va_S A s.heap s.heap [] := va_S.rf
  have hx := B.exec
  have hb := B.bytes
  have hr := B.returns
  have hts := atoms_spec (ws := wsX4_hasEntryToInvoice) B.pre
  have hown : s.vm.findClass RX4 = some m.cls := findClass_of_methodNamed B.named
  have hlocks := B.notSynchronized
  have S0 : CallFix p m c cX4_hasEntryToInvoice 4 s ([.ref h0, .ref (α 1 r), .int w] : List Value).toArray wsX4_hasEntryToInvoice RX4 := ⟨hx, hb, hml, hown, hts⟩
  have inX4 : ∀ w ∈ wsX40, w ∈ wsX4_hasEntryToInvoice := by decide +kernel
  have hl := lv_entry ([.ref h0, .ref (α 1 r), .int w]) (n := 4) (Nat.le_of_ble_eq_true rfl)
  rw [lg_entry_eq]
  generalize (lg_sl ([.ref h0, .ref (α 1 r), .int w]) ++ List.replicate (4 - (lg_sl ([.ref h0, .ref (α 1 r), .int w])).length) Slot.unset).toArray = ls at hl ⊢
  have hl : lv_has ls 4 [(0, .ref h0), (1, .ref (α 1 r)), (2, .int w)] := hl
  have bT := hW.t.2
  have bE := hW.e.2
  have bV := hW.v.2
  refine lv_iconst (v := 0) hx hb dX4_hasEntryToInvoice_0 (by decide) ?_
  refine lv_istore_n (lv' := [(3, .int 0), (0, .ref h0), (1, .ref (α 1 r)), (2, .int w)]) hx hb dX4_hasEntryToInvoice_1 rfl hl (by decide) rfl (fun ls hl => ?_)
  refine tk_f0 (Wf := W p l e _ s m _ below meth c _ _ _ _ _) (nE M) (fun i ls => lv_has ls 4 [(0, .ref h0), (1, .ref (α 1 r)), (2, .int w), (3, .int (nI i))] ∧ anyB (lookedAt M r w) i = false) (fun i ls hi hinv ih => ?_)  ls ⟨(lv_sub hl [1, 2, 3, 0] rfl), rfl⟩
  obtain ⟨hl, hinv⟩ := hinv
  refine lv_iload_n hx hb dX4_hasEntryToInvoice_2 rfl (lv_at hl 3 rfl) ?_
  refine lv_aload_n hx hb dX4_hasEntryToInvoice_3 rfl (lv_at hl 0 rfl) ?_
  refine tk_get hx hb hts inX4 hown hK hM hP.h rfl 1 (by decide) (hts (.fieldLink RX4 16 "TicketForge" "entryList" "Ljava/util/ArrayList;") (by decide +kernel)) (fun _ h9 => h9) rfl dX4_hasEntryToInvoice_4 ?_
  refine tk_cVi (As := []) S0 (c_Jx4a65c_size_8abf5 l A D ac dE _ hP.le) (cwV 0 hts gX4_hasEntryToInvoice_Jx4a65c_size_8abf5 rfl rfl rfl (by decide +kernel) ⟨Nat.le_of_ble_eq_true rfl, Nat.le_of_ble_eq_true rfl⟩) (tkX.blind) (tkX.at hM hK hA hF hO hS) (LX.rec hP.le hK hM) rfl hl.1 rfl (Nat.le_of_ble_eq_true rfl) dX4_hasEntryToInvoice_7 ⟨Nat.zero_le _, Nat.zero_le _⟩ (fun r_1 hr_1 => ?_)
  subst hr_1
  refine lv_icmp_ge (tgt := 40) hx hb dX4_hasEntryToInvoice_10 (by decide) (fun c_2 => ?_) (fun c_2 => ?_)
  · have hge := tk_ge (by omega) (by omega) c_2
    refine lv_iconst (v := 0) hx hb dX4_hasEntryToInvoice_40 (by decide) ?_
    exact W.zret (v := 0) hx hb hr rfl (fun t9 h9 w9 => ⟨0, rfl, (tkB_0 (anyB_e hinv hi hge)), h9⟩) (fun q hq => absurd hq List.not_mem_nil) dX4_hasEntryToInvoice_41
  · have hlt := tk_lt (by omega) (by omega) c_2
    refine lv_aload_n hx hb dX4_hasEntryToInvoice_13 rfl (lv_at hl 0 rfl) ?_
    refine tk_get hx hb hts inX4 hown hK hM hP.h rfl 1 (by decide) (hts (.fieldLink RX4 16 "TicketForge" "entryList" "Ljava/util/ArrayList;") (by decide +kernel)) (fun _ h9 => h9) rfl dX4_hasEntryToInvoice_14 ?_
    refine lv_iload_n hx hb dX4_hasEntryToInvoice_17 rfl (lv_at hl 3 rfl) ?_
    have hg_4 : i < nE M := by omega
    refine tk_cVq (As := [.int (nI i)]) S0 (c_Jx4a65c_get_915e3 l A D ac dE _ hP.le i hg_4 (by omega)) (cwV 1 hts gX4_hasEntryToInvoice_Jx4a65c_get_915e3 rfl rfl rfl (by decide +kernel) ⟨Nat.le_of_ble_eq_true rfl, Nat.le_of_ble_eq_true rfl⟩) (tkX.blind) (tkX.at hM hK hA hF hO hS) (LX.rec hP.le hK hM) rfl hl.1 rfl (Nat.le_of_ble_eq_true rfl) dX4_hasEntryToInvoice_18 ⟨Nat.zero_le _, Nat.zero_le _⟩ (fun r_3 hr_3 => ?_)
    subst hr_3
    refine va_castY (C := "TicketForge$Entry") hx hb hown (hts (.classLink RX4 178 "TicketForge$Entry") (by decide +kernel)) (hF.2.2.2 ("TicketForge$Entry", "TicketForge$Entry") (by decide +kernel)) (tk_recv hK hM (hP.e hg_4) rfl (ci := 3) (q := (RX0, TX0, 7))) dX4_hasEntryToInvoice_21 ?_
    refine lv_aload_n hx hb dX4_hasEntryToInvoice_24 rfl (lv_at hl 1 rfl) ?_
    refine lv_iload_n hx hb dX4_hasEntryToInvoice_25 rfl (lv_at hl 2 rfl) ?_
    refine tk_cSi (As := [.ref (α 2 i), .ref (α 1 r), .int w]) S0 (c_X4_isToInvoice l A D ac dE _ hP hW i r w hg_4 hr0) (va_cwS 3 hts gX4_hasEntryToInvoice_X4_isToInvoice rfl rfl rfl (by decide +kernel) ⟨Nat.le_of_ble_eq_true rfl, Nat.le_of_ble_eq_true rfl⟩) (tkX.blind) (tkX.at hM hK hA hF hO hS) rfl hl.1 rfl (Nat.le_of_ble_eq_true rfl) dX4_hasEntryToInvoice_26 ⟨Nat.zero_le _, Nat.zero_le _⟩ (fun r_5 hr_5 => ?_)
    rcases hr_5 with ⟨rfl, hr_5⟩ | ⟨rfl, hr_5⟩
    · skip
      refine lv_if_eq (tgt := 34) hx hb dX4_hasEntryToInvoice_29 (by decide) (fun c_6 => absurd c_6 (by decide)) (fun c_6 => ?_)
      refine lv_iconst (v := 1) hx hb dX4_hasEntryToInvoice_32 (by decide) ?_
      exact W.zret (v := 1) hx hb hr rfl (fun t9 h9 w9 => ⟨1, rfl, (tkB_1 (anyB_t (i := i) hr_5 hlt)), h9⟩) (fun q hq => absurd hq List.not_mem_nil) dX4_hasEntryToInvoice_33
    · skip
      refine lv_if_eq (tgt := 34) hx hb dX4_hasEntryToInvoice_29 (by decide) (fun c_7 => ?_) (fun c_7 => absurd (by decide) c_7)
      refine lv_iinc (v := (nI (i + 1))) (lv' := [(3, .int (nI (i + 1))), (0, .ref h0), (1, .ref (α 1 r)), (2, .int w)]) hx hb dX4_hasEntryToInvoice_34 hl (k := 3) rfl (nI_1 i) (by decide) rfl (fun ls hl => ?_)
      refine lv_goto (tgt := 2) hx hb dX4_hasEntryToInvoice_37 (by decide) ?_
      exact ih  ls (by omega) ⟨(lv_sub hl [1, 2, 3, 0] rfl), anyB_f hinv hr_5⟩
set_option maxHeartbeats 4000000 in
set_option maxRecDepth 100000 in
theorem c_X4_chargedHours (l : Launch) (A : Nat → Prop) (D : va_G) (ac : Nat → ClassId) (dE : Nat) (G : TG) {h0 : Nat} {α : Nat → Nat → Nat} {M : TS} {nv : Nat} (hP : PX ac dE h0 α M nv G) (hW : W0 M) (hB : WB M nv) (p0 w0 : Int32) : Met l yX4_chargedHours wsX4_chargedHours ({ frames := 3, cells := 0, slots := 0, locals := 180 } : Room) (va_Pc [.ref h0, .int p0, .int w0] (tkX A D ac dE G)) (vp_Si (fun z => z = charged M p0 w0)) 0 0 (fun _ => False) := by
  refine Met.ofW (cc := cX4_chargedHours) (maxL := 6) (ret := (some .int)) (by decide) rfl ?_
  intro p e s m args below meth c s₁ B hml hv
  obtain ⟨rfl, ⟨hM, hK, hA, hF⟩, hO⟩ := hv
  have hS : va_S A s.heap s.heap [] := va_S.rf
  have hx := B.exec
  have hb := B.bytes
  have hr := B.returns
  have hts := atoms_spec (ws := wsX4_chargedHours) B.pre
  have hown : s.vm.findClass RX4 = some m.cls := findClass_of_methodNamed B.named
  have hlocks := B.notSynchronized
  have S0 : CallFix p m c cX4_chargedHours 6 s ([.ref h0, .int p0, .int w0] : List Value).toArray wsX4_chargedHours RX4 := ⟨hx, hb, hml, hown, hts⟩
  have inX4 : ∀ w ∈ wsX40, w ∈ wsX4_chargedHours := by decide +kernel
  have inX0 : ∀ w ∈ wsX00, w ∈ wsX4_chargedHours := by decide +kernel
  have hl := lv_entry ([.ref h0, .int p0, .int w0]) (n := 6) (Nat.le_of_ble_eq_true rfl)
  rw [lg_entry_eq]
  generalize (lg_sl ([.ref h0, .int p0, .int w0]) ++ List.replicate (6 - (lg_sl ([.ref h0, .int p0, .int w0])).length) Slot.unset).toArray = ls at hl ⊢
  have hl : lv_has ls 6 [(0, .ref h0), (1, .int p0), (2, .int w0)] := hl
  have bT := hW.t.2
  have bE := hW.e.2
  have bV := hW.v.2
  refine lv_iconst (v := 0) hx hb dX4_chargedHours_0 (by decide) ?_
  refine lv_istore_n (lv' := [(3, .int 0), (0, .ref h0), (1, .int p0), (2, .int w0)]) hx hb dX4_chargedHours_1 rfl hl (by decide) rfl (fun ls hl => ?_)
  refine lv_iconst (v := 0) hx hb dX4_chargedHours_2 (by decide) ?_
  refine lv_istore (lv' := [(4, .int 0), (3, .int 0), (0, .ref h0), (1, .int p0), (2, .int w0)]) hx hb dX4_chargedHours_3 hl (by decide) rfl (fun ls hl => ?_)
  refine tk_f1 (Wf := W p l e _ s m _ below meth c _ _ _ _ _) (nE M) (fun i acc ls => lv_has ls 6 [(0, .ref h0), (1, .int p0), (2, .int w0), (4, .int (nI i)), (3, .int acc)] ∧ acc = sumI (fun k => if (decide (M 10 k = p0) && decide (M 11 k = w0) && billed M k) = true then M 12 k else 0) i) (fun i acc ls hi hinv ih => ?_) _ ls ⟨(lv_sub hl [2, 3, 4, 0, 1] rfl), rfl⟩
  obtain ⟨hl, hinv⟩ := hinv
  refine lv_iload hx hb dX4_chargedHours_5 (lv_at hl 3 rfl) ?_
  refine lv_aload_n hx hb dX4_chargedHours_7 rfl (lv_at hl 0 rfl) ?_
  refine tk_get hx hb hts inX4 hown hK hM hP.h rfl 1 (by decide) (hts (.fieldLink RX4 16 "TicketForge" "entryList" "Ljava/util/ArrayList;") (by decide +kernel)) (fun _ h9 => h9) rfl dX4_chargedHours_8 ?_
  refine tk_cVi (As := []) S0 (c_Jx4a65c_size_8abf5 l A D ac dE _ hP.le) (cwV 0 hts gX4_chargedHours_Jx4a65c_size_8abf5 rfl rfl rfl (by decide +kernel) ⟨Nat.le_of_ble_eq_true rfl, Nat.le_of_ble_eq_true rfl⟩) (tkX.blind) (tkX.at hM hK hA hF hO hS) (LX.rec hP.le hK hM) rfl hl.1 rfl (Nat.le_of_ble_eq_true rfl) dX4_chargedHours_11 ⟨Nat.zero_le _, Nat.zero_le _⟩ (fun r_1 hr_1 => ?_)
  subst hr_1
  refine lv_icmp_ge (tgt := 71) hx hb dX4_chargedHours_14 (by decide) (fun c_2 => ?_) (fun c_2 => ?_)
  · have hge := tk_ge (by omega) (by omega) c_2
    refine lv_iload_n hx hb dX4_chargedHours_71 rfl (lv_at hl 4 rfl) ?_
    exact W.iret (v := acc) hx hb hr (fun t9 h9 w9 => ⟨acc, rfl, sumI_e hinv hi hge, h9⟩) (fun q hq => absurd hq List.not_mem_nil) dX4_chargedHours_72
  · have hlt := tk_lt (by omega) (by omega) c_2
    refine lv_aload_n hx hb dX4_chargedHours_17 rfl (lv_at hl 0 rfl) ?_
    refine tk_get hx hb hts inX4 hown hK hM hP.h rfl 1 (by decide) (hts (.fieldLink RX4 16 "TicketForge" "entryList" "Ljava/util/ArrayList;") (by decide +kernel)) (fun _ h9 => h9) rfl dX4_chargedHours_18 ?_
    refine lv_iload hx hb dX4_chargedHours_21 (lv_at hl 3 rfl) ?_
    have hg_4 : i < nE M := by omega
    refine tk_cVq (As := [.int (nI i)]) S0 (c_Jx4a65c_get_915e3 l A D ac dE _ hP.le i hg_4 (by omega)) (cwV 1 hts gX4_chargedHours_Jx4a65c_get_915e3 rfl rfl rfl (by decide +kernel) ⟨Nat.le_of_ble_eq_true rfl, Nat.le_of_ble_eq_true rfl⟩) (tkX.blind) (tkX.at hM hK hA hF hO hS) (LX.rec hP.le hK hM) rfl hl.1 rfl (Nat.le_of_ble_eq_true rfl) dX4_chargedHours_23 ⟨Nat.zero_le _, Nat.zero_le _⟩ (fun r_3 hr_3 => ?_)
    subst hr_3
    refine va_castY (C := "TicketForge$Entry") hx hb hown (hts (.classLink RX4 178 "TicketForge$Entry") (by decide +kernel)) (hF.2.2.2 ("TicketForge$Entry", "TicketForge$Entry") (by decide +kernel)) (tk_recv hK hM (hP.e hg_4) rfl (ci := 3) (q := (RX0, TX0, 7))) dX4_chargedHours_26 ?_
    refine lv_astore (lv' := [(5, .ref (α 2 i)), (0, .ref h0), (1, .int p0), (2, .int w0), (4, .int (nI i)), (3, .int acc)]) hx hb dX4_chargedHours_29 hl (by decide) rfl (fun ls hl => ?_)
    refine lv_aload hx hb dX4_chargedHours_31 (lv_at hl 0 rfl) ?_
    refine tk_get hx hb hts inX0 hown hK hM (hP.e hg_4) rfl 6 (by decide) (hts (.fieldLink RX4 284 "TicketForge$Entry" "invoice" "LTicketForge$Invoice;") (by decide +kernel)) (fun _ h9 => h9) rfl dX4_chargedHours_33 ?_
    rcases tk_bool (billed M i) with hbvs_5 | hbvs_5
    · rw [invR_n hbvs_5]
      refine lv_ifnullN (tgt := 65) hx hb dX4_chargedHours_36 (by decide) ?_
      refine lv_iinc (v := (nI (i + 1))) (lv' := [(4, .int (nI (i + 1))), (5, .ref (α 2 i)), (0, .ref h0), (1, .int p0), (2, .int w0), (3, .int acc)]) hx hb dX4_chargedHours_65 hl (k := 4) rfl (nI_1 i) (by decide) rfl (fun ls hl => ?_)
      refine lv_goto (tgt := 5) hx hb dX4_chargedHours_68 (by decide) ?_
      exact ih _ ls (by omega) ⟨(lv_sub hl [2, 3, 4, 0, 5] rfl), sumI_f hinv (if_neg (by simp [hbvs_5]))⟩
    · obtain ⟨s_5, hls_5, evs_5⟩ := hB.2 i hg_4 hbvs_5
      have hzs_5 := hB.1
      rw [invR_s (by omega) hbvs_5 evs_5]
      refine lv_ifnull hx hb dX4_chargedHours_36 ?_
      refine lv_aload hx hb dX4_chargedHours_39 (lv_at hl 0 rfl) ?_
      refine tk_get hx hb hts inX0 hown hK hM (hP.e hg_4) rfl 1 (by decide) (hts (.fieldLink RX4 345 "TicketForge$Entry" "person" "I") (by decide +kernel)) (fun _ h9 => h9) rfl dX4_chargedHours_41 ?_
      refine lv_iload_n hx hb dX4_chargedHours_44 rfl (lv_at hl 2 rfl) ?_
      refine lv_icmp_ne (tgt := 65) hx hb dX4_chargedHours_45 (by decide) (fun c_6 => ?_) (fun c_6 => ?_)
      · skip
        refine lv_iinc (v := (nI (i + 1))) (lv' := [(4, .int (nI (i + 1))), (5, .ref (α 2 i)), (0, .ref h0), (1, .int p0), (2, .int w0), (3, .int acc)]) hx hb dX4_chargedHours_65 hl (k := 4) rfl (nI_1 i) (by decide) rfl (fun ls hl => ?_)
        refine lv_goto (tgt := 5) hx hb dX4_chargedHours_68 (by decide) ?_
        exact ih _ ls (by omega) ⟨(lv_sub hl [2, 3, 4, 0, 5] rfl), sumI_f hinv (if_neg (by simp [c_6]))⟩
      · skip
        refine lv_aload hx hb dX4_chargedHours_48 (lv_at hl 0 rfl) ?_
        refine tk_get hx hb hts inX0 hown hK hM (hP.e hg_4) rfl 2 (by decide) (hts (.fieldLink RX4 190 "TicketForge$Entry" "week" "I") (by decide +kernel)) (fun _ h9 => h9) rfl dX4_chargedHours_50 ?_
        refine lv_iload_n hx hb dX4_chargedHours_53 rfl (lv_at hl 3 rfl) ?_
        refine lv_icmp_ne (tgt := 65) hx hb dX4_chargedHours_54 (by decide) (fun c_7 => ?_) (fun c_7 => ?_)
        · skip
          refine lv_iinc (v := (nI (i + 1))) (lv' := [(4, .int (nI (i + 1))), (5, .ref (α 2 i)), (0, .ref h0), (1, .int p0), (2, .int w0), (3, .int acc)]) hx hb dX4_chargedHours_65 hl (k := 4) rfl (nI_1 i) (by decide) rfl (fun ls hl => ?_)
          refine lv_goto (tgt := 5) hx hb dX4_chargedHours_68 (by decide) ?_
          exact ih _ ls (by omega) ⟨(lv_sub hl [2, 3, 4, 0, 5] rfl), sumI_f hinv (if_neg (by simp [c_7]))⟩
        · skip
          refine lv_iload_n hx hb dX4_chargedHours_57 rfl (lv_at hl 5 rfl) ?_
          refine lv_aload hx hb dX4_chargedHours_58 (lv_at hl 0 rfl) ?_
          refine tk_get hx hb hts inX0 hown hK hM (hP.e hg_4) rfl 3 (by decide) (hts (.fieldLink RX4 300 "TicketForge$Entry" "hours" "I") (by decide +kernel)) (fun _ h9 => h9) rfl dX4_chargedHours_60 ?_
          refine lv_iadd hx hb dX4_chargedHours_63 ?_
          refine lv_istore_n (lv' := [(3, .int (acc + (M 12 i))), (5, .ref (α 2 i)), (0, .ref h0), (1, .int p0), (2, .int w0), (4, .int (nI i))]) hx hb dX4_chargedHours_64 rfl hl (by decide) rfl (fun ls hl => ?_)
          refine lv_iinc (v := (nI (i + 1))) (lv' := [(4, .int (nI (i + 1))), (3, .int (acc + (M 12 i))), (5, .ref (α 2 i)), (0, .ref h0), (1, .int p0), (2, .int w0)]) hx hb dX4_chargedHours_65 hl (k := 5) rfl (nI_1 i) (by decide) rfl (fun ls hl => ?_)
          refine lv_goto (tgt := 5) hx hb dX4_chargedHours_68 (by decide) ?_
          exact ih _ ls (by omega) ⟨(lv_sub hl [3, 4, 5, 0, 1] rfl), sumI_t hinv (if_pos (by simp [c_6, c_7, hbvs_5]))⟩
set_option maxHeartbeats 4000000 in
set_option maxRecDepth 100000 in
theorem c_X4_recomputeTotal (l : Launch) (A : Nat → Prop) (D : va_G) (ac : Nat → ClassId) (dE : Nat) (G : TG) {h0 : Nat} {α : Nat → Nat → Nat} {M : TS} {nv : Nat} (hP : PX ac dE h0 α M nv G) (hW : W0 M) (hB : WB M nv) (v : Nat) (hv : v < nv) : Met l yX4_recomputeTotal wsX4_recomputeTotal ({ frames := 3, cells := 0, slots := 0, locals := 180 } : Room) (va_Pc [.ref h0, .ref (α 3 v)] (tkX A D ac dE G)) (vp_Si (fun z => z = recT M v (nE M))) 0 0 (fun _ => False) := by
  refine Met.ofW (cc := cX4_recomputeTotal) (maxL := 6) (ret := (some .int)) (by decide) rfl ?_
  intro p e s m args below meth c s₁ B hml hv
  obtain ⟨rfl, ⟨hM, hK, hA, hF⟩, hO⟩ := hv
  have hS : va_S A s.heap s.heap [] := va_S.rf
  have hx := B.exec
  have hb := B.bytes
  have hr := B.returns
  have hts := atoms_spec (ws := wsX4_recomputeTotal) B.pre
  have hown : s.vm.findClass RX4 = some m.cls := findClass_of_methodNamed B.named
  have hlocks := B.notSynchronized
  have S0 : CallFix p m c cX4_recomputeTotal 6 s ([.ref h0, .ref (α 3 v)] : List Value).toArray wsX4_recomputeTotal RX4 := ⟨hx, hb, hml, hown, hts⟩
  have inX4 : ∀ w ∈ wsX40, w ∈ wsX4_recomputeTotal := by decide +kernel
  have inX0 : ∀ w ∈ wsX00, w ∈ wsX4_recomputeTotal := by decide +kernel
  have inX1 : ∀ w ∈ wsX10, w ∈ wsX4_recomputeTotal := by decide +kernel
  have hl := lv_entry ([.ref h0, .ref (α 3 v)]) (n := 6) (Nat.le_of_ble_eq_true rfl)
  rw [lg_entry_eq]
  generalize (lg_sl ([.ref h0, .ref (α 3 v)]) ++ List.replicate (6 - (lg_sl ([.ref h0, .ref (α 3 v)])).length) Slot.unset).toArray = ls at hl ⊢
  have hl : lv_has ls 6 [(0, .ref h0), (1, .ref (α 3 v))] := hl
  have bT := hW.t.2
  have bE := hW.e.2
  have bV := hW.v.2
  obtain ⟨f9, ha9, hf9⟩ := hP.va hv
  refine lv_iconst (v := 0) hx hb dX4_recomputeTotal_0 (by decide) ?_
  refine lv_istore_n (lv' := [(2, .int 0), (0, .ref h0), (1, .ref (α 3 v))]) hx hb dX4_recomputeTotal_1 rfl hl (by decide) rfl (fun ls hl => ?_)
  refine lv_iconst (v := 0) hx hb dX4_recomputeTotal_2 (by decide) ?_
  refine lv_istore_n (lv' := [(3, .int 0), (2, .int 0), (0, .ref h0), (1, .ref (α 3 v))]) hx hb dX4_recomputeTotal_3 rfl hl (by decide) rfl (fun ls hl => ?_)
  refine tk_f1 (Wf := W p l e _ s m _ below meth c _ _ _ _ _) (nE M) (fun i acc ls => lv_has ls 6 [(0, .ref h0), (1, .ref (α 3 v)), (3, .int (nI i)), (2, .int acc)] ∧ acc = sumI (fun k => if billed M k = true ∧ M 14 k = nI v then priceV M v k else 0) i) (fun i acc ls hi hinv ih => ?_) _ ls ⟨(lv_sub hl [2, 3, 0, 1] rfl), rfl⟩
  obtain ⟨hl, hinv⟩ := hinv
  refine lv_iload_n hx hb dX4_recomputeTotal_4 rfl (lv_at hl 2 rfl) ?_
  refine lv_aload_n hx hb dX4_recomputeTotal_5 rfl (lv_at hl 0 rfl) ?_
  refine tk_get hx hb hts inX4 hown hK hM hP.h rfl 1 (by decide) (hts (.fieldLink RX4 16 "TicketForge" "entryList" "Ljava/util/ArrayList;") (by decide +kernel)) (fun _ h9 => h9) rfl dX4_recomputeTotal_6 ?_
  refine tk_cVi (As := []) S0 (c_Jx4a65c_size_8abf5 l A D ac dE _ hP.le) (cwV 0 hts gX4_recomputeTotal_Jx4a65c_size_8abf5 rfl rfl rfl (by decide +kernel) ⟨Nat.le_of_ble_eq_true rfl, Nat.le_of_ble_eq_true rfl⟩) (tkX.blind) (tkX.at hM hK hA hF hO hS) (LX.rec hP.le hK hM) rfl hl.1 rfl (Nat.le_of_ble_eq_true rfl) dX4_recomputeTotal_9 ⟨Nat.zero_le _, Nat.zero_le _⟩ (fun r_1 hr_1 => ?_)
  subst hr_1
  refine lv_icmp_ge (tgt := 55) hx hb dX4_recomputeTotal_12 (by decide) (fun c_2 => ?_) (fun c_2 => ?_)
  · have hge := tk_ge (by omega) (by omega) c_2
    have hsum : acc = recS M v (nE M) := sumI_e hinv hi hge
    clear ih hge hi hinv
    refine lv_iconst (v := 0) hx hb dX4_recomputeTotal_55 (by decide) ?_
    refine lv_istore_n (lv' := [(3, .int 0), (0, .ref h0), (1, .ref (α 3 v)), (2, .int acc)]) hx hb dX4_recomputeTotal_56 rfl hl (by decide) rfl (fun ls hl => ?_)
    refine lv_iconst (v := 0) hx hb dX4_recomputeTotal_57 (by decide) ?_
    refine lv_istore (lv' := [(4, .int 0), (3, .int 0), (0, .ref h0), (1, .ref (α 3 v)), (2, .int acc)]) hx hb dX4_recomputeTotal_58 hl (by decide) rfl (fun ls hl => ?_)
    refine tk_f1 (Wf := W p l e _ s m _ below meth c _ _ _ _ _) (nE M) (fun i tot ls => lv_has ls 6 [(0, .ref h0), (1, .ref (α 3 v)), (2, .int acc), (4, .int (nI i)), (3, .int tot)] ∧ tot = sumI (fun k => if billed M k = true ∧ M 14 k = nI v then disc (M 22 v) (M 23 v) (priceV M v k) (recS M v (nE M)) else 0) i) (fun i tot ls hi hinv ih => ?_) _ ls ⟨(lv_sub hl [2, 3, 4, 0, 1] rfl), rfl⟩
    obtain ⟨hl, hinv⟩ := hinv
    refine lv_iload hx hb dX4_recomputeTotal_60 (lv_at hl 3 rfl) ?_
    refine lv_aload_n hx hb dX4_recomputeTotal_62 rfl (lv_at hl 0 rfl) ?_
    refine tk_get hx hb hts inX4 hown hK hM hP.h rfl 1 (by decide) (hts (.fieldLink RX4 16 "TicketForge" "entryList" "Ljava/util/ArrayList;") (by decide +kernel)) (fun _ h9 => h9) rfl dX4_recomputeTotal_63 ?_
    refine tk_cVi (As := []) S0 (c_Jx4a65c_size_8abf5 l A D ac dE _ hP.le) (cwV 0 hts gX4_recomputeTotal_Jx4a65c_size_8abf5 rfl rfl rfl (by decide +kernel) ⟨Nat.le_of_ble_eq_true rfl, Nat.le_of_ble_eq_true rfl⟩) (tkX.blind) (tkX.at hM hK hA hF hO hS) (LX.rec hP.le hK hM) rfl hl.1 rfl (Nat.le_of_ble_eq_true rfl) dX4_recomputeTotal_66 ⟨Nat.zero_le _, Nat.zero_le _⟩ (fun r_3 hr_3 => ?_)
    subst hr_3
    refine lv_icmp_ge (tgt := 121) hx hb dX4_recomputeTotal_69 (by decide) (fun c_4 => ?_) (fun c_4 => ?_)
    · have hge := tk_ge (by omega) (by omega) c_4
      refine lv_iload_n hx hb dX4_recomputeTotal_121 rfl (lv_at hl 4 rfl) ?_
      exact W.iret (v := tot) hx hb hr (fun t9 h9 w9 => ⟨tot, rfl, sumI_e hinv hi hge, h9⟩) (fun q hq => absurd hq List.not_mem_nil) dX4_recomputeTotal_122
    · have hlt := tk_lt (by omega) (by omega) c_4
      refine lv_aload_n hx hb dX4_recomputeTotal_72 rfl (lv_at hl 0 rfl) ?_
      refine tk_get hx hb hts inX4 hown hK hM hP.h rfl 1 (by decide) (hts (.fieldLink RX4 16 "TicketForge" "entryList" "Ljava/util/ArrayList;") (by decide +kernel)) (fun _ h9 => h9) rfl dX4_recomputeTotal_73 ?_
      refine lv_iload hx hb dX4_recomputeTotal_76 (lv_at hl 3 rfl) ?_
      have hg_6 : i < nE M := by omega
      refine tk_cVq (As := [.int (nI i)]) S0 (c_Jx4a65c_get_915e3 l A D ac dE _ hP.le i hg_6 (by omega)) (cwV 1 hts gX4_recomputeTotal_Jx4a65c_get_915e3 rfl rfl rfl (by decide +kernel) ⟨Nat.le_of_ble_eq_true rfl, Nat.le_of_ble_eq_true rfl⟩) (tkX.blind) (tkX.at hM hK hA hF hO hS) (LX.rec hP.le hK hM) rfl hl.1 rfl (Nat.le_of_ble_eq_true rfl) dX4_recomputeTotal_78 ⟨Nat.zero_le _, Nat.zero_le _⟩ (fun r_5 hr_5 => ?_)
      subst hr_5
      refine va_castY (C := "TicketForge$Entry") hx hb hown (hts (.classLink RX4 178 "TicketForge$Entry") (by decide +kernel)) (hF.2.2.2 ("TicketForge$Entry", "TicketForge$Entry") (by decide +kernel)) (tk_recv hK hM (hP.e hg_6) rfl (ci := 3) (q := (RX0, TX0, 7))) dX4_recomputeTotal_81 ?_
      refine lv_astore (lv' := [(5, .ref (α 2 i)), (0, .ref h0), (1, .ref (α 3 v)), (2, .int acc), (4, .int (nI i)), (3, .int tot)]) hx hb dX4_recomputeTotal_84 hl (by decide) rfl (fun ls hl => ?_)
      refine lv_aload hx hb dX4_recomputeTotal_86 (lv_at hl 0 rfl) ?_
      refine tk_get hx hb hts inX0 hown hK hM (hP.e hg_6) rfl 6 (by decide) (hts (.fieldLink RX4 284 "TicketForge$Entry" "invoice" "LTicketForge$Invoice;") (by decide +kernel)) (fun _ h9 => h9) rfl dX4_recomputeTotal_88 ?_
      refine lv_aload_n hx hb dX4_recomputeTotal_91 rfl (lv_at hl 2 rfl) ?_
      refine lv_acmp_ne (rx := (invR α M i)) (ry := (some (α 3 v))) (tgt := 115) hx hb dX4_recomputeTotal_92 (by decide) (fun c_7 => ?_) (fun c_7 => ?_)
      · have c_7 := mt (hP.invE hB hg_6 hv).mpr c_7
        refine lv_iinc (v := (nI (i + 1))) (lv' := [(4, .int (nI (i + 1))), (5, .ref (α 2 i)), (0, .ref h0), (1, .ref (α 3 v)), (2, .int acc), (3, .int tot)]) hx hb dX4_recomputeTotal_115 hl (k := 4) rfl (nI_1 i) (by decide) rfl (fun ls hl => ?_)
        refine lv_goto (tgt := 60) hx hb dX4_recomputeTotal_118 (by decide) ?_
        exact ih _ ls (by omega) ⟨(lv_sub hl [2, 3, 4, 0, 5] rfl), sumI_f hinv (if_neg c_7)⟩
      · have c_7 := (hP.invE hB hg_6 hv).mp c_7
        refine lv_iload_n hx hb dX4_recomputeTotal_95 rfl (lv_at hl 5 rfl) ?_
        refine lv_aload_n hx hb dX4_recomputeTotal_96 rfl (lv_at hl 2 rfl) ?_
        refine tk_get hx hb hts inX1 hown hK hM (hP.v hv) rfl 1 (by decide) (hts (.fieldLink RX4 351 "TicketForge$Invoice" "rules" "LTicketForge$Rules;") (by decide +kernel)) (fun _ h9 => h9) rfl dX4_recomputeTotal_97 ?_
        refine lv_aload_n hx hb dX4_recomputeTotal_100 rfl (lv_at hl 2 rfl) ?_
        refine tk_get hx hb hts inX1 hown hK hM (hP.v hv) rfl 1 (by decide) (hts (.fieldLink RX4 351 "TicketForge$Invoice" "rules" "LTicketForge$Rules;") (by decide +kernel)) (fun _ h9 => h9) rfl dX4_recomputeTotal_101 ?_
        refine lv_aload hx hb dX4_recomputeTotal_104 (lv_at hl 0 rfl) ?_
        refine tk_cVi (As := [.ref (α 2 i)]) S0 (c_X2_fullPrice l A D ac dE _ hP (hP.vr hv) ha9 i hg_6) (cwV 1 hts gX4_recomputeTotal_X2_fullPrice rfl rfl rfl (by decide +kernel) ⟨Nat.le_of_ble_eq_true rfl, Nat.le_of_ble_eq_true rfl⟩) (tkX.blind) (tkX.at hM hK hA hF hO hS) (tk_recv hK hM (hP.vr hv) rfl) rfl hl.1 rfl (Nat.le_of_ble_eq_true rfl) dX4_recomputeTotal_106 ⟨Nat.zero_le _, Nat.zero_le _⟩ (fun r_8 hr_8 => ?_)
        refine lv_iload_n hx hb dX4_recomputeTotal_109 rfl (lv_at hl 3 rfl) ?_
        refine tk_cVi (As := [.int r_8, .int acc]) S0 (c_X2_discounted l A D ac dE _ (hP.vr hv) r_8 acc) (cwV 2 hts gX4_recomputeTotal_X2_discounted rfl rfl rfl (by decide +kernel) ⟨Nat.le_of_ble_eq_true rfl, Nat.le_of_ble_eq_true rfl⟩) (tkX.blind) (tkX.at hM hK hA hF hO hS) (tk_recv hK hM (hP.vr hv) rfl) rfl hl.1 rfl (Nat.le_of_ble_eq_true rfl) dX4_recomputeTotal_110 ⟨Nat.zero_le _, Nat.zero_le _⟩ (fun r_9 hr_9 => ?_)
        refine lv_iadd hx hb dX4_recomputeTotal_113 ?_
        refine lv_istore_n (lv' := [(3, .int (tot + r_9)), (5, .ref (α 2 i)), (0, .ref h0), (1, .ref (α 3 v)), (2, .int acc), (4, .int (nI i))]) hx hb dX4_recomputeTotal_114 rfl hl (by decide) rfl (fun ls hl => ?_)
        refine lv_iinc (v := (nI (i + 1))) (lv' := [(4, .int (nI (i + 1))), (3, .int (tot + r_9)), (5, .ref (α 2 i)), (0, .ref h0), (1, .ref (α 3 v)), (2, .int acc)]) hx hb dX4_recomputeTotal_115 hl (k := 5) rfl (nI_1 i) (by decide) rfl (fun ls hl => ?_)
        refine lv_goto (tgt := 60) hx hb dX4_recomputeTotal_118 (by decide) ?_
        exact ih _ ls (by omega) ⟨(lv_sub hl [3, 4, 5, 0, 1] rfl), sumI_t hinv (by rw [if_pos c_7, hr_9, hr_8, priceV, rate_v hW hf9 hlt, hsum])⟩
  · have hlt := tk_lt (by omega) (by omega) c_2
    refine lv_aload_n hx hb dX4_recomputeTotal_15 rfl (lv_at hl 0 rfl) ?_
    refine tk_get hx hb hts inX4 hown hK hM hP.h rfl 1 (by decide) (hts (.fieldLink RX4 16 "TicketForge" "entryList" "Ljava/util/ArrayList;") (by decide +kernel)) (fun _ h9 => h9) rfl dX4_recomputeTotal_16 ?_
    refine lv_iload_n hx hb dX4_recomputeTotal_19 rfl (lv_at hl 2 rfl) ?_
    have hg_11 : i < nE M := by omega
    refine tk_cVq (As := [.int (nI i)]) S0 (c_Jx4a65c_get_915e3 l A D ac dE _ hP.le i hg_11 (by omega)) (cwV 1 hts gX4_recomputeTotal_Jx4a65c_get_915e3 rfl rfl rfl (by decide +kernel) ⟨Nat.le_of_ble_eq_true rfl, Nat.le_of_ble_eq_true rfl⟩) (tkX.blind) (tkX.at hM hK hA hF hO hS) (LX.rec hP.le hK hM) rfl hl.1 rfl (Nat.le_of_ble_eq_true rfl) dX4_recomputeTotal_20 ⟨Nat.zero_le _, Nat.zero_le _⟩ (fun r_10 hr_10 => ?_)
    subst hr_10
    refine va_castY (C := "TicketForge$Entry") hx hb hown (hts (.classLink RX4 178 "TicketForge$Entry") (by decide +kernel)) (hF.2.2.2 ("TicketForge$Entry", "TicketForge$Entry") (by decide +kernel)) (tk_recv hK hM (hP.e hg_11) rfl (ci := 3) (q := (RX0, TX0, 7))) dX4_recomputeTotal_23 ?_
    refine lv_astore (lv' := [(4, .ref (α 2 i)), (0, .ref h0), (1, .ref (α 3 v)), (3, .int (nI i)), (2, .int acc)]) hx hb dX4_recomputeTotal_26 hl (by decide) rfl (fun ls hl => ?_)
    refine lv_aload hx hb dX4_recomputeTotal_28 (lv_at hl 0 rfl) ?_
    refine tk_get hx hb hts inX0 hown hK hM (hP.e hg_11) rfl 6 (by decide) (hts (.fieldLink RX4 284 "TicketForge$Entry" "invoice" "LTicketForge$Invoice;") (by decide +kernel)) (fun _ h9 => h9) rfl dX4_recomputeTotal_30 ?_
    refine lv_aload_n hx hb dX4_recomputeTotal_33 rfl (lv_at hl 2 rfl) ?_
    refine lv_acmp_ne (rx := (invR α M i)) (ry := (some (α 3 v))) (tgt := 49) hx hb dX4_recomputeTotal_34 (by decide) (fun c_12 => ?_) (fun c_12 => ?_)
    · have c_12 := mt (hP.invE hB hg_11 hv).mpr c_12
      refine lv_iinc (v := (nI (i + 1))) (lv' := [(3, .int (nI (i + 1))), (4, .ref (α 2 i)), (0, .ref h0), (1, .ref (α 3 v)), (2, .int acc)]) hx hb dX4_recomputeTotal_49 hl (k := 3) rfl (nI_1 i) (by decide) rfl (fun ls hl => ?_)
      refine lv_goto (tgt := 4) hx hb dX4_recomputeTotal_52 (by decide) ?_
      exact ih _ ls (by omega) ⟨(lv_sub hl [2, 3, 0, 4] rfl), sumI_f hinv (if_neg c_12)⟩
    · have c_12 := (hP.invE hB hg_11 hv).mp c_12
      refine lv_iload_n hx hb dX4_recomputeTotal_37 rfl (lv_at hl 4 rfl) ?_
      refine lv_aload_n hx hb dX4_recomputeTotal_38 rfl (lv_at hl 2 rfl) ?_
      refine tk_get hx hb hts inX1 hown hK hM (hP.v hv) rfl 1 (by decide) (hts (.fieldLink RX4 351 "TicketForge$Invoice" "rules" "LTicketForge$Rules;") (by decide +kernel)) (fun _ h9 => h9) rfl dX4_recomputeTotal_39 ?_
      refine lv_aload hx hb dX4_recomputeTotal_42 (lv_at hl 0 rfl) ?_
      refine tk_cVi (As := [.ref (α 2 i)]) S0 (c_X2_fullPrice l A D ac dE _ hP (hP.vr hv) ha9 i hg_11) (cwV 1 hts gX4_recomputeTotal_X2_fullPrice rfl rfl rfl (by decide +kernel) ⟨Nat.le_of_ble_eq_true rfl, Nat.le_of_ble_eq_true rfl⟩) (tkX.blind) (tkX.at hM hK hA hF hO hS) (tk_recv hK hM (hP.vr hv) rfl) rfl hl.1 rfl (Nat.le_of_ble_eq_true rfl) dX4_recomputeTotal_44 ⟨Nat.zero_le _, Nat.zero_le _⟩ (fun r_13 hr_13 => ?_)
      refine lv_iadd hx hb dX4_recomputeTotal_47 ?_
      refine lv_istore_n (lv' := [(2, .int (acc + r_13)), (4, .ref (α 2 i)), (0, .ref h0), (1, .ref (α 3 v)), (3, .int (nI i))]) hx hb dX4_recomputeTotal_48 rfl hl (by decide) rfl (fun ls hl => ?_)
      refine lv_iinc (v := (nI (i + 1))) (lv' := [(3, .int (nI (i + 1))), (2, .int (acc + r_13)), (4, .ref (α 2 i)), (0, .ref h0), (1, .ref (α 3 v))]) hx hb dX4_recomputeTotal_49 hl (k := 4) rfl (nI_1 i) (by decide) rfl (fun ls hl => ?_)
      refine lv_goto (tgt := 4) hx hb dX4_recomputeTotal_52 (by decide) ?_
      exact ih _ ls (by omega) ⟨(lv_sub hl [3, 4, 0, 1] rfl), sumI_t hinv (by rw [if_pos c_12, priceV, hr_13, rate_v hW hf9 hlt])⟩
set_option maxHeartbeats 4000000 in
set_option maxRecDepth 100000 in
theorem c_X4_creditedPrices (l : Launch) (A : Nat → Prop) (D : va_G) (ac : Nat → ClassId) (dE : Nat) (G : TG) {h0 : Nat} {α : Nat → Nat → Nat} {M : TS} {nv : Nat} (hP : PX ac dE h0 α M nv G) (hW : W0 M) (hB : WB M nv) (v : Nat) (hv : v < nv) : Met l yX4_creditedPrices wsX4_creditedPrices ({ frames := 3, cells := 0, slots := 0, locals := 180 } : Room) (va_Pc [.ref h0, .ref (α 3 v)] (tkX A D ac dE G)) (vp_Si (fun z => z = crP M v (nE M))) 0 0 (fun _ => False) := by
  refine Met.ofW (cc := cX4_creditedPrices) (maxL := 5) (ret := (some .int)) (by decide) rfl ?_
  intro p e s m args below meth c s₁ B hml hv
  obtain ⟨rfl, ⟨hM, hK, hA, hF⟩, hO⟩ := hv
  have hS : va_S A s.heap s.heap [] := va_S.rf
  have hx := B.exec
  have hb := B.bytes
  have hr := B.returns
  have hts := atoms_spec (ws := wsX4_creditedPrices) B.pre
  have hown : s.vm.findClass RX4 = some m.cls := findClass_of_methodNamed B.named
  have hlocks := B.notSynchronized
  have S0 : CallFix p m c cX4_creditedPrices 5 s ([.ref h0, .ref (α 3 v)] : List Value).toArray wsX4_creditedPrices RX4 := ⟨hx, hb, hml, hown, hts⟩
  have inX4 : ∀ w ∈ wsX40, w ∈ wsX4_creditedPrices := by decide +kernel
  have inX0 : ∀ w ∈ wsX00, w ∈ wsX4_creditedPrices := by decide +kernel
  have hl := lv_entry ([.ref h0, .ref (α 3 v)]) (n := 5) (Nat.le_of_ble_eq_true rfl)
  rw [lg_entry_eq]
  generalize (lg_sl ([.ref h0, .ref (α 3 v)]) ++ List.replicate (5 - (lg_sl ([.ref h0, .ref (α 3 v)])).length) Slot.unset).toArray = ls at hl ⊢
  have hl : lv_has ls 5 [(0, .ref h0), (1, .ref (α 3 v))] := hl
  have bT := hW.t.2
  have bE := hW.e.2
  have bV := hW.v.2
  refine lv_iconst (v := 0) hx hb dX4_creditedPrices_0 (by decide) ?_
  refine lv_istore_n (lv' := [(2, .int 0), (0, .ref h0), (1, .ref (α 3 v))]) hx hb dX4_creditedPrices_1 rfl hl (by decide) rfl (fun ls hl => ?_)
  refine lv_iconst (v := 0) hx hb dX4_creditedPrices_2 (by decide) ?_
  refine lv_istore_n (lv' := [(3, .int 0), (2, .int 0), (0, .ref h0), (1, .ref (α 3 v))]) hx hb dX4_creditedPrices_3 rfl hl (by decide) rfl (fun ls hl => ?_)
  refine tk_f1 (Wf := W p l e _ s m _ below meth c _ _ _ _ _) (nE M) (fun i acc ls => lv_has ls 5 [(0, .ref h0), (1, .ref (α 3 v)), (3, .int (nI i)), (2, .int acc)] ∧ acc = sumI (fun k => if (billed M k = true ∧ M 14 k = nI v) ∧ M 5 k = 99 then M 13 k else 0) i) (fun i acc ls hi hinv ih => ?_) _ ls ⟨(lv_sub hl [2, 3, 0, 1] rfl), rfl⟩
  obtain ⟨hl, hinv⟩ := hinv
  refine lv_iload_n hx hb dX4_creditedPrices_4 rfl (lv_at hl 2 rfl) ?_
  refine lv_aload_n hx hb dX4_creditedPrices_5 rfl (lv_at hl 0 rfl) ?_
  refine tk_get hx hb hts inX4 hown hK hM hP.h rfl 1 (by decide) (hts (.fieldLink RX4 16 "TicketForge" "entryList" "Ljava/util/ArrayList;") (by decide +kernel)) (fun _ h9 => h9) rfl dX4_creditedPrices_6 ?_
  refine tk_cVi (As := []) S0 (c_Jx4a65c_size_8abf5 l A D ac dE _ hP.le) (cwV 0 hts gX4_creditedPrices_Jx4a65c_size_8abf5 rfl rfl rfl (by decide +kernel) ⟨Nat.le_of_ble_eq_true rfl, Nat.le_of_ble_eq_true rfl⟩) (tkX.blind) (tkX.at hM hK hA hF hO hS) (LX.rec hP.le hK hM) rfl hl.1 rfl (Nat.le_of_ble_eq_true rfl) dX4_creditedPrices_9 ⟨Nat.zero_le _, Nat.zero_le _⟩ (fun r_1 hr_1 => ?_)
  subst hr_1
  refine lv_icmp_ge (tgt := 61) hx hb dX4_creditedPrices_12 (by decide) (fun c_2 => ?_) (fun c_2 => ?_)
  · have hge := tk_ge (by omega) (by omega) c_2
    refine lv_iload_n hx hb dX4_creditedPrices_61 rfl (lv_at hl 3 rfl) ?_
    exact W.iret (v := acc) hx hb hr (fun t9 h9 w9 => ⟨acc, rfl, sumI_e hinv hi hge, h9⟩) (fun q hq => absurd hq List.not_mem_nil) dX4_creditedPrices_62
  · have hlt := tk_lt (by omega) (by omega) c_2
    refine lv_aload_n hx hb dX4_creditedPrices_15 rfl (lv_at hl 0 rfl) ?_
    refine tk_get hx hb hts inX4 hown hK hM hP.h rfl 1 (by decide) (hts (.fieldLink RX4 16 "TicketForge" "entryList" "Ljava/util/ArrayList;") (by decide +kernel)) (fun _ h9 => h9) rfl dX4_creditedPrices_16 ?_
    refine lv_iload_n hx hb dX4_creditedPrices_19 rfl (lv_at hl 2 rfl) ?_
    have hg_4 : i < nE M := by omega
    refine tk_cVq (As := [.int (nI i)]) S0 (c_Jx4a65c_get_915e3 l A D ac dE _ hP.le i hg_4 (by omega)) (cwV 1 hts gX4_creditedPrices_Jx4a65c_get_915e3 rfl rfl rfl (by decide +kernel) ⟨Nat.le_of_ble_eq_true rfl, Nat.le_of_ble_eq_true rfl⟩) (tkX.blind) (tkX.at hM hK hA hF hO hS) (LX.rec hP.le hK hM) rfl hl.1 rfl (Nat.le_of_ble_eq_true rfl) dX4_creditedPrices_20 ⟨Nat.zero_le _, Nat.zero_le _⟩ (fun r_3 hr_3 => ?_)
    subst hr_3
    refine va_castY (C := "TicketForge$Entry") hx hb hown (hts (.classLink RX4 178 "TicketForge$Entry") (by decide +kernel)) (hF.2.2.2 ("TicketForge$Entry", "TicketForge$Entry") (by decide +kernel)) (tk_recv hK hM (hP.e hg_4) rfl (ci := 3) (q := (RX0, TX0, 7))) dX4_creditedPrices_23 ?_
    refine lv_astore (lv' := [(4, .ref (α 2 i)), (0, .ref h0), (1, .ref (α 3 v)), (3, .int (nI i)), (2, .int acc)]) hx hb dX4_creditedPrices_26 hl (by decide) rfl (fun ls hl => ?_)
    refine lv_aload hx hb dX4_creditedPrices_28 (lv_at hl 0 rfl) ?_
    refine tk_get hx hb hts inX0 hown hK hM (hP.e hg_4) rfl 6 (by decide) (hts (.fieldLink RX4 284 "TicketForge$Entry" "invoice" "LTicketForge$Invoice;") (by decide +kernel)) (fun _ h9 => h9) rfl dX4_creditedPrices_30 ?_
    refine lv_aload_n hx hb dX4_creditedPrices_33 rfl (lv_at hl 2 rfl) ?_
    refine lv_acmp_ne (rx := (invR α M i)) (ry := (some (α 3 v))) (tgt := 55) hx hb dX4_creditedPrices_34 (by decide) (fun c_5 => ?_) (fun c_5 => ?_)
    · have c_5 := mt (hP.invE hB hg_4 hv).mpr c_5
      refine lv_iinc (v := (nI (i + 1))) (lv' := [(3, .int (nI (i + 1))), (4, .ref (α 2 i)), (0, .ref h0), (1, .ref (α 3 v)), (2, .int acc)]) hx hb dX4_creditedPrices_55 hl (k := 3) rfl (nI_1 i) (by decide) rfl (fun ls hl => ?_)
      refine lv_goto (tgt := 4) hx hb dX4_creditedPrices_58 (by decide) ?_
      exact ih _ ls (by omega) ⟨(lv_sub hl [2, 3, 0, 4] rfl), sumI_f hinv (if_neg (fun h9 => c_5 h9.1))⟩
    · have c_5 := (hP.invE hB hg_4 hv).mp c_5
      refine lv_aload hx hb dX4_creditedPrices_37 (lv_at hl 0 rfl) ?_
      refine tk_get hx hb hts inX0 hown hK hM (hP.e hg_4) rfl 4 (by decide) (hts (.fieldLink RX4 187 "TicketForge$Entry" "state" "C") (by decide +kernel)) (fun _ h9 => h9) rfl dX4_creditedPrices_39 ?_
      refine lv_bipush (v := 99) hx hb dX4_creditedPrices_42 (by decide) ?_
      refine lv_icmp_ne (tgt := 55) hx hb dX4_creditedPrices_44 (by decide) (fun c_6 => ?_) (fun c_6 => ?_)
      · skip
        refine lv_iinc (v := (nI (i + 1))) (lv' := [(3, .int (nI (i + 1))), (4, .ref (α 2 i)), (0, .ref h0), (1, .ref (α 3 v)), (2, .int acc)]) hx hb dX4_creditedPrices_55 hl (k := 3) rfl (nI_1 i) (by decide) rfl (fun ls hl => ?_)
        refine lv_goto (tgt := 4) hx hb dX4_creditedPrices_58 (by decide) ?_
        exact ih _ ls (by omega) ⟨(lv_sub hl [2, 3, 0, 4] rfl), sumI_f hinv (if_neg (fun h9 => c_6 h9.2))⟩
      · skip
        refine lv_iload_n hx hb dX4_creditedPrices_47 rfl (lv_at hl 4 rfl) ?_
        refine lv_aload hx hb dX4_creditedPrices_48 (lv_at hl 0 rfl) ?_
        refine tk_get hx hb hts inX0 hown hK hM (hP.e hg_4) rfl 5 (by decide) (hts (.fieldLink RX4 207 "TicketForge$Entry" "price" "I") (by decide +kernel)) (fun _ h9 => h9) rfl dX4_creditedPrices_50 ?_
        refine lv_iadd hx hb dX4_creditedPrices_53 ?_
        refine lv_istore_n (lv' := [(2, .int (acc + (M 13 i))), (4, .ref (α 2 i)), (0, .ref h0), (1, .ref (α 3 v)), (3, .int (nI i))]) hx hb dX4_creditedPrices_54 rfl hl (by decide) rfl (fun ls hl => ?_)
        refine lv_iinc (v := (nI (i + 1))) (lv' := [(3, .int (nI (i + 1))), (2, .int (acc + (M 13 i))), (4, .ref (α 2 i)), (0, .ref h0), (1, .ref (α 3 v))]) hx hb dX4_creditedPrices_55 hl (k := 4) rfl (nI_1 i) (by decide) rfl (fun ls hl => ?_)
        refine lv_goto (tgt := 4) hx hb dX4_creditedPrices_58 (by decide) ?_
        exact ih _ ls (by omega) ⟨(lv_sub hl [3, 4, 0, 1] rfl), sumI_t hinv (if_pos ⟨c_5, c_6⟩)⟩
set_option maxHeartbeats 4000000 in
set_option maxRecDepth 100000 in
theorem c_X4_areChargedHoursWithin (l : Launch) (A : Nat → Prop) (D : va_G) (ac : Nat → ClassId) (dE : Nat) (G : TG) {h0 : Nat} {α : Nat → Nat → Nat} {M : TS} {nv : Nat} (hP : PX ac dE h0 α M nv G) (hW : W0 M) (hB : WB M nv) (cap : Int32) : Met l yX4_areChargedHoursWithin wsX4_areChargedHoursWithin ({ frames := 4, cells := 0, slots := 0, locals := 220 } : Room) (va_Pc [.ref h0, .int cap] (tkX A D ac dE G)) (vp_Si (fun z => tkB z (wthn M cap))) 0 0 (fun _ => False) := by
  refine Met.ofW (cc := cX4_areChargedHoursWithin) (maxL := 4) (ret := (some .boolean)) (by decide) rfl ?_
  intro p e s m args below meth c s₁ B hml hv
  obtain ⟨rfl, ⟨hM, hK, hA, hF⟩, hO⟩ := hv
  have hS : va_S A s.heap s.heap [] := va_S.rf
  have hx := B.exec
  have hb := B.bytes
  have hr := B.returns
  have hts := atoms_spec (ws := wsX4_areChargedHoursWithin) B.pre
  have hown : s.vm.findClass RX4 = some m.cls := findClass_of_methodNamed B.named
  have hlocks := B.notSynchronized
  have S0 : CallFix p m c cX4_areChargedHoursWithin 4 s ([.ref h0, .int cap] : List Value).toArray wsX4_areChargedHoursWithin RX4 := ⟨hx, hb, hml, hown, hts⟩
  have inX4 : ∀ w ∈ wsX40, w ∈ wsX4_areChargedHoursWithin := by decide +kernel
  have inX0 : ∀ w ∈ wsX00, w ∈ wsX4_areChargedHoursWithin := by decide +kernel
  have hl := lv_entry ([.ref h0, .int cap]) (n := 4) (Nat.le_of_ble_eq_true rfl)
  rw [lg_entry_eq]
  generalize (lg_sl ([.ref h0, .int cap]) ++ List.replicate (4 - (lg_sl ([.ref h0, .int cap])).length) Slot.unset).toArray = ls at hl ⊢
  have hl : lv_has ls 4 [(0, .ref h0), (1, .int cap)] := hl
  have bT := hW.t.2
  have bE := hW.e.2
  have bV := hW.v.2
  refine lv_iconst (v := 0) hx hb dX4_areChargedHoursWithin_0 (by decide) ?_
  refine lv_istore_n (lv' := [(2, .int 0), (0, .ref h0), (1, .int cap)]) hx hb dX4_areChargedHoursWithin_1 rfl hl (by decide) rfl (fun ls hl => ?_)
  refine tk_f0 (Wf := W p l e _ s m _ below meth c _ _ _ _ _) (nE M) (fun i ls => lv_has ls 4 [(0, .ref h0), (1, .int cap), (2, .int (nI i))] ∧ allB (fun k => !billed M k || decide (charged M (M 10 k) (M 11 k) ≤ cap)) i = true) (fun i ls hi hinv ih => ?_)  ls ⟨(lv_sub hl [1, 2, 0] rfl), rfl⟩
  obtain ⟨hl, hinv⟩ := hinv
  refine lv_iload_n hx hb dX4_areChargedHoursWithin_2 rfl (lv_at hl 2 rfl) ?_
  refine lv_aload_n hx hb dX4_areChargedHoursWithin_3 rfl (lv_at hl 0 rfl) ?_
  refine tk_get hx hb hts inX4 hown hK hM hP.h rfl 1 (by decide) (hts (.fieldLink RX4 16 "TicketForge" "entryList" "Ljava/util/ArrayList;") (by decide +kernel)) (fun _ h9 => h9) rfl dX4_areChargedHoursWithin_4 ?_
  refine tk_cVi (As := []) S0 (c_Jx4a65c_size_8abf5 l A D ac dE _ hP.le) (cwV 0 hts gX4_areChargedHoursWithin_Jx4a65c_size_8abf5 rfl rfl rfl (by decide +kernel) ⟨Nat.le_of_ble_eq_true rfl, Nat.le_of_ble_eq_true rfl⟩) (tkX.blind) (tkX.at hM hK hA hF hO hS) (LX.rec hP.le hK hM) rfl hl.1 rfl (Nat.le_of_ble_eq_true rfl) dX4_areChargedHoursWithin_7 ⟨Nat.zero_le _, Nat.zero_le _⟩ (fun r_1 hr_1 => ?_)
  subst hr_1
  refine lv_icmp_ge (tgt := 56) hx hb dX4_areChargedHoursWithin_10 (by decide) (fun c_2 => ?_) (fun c_2 => ?_)
  · have hge := tk_ge (by omega) (by omega) c_2
    refine lv_iconst (v := 1) hx hb dX4_areChargedHoursWithin_56 (by decide) ?_
    exact W.zret (v := 1) hx hb hr rfl (fun t9 h9 w9 => ⟨1, rfl, (tkB_1 (allB_e hinv hi hge)), h9⟩) (fun q hq => absurd hq List.not_mem_nil) dX4_areChargedHoursWithin_57
  · have hlt := tk_lt (by omega) (by omega) c_2
    refine lv_aload_n hx hb dX4_areChargedHoursWithin_13 rfl (lv_at hl 0 rfl) ?_
    refine tk_get hx hb hts inX4 hown hK hM hP.h rfl 1 (by decide) (hts (.fieldLink RX4 16 "TicketForge" "entryList" "Ljava/util/ArrayList;") (by decide +kernel)) (fun _ h9 => h9) rfl dX4_areChargedHoursWithin_14 ?_
    refine lv_iload_n hx hb dX4_areChargedHoursWithin_17 rfl (lv_at hl 2 rfl) ?_
    have hg_4 : i < nE M := by omega
    refine tk_cVq (As := [.int (nI i)]) S0 (c_Jx4a65c_get_915e3 l A D ac dE _ hP.le i hg_4 (by omega)) (cwV 1 hts gX4_areChargedHoursWithin_Jx4a65c_get_915e3 rfl rfl rfl (by decide +kernel) ⟨Nat.le_of_ble_eq_true rfl, Nat.le_of_ble_eq_true rfl⟩) (tkX.blind) (tkX.at hM hK hA hF hO hS) (LX.rec hP.le hK hM) rfl hl.1 rfl (Nat.le_of_ble_eq_true rfl) dX4_areChargedHoursWithin_18 ⟨Nat.zero_le _, Nat.zero_le _⟩ (fun r_3 hr_3 => ?_)
    subst hr_3
    refine va_castY (C := "TicketForge$Entry") hx hb hown (hts (.classLink RX4 178 "TicketForge$Entry") (by decide +kernel)) (hF.2.2.2 ("TicketForge$Entry", "TicketForge$Entry") (by decide +kernel)) (tk_recv hK hM (hP.e hg_4) rfl (ci := 3) (q := (RX0, TX0, 7))) dX4_areChargedHoursWithin_21 ?_
    refine lv_astore_n (lv' := [(3, .ref (α 2 i)), (0, .ref h0), (1, .int cap), (2, .int (nI i))]) hx hb dX4_areChargedHoursWithin_24 rfl hl (by decide) rfl (fun ls hl => ?_)
    refine lv_aload_n hx hb dX4_areChargedHoursWithin_25 rfl (lv_at hl 0 rfl) ?_
    refine tk_get hx hb hts inX0 hown hK hM (hP.e hg_4) rfl 6 (by decide) (hts (.fieldLink RX4 284 "TicketForge$Entry" "invoice" "LTicketForge$Invoice;") (by decide +kernel)) (fun _ h9 => h9) rfl dX4_areChargedHoursWithin_26 ?_
    rcases tk_bool (billed M i) with hbvs_5 | hbvs_5
    · rw [invR_n hbvs_5]
      refine lv_ifnullN (tgt := 50) hx hb dX4_areChargedHoursWithin_29 (by decide) ?_
      refine lv_iinc (v := (nI (i + 1))) (lv' := [(2, .int (nI (i + 1))), (3, .ref (α 2 i)), (0, .ref h0), (1, .int cap)]) hx hb dX4_areChargedHoursWithin_50 hl (k := 3) rfl (nI_1 i) (by decide) rfl (fun ls hl => ?_)
      refine lv_goto (tgt := 2) hx hb dX4_areChargedHoursWithin_53 (by decide) ?_
      exact ih  ls (by omega) ⟨(lv_sub hl [2, 3, 0] rfl), allB_t hinv (by simp [hbvs_5])⟩
    · obtain ⟨s_5, hls_5, evs_5⟩ := hB.2 i hg_4 hbvs_5
      have hzs_5 := hB.1
      rw [invR_s (by omega) hbvs_5 evs_5]
      refine lv_ifnull hx hb dX4_areChargedHoursWithin_29 ?_
      refine lv_aload_n hx hb dX4_areChargedHoursWithin_32 rfl (lv_at hl 1 rfl) ?_
      refine lv_aload_n hx hb dX4_areChargedHoursWithin_33 rfl (lv_at hl 0 rfl) ?_
      refine tk_get hx hb hts inX0 hown hK hM (hP.e hg_4) rfl 1 (by decide) (hts (.fieldLink RX4 345 "TicketForge$Entry" "person" "I") (by decide +kernel)) (fun _ h9 => h9) rfl dX4_areChargedHoursWithin_34 ?_
      refine lv_aload_n hx hb dX4_areChargedHoursWithin_37 rfl (lv_at hl 0 rfl) ?_
      refine tk_get hx hb hts inX0 hown hK hM (hP.e hg_4) rfl 2 (by decide) (hts (.fieldLink RX4 190 "TicketForge$Entry" "week" "I") (by decide +kernel)) (fun _ h9 => h9) rfl dX4_areChargedHoursWithin_38 ?_
      refine tk_cVi (As := [.int (M 10 i), .int (M 11 i)]) S0 (c_X4_chargedHours l A D ac dE _ hP hW hB (M 10 i) (M 11 i)) (cwV 2 hts gX4_areChargedHoursWithin_X4_chargedHours rfl rfl rfl (by decide +kernel) ⟨Nat.le_of_ble_eq_true rfl, Nat.le_of_ble_eq_true rfl⟩) (tkX.blind) (tkX.at hM hK hA hF hO hS) (tk_recv hK hM hP.h rfl) rfl hl.1 rfl (Nat.le_of_ble_eq_true rfl) dX4_areChargedHoursWithin_41 ⟨Nat.zero_le _, Nat.zero_le _⟩ (fun r_6 hr_6 => ?_)
      subst hr_6
      refine lv_iload_n hx hb dX4_areChargedHoursWithin_44 rfl (lv_at hl 2 rfl) ?_
      refine lv_icmp_le (tgt := 50) hx hb dX4_areChargedHoursWithin_45 (by decide) (fun c_7 => ?_) (fun c_7 => ?_)
      · skip
        refine lv_iinc (v := (nI (i + 1))) (lv' := [(2, .int (nI (i + 1))), (3, .ref (α 2 i)), (0, .ref h0), (1, .int cap)]) hx hb dX4_areChargedHoursWithin_50 hl (k := 3) rfl (nI_1 i) (by decide) rfl (fun ls hl => ?_)
        refine lv_goto (tgt := 2) hx hb dX4_areChargedHoursWithin_53 (by decide) ?_
        exact ih  ls (by omega) ⟨(lv_sub hl [2, 3, 0] rfl), allB_t hinv (by simp [c_7])⟩
      · skip
        refine lv_iconst (v := 0) hx hb dX4_areChargedHoursWithin_48 (by decide) ?_
        exact W.zret (v := 0) hx hb hr rfl (fun t9 h9 w9 => ⟨0, rfl, (tkB_0 (allB_f (i := i) (by simp [hbvs_5, c_7]) hlt)), h9⟩) (fun q hq => absurd hq List.not_mem_nil) dX4_areChargedHoursWithin_49
