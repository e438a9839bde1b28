section TKNEW
variable {p : Program} {l : Launch} {e : Env} {R : Room} {s : State} {m : MethodId} {args : Array Value} {below : List Frame} {meth : Method} {c : Code} {H : Heap} {locs : List Loc} {cells slots : Nat} {Q : State → Prop}
variable {cc : ByteArray} {pc : Nat} {ls : Array Slot} {rest : List Value} {D : va_G} {A : Nat → Prop} {ac : Nat → ClassId} {G : TG} {H0 : Heap}
theorem tk_newint (hx : p.tables.exec = Jvm.exec) (hb : c.code = cc) (harr : (Cond.arrayClass .int).before args s = true) (hK : va_K D vwCl (tkT ac) s) (hM : tkM A D G H) (hS : va_S A H0 H locs) (hA : ∀ q, H0.size ≤ q → A q)
    {n : Int32} {N' : Nat} (hn : ¬ n < 0) (hN : n.toNatClampNeg = N') (hbytes : N' * 4 ≤ 536870912) (hcells : cells + 1 ≤ R.cells) (hslots : slots + N' ≤ R.slots) (hdg : decode cc pc = .ok (.newarray .int, 2))
    (kk : ∀ (q : Nat) (H1 : Heap), G q = none → H.size ≤ q → tkM A D (va_up G q (some (.inl (ac 1, N', .inl (fun _ => 0))))) H1 → va_S A H0 H1 locs → W p l e R s m args below meth c H1 locs (cells + 1) (slots + N') Q (F0 m (pc + 2) ls (.ref q :: rest))) : W p l e R s m args below meth c H locs cells slots Q (F0 m pc ls (.int n :: rest)) :=
  tk_newa (atype := .int) (ty := .int) (a0 := (N', .inl (fun _ => 0))) hx hb harr rfl hK 1 rfl (fun _ h9 => h9) hM hS hA (fun _ => rfl) hn hN hbytes hcells hslots hdg kk
theorem tk_newchar (hx : p.tables.exec = Jvm.exec) (hb : c.code = cc) (harr : (Cond.arrayClass .char).before args s = true) (hK : va_K D vwCl (tkT ac) s) (hM : tkM A D G H) (hS : va_S A H0 H locs) (hA : ∀ q, H0.size ≤ q → A q)
    {n : Int32} {N' : Nat} (hn : ¬ n < 0) (hN : n.toNatClampNeg = N') (hbytes : N' * 2 ≤ 536870912) (hcells : cells + 1 ≤ R.cells) (hslots : slots + N' ≤ R.slots) (hdg : decode cc pc = .ok (.newarray .char, 2))
    (kk : ∀ (q : Nat) (H1 : Heap), G q = none → H.size ≤ q → tkM A D (va_up G q (some (.inl (ac 0, N', .inl (fun _ => 0))))) H1 → va_S A H0 H1 locs → W p l e R s m args below meth c H1 locs (cells + 1) (slots + N') Q (F0 m (pc + 2) ls (.ref q :: rest))) : W p l e R s m args below meth c H locs cells slots Q (F0 m pc ls (.int n :: rest)) :=
  tk_newa (atype := .char) (ty := .char) (a0 := (N', .inl (fun _ => 0))) hx hb harr rfl hK 0 rfl (fun _ h9 => h9) hM hS hA (fun _ => rfl) hn hN hbytes hcells hslots hdg kk
theorem tk_newboolean (hx : p.tables.exec = Jvm.exec) (hb : c.code = cc) (harr : (Cond.arrayClass .boolean).before args s = true) (hK : va_K D vwCl (tkT ac) s) (hM : tkM A D G H) (hS : va_S A H0 H locs) (hA : ∀ q, H0.size ≤ q → A q)
    {n : Int32} {N' : Nat} (hn : ¬ n < 0) (hN : n.toNatClampNeg = N') (hbytes : N' * 1 ≤ 536870912) (hcells : cells + 1 ≤ R.cells) (hslots : slots + N' ≤ R.slots) (hdg : decode cc pc = .ok (.newarray .boolean, 2))
    (kk : ∀ (q : Nat) (H1 : Heap), G q = none → H.size ≤ q → tkM A D (va_up G q (some (.inl (ac 2, N', .inl (fun _ => 0))))) H1 → va_S A H0 H1 locs → W p l e R s m args below meth c H1 locs (cells + 1) (slots + N') Q (F0 m (pc + 2) ls (.ref q :: rest))) : W p l e R s m args below meth c H locs cells slots Q (F0 m pc ls (.int n :: rest)) :=
  tk_newa (atype := .boolean) (ty := .boolean) (a0 := (N', .inl (fun _ => 0))) hx hb harr rfl hK 2 rfl (fun _ h9 => h9) hM hS hA (fun _ => rfl) hn hN hbytes hcells hslots hdg kk
end TKNEW
/-! the model: its constructor -/
def MI (i : Nat) : TS := fun f => if f = 0 then upd (upd (fun _ => 0) 23 40) 26 40 else if f = 15 then fillF (fun _ => 0) 50 i else fun _ => 0
theorem MI_0 {f : Nat} (h : f ≠ 0) : MI 0 f = fun _ => 0 := by
  unfold MI
  rw [if_neg h]
  split <;> rfl
theorem MI_s (i : Nat) : st (MI i) 15 i 50 = MI (i + 1) := by
  funext f
  by_cases h : f = 15
  · subst h
    rw [st_eq]
    rfl
  · rw [st_ne _ _ _ h]
    unfold MI
    by_cases h0 : f = 0
    · rw [if_pos h0, if_pos h0]
    · rw [if_neg h0, if_neg h0, if_neg h, if_neg h]
def PI (ac : Nat → ClassId) (m0 k : Nat) (am : Nat → Nat) (fs : List Value) (G : TG) : Prop := G m0 = some (.inr (8, fs)) ∧ (∀ j, j < k → G (am j) = some (.inl (ac (rC j), rL j, .inl (fun _ => 0)))) ∧ ∀ i j, i < k → j < k → am i = am j → i = j
theorem PI.step {ac : Nat → ClassId} {m0 k : Nat} {am : Nat → Nat} {fs fs' : List Value} {G : TG} (h : PI ac m0 k am fs G) {q : Nat} (hq : G q = none) : PI ac m0 (k + 1) (va_up am k q) fs' (va_up (va_up G q (some (.inl (ac (rC k), rL k, .inl (fun _ => 0))))) m0 (some (.inr (8, fs')))) := by
  have hqm : q ≠ m0 := fun e => by rw [e, h.1] at hq; cases hq
  refine ⟨va_up_self _ _ _, fun j hj => ?_, fun i j hi hj e => ?_⟩
  · by_cases c : j = k
    · subst c
      rw [va_up_self, va_up_ne _ _ hqm, va_up_self]
    · have hjk : j < k := by omega
      have hne : am j ≠ m0 := fun e => by
        have h8 := h.2.1 j hjk
        rw [e, h.1] at h8
        cases h8
      have hnq : am j ≠ q := fun e => by
        have h8 := h.2.1 j hjk
        rw [e, hq] at h8
        cases h8
      rw [va_up_ne _ _ c, va_up_ne _ _ hne, va_up_ne _ _ hnq]
      exact h.2.1 j hjk
  · by_cases c1 : i = k
    · by_cases c2 : j = k
      · omega
      · rw [c1, va_up_self, va_up_ne _ _ c2] at e
        have h8 := h.2.1 j (by omega)
        rw [← e, hq] at h8
        cases h8
    · by_cases c2 : j = k
      · rw [c2, va_up_self, va_up_ne _ _ c1] at e
        have h8 := h.2.1 i (by omega)
        rw [e, hq] at h8
        cases h8
      · rw [va_up_ne _ _ c1, va_up_ne _ _ c2] at e
        exact h.2.2 i j (by omega) (by omega) e
theorem PI.sc {ac : Nat → ClassId} {m0 k : Nat} {am : Nat → Nat} {fs fs' : List Value} {G : TG} (h : PI ac m0 k am fs G) : PI ac m0 k am fs' (va_up G m0 (some (.inr (8, fs')))) := by
  refine ⟨va_up_self _ _ _, fun j hj => ?_, h.2.2⟩
  have hne : am j ≠ m0 := fun e => by
    have h8 := h.2.1 j hj
    rw [e, h.1] at h8
    cases h8
  rw [va_up_ne _ _ hne]
  exact h.2.1 j hj
theorem PI.ne {ac : Nat → ClassId} {m0 k : Nat} {am : Nat → Nat} {fs : List Value} {G : TG} (h : PI ac m0 k am fs G) {q : Nat} (hq : G q = none) {y : Option va_E} : va_up G q y m0 = some (.inr (8, fs)) := by
  rw [va_up_ne _ _ (fun e => by rw [← e, h.1] at hq; cases hq)]
  exact h.1
theorem PI.pr {ac : Nat → ClassId} {m0 : Nat} {am : Nat → Nat} {G : TG} (h : PI ac m0 18 am (mF am 0 (MI 0)) G) : PR ac m0 am 0 (MI 0) G := ⟨h.1, fun k hk => by rw [MI_0 (Nat.succ_ne_zero k)]; exact h.2.1 k hk, h.2.2⟩
set_option maxHeartbeats 40000000 in
set_option maxRecDepth 100000 in
theorem c_X5_init (l : Launch) (A : Nat → Prop) (D : va_G) (ac : Nat → ClassId) (G : TG) {m0 : Nat} (hq : G m0 = some (.inr (8, [.null, .null, .null, .null, .null, .null, .null, .null, .null, .null, .null, .null, .null, .null, .null, .null, .null, .null, .int 0, .int 0, .int 0, .int 0, .int 0, .int 0, .int 0, .int 0]))) : Met l yX5_init wsX5_init ({ frames := 1, cells := 18, slots := 850, locals := 100 } : Room) (va_Pc [.ref m0] (fun U => tkJ A D ac G U ∧ ∀ q, U.heap.size ≤ q → A q)) (va_Qv (fun (G9 : TG) => ∃ am : Nat → Nat, PR ac m0 am 0 (MI 4) G9) (fun (G9 : TG) t => tkM A D G9 t.heap) A) 18 850 A := by
  refine Met.ofW (cc := cX5_init) (maxL := 2) (ret := none) (by decide) rfl ?_
  intro p e s m args below meth c s₁ B hml hv
  obtain ⟨rfl, ⟨hM, hK⟩, hA⟩ := hv
  have hS : va_S A s.heap s.heap [] := va_S.rf
  have hx := B.exec
  have hb := B.bytes
  have hr := B.returns
  have hts := atoms_spec (ws := wsX5_init) B.pre
  have hown : s.vm.findClass RX5 = some m.cls := findClass_of_methodNamed B.named
  have hlocks := B.notSynchronized
  have hin : meth.name = "<init>" := (name_of_methodNamed B.named B.method).1
  have inX5 : ∀ w ∈ wsX50, w ∈ wsX5_init := by decide +kernel
  have hl := lv_entry ([.ref m0]) (n := 2) (Nat.le_of_ble_eq_true rfl)
  rw [lg_entry_eq]
  generalize (lg_sl ([.ref m0]) ++ List.replicate (2 - (lg_sl ([.ref m0])).length) Slot.unset).toArray = ls at hl ⊢
  have hl : lv_has ls 2 [(0, .ref m0)] := hl
  have hI : PI ac m0 0 (fun _ => 0) [.null, .null, .null, .null, .null, .null, .null, .null, .null, .null, .null, .null, .null, .null, .null, .null, .null, .null, .int 0, .int 0, .int 0, .int 0, .int 0, .int 0, .int 0, .int 0] G := ⟨hq, fun j hj => absurd hj (Nat.not_lt_zero j), fun i j hi _ _ => absurd hi (Nat.not_lt_zero i)⟩
  refine lv_aload_n hx hb dX5_init_0 rfl (lv_at hl 0 rfl) ?_
  refine W.objInit hx hb hown (hts (.methodLink RX5 1 objectInit) (by decide +kernel)) (hts (.instanceMethod objectInit) (by decide +kernel)) (hts (.code objectInit ⟨#[0xb1]⟩ 1 none) (by decide +kernel)) rfl (hl.1.trans hml.symm) rfl dX5_init_1 (Nat.le_of_ble_eq_true rfl) (Nat.le_of_ble_eq_true rfl) ?_
  refine lv_aload_n hx hb dX5_init_4 rfl (lv_at hl 0 rfl) ?_
  refine lv_bipush (v := 16) hx hb dX5_init_5 (by decide) ?_
  refine tk_newint (N' := 16) hx hb (hts (.arrayClass .int) (by decide +kernel)) hK hM hS hA (by decide) (by decide) (Nat.le_of_ble_eq_true rfl) (Nat.le_of_ble_eq_true rfl) (Nat.le_of_ble_eq_true rfl) dX5_init_7 (fun q_0 H hn hz hM hS => ?_)
  refine tk_putF (ty := .array .int) hx hb hts inX5 tyX5 tyX5_ok nmX5 hown hK hM hS (hI.ne hn) rfl 0 (by decide) (hts (.fieldLink RX5 7 "TicketForgeModel" "parents" "[I") (by decide +kernel)) (fun _ h9 => h9) rfl hin rfl (by decide +kernel) rfl rfl (Nat.le_of_ble_eq_true rfl) dX5_init_9 (fun H locs hM hS => ?_)
  obtain ⟨G, hI, hM⟩ : ∃ (G : TG), PI ac m0 1 (va_up (fun _ => 0) 0 q_0) [.ref q_0, .null, .null, .null, .null, .null, .null, .null, .null, .null, .null, .null, .null, .null, .null, .null, .null, .null, .int 0, .int 0, .int 0, .int 0, .int 0, .int 0, .int 0, .int 0] G ∧ tkM A D G H := ⟨_, hI.step hn, hM⟩
  refine lv_aload_n hx hb dX5_init_12 rfl (lv_at hl 0 rfl) ?_
  refine lv_bipush (v := 16) hx hb dX5_init_13 (by decide) ?_
  refine tk_newint (N' := 16) hx hb (hts (.arrayClass .int) (by decide +kernel)) hK hM hS hA (by decide) (by decide) (Nat.le_of_ble_eq_true rfl) (Nat.le_of_ble_eq_true rfl) (Nat.le_of_ble_eq_true rfl) dX5_init_15 (fun q_1 H hn hz hM hS => ?_)
  refine tk_putF (ty := .array .int) hx hb hts inX5 tyX5 tyX5_ok nmX5 hown hK hM hS (hI.ne hn) rfl 1 (by decide) (hts (.fieldLink RX5 13 "TicketForgeModel" "estimates" "[I") (by decide +kernel)) (fun _ h9 => h9) rfl hin rfl (by decide +kernel) rfl rfl (Nat.le_of_ble_eq_true rfl) dX5_init_17 (fun H locs hM hS => ?_)
  obtain ⟨G, hI, hM⟩ : ∃ (G : TG), PI ac m0 2 (va_up (va_up (fun _ => 0) 0 q_0) 1 q_1) [.ref q_0, .ref q_1, .null, .null, .null, .null, .null, .null, .null, .null, .null, .null, .null, .null, .null, .null, .null, .null, .int 0, .int 0, .int 0, .int 0, .int 0, .int 0, .int 0, .int 0] G ∧ tkM A D G H := ⟨_, hI.step hn, hM⟩
  refine lv_aload_n hx hb dX5_init_20 rfl (lv_at hl 0 rfl) ?_
  refine lv_bipush (v := 16) hx hb dX5_init_21 (by decide) ?_
  refine tk_newint (N' := 16) hx hb (hts (.arrayClass .int) (by decide +kernel)) hK hM hS hA (by decide) (by decide) (Nat.le_of_ble_eq_true rfl) (Nat.le_of_ble_eq_true rfl) (Nat.le_of_ble_eq_true rfl) dX5_init_23 (fun q_2 H hn hz hM hS => ?_)
  refine tk_putF (ty := .array .int) hx hb hts inX5 tyX5 tyX5_ok nmX5 hown hK hM hS (hI.ne hn) rfl 2 (by decide) (hts (.fieldLink RX5 16 "TicketForgeModel" "budgets" "[I") (by decide +kernel)) (fun _ h9 => h9) rfl hin rfl (by decide +kernel) rfl rfl (Nat.le_of_ble_eq_true rfl) dX5_init_25 (fun H locs hM hS => ?_)
  obtain ⟨G, hI, hM⟩ : ∃ (G : TG), PI ac m0 3 (va_up (va_up (va_up (fun _ => 0) 0 q_0) 1 q_1) 2 q_2) [.ref q_0, .ref q_1, .ref q_2, .null, .null, .null, .null, .null, .null, .null, .null, .null, .null, .null, .null, .null, .null, .null, .int 0, .int 0, .int 0, .int 0, .int 0, .int 0, .int 0, .int 0] G ∧ tkM A D G H := ⟨_, hI.step hn, hM⟩
  refine lv_aload_n hx hb dX5_init_28 rfl (lv_at hl 0 rfl) ?_
  refine lv_bipush (v := 16) hx hb dX5_init_29 (by decide) ?_
  refine tk_newchar (N' := 16) hx hb (hts (.arrayClass .char) (by decide +kernel)) hK hM hS hA (by decide) (by decide) (Nat.le_of_ble_eq_true rfl) (Nat.le_of_ble_eq_true rfl) (Nat.le_of_ble_eq_true rfl) dX5_init_31 (fun q_3 H hn hz hM hS => ?_)
  refine tk_putF (ty := .array .char) hx hb hts inX5 tyX5 tyX5_ok nmX5 hown hK hM hS (hI.ne hn) rfl 3 (by decide) (hts (.fieldLink RX5 19 "TicketForgeModel" "states" "[C") (by decide +kernel)) (fun _ h9 => h9) rfl hin rfl (by decide +kernel) rfl rfl (Nat.le_of_ble_eq_true rfl) dX5_init_33 (fun H locs hM hS => ?_)
  obtain ⟨G, hI, hM⟩ : ∃ (G : TG), PI ac m0 4 (va_up (va_up (va_up (va_up (fun _ => 0) 0 q_0) 1 q_1) 2 q_2) 3 q_3) [.ref q_0, .ref q_1, .ref q_2, .ref q_3, .null, .null, .null, .null, .null, .null, .null, .null, .null, .null, .null, .null, .null, .null, .int 0, .int 0, .int 0, .int 0, .int 0, .int 0, .int 0, .int 0] G ∧ tkM A D G H := ⟨_, hI.step hn, hM⟩
  refine lv_aload_n hx hb dX5_init_36 rfl (lv_at hl 0 rfl) ?_
  refine lv_bipush (v := 60) hx hb dX5_init_37 (by decide) ?_
  refine tk_newchar (N' := 60) hx hb (hts (.arrayClass .char) (by decide +kernel)) hK hM hS hA (by decide) (by decide) (Nat.le_of_ble_eq_true rfl) (Nat.le_of_ble_eq_true rfl) (Nat.le_of_ble_eq_true rfl) dX5_init_39 (fun q_4 H hn hz hM hS => ?_)
  refine tk_putF (ty := .array .char) hx hb hts inX5 tyX5 tyX5_ok nmX5 hown hK hM hS (hI.ne hn) rfl 4 (by decide) (hts (.fieldLink RX5 23 "TicketForgeModel" "entryStates" "[C") (by decide +kernel)) (fun _ h9 => h9) rfl hin rfl (by decide +kernel) rfl rfl (Nat.le_of_ble_eq_true rfl) dX5_init_41 (fun H locs hM hS => ?_)
  obtain ⟨G, hI, hM⟩ : ∃ (G : TG), PI ac m0 5 (va_up (va_up (va_up (va_up (va_up (fun _ => 0) 0 q_0) 1 q_1) 2 q_2) 3 q_3) 4 q_4) [.ref q_0, .ref q_1, .ref q_2, .ref q_3, .ref q_4, .null, .null, .null, .null, .null, .null, .null, .null, .null, .null, .null, .null, .null, .int 0, .int 0, .int 0, .int 0, .int 0, .int 0, .int 0, .int 0] G ∧ tkM A D G H := ⟨_, hI.step hn, hM⟩
  refine lv_aload_n hx hb dX5_init_44 rfl (lv_at hl 0 rfl) ?_
  refine lv_sipush (v := 256) hx hb dX5_init_45 (by decide) ?_
  refine tk_newboolean (N' := 256) hx hb (hts (.arrayClass .boolean) (by decide +kernel)) hK hM hS hA (by decide) (by decide) (Nat.le_of_ble_eq_true rfl) (Nat.le_of_ble_eq_true rfl) (Nat.le_of_ble_eq_true rfl) dX5_init_48 (fun q_5 H hn hz hM hS => ?_)
  refine tk_putF (ty := .array .boolean) hx hb hts inX5 tyX5 tyX5_ok nmX5 hown hK hM hS (hI.ne hn) rfl 5 (by decide) (hts (.fieldLink RX5 26 "TicketForgeModel" "blocks" "[Z") (by decide +kernel)) (fun _ h9 => h9) rfl hin rfl (by decide +kernel) rfl rfl (Nat.le_of_ble_eq_true rfl) dX5_init_50 (fun H locs hM hS => ?_)
  obtain ⟨G, hI, hM⟩ : ∃ (G : TG), PI ac m0 6 (va_up (va_up (va_up (va_up (va_up (va_up (fun _ => 0) 0 q_0) 1 q_1) 2 q_2) 3 q_3) 4 q_4) 5 q_5) [.ref q_0, .ref q_1, .ref q_2, .ref q_3, .ref q_4, .ref q_5, .null, .null, .null, .null, .null, .null, .null, .null, .null, .null, .null, .null, .int 0, .int 0, .int 0, .int 0, .int 0, .int 0, .int 0, .int 0] G ∧ tkM A D G H := ⟨_, hI.step hn, hM⟩
  refine lv_aload_n hx hb dX5_init_53 rfl (lv_at hl 0 rfl) ?_
  refine lv_bipush (v := 30) hx hb dX5_init_54 (by decide) ?_
  refine tk_newboolean (N' := 30) hx hb (hts (.arrayClass .boolean) (by decide +kernel)) hK hM hS hA (by decide) (by decide) (Nat.le_of_ble_eq_true rfl) (Nat.le_of_ble_eq_true rfl) (Nat.le_of_ble_eq_true rfl) dX5_init_56 (fun q_6 H hn hz hM hS => ?_)
  refine tk_putF (ty := .array .boolean) hx hb hts inX5 tyX5 tyX5_ok nmX5 hown hK hM hS (hI.ne hn) rfl 6 (by decide) (hts (.fieldLink RX5 30 "TicketForgeModel" "areLocked" "[Z") (by decide +kernel)) (fun _ h9 => h9) rfl hin rfl (by decide +kernel) rfl rfl (Nat.le_of_ble_eq_true rfl) dX5_init_58 (fun H locs hM hS => ?_)
  obtain ⟨G, hI, hM⟩ : ∃ (G : TG), PI ac m0 7 (va_up (va_up (va_up (va_up (va_up (va_up (va_up (fun _ => 0) 0 q_0) 1 q_1) 2 q_2) 3 q_3) 4 q_4) 5 q_5) 6 q_6) [.ref q_0, .ref q_1, .ref q_2, .ref q_3, .ref q_4, .ref q_5, .ref q_6, .null, .null, .null, .null, .null, .null, .null, .null, .null, .null, .null, .int 0, .int 0, .int 0, .int 0, .int 0, .int 0, .int 0, .int 0] G ∧ tkM A D G H := ⟨_, hI.step hn, hM⟩
  refine lv_aload_n hx hb dX5_init_61 rfl (lv_at hl 0 rfl) ?_
  refine lv_bipush (v := 16) hx hb dX5_init_62 (by decide) ?_
  refine tk_newboolean (N' := 16) hx hb (hts (.arrayClass .boolean) (by decide +kernel)) hK hM hS hA (by decide) (by decide) (Nat.le_of_ble_eq_true rfl) (Nat.le_of_ble_eq_true rfl) (Nat.le_of_ble_eq_true rfl) dX5_init_64 (fun q_7 H hn hz hM hS => ?_)
  refine tk_putF (ty := .array .boolean) hx hb hts inX5 tyX5 tyX5_ok nmX5 hown hK hM hS (hI.ne hn) rfl 7 (by decide) (hts (.fieldLink RX5 33 "TicketForgeModel" "areReached" "[Z") (by decide +kernel)) (fun _ h9 => h9) rfl hin rfl (by decide +kernel) rfl rfl (Nat.le_of_ble_eq_true rfl) dX5_init_66 (fun H locs hM hS => ?_)
  obtain ⟨G, hI, hM⟩ : ∃ (G : TG), PI ac m0 8 (va_up (va_up (va_up (va_up (va_up (va_up (va_up (va_up (fun _ => 0) 0 q_0) 1 q_1) 2 q_2) 3 q_3) 4 q_4) 5 q_5) 6 q_6) 7 q_7) [.ref q_0, .ref q_1, .ref q_2, .ref q_3, .ref q_4, .ref q_5, .ref q_6, .ref q_7, .null, .null, .null, .null, .null, .null, .null, .null, .null, .null, .int 0, .int 0, .int 0, .int 0, .int 0, .int 0, .int 0, .int 0] G ∧ tkM A D G H := ⟨_, hI.step hn, hM⟩
  refine lv_aload_n hx hb dX5_init_69 rfl (lv_at hl 0 rfl) ?_
  refine lv_bipush (v := 60) hx hb dX5_init_70 (by decide) ?_
  refine tk_newint (N' := 60) hx hb (hts (.arrayClass .int) (by decide +kernel)) hK hM hS hA (by decide) (by decide) (Nat.le_of_ble_eq_true rfl) (Nat.le_of_ble_eq_true rfl) (Nat.le_of_ble_eq_true rfl) dX5_init_72 (fun q_8 H hn hz hM hS => ?_)
  refine tk_putF (ty := .array .int) hx hb hts inX5 tyX5 tyX5_ok nmX5 hown hK hM hS (hI.ne hn) rfl 8 (by decide) (hts (.fieldLink RX5 36 "TicketForgeModel" "tasksOf" "[I") (by decide +kernel)) (fun _ h9 => h9) rfl hin rfl (by decide +kernel) rfl rfl (Nat.le_of_ble_eq_true rfl) dX5_init_74 (fun H locs hM hS => ?_)
  obtain ⟨G, hI, hM⟩ : ∃ (G : TG), PI ac m0 9 (va_up (va_up (va_up (va_up (va_up (va_up (va_up (va_up (va_up (fun _ => 0) 0 q_0) 1 q_1) 2 q_2) 3 q_3) 4 q_4) 5 q_5) 6 q_6) 7 q_7) 8 q_8) [.ref q_0, .ref q_1, .ref q_2, .ref q_3, .ref q_4, .ref q_5, .ref q_6, .ref q_7, .ref q_8, .null, .null, .null, .null, .null, .null, .null, .null, .null, .int 0, .int 0, .int 0, .int 0, .int 0, .int 0, .int 0, .int 0] G ∧ tkM A D G H := ⟨_, hI.step hn, hM⟩
  refine lv_aload_n hx hb dX5_init_77 rfl (lv_at hl 0 rfl) ?_
  refine lv_bipush (v := 60) hx hb dX5_init_78 (by decide) ?_
  refine tk_newint (N' := 60) hx hb (hts (.arrayClass .int) (by decide +kernel)) hK hM hS hA (by decide) (by decide) (Nat.le_of_ble_eq_true rfl) (Nat.le_of_ble_eq_true rfl) (Nat.le_of_ble_eq_true rfl) dX5_init_80 (fun q_9 H hn hz hM hS => ?_)
  refine tk_putF (ty := .array .int) hx hb hts inX5 tyX5 tyX5_ok nmX5 hown hK hM hS (hI.ne hn) rfl 9 (by decide) (hts (.fieldLink RX5 39 "TicketForgeModel" "persons" "[I") (by decide +kernel)) (fun _ h9 => h9) rfl hin rfl (by decide +kernel) rfl rfl (Nat.le_of_ble_eq_true rfl) dX5_init_82 (fun H locs hM hS => ?_)
  obtain ⟨G, hI, hM⟩ : ∃ (G : TG), PI ac m0 10 (va_up (va_up (va_up (va_up (va_up (va_up (va_up (va_up (va_up (va_up (fun _ => 0) 0 q_0) 1 q_1) 2 q_2) 3 q_3) 4 q_4) 5 q_5) 6 q_6) 7 q_7) 8 q_8) 9 q_9) [.ref q_0, .ref q_1, .ref q_2, .ref q_3, .ref q_4, .ref q_5, .ref q_6, .ref q_7, .ref q_8, .ref q_9, .null, .null, .null, .null, .null, .null, .null, .null, .int 0, .int 0, .int 0, .int 0, .int 0, .int 0, .int 0, .int 0] G ∧ tkM A D G H := ⟨_, hI.step hn, hM⟩
  refine lv_aload_n hx hb dX5_init_85 rfl (lv_at hl 0 rfl) ?_
  refine lv_bipush (v := 60) hx hb dX5_init_86 (by decide) ?_
  refine tk_newint (N' := 60) hx hb (hts (.arrayClass .int) (by decide +kernel)) hK hM hS hA (by decide) (by decide) (Nat.le_of_ble_eq_true rfl) (Nat.le_of_ble_eq_true rfl) (Nat.le_of_ble_eq_true rfl) dX5_init_88 (fun q_10 H hn hz hM hS => ?_)
  refine tk_putF (ty := .array .int) hx hb hts inX5 tyX5 tyX5_ok nmX5 hown hK hM hS (hI.ne hn) rfl 10 (by decide) (hts (.fieldLink RX5 42 "TicketForgeModel" "weeks" "[I") (by decide +kernel)) (fun _ h9 => h9) rfl hin rfl (by decide +kernel) rfl rfl (Nat.le_of_ble_eq_true rfl) dX5_init_90 (fun H locs hM hS => ?_)
  obtain ⟨G, hI, hM⟩ : ∃ (G : TG), PI ac m0 11 (va_up (va_up (va_up (va_up (va_up (va_up (va_up (va_up (va_up (va_up (va_up (fun _ => 0) 0 q_0) 1 q_1) 2 q_2) 3 q_3) 4 q_4) 5 q_5) 6 q_6) 7 q_7) 8 q_8) 9 q_9) 10 q_10) [.ref q_0, .ref q_1, .ref q_2, .ref q_3, .ref q_4, .ref q_5, .ref q_6, .ref q_7, .ref q_8, .ref q_9, .ref q_10, .null, .null, .null, .null, .null, .null, .null, .int 0, .int 0, .int 0, .int 0, .int 0, .int 0, .int 0, .int 0] G ∧ tkM A D G H := ⟨_, hI.step hn, hM⟩
  refine lv_aload_n hx hb dX5_init_93 rfl (lv_at hl 0 rfl) ?_
  refine lv_bipush (v := 60) hx hb dX5_init_94 (by decide) ?_
  refine tk_newint (N' := 60) hx hb (hts (.arrayClass .int) (by decide +kernel)) hK hM hS hA (by decide) (by decide) (Nat.le_of_ble_eq_true rfl) (Nat.le_of_ble_eq_true rfl) (Nat.le_of_ble_eq_true rfl) dX5_init_96 (fun q_11 H hn hz hM hS => ?_)
  refine tk_putF (ty := .array .int) hx hb hts inX5 tyX5 tyX5_ok nmX5 hown hK hM hS (hI.ne hn) rfl 11 (by decide) (hts (.fieldLink RX5 45 "TicketForgeModel" "hoursOf" "[I") (by decide +kernel)) (fun _ h9 => h9) rfl hin rfl (by decide +kernel) rfl rfl (Nat.le_of_ble_eq_true rfl) dX5_init_98 (fun H locs hM hS => ?_)
  obtain ⟨G, hI, hM⟩ : ∃ (G : TG), PI ac m0 12 (va_up (va_up (va_up (va_up (va_up (va_up (va_up (va_up (va_up (va_up (va_up (va_up (fun _ => 0) 0 q_0) 1 q_1) 2 q_2) 3 q_3) 4 q_4) 5 q_5) 6 q_6) 7 q_7) 8 q_8) 9 q_9) 10 q_10) 11 q_11) [.ref q_0, .ref q_1, .ref q_2, .ref q_3, .ref q_4, .ref q_5, .ref q_6, .ref q_7, .ref q_8, .ref q_9, .ref q_10, .ref q_11, .null, .null, .null, .null, .null, .null, .int 0, .int 0, .int 0, .int 0, .int 0, .int 0, .int 0, .int 0] G ∧ tkM A D G H := ⟨_, hI.step hn, hM⟩
  refine lv_aload_n hx hb dX5_init_101 rfl (lv_at hl 0 rfl) ?_
  refine lv_bipush (v := 60) hx hb dX5_init_102 (by decide) ?_
  refine tk_newint (N' := 60) hx hb (hts (.arrayClass .int) (by decide +kernel)) hK hM hS hA (by decide) (by decide) (Nat.le_of_ble_eq_true rfl) (Nat.le_of_ble_eq_true rfl) (Nat.le_of_ble_eq_true rfl) dX5_init_104 (fun q_12 H hn hz hM hS => ?_)
  refine tk_putF (ty := .array .int) hx hb hts inX5 tyX5 tyX5_ok nmX5 hown hK hM hS (hI.ne hn) rfl 12 (by decide) (hts (.fieldLink RX5 48 "TicketForgeModel" "prices" "[I") (by decide +kernel)) (fun _ h9 => h9) rfl hin rfl (by decide +kernel) rfl rfl (Nat.le_of_ble_eq_true rfl) dX5_init_106 (fun H locs hM hS => ?_)
  obtain ⟨G, hI, hM⟩ : ∃ (G : TG), PI ac m0 13 (va_up (va_up (va_up (va_up (va_up (va_up (va_up (va_up (va_up (va_up (va_up (va_up (va_up (fun _ => 0) 0 q_0) 1 q_1) 2 q_2) 3 q_3) 4 q_4) 5 q_5) 6 q_6) 7 q_7) 8 q_8) 9 q_9) 10 q_10) 11 q_11) 12 q_12) [.ref q_0, .ref q_1, .ref q_2, .ref q_3, .ref q_4, .ref q_5, .ref q_6, .ref q_7, .ref q_8, .ref q_9, .ref q_10, .ref q_11, .ref q_12, .null, .null, .null, .null, .null, .int 0, .int 0, .int 0, .int 0, .int 0, .int 0, .int 0, .int 0] G ∧ tkM A D G H := ⟨_, hI.step hn, hM⟩
  refine lv_aload_n hx hb dX5_init_109 rfl (lv_at hl 0 rfl) ?_
  refine lv_bipush (v := 60) hx hb dX5_init_110 (by decide) ?_
  refine tk_newint (N' := 60) hx hb (hts (.arrayClass .int) (by decide +kernel)) hK hM hS hA (by decide) (by decide) (Nat.le_of_ble_eq_true rfl) (Nat.le_of_ble_eq_true rfl) (Nat.le_of_ble_eq_true rfl) dX5_init_112 (fun q_13 H hn hz hM hS => ?_)
  refine tk_putF (ty := .array .int) hx hb hts inX5 tyX5 tyX5_ok nmX5 hown hK hM hS (hI.ne hn) rfl 13 (by decide) (hts (.fieldLink RX5 51 "TicketForgeModel" "invoicesOf" "[I") (by decide +kernel)) (fun _ h9 => h9) rfl hin rfl (by decide +kernel) rfl rfl (Nat.le_of_ble_eq_true rfl) dX5_init_114 (fun H locs hM hS => ?_)
  obtain ⟨G, hI, hM⟩ : ∃ (G : TG), PI ac m0 14 (va_up (va_up (va_up (va_up (va_up (va_up (va_up (va_up (va_up (va_up (va_up (va_up (va_up (va_up (fun _ => 0) 0 q_0) 1 q_1) 2 q_2) 3 q_3) 4 q_4) 5 q_5) 6 q_6) 7 q_7) 8 q_8) 9 q_9) 10 q_10) 11 q_11) 12 q_12) 13 q_13) [.ref q_0, .ref q_1, .ref q_2, .ref q_3, .ref q_4, .ref q_5, .ref q_6, .ref q_7, .ref q_8, .ref q_9, .ref q_10, .ref q_11, .ref q_12, .ref q_13, .null, .null, .null, .null, .int 0, .int 0, .int 0, .int 0, .int 0, .int 0, .int 0, .int 0] G ∧ tkM A D G H := ⟨_, hI.step hn, hM⟩
  refine lv_aload_n hx hb dX5_init_117 rfl (lv_at hl 0 rfl) ?_
  refine lv_iconst (v := 4) hx hb dX5_init_118 (by decide) ?_
  refine tk_newint (N' := 4) hx hb (hts (.arrayClass .int) (by decide +kernel)) hK hM hS hA (by decide) (by decide) (Nat.le_of_ble_eq_true rfl) (Nat.le_of_ble_eq_true rfl) (Nat.le_of_ble_eq_true rfl) dX5_init_119 (fun q_14 H hn hz hM hS => ?_)
  refine tk_putF (ty := .array .int) hx hb hts inX5 tyX5 tyX5_ok nmX5 hown hK hM hS (hI.ne hn) rfl 14 (by decide) (hts (.fieldLink RX5 54 "TicketForgeModel" "rates" "[I") (by decide +kernel)) (fun _ h9 => h9) rfl hin rfl (by decide +kernel) rfl rfl (Nat.le_of_ble_eq_true rfl) dX5_init_121 (fun H locs hM hS => ?_)
  obtain ⟨G, hI, hM⟩ : ∃ (G : TG), PI ac m0 15 (va_up (va_up (va_up (va_up (va_up (va_up (va_up (va_up (va_up (va_up (va_up (va_up (va_up (va_up (va_up (fun _ => 0) 0 q_0) 1 q_1) 2 q_2) 3 q_3) 4 q_4) 5 q_5) 6 q_6) 7 q_7) 8 q_8) 9 q_9) 10 q_10) 11 q_11) 12 q_12) 13 q_13) 14 q_14) [.ref q_0, .ref q_1, .ref q_2, .ref q_3, .ref q_4, .ref q_5, .ref q_6, .ref q_7, .ref q_8, .ref q_9, .ref q_10, .ref q_11, .ref q_12, .ref q_13, .ref q_14, .null, .null, .null, .int 0, .int 0, .int 0, .int 0, .int 0, .int 0, .int 0, .int 0] G ∧ tkM A D G H := ⟨_, hI.step hn, hM⟩
  refine lv_aload_n hx hb dX5_init_124 rfl (lv_at hl 0 rfl) ?_
  refine lv_bipush (v := 20) hx hb dX5_init_125 (by decide) ?_
  refine tk_newint (N' := 20) hx hb (hts (.arrayClass .int) (by decide +kernel)) hK hM hS hA (by decide) (by decide) (Nat.le_of_ble_eq_true rfl) (Nat.le_of_ble_eq_true rfl) (Nat.le_of_ble_eq_true rfl) dX5_init_127 (fun q_15 H hn hz hM hS => ?_)
  refine tk_putF (ty := .array .int) hx hb hts inX5 tyX5 tyX5_ok nmX5 hown hK hM hS (hI.ne hn) rfl 15 (by decide) (hts (.fieldLink RX5 57 "TicketForgeModel" "totals" "[I") (by decide +kernel)) (fun _ h9 => h9) rfl hin rfl (by decide +kernel) rfl rfl (Nat.le_of_ble_eq_true rfl) dX5_init_129 (fun H locs hM hS => ?_)
  obtain ⟨G, hI, hM⟩ : ∃ (G : TG), PI ac m0 16 (va_up (va_up (va_up (va_up (va_up (va_up (va_up (va_up (va_up (va_up (va_up (va_up (va_up (va_up (va_up (va_up (fun _ => 0) 0 q_0) 1 q_1) 2 q_2) 3 q_3) 4 q_4) 5 q_5) 6 q_6) 7 q_7) 8 q_8) 9 q_9) 10 q_10) 11 q_11) 12 q_12) 13 q_13) 14 q_14) 15 q_15) [.ref q_0, .ref q_1, .ref q_2, .ref q_3, .ref q_4, .ref q_5, .ref q_6, .ref q_7, .ref q_8, .ref q_9, .ref q_10, .ref q_11, .ref q_12, .ref q_13, .ref q_14, .ref q_15, .null, .null, .int 0, .int 0, .int 0, .int 0, .int 0, .int 0, .int 0, .int 0] G ∧ tkM A D G H := ⟨_, hI.step hn, hM⟩
  refine lv_aload_n hx hb dX5_init_132 rfl (lv_at hl 0 rfl) ?_
  refine lv_bipush (v := 20) hx hb dX5_init_133 (by decide) ?_
  refine tk_newint (N' := 20) hx hb (hts (.arrayClass .int) (by decide +kernel)) hK hM hS hA (by decide) (by decide) (Nat.le_of_ble_eq_true rfl) (Nat.le_of_ble_eq_true rfl) (Nat.le_of_ble_eq_true rfl) dX5_init_135 (fun q_16 H hn hz hM hS => ?_)
  refine tk_putF (ty := .array .int) hx hb hts inX5 tyX5 tyX5_ok nmX5 hown hK hM hS (hI.ne hn) rfl 16 (by decide) (hts (.fieldLink RX5 60 "TicketForgeModel" "credits" "[I") (by decide +kernel)) (fun _ h9 => h9) rfl hin rfl (by decide +kernel) rfl rfl (Nat.le_of_ble_eq_true rfl) dX5_init_137 (fun H locs hM hS => ?_)
  obtain ⟨G, hI, hM⟩ : ∃ (G : TG), PI ac m0 17 (va_up (va_up (va_up (va_up (va_up (va_up (va_up (va_up (va_up (va_up (va_up (va_up (va_up (va_up (va_up (va_up (va_up (fun _ => 0) 0 q_0) 1 q_1) 2 q_2) 3 q_3) 4 q_4) 5 q_5) 6 q_6) 7 q_7) 8 q_8) 9 q_9) 10 q_10) 11 q_11) 12 q_12) 13 q_13) 14 q_14) 15 q_15) 16 q_16) [.ref q_0, .ref q_1, .ref q_2, .ref q_3, .ref q_4, .ref q_5, .ref q_6, .ref q_7, .ref q_8, .ref q_9, .ref q_10, .ref q_11, .ref q_12, .ref q_13, .ref q_14, .ref q_15, .ref q_16, .null, .int 0, .int 0, .int 0, .int 0, .int 0, .int 0, .int 0, .int 0] G ∧ tkM A D G H := ⟨_, hI.step hn, hM⟩
  refine lv_aload_n hx hb dX5_init_140 rfl (lv_at hl 0 rfl) ?_
  refine lv_bipush (v := 20) hx hb dX5_init_141 (by decide) ?_
  refine tk_newint (N' := 20) hx hb (hts (.arrayClass .int) (by decide +kernel)) hK hM hS hA (by decide) (by decide) (Nat.le_of_ble_eq_true rfl) (Nat.le_of_ble_eq_true rfl) (Nat.le_of_ble_eq_true rfl) dX5_init_143 (fun q_17 H hn hz hM hS => ?_)
  refine tk_putF (ty := .array .int) hx hb hts inX5 tyX5 tyX5_ok nmX5 hown hK hM hS (hI.ne hn) rfl 17 (by decide) (hts (.fieldLink RX5 63 "TicketForgeModel" "items" "[I") (by decide +kernel)) (fun _ h9 => h9) rfl hin rfl (by decide +kernel) rfl rfl (Nat.le_of_ble_eq_true rfl) dX5_init_145 (fun H locs hM hS => ?_)
  obtain ⟨G, hI, hM⟩ : ∃ (G : TG), PI ac m0 18 (va_up (va_up (va_up (va_up (va_up (va_up (va_up (va_up (va_up (va_up (va_up (va_up (va_up (va_up (va_up (va_up (va_up (va_up (fun _ => 0) 0 q_0) 1 q_1) 2 q_2) 3 q_3) 4 q_4) 5 q_5) 6 q_6) 7 q_7) 8 q_8) 9 q_9) 10 q_10) 11 q_11) 12 q_12) 13 q_13) 14 q_14) 15 q_15) 16 q_16) 17 q_17) [.ref q_0, .ref q_1, .ref q_2, .ref q_3, .ref q_4, .ref q_5, .ref q_6, .ref q_7, .ref q_8, .ref q_9, .ref q_10, .ref q_11, .ref q_12, .ref q_13, .ref q_14, .ref q_15, .ref q_16, .ref q_17, .int 0, .int 0, .int 0, .int 0, .int 0, .int 0, .int 0, .int 0] G ∧ tkM A D G H := ⟨_, hI.step hn, hM⟩
  refine lv_aload_n hx hb dX5_init_148 rfl (lv_at hl 0 rfl) ?_
  refine lv_iconst (v := 0) hx hb dX5_init_149 (by decide) ?_
  refine tk_put (ty := .int) hx hb hts inX5 tyX5 tyX5_ok nmX5 hown hK hM hS hI.1 rfl 18 (by decide) (hts (.fieldLink RX5 66 "TicketForgeModel" "thrown" "I") (by decide +kernel)) (fun _ h9 => h9) rfl (by decide +kernel) rfl rfl (Nat.le_of_ble_eq_true rfl) dX5_init_150 (fun H locs hM hS => ?_)
  have hI := hI.sc (fs' := [.ref q_0, .ref q_1, .ref q_2, .ref q_3, .ref q_4, .ref q_5, .ref q_6, .ref q_7, .ref q_8, .ref q_9, .ref q_10, .ref q_11, .ref q_12, .ref q_13, .ref q_14, .ref q_15, .ref q_16, .ref q_17, .int 0, .int 0, .int 0, .int 0, .int 0, .int 0, .int 0, .int 0])
  refine lv_aload_n hx hb dX5_init_153 rfl (lv_at hl 0 rfl) ?_
  refine lv_iconst (v := 0) hx hb dX5_init_154 (by decide) ?_
  refine tk_put (ty := .int) hx hb hts inX5 tyX5 tyX5_ok nmX5 hown hK hM hS hI.1 rfl 19 (by decide) (hts (.fieldLink RX5 70 "TicketForgeModel" "tasks" "I") (by decide +kernel)) (fun _ h9 => h9) rfl (by decide +kernel) rfl rfl (Nat.le_of_ble_eq_true rfl) dX5_init_155 (fun H locs hM hS => ?_)
  have hI := hI.sc (fs' := [.ref q_0, .ref q_1, .ref q_2, .ref q_3, .ref q_4, .ref q_5, .ref q_6, .ref q_7, .ref q_8, .ref q_9, .ref q_10, .ref q_11, .ref q_12, .ref q_13, .ref q_14, .ref q_15, .ref q_16, .ref q_17, .int 0, .int 0, .int 0, .int 0, .int 0, .int 0, .int 0, .int 0])
  refine lv_aload_n hx hb dX5_init_158 rfl (lv_at hl 0 rfl) ?_
  refine lv_iconst (v := 0) hx hb dX5_init_159 (by decide) ?_
  refine tk_put (ty := .int) hx hb hts inX5 tyX5 tyX5_ok nmX5 hown hK hM hS hI.1 rfl 20 (by decide) (hts (.fieldLink RX5 73 "TicketForgeModel" "blockCount" "I") (by decide +kernel)) (fun _ h9 => h9) rfl (by decide +kernel) rfl rfl (Nat.le_of_ble_eq_true rfl) dX5_init_160 (fun H locs hM hS => ?_)
  have hI := hI.sc (fs' := [.ref q_0, .ref q_1, .ref q_2, .ref q_3, .ref q_4, .ref q_5, .ref q_6, .ref q_7, .ref q_8, .ref q_9, .ref q_10, .ref q_11, .ref q_12, .ref q_13, .ref q_14, .ref q_15, .ref q_16, .ref q_17, .int 0, .int 0, .int 0, .int 0, .int 0, .int 0, .int 0, .int 0])
  refine lv_aload_n hx hb dX5_init_163 rfl (lv_at hl 0 rfl) ?_
  refine lv_iconst (v := 0) hx hb dX5_init_164 (by decide) ?_
  refine tk_put (ty := .int) hx hb hts inX5 tyX5 tyX5_ok nmX5 hown hK hM hS hI.1 rfl 21 (by decide) (hts (.fieldLink RX5 76 "TicketForgeModel" "entries" "I") (by decide +kernel)) (fun _ h9 => h9) rfl (by decide +kernel) rfl rfl (Nat.le_of_ble_eq_true rfl) dX5_init_165 (fun H locs hM hS => ?_)
  have hI := hI.sc (fs' := [.ref q_0, .ref q_1, .ref q_2, .ref q_3, .ref q_4, .ref q_5, .ref q_6, .ref q_7, .ref q_8, .ref q_9, .ref q_10, .ref q_11, .ref q_12, .ref q_13, .ref q_14, .ref q_15, .ref q_16, .ref q_17, .int 0, .int 0, .int 0, .int 0, .int 0, .int 0, .int 0, .int 0])
  refine lv_aload_n hx hb dX5_init_168 rfl (lv_at hl 0 rfl) ?_
  refine lv_iconst (v := 0) hx hb dX5_init_169 (by decide) ?_
  refine tk_put (ty := .int) hx hb hts inX5 tyX5 tyX5_ok nmX5 hown hK hM hS hI.1 rfl 22 (by decide) (hts (.fieldLink RX5 79 "TicketForgeModel" "invoices" "I") (by decide +kernel)) (fun _ h9 => h9) rfl (by decide +kernel) rfl rfl (Nat.le_of_ble_eq_true rfl) dX5_init_170 (fun H locs hM hS => ?_)
  have hI := hI.sc (fs' := [.ref q_0, .ref q_1, .ref q_2, .ref q_3, .ref q_4, .ref q_5, .ref q_6, .ref q_7, .ref q_8, .ref q_9, .ref q_10, .ref q_11, .ref q_12, .ref q_13, .ref q_14, .ref q_15, .ref q_16, .ref q_17, .int 0, .int 0, .int 0, .int 0, .int 0, .int 0, .int 0, .int 0])
  refine lv_aload_n hx hb dX5_init_173 rfl (lv_at hl 0 rfl) ?_
  refine lv_bipush (v := 40) hx hb dX5_init_174 (by decide) ?_
  refine tk_put (ty := .int) hx hb hts inX5 tyX5 tyX5_ok nmX5 hown hK hM hS hI.1 rfl 23 (by decide) (hts (.fieldLink RX5 82 "TicketForgeModel" "cap" "I") (by decide +kernel)) (fun _ h9 => h9) rfl (by decide +kernel) rfl rfl (Nat.le_of_ble_eq_true rfl) dX5_init_176 (fun H locs hM hS => ?_)
  have hI := hI.sc (fs' := [.ref q_0, .ref q_1, .ref q_2, .ref q_3, .ref q_4, .ref q_5, .ref q_6, .ref q_7, .ref q_8, .ref q_9, .ref q_10, .ref q_11, .ref q_12, .ref q_13, .ref q_14, .ref q_15, .ref q_16, .ref q_17, .int 0, .int 0, .int 0, .int 0, .int 0, .int 40, .int 0, .int 0])
  refine lv_aload_n hx hb dX5_init_179 rfl (lv_at hl 0 rfl) ?_
  refine lv_iconst (v := 0) hx hb dX5_init_180 (by decide) ?_
  refine tk_put (ty := .int) hx hb hts inX5 tyX5 tyX5_ok nmX5 hown hK hM hS hI.1 rfl 24 (by decide) (hts (.fieldLink RX5 85 "TicketForgeModel" "discountFrom" "I") (by decide +kernel)) (fun _ h9 => h9) rfl (by decide +kernel) rfl rfl (Nat.le_of_ble_eq_true rfl) dX5_init_181 (fun H locs hM hS => ?_)
  have hI := hI.sc (fs' := [.ref q_0, .ref q_1, .ref q_2, .ref q_3, .ref q_4, .ref q_5, .ref q_6, .ref q_7, .ref q_8, .ref q_9, .ref q_10, .ref q_11, .ref q_12, .ref q_13, .ref q_14, .ref q_15, .ref q_16, .ref q_17, .int 0, .int 0, .int 0, .int 0, .int 0, .int 40, .int 0, .int 0])
  refine lv_aload_n hx hb dX5_init_184 rfl (lv_at hl 0 rfl) ?_
  refine lv_iconst (v := 0) hx hb dX5_init_185 (by decide) ?_
  refine tk_put (ty := .int) hx hb hts inX5 tyX5 tyX5_ok nmX5 hown hK hM hS hI.1 rfl 25 (by decide) (hts (.fieldLink RX5 88 "TicketForgeModel" "discount" "I") (by decide +kernel)) (fun _ h9 => h9) rfl (by decide +kernel) rfl rfl (Nat.le_of_ble_eq_true rfl) dX5_init_186 (fun H locs hM hS => ?_)
  have hI := hI.sc (fs' := [.ref q_0, .ref q_1, .ref q_2, .ref q_3, .ref q_4, .ref q_5, .ref q_6, .ref q_7, .ref q_8, .ref q_9, .ref q_10, .ref q_11, .ref q_12, .ref q_13, .ref q_14, .ref q_15, .ref q_16, .ref q_17, .int 0, .int 0, .int 0, .int 0, .int 0, .int 40, .int 0, .int 0])
  obtain ⟨am, hR⟩ : ∃ am : Nat → Nat, PR ac m0 am 0 (MI 0) _ := ⟨_, PI.pr (am := (va_up (va_up (va_up (va_up (va_up (va_up (va_up (va_up (va_up (va_up (va_up (va_up (va_up (va_up (va_up (va_up (va_up (va_up (fun _ => 0) 0 q_0) 1 q_1) 2 q_2) 3 q_3) 4 q_4) 5 q_5) 6 q_6) 7 q_7) 8 q_8) 9 q_9) 10 q_10) 11 q_11) 12 q_12) 13 q_13) 14 q_14) 15 q_15) 16 q_16) 17 q_17)) hI⟩
  refine lv_iconst (v := 0) hx hb dX5_init_189 (by decide) ?_
  refine lv_istore_n (lv' := [(1, .int 0), (0, .ref m0)]) hx hb dX5_init_190 rfl hl (by decide) rfl (fun ls hl => ?_)
  refine tk_g1 (pc := 191) (Wf := fun H locs g => W p l e _ s m _ below meth c H locs _ _ _ g) 4 (fun i (_ : Unit) H locs ls => lv_has ls 2 [(0, .ref m0), (1, .int (nI i))] ∧ ∃ G : TG, PR ac m0 am 0 (MI i) G ∧ tkM A D G H ∧ va_S A s.heap H locs) (fun i _ H locs ls hi hinv ih => ?_) () _ _ ls ⟨lv_sub hl [1, 0] rfl, _, hR, hM, hS⟩
  obtain ⟨hl, G, hR, hM, hS⟩ := hinv
  refine lv_iload_n hx hb dX5_init_191 rfl (lv_at hl 1 rfl) ?_
  refine lv_iconst (v := 4) hx hb dX5_init_192 (by decide) ?_
  refine lv_icmp_ge (tgt := 210) hx hb dX5_init_193 (by decide) (fun c_1 => ?_) (fun c_1 => ?_)
  · have hge := tk_ge (a := 4) (by decide) (by omega) c_1
    obtain rfl : i = 4 := Nat.le_antisymm hi hge
    refine W.widen (k := 18) (n := 850) (Nat.le_of_ble_eq_true rfl) (Nat.le_of_ble_eq_true rfl) ?_
    exact W.vret hx hb hr (fun t9 h9 w9 => ⟨⟨_, rfl, ⟨am, hR⟩, (by show tkM A D _ _; rw [h9]; exact hM)⟩, hS.F h9⟩) hS.2.2 dX5_init_210
  · have hlt := tk_lt (b := i) (a := 4) (by omega) (by omega) c_1
    refine lv_aload_n hx hb dX5_init_196 rfl (lv_at hl 0 rfl) ?_
    refine tk_get hx hb hts inX5 hown hK hM hR.1 rfl 14 (by decide) (hts (.fieldLink RX5 54 "TicketForgeModel" "rates" "[I") (by decide +kernel)) (fun _ h9 => h9) rfl dX5_init_197 ?_
    refine lv_iload_n hx hb dX5_init_200 rfl (lv_at hl 1 rfl) ?_
    refine lv_bipush (v := 50) hx hb dX5_init_201 (by decide) ?_
    refine tk_iast hx hb hK hM hS 1 hR.a14 rfl (vp_in_nI (by omega) (by decide)) dX5_init_203 (fun H locs hM hS => ?_)
    rw [show (nI i).toNatClampNeg = i from nI_clamp (by omega)] at hM
    have hR := hR.p14 (i := i) (v := 50)
    rw [MI_s] at hR
    refine lv_iinc (v := (nI (i + 1))) (lv' := [(1, .int (nI (i + 1))), (0, .ref m0)]) hx hb dX5_init_204 hl (k := 1) rfl (nI_1 i) (by decide) rfl (fun ls hl => ?_)
    refine lv_goto (tgt := 191) hx hb dX5_init_207 (by decide) ?_
    exact ih () _ _ ls (by omega) ⟨lv_sub hl [1, 0] rfl, _, hR, hM, hS⟩
