/-! bundles: what a method of the class, and of the model, asks of its start; calls -/
abbrev tkT (ac : Nat → ClassId) : List (ClassId × FieldType) := [(ac 0, .char), (ac 1, .int), (ac 2, .boolean), (ac 3, .object "java/lang/Object"), (ac 4, .long), (ac 5, .double)]
/-- the model's: heap and tables -/
def tkJ (A : Nat → Prop) (D : va_G) (ac : Nat → ClassId) (G : TG) (U : State) : Prop := tkM A D G U.heap ∧ va_K D vwCl (tkT ac) U
/-- the texts of the class's exceptions -/
abbrev tkStr : List (Nat × String) := [(104, "the other one blocks it"), (126, "a task that blocks it is not done"), (135, "a task whose parent it is is not done"), (147, "the task has no parent"), (164, "the person, the week or the hours are out of range"), (169, "the week is locked"), (171, "the task is neither in work nor in review"), (176, "a budget would be too small, or there are 60 entries"), (188, "the entry is not noted"), (213, "no budget applies to the task"), (215, "the person or the rate is out of range"), (224, "the hours are out of range"), (236, "the sum or the percentage is out of range"), (244, "the task has a parent"), (250, "there is no entry to look at, or there are 20 invoices"), (297, "the pace is 0"), (303, "no entry is billed"), (311, "there is no such week"), (315, "there is no such task"), (318, "the task is in another state"), (320, "there is no such entry"), (322, "there is no such invoice"), (324, "the entry is neither billed nor credited"), (57, "the estimate or the budget is out of range"), (68, "there are 16 tasks"), (79, "the parent is done"), (92, "a task does not block itself"), (98, "it blocks the other one, or there are 20 blocks")]
/-- casts that hold -/
abbrev tkCa : List (String × String) := [("java/lang/IndexOutOfBoundsException", "java/lang/IndexOutOfBoundsException"), ("java/lang/IllegalArgumentException", "java/lang/IllegalArgumentException"), ("java/lang/IllegalStateException", "java/lang/IllegalStateException"), ("java/lang/UnsupportedOperationException", "java/lang/UnsupportedOperationException"), ("java/util/NoSuchElementException", "java/util/NoSuchElementException"), ("java/lang/ArithmeticException", "java/lang/ArithmeticException"), ("TicketForge$Task", "TicketForge$Task"), ("TicketForge$Entry", "TicketForge$Entry"), ("TicketForge$Invoice", "TicketForge$Invoice")]
/-- statics and constants: what throwing and lists ask -/
def tkF (A : Nat → Prop) (U : State) (H : Heap) : Prop := vx_Zq Bundle.tN "UNASSIGNED_STACK" Bundle.steD A U H ∧ vx_Zq Bundle.tN "SUPPRESSED_SENTINEL" Bundle.listD A U H ∧ (∀ x ∈ tkStr, ∃ sa : Nat, vk_R RX4 x.1 x.2 sa U) ∧ ∀ x ∈ tkCa, va_Nw (.castable x.1 x.2) U
theorem tkF.kept {A : Nat → Prop} {U : State} {H H1 : Heap} (h : tkF A U H) (hq : ∀ a : Nat, a < H.size → ¬ A a → H1[a]? = H[a]?) : tkF A U H1 := ⟨h.1.kept hq, h.2.1.kept hq, h.2.2⟩
theorem tkF.warm {A : Nat → Prop} {s U : State} {H : Heap} (hW : s.WarmedH U.vm) (h : tkF A s H) : tkF A U H := ⟨vx_Zq.moved hW.alike h.1, vx_Zq.moved hW.alike h.2.1, fun x hx => (h.2.2.1 x hx).elim (fun sa q => ⟨sa, vk_R.warm hW q⟩), fun x hx => va_Nw.warmC hW (h.2.2.2 x hx)⟩
theorem tkF.blind {A : Nat → Prop} {U : State} {H : Heap} {g : JFrame} {mk : MethodId} {a : Array Value} (h : tkF A U H) : tkF A (U.calling g mk a) H := ⟨vx_Zq.moved (Vm.Alike.refl U.vm) h.1, vx_Zq.moved (Vm.Alike.refl U.vm) h.2.1, fun x hx => (h.2.2.1 x hx).elim (fun sa q => ⟨sa, vk_R.same (U := U.calling g mk a) rfl q⟩), fun x hx => va_Nw.same (U := U.calling g mk a) rfl rfl (h.2.2.2 x hx)⟩
/-- the class's: heap, tables, statics, and that new cells are its own -/
def tkI (A : Nat → Prop) (D : va_G) (ac : Nat → ClassId) (G : TG) (U : State) : Prop := tkM A D G U.heap ∧ va_K D vwCl (tkT ac) U ∧ (∀ q, U.heap.size ≤ q → A q) ∧ tkF A U U.heap
theorem tkJ.blind {A : Nat → Prop} {D : va_G} {ac : Nat → ClassId} {G : TG} (U : State) (g : JFrame) (mk : MethodId) (a : Array Value) (h : tkJ A D ac G U) : tkJ A D ac G (U.calling g mk a) := ⟨h.1, va_K.moved (u := U) (U := U.calling g mk a) (Vm.Alike.refl U.vm) h.2⟩
theorem tkI.blind {A : Nat → Prop} {D : va_G} {ac : Nat → ClassId} {G : TG} (U : State) (g : JFrame) (mk : MethodId) (a : Array Value) (h : tkI A D ac G U) : tkI A D ac G (U.calling g mk a) := ⟨h.1, va_K.moved (u := U) (U := U.calling g mk a) (Vm.Alike.refl U.vm) h.2.1, h.2.2.1, h.2.2.2.blind⟩
theorem tkJ.at {A : Nat → Prop} {D : va_G} {ac : Nat → ClassId} {G : TG} {s : State} {H : Heap} (hM : tkM A D G H) (hK : va_K D vwCl (tkT ac) s) (U : State) (hU : U.heap = H) (hW : s.WarmedH U.vm) : tkJ A D ac G U := ⟨by rw [hU]; exact hM, va_K.moved hW.alike hK⟩
theorem tkI.at {A : Nat → Prop} {D : va_G} {ac : Nat → ClassId} {G : TG} {s : State} {H : Heap} {locs : List Loc} (hM : tkM A D G H) (hK : va_K D vwCl (tkT ac) s) (hA : ∀ q, s.heap.size ≤ q → A q) (hF : tkF A s s.heap) (hS : va_S A s.heap H locs) (U : State) (hU : U.heap = H) (hW : s.WarmedH U.vm) : tkI A D ac G U := ⟨by rw [hU]; exact hM, va_K.moved hW.alike hK, fun q h => hA q (Nat.le_trans hS.1 (by rw [← hU]; exact h)), by rw [hU]; exact (hF.kept hS.2.1).warm hW⟩
theorem tk_recv {A : Nat → Prop} {s : State} {H : Heap} {D : va_G} {a ci : Nat} {q : vw_C} {fs : List Value} {G : TG} {tys : List (ClassId × FieldType)} (hK : va_K D vwCl tys s) (hM : tkM A D G H) (he : G a = some (.inr (ci, fs))) (hc : vwCl[ci]? = some q) : ∃ cell : Cell, H[a]? = some cell ∧ cell.vm.isStatics = false ∧ s.vm.findClass q.1 = some cell.cls := va_recv hK (hM.one he) hc (q0 := 0) rfl
theorem tk_b1 {r : Int32} {c : Prop} [Decidable c] (h : r = if c then 1 else 0) (h0 : ¬ r = 0) : c := by
  by_cases hc : c
  · exact hc
  · rw [if_neg hc] at h; exact absurd h h0
theorem tk_b0 {r : Int32} {c : Prop} [Decidable c] (h : r = if c then 1 else 0) (h0 : r = 0) : ¬ c := by
  intro hc
  rw [if_pos hc, h0] at h
  exact absurd h (by decide)
section TKC
variable {p : Program} {l : Launch} {e : Env} {R : Room} {s : State} {m : MethodId} {args : Array Value} {below : List Frame} {meth : Method} {c : Code} {H : Heap} {locs : List Loc} {cells slots : Nat} {Q : State → Prop}
variable {y : MethodName} {bytes cc : ByteArray} {maxL nL mc ms n index pc : Nat} {ret : Option FieldType} {ws : List Cond} {rm : Room} {free : Addr → Prop} {Ts : List Cond} {own C : String} {b : Addr} {As rest st0 : List Value} {ls : Array Slot} {I : State → Prop}
/-- an instance method of ours that reads alone, an int -/
theorem tk_cVi {post : Int32 → Prop} (S : CallFix p m c cc nL s args Ts own) (hM : Met l y ws rm (va_Pc (.ref b :: As) I) (vp_Si post) 0 0 (fun _ => False)) (cw : CallW R s args own C index y bytes maxL ret ws rm 0 0 n) (hbl : ∀ U g mk a, I U → I (U.calling g mk a)) (hI : ∀ U : State, U.heap = H → s.WarmedH U.vm → I U) (hrc : ∃ cell : Cell, H[b]? = some cell ∧ cell.vm.isStatics = false ∧ s.vm.findClass C = some cell.cls)
    (hn : As.length = n) (hsize : ls.size = nL) (hst : st0 = As.reverse ++ .ref b :: rest) (hW : (rest.map fun v => v.category).sum ≤ 8) (hdg : decode cc pc = .ok (.invokevirtual index, 3)) (hf : cells ≤ R.cells ∧ slots ≤ R.slots)
    (kk : ∀ r : Int32, post r → W p l e R s m args below meth c H locs cells slots Q (F0 m (pc + 3) ls (.int r :: rest))) : W p l e R s m args below meth c H locs cells slots Q (F0 m pc ls st0) :=
  vp_callSi (va_Run.run (va_runV (rest := rest) S hM cw ⟨fun a U g mk q => ⟨q.1, hbl U g mk a q.2⟩, hrc, fun U hU hW => ⟨rfl, hI U hU hW⟩⟩ rfl hn hsize hst (lv_room hW) hdg hf)) kk
theorem tk_cVq {post : Option Nat → Prop} (S : CallFix p m c cc nL s args Ts own) (hM : Met l y ws rm (va_Pc (.ref b :: As) I) (va_Sq post) 0 0 (fun _ => False)) (cw : CallW R s args own C index y bytes maxL ret ws rm 0 0 n) (hbl : ∀ U g mk a, I U → I (U.calling g mk a)) (hI : ∀ U : State, U.heap = H → s.WarmedH U.vm → I U) (hrc : ∃ cell : Cell, H[b]? = some cell ∧ cell.vm.isStatics = false ∧ s.vm.findClass C = some cell.cls)
    (hn : As.length = n) (hsize : ls.size = nL) (hst : st0 = As.reverse ++ .ref b :: rest) (hW : (rest.map fun v => v.category).sum ≤ 8) (hdg : decode cc pc = .ok (.invokevirtual index, 3)) (hf : cells ≤ R.cells ∧ slots ≤ R.slots)
    (kk : ∀ r : Option Nat, post r → W p l e R s m args below meth c H locs cells slots Q (F0 m (pc + 3) ls (va_rf r :: rest))) : W p l e R s m args below meth c H locs cells slots Q (F0 m pc ls st0) :=
  va_csq (va_Run.run (va_runV (rest := rest) S hM cw ⟨fun a U g mk q => ⟨q.1, hbl U g mk a q.2⟩, hrc, fun U hU hW => ⟨rfl, hI U hU hW⟩⟩ rfl hn hsize hst (lv_room hW) hdg hf)) kk
theorem tk_cSi {post : Int32 → Prop} (S : CallFix p m c cc nL s args Ts own) (hM : Met l y ws rm (va_Pc As I) (vp_Si post) 0 0 (fun _ => False)) (cw : CallB R s args own index y bytes maxL ret ws rm 0 0 n ∧ (Cond.static y).before args s = true) (hbl : ∀ U g mk a, I U → I (U.calling g mk a)) (hI : ∀ U : State, U.heap = H → s.WarmedH U.vm → I U)
    (hn : As.length = n) (hsize : ls.size = nL) (hst : st0 = As.reverse ++ rest) (hW : (rest.map fun v => v.category).sum ≤ 8) (hdg : decode cc pc = .ok (.invokestatic index, 3)) (hf : cells ≤ R.cells ∧ slots ≤ R.slots)
    (kk : ∀ r : Int32, post r → W p l e R s m args below meth c H locs cells slots Q (F0 m (pc + 3) ls (.int r :: rest))) : W p l e R s m args below meth c H locs cells slots Q (F0 m pc ls st0) :=
  vp_callSi (va_Run.run (va_runS (rest := rest) S hM cw ⟨fun a U g mk q => ⟨q.1, hbl U g mk a q.2⟩, fun U hU hW => ⟨rfl, hI U hU hW⟩⟩ rfl hn hsize hst (lv_room hW) hdg hf)) kk
theorem tk_cSq {post : Option Nat → Prop} (S : CallFix p m c cc nL s args Ts own) (hM : Met l y ws rm (va_Pc As I) (va_Sq post) 0 0 (fun _ => False)) (cw : CallB R s args own index y bytes maxL ret ws rm 0 0 n ∧ (Cond.static y).before args s = true) (hbl : ∀ U g mk a, I U → I (U.calling g mk a)) (hI : ∀ U : State, U.heap = H → s.WarmedH U.vm → I U)
    (hn : As.length = n) (hsize : ls.size = nL) (hst : st0 = As.reverse ++ rest) (hW : (rest.map fun v => v.category).sum ≤ 8) (hdg : decode cc pc = .ok (.invokestatic index, 3)) (hf : cells ≤ R.cells ∧ slots ≤ R.slots)
    (kk : ∀ r : Option Nat, post r → W p l e R s m args below meth c H locs cells slots Q (F0 m (pc + 3) ls (va_rf r :: rest))) : W p l e R s m args below meth c H locs cells slots Q (F0 m pc ls st0) :=
  va_csq (va_Run.run (va_runS (rest := rest) S hM cw ⟨fun a U g mk q => ⟨q.1, hbl U g mk a q.2⟩, fun U hU hW => ⟨rfl, hI U hU hW⟩⟩ rfl hn hsize hst (lv_room hW) hdg hf)) kk
end TKC
section TKO
variable {p : Program} {l : Launch} {e : Env} {R : Room} {s : State} {m : MethodId} {args : Array Value} {below : List Frame} {meth : Method} {c : Code} {H : Heap} {locs : List Loc} {cells slots : Nat} {Q : State → Prop}
variable {cc : ByteArray} {pc : Nat} {ls : Array Slot} {rest : List Value}
theorem tk_aload_n (hx : p.tables.exec = Jvm.exec) (hb : c.code = cc) {k : Fin 4} {i : Nat} {r : Option Nat} (hdg : decode cc pc = .ok (.aload_n k, 1)) (hi : (k : Nat) = i) (hl : ls[i]? = some (.val (va_rf r)))
    (kk : W p l e R s m args below meth c H locs cells slots Q (F0 m (pc + 1) ls (va_rf r :: rest))) : W p l e R s m args below meth c H locs cells slots Q (F0 m pc ls rest) := by
  cases r with
  | none => exact lv_aload_nN hx hb hdg hi hl kk
  | some x => exact lv_aload_n hx hb hdg hi hl kk
theorem tk_aload (hx : p.tables.exec = Jvm.exec) (hb : c.code = cc) {i : Nat} {r : Option Nat} (hdg : decode cc pc = .ok (.aload i, 2)) (hl : ls[i]? = some (.val (va_rf r)))
    (kk : W p l e R s m args below meth c H locs cells slots Q (F0 m (pc + 2) ls (va_rf r :: rest))) : W p l e R s m args below meth c H locs cells slots Q (F0 m pc ls rest) := by
  cases r with
  | none => exact lv_aloadN hx hb hdg hl kk
  | some x => exact lv_aload hx hb hdg hl kk
theorem tk_nq (r : Option Nat) {ty : FieldType} (h : (match ty with | .object _ => true | .array _ => true | _ => false) = true) : narrow ty (va_rf r) = va_rf r := by
  cases r <;> cases ty <;> first | rfl | cases h
theorem tk_fq (r : Option Nat) {ty : FieldType} (h : (match ty with | .object _ => true | .array _ => true | _ => false) = true) : fits ty (va_rf r) = true := by
  cases r <;> cases ty <;> first | rfl | cases h
end TKO
