/-! MY LAYER: the heap as a map from addresses to contents ('TG'), rows over it -/
abbrev TG : Type := Nat → Option va_E
/-- the heap holds what G says, at cells of A -/
def tkM (A : Nat → Prop) (D : va_G) (G : TG) (H : Heap) : Prop := ∃ ws : va_W, va_P D vwCl ws H ∧ va_D A ws ∧ ∀ (a : Nat) (e : va_E), G a = some e → ∃ k : Nat, ws[k]? = some (a, e)
theorem tkM.one {A : Nat → Prop} {D : va_G} {G : TG} {H : Heap} {a : Nat} {e : va_E} (h : tkM A D G H) (he : G a = some e) : va_P D vwCl [(a, e)] H := by
  obtain ⟨ws, hP, -, hG⟩ := h
  obtain ⟨k, hk⟩ := hG a e he
  intro j q hj
  match j, hj with
  | 0, hj => cases hj; exact hP k _ hk
  | j + 1, hj => simp at hj
theorem tkM.lt {A : Nat → Prop} {D : va_G} {G : TG} {H : Heap} {a : Nat} {e : va_E} (h : tkM A D G H) (he : G a = some e) : a < H.size := by
  obtain ⟨ws, hP, -, hG⟩ := h
  obtain ⟨k, hk⟩ := hG a e he
  exact (hP k _ hk).lt
theorem tkM.isA {A : Nat → Prop} {D : va_G} {G : TG} {H : Heap} {a : Nat} {e : va_E} (h : tkM A D G H) (he : G a = some e) : A a := by
  obtain ⟨ws, -, hD, hG⟩ := h
  obtain ⟨k, hk⟩ := hG a e he
  exact hD.2 k _ hk
theorem tkM.kept {A : Nat → Prop} {D : va_G} {G : TG} {H H1 : Heap} (h : tkM A D G H) (hq : ∀ q : Nat, q < H.size → A q → H1[q]? = H[q]?) : tkM A D G H1 := by
  obtain ⟨ws, hP, hD, hG⟩ := h
  exact ⟨ws, hP.kept (fun k q hk => hq q.1 (hP k q hk).lt (hD.2 k q hk)), hD, hG⟩
theorem tkM.keptE {A : Nat → Prop} {D : va_G} {G : TG} {H H1 : Heap} (h : tkM A D G H) (hq : ∀ q : Nat, q < H.size → H1[q]? = H[q]?) : tkM A D G H1 := h.kept (fun q h1 _ => hq q h1)
theorem tkM.weaken {A B : Nat → Prop} {D : va_G} {G : TG} {H : Heap} (h : tkM A D G H) (hAB : ∀ q, A q → B q) : tkM B D G H := by
  obtain ⟨ws, hP, hD, hG⟩ := h
  exact ⟨ws, hP, hD.weaken (fun _ q _ h => hAB q.1 h), hG⟩
theorem tkM.sub {A : Nat → Prop} {D : va_G} {G G1 : TG} {H : Heap} (h : tkM A D G H) (hs : ∀ a e, G1 a = some e → G a = some e) : tkM A D G1 H := by
  obtain ⟨ws, hP, hD, hG⟩ := h
  exact ⟨ws, hP, hD, fun a e he => hG a e (hs a e he)⟩
theorem tkM.nil {A : Nat → Prop} {D : va_G} {H : Heap} : tkM A D (fun _ => none) H := ⟨[], fun k q h => by simp at h, ⟨fun i j p q h => by simp at h, fun k q h => by simp at h⟩, fun a e h => by cases h⟩
theorem tk_set {A : Nat → Prop} {G : TG} {ws : va_W} {a q0 : Nat} {e0 e1 : va_E} (hD : va_D A ws) (h0 : ws[q0]? = some (a, e0)) (hG : ∀ (b : Nat) (e : va_E), G b = some e → ∃ k : Nat, ws[k]? = some (b, e)) : ∀ (b : Nat) (e : va_E), va_up G a (some e1) b = some e → ∃ k : Nat, (ws.set q0 (a, e1))[k]? = some (b, e) := by
  intro b e he
  have hl := (List.getElem?_eq_some_iff.mp h0).1
  by_cases hb : b = a
  · subst hb
    rw [va_up_self] at he
    cases he
    exact ⟨q0, List.getElem?_set_self hl⟩
  · rw [va_up_ne _ _ hb] at he
    obtain ⟨k, hk⟩ := hG b e he
    refine ⟨k, ?_⟩
    rw [List.getElem?_set_ne (fun q => ?_)]
    · exact hk
    · subst q
      rw [h0] at hk
      cases hk
      exact hb rfl
theorem tk_push {A : Nat → Prop} {G : TG} {ws : va_W} {a : Nat} {e1 : va_E} (hD : va_D A (ws ++ [(a, e1)])) (hG : ∀ (b : Nat) (e : va_E), G b = some e → ∃ k : Nat, ws[k]? = some (b, e)) : G a = none ∧ ∀ (b : Nat) (e : va_E), va_up G a (some e1) b = some e → ∃ k : Nat, (ws ++ [(a, e1)])[k]? = some (b, e) := by
  have hlast : (ws ++ [(a, e1)])[ws.length]? = some (a, e1) := by rw [List.getElem?_append_right (Nat.le_refl _), Nat.sub_self]; rfl
  refine ⟨?_, fun b e he => ?_⟩
  · cases hg : G a with
    | none => rfl
    | some e =>
      obtain ⟨k, hk⟩ := hG a e hg
      have hl := (List.getElem?_eq_some_iff.mp hk).1
      have h1 : (ws ++ [(a, e1)])[k]? = some (a, e) := by rw [List.getElem?_append_left hl]; exact hk
      have := hD.1 _ _ _ _ h1 hlast rfl
      omega
  · by_cases hb : b = a
    · subst hb
      rw [va_up_self] at he
      cases he
      exact ⟨ws.length, hlast⟩
    · rw [va_up_ne _ _ hb] at he
      obtain ⟨k, hk⟩ := hG b e he
      exact ⟨k, by rw [List.getElem?_append_left (List.getElem?_eq_some_iff.mp hk).1]; exact hk⟩
section TKR
variable {p : Program} {l : Launch} {e : Env} {R : Room} {s : State} {m : MethodId} {args : Array Value} {below : List Frame} {meth : Method} {c : Code} {H : Heap} {locs : List Loc} {cells slots : Nat} {Q : State → Prop}
variable {cc : ByteArray} {pc : Nat} {ls : Array Slot} {rest : List Value} {D : va_G} {A A1 : Nat → Prop} {a : Nat} {tys : List (ClassId × FieldType)} {G : TG} {H0 : Heap}
theorem tk_get (hx : p.tables.exec = Jvm.exec) (hb : c.code = cc) {own ref C : String} {T : u_T} {N ci index : Nat} {Ts : List Cond} (hts : ∀ w ∈ Ts, w.before args s = true) (hin : ∀ w ∈ u_ws C T N, w ∈ Ts) (hown : s.vm.findClass own = some m.cls) (hK : va_K D vwCl tys s) (hM : tkM A1 D G H) {fs : List Value} (he : G a = some (.inr (ci, fs))) (hc : vwCl[ci]? = some (C, T, N)) (k : Nat) (hk : k < N) (hlink : (Cond.fieldLink own index ref (T k).2.1 (T k).2.2.1).before args s = true) (hsame : ∀ x, s.fieldFound? (T k).1 (T k).2.1 (T k).2.2.1 = some x → s.fieldFound? ref (T k).2.1 (T k).2.2.1 = some x) {v : Value} (hv : fs[k]? = some v) (hdg : decode cc pc = .ok (.getfield index, 3))
    (kk : W p l e R s m args below meth c H locs cells slots Q (F0 m (pc + 3) ls (v :: rest))) : W p l e R s m args below meth c H locs cells slots Q (F0 m pc ls (.ref a :: rest)) :=
  va_get hx hb hts hin hown hK (hM.one he) 0 rfl hc k hk hlink hsame hv hdg kk
theorem tk_put (hx : p.tables.exec = Jvm.exec) (hb : c.code = cc) {own ref C : String} {T : u_T} {N ci index : Nat} {Ts : List Cond} (hts : ∀ w ∈ Ts, w.before args s = true) (hin : ∀ w ∈ u_ws C T N, w ∈ Ts) (ty0 : Nat → FieldType) (hty : ∀ k, k < N → parseFieldDescriptor (T k).2.2.1 = some (ty0 k)) (hnm : ∀ a, a < N → ∀ b, b < N → a ≠ b → (T a).2.1 ≠ (T b).2.1) (hown : s.vm.findClass own = some m.cls) (hK : va_K D vwCl tys s) (hM : tkM A D G H) (hS : va_S A H0 H locs) {fs : List Value} (he : G a = some (.inr (ci, fs))) (hc : vwCl[ci]? = some (C, T, N)) (k : Nat) (hk : k < N) (hlink : (Cond.fieldLink own index ref (T k).2.1 (T k).2.2.1).before args s = true) (hsame : ∀ x, s.fieldFound? (T k).1 (T k).2.1 (T k).2.2.1 = some x → s.fieldFound? ref (T k).2.1 (T k).2.2.1 = some x) (hfin : (T k).2.2.2 = false) {ty : FieldType} {v : Value} (hd : parseFieldDescriptor (T k).2.2.1 = some ty) (hn : narrow ty v = v) (hfit : fits ty v = true) (hl : k < fs.length)
    (hdg : decode cc pc = .ok (.putfield index, 3)) (kk : ∀ (H1 : Heap) (locs1 : List Loc), tkM A D (va_up G a (some (.inr (ci, fs.set k v)))) H1 → va_S A H0 H1 locs1 → W p l e R s m args below meth c H1 locs1 cells slots Q (F0 m (pc + 3) ls rest)) : W p l e R s m args below meth c H locs cells slots Q (F0 m pc ls (v :: .ref a :: rest)) := by
  obtain ⟨ws, hP, hD, hG⟩ := hM
  obtain ⟨q0, h0⟩ := hG _ _ he
  exact va_put hx hb hts hin ty0 hty hnm hown hK hP hD hS q0 h0 hc k hk hlink hsame hfin hd hn hfit hl hdg (fun H1 locs1 hP1 hD1 hS1 => kk H1 locs1 ⟨_, hP1, hD1, tk_set hD h0 hG⟩ hS1)
theorem tk_putF (hx : p.tables.exec = Jvm.exec) (hb : c.code = cc) {own ref C : String} {T : u_T} {N ci index : Nat} {Ts : List Cond} (hts : ∀ w ∈ Ts, w.before args s = true) (hin : ∀ w ∈ u_ws C T N, w ∈ Ts) (ty0 : Nat → FieldType) (hty : ∀ k, k < N → parseFieldDescriptor (T k).2.2.1 = some (ty0 k)) (hnm : ∀ a, a < N → ∀ b, b < N → a ≠ b → (T a).2.1 ≠ (T b).2.1) (hown : s.vm.findClass own = some m.cls) (hK : va_K D vwCl tys s) (hM : tkM A D G H) (hS : va_S A H0 H locs) {fs : List Value} (he : G a = some (.inr (ci, fs))) (hc : vwCl[ci]? = some (C, T, N)) (k : Nat) (hk : k < N) (hlink : (Cond.fieldLink own index ref (T k).2.1 (T k).2.2.1).before args s = true) (hsame : ∀ x, s.fieldFound? (T k).1 (T k).2.1 (T k).2.2.1 = some x → s.fieldFound? ref (T k).2.1 (T k).2.2.1 = some x) (hfin : (T k).2.2.2 = true) (hin2 : meth.name = "<init>") (hdecl : (T k).1 = own) {ty : FieldType} {v : Value} (hd : parseFieldDescriptor (T k).2.2.1 = some ty) (hn : narrow ty v = v) (hfit : fits ty v = true) (hl : k < fs.length)
    (hdg : decode cc pc = .ok (.putfield index, 3)) (kk : ∀ (H1 : Heap) (locs1 : List Loc), tkM A D (va_up G a (some (.inr (ci, fs.set k v)))) H1 → va_S A H0 H1 locs1 → W p l e R s m args below meth c H1 locs1 cells slots Q (F0 m (pc + 3) ls rest)) : W p l e R s m args below meth c H locs cells slots Q (F0 m pc ls (v :: .ref a :: rest)) := by
  obtain ⟨ws, hP, hD, hG⟩ := hM
  obtain ⟨q0, h0⟩ := hG _ _ he
  exact va_putF hx hb hts hin ty0 hty hnm hown hK hP hD hS q0 h0 hc k hk hlink hsame hfin hin2 hdecl hd hn hfit hl hdg (fun H1 locs1 hP1 hD1 hS1 => kk H1 locs1 ⟨_, hP1, hD1, tk_set hD h0 hG⟩ hS1)
-- loads
theorem tk_iald (hx : p.tables.exec = Jvm.exec) (hb : c.code = cc) (hK : va_K D vwCl tys s) (hM : tkM A1 D G H) (t0 : Nat) {cA : ClassId} {n : Nat} {f : Nat → Int32} (he : G a = some (.inl (cA, n, .inl f))) (ht : tys[t0]? = some (cA, .int)) {i : Int32} (hin : vp_in i n) (hdg : decode cc pc = .ok (.iaload, 1))
    (kk : W p l e R s m args below meth c H locs cells slots Q (F0 m (pc + 1) ls (.int (f i.toNatClampNeg) :: rest))) : W p l e R s m args below meth c H locs cells slots Q (F0 m pc ls (.int i :: .ref a :: rest)) :=
  va_iald hx hb hK (hM.one he) 0 t0 rfl ht hin hdg kk
theorem tk_zald (hx : p.tables.exec = Jvm.exec) (hb : c.code = cc) (hK : va_K D vwCl tys s) (hM : tkM A1 D G H) (t0 : Nat) {cA : ClassId} {n : Nat} {f : Nat → Int32} (he : G a = some (.inl (cA, n, .inl f))) (ht : tys[t0]? = some (cA, .boolean)) {i : Int32} (hin : vp_in i n) (hdg : decode cc pc = .ok (.baload, 1))
    (kk : W p l e R s m args below meth c H locs cells slots Q (F0 m (pc + 1) ls (.int (f i.toNatClampNeg) :: rest))) : W p l e R s m args below meth c H locs cells slots Q (F0 m pc ls (.int i :: .ref a :: rest)) :=
  va_zald hx hb hK (hM.one he) 0 t0 rfl ht hin hdg kk
theorem tk_cald (hx : p.tables.exec = Jvm.exec) (hb : c.code = cc) (hK : va_K D vwCl tys s) (hM : tkM A1 D G H) (t0 : Nat) {cA : ClassId} {n : Nat} {f : Nat → Int32} (he : G a = some (.inl (cA, n, .inl f))) (ht : tys[t0]? = some (cA, .char)) {i : Int32} (hin : vp_in i n) (hdg : decode cc pc = .ok (.caload, 1))
    (kk : W p l e R s m args below meth c H locs cells slots Q (F0 m (pc + 1) ls (.int (f i.toNatClampNeg) :: rest))) : W p l e R s m args below meth c H locs cells slots Q (F0 m pc ls (.int i :: .ref a :: rest)) :=
  va_cald hx hb hK (hM.one he) 0 t0 rfl ht hin hdg kk
theorem tk_lald (hx : p.tables.exec = Jvm.exec) (hb : c.code = cc) (hK : va_K D vwCl tys s) (hM : tkM A1 D G H) (t0 : Nat) {cA : ClassId} {n : Nat} {f : Nat → Int64} (he : G a = some (.inl (cA, n, .inr (.inl f)))) (ht : tys[t0]? = some (cA, .long)) {i : Int32} (hin : vp_in i n) (hdg : decode cc pc = .ok (.laload, 1))
    (kk : W p l e R s m args below meth c H locs cells slots Q (F0 m (pc + 1) ls (.long (f i.toNatClampNeg) :: rest))) : W p l e R s m args below meth c H locs cells slots Q (F0 m pc ls (.int i :: .ref a :: rest)) :=
  va_lald hx hb hK (hM.one he) 0 t0 rfl ht hin hdg kk
theorem tk_dald (hx : p.tables.exec = Jvm.exec) (hb : c.code = cc) (hK : va_K D vwCl tys s) (hM : tkM A1 D G H) (t0 : Nat) {cA : ClassId} {n : Nat} {f : Nat → UInt64} (he : G a = some (.inl (cA, n, .inr (.inr (.inr (.inl f)))))) (ht : tys[t0]? = some (cA, .double)) {i : Int32} (hin : vp_in i n) (hdg : decode cc pc = .ok (.daload, 1))
    (kk : W p l e R s m args below meth c H locs cells slots Q (F0 m (pc + 1) ls (.double (f i.toNatClampNeg) :: rest))) : W p l e R s m args below meth c H locs cells slots Q (F0 m pc ls (.int i :: .ref a :: rest)) :=
  va_dald hx hb hK (hM.one he) 0 t0 rfl ht hin hdg kk
theorem tk_aald (hx : p.tables.exec = Jvm.exec) (hb : c.code = cc) (hK : va_K D vwCl tys s) (hM : tkM A1 D G H) (t0 : Nat) {cA : ClassId} {C : String} {n : Nat} {f : Nat → Option Nat} (he : G a = some (.inl (cA, n, .inr (.inr (.inr (.inr f)))))) (ht : tys[t0]? = some (cA, .object C)) {i : Int32} (hin : vp_in i n) (hdg : decode cc pc = .ok (.aaload, 1))
    (kk : W p l e R s m args below meth c H locs cells slots Q (F0 m (pc + 1) ls (va_rf (f i.toNatClampNeg) :: rest))) : W p l e R s m args below meth c H locs cells slots Q (F0 m pc ls (.int i :: .ref a :: rest)) :=
  va_aldq hx hb hK (hM.one he) 0 t0 rfl ht hin hdg kk
theorem tk_alen (hx : p.tables.exec = Jvm.exec) (hb : c.code = cc) (hK : va_K D vwCl tys s) (hM : tkM A1 D G H) (t0 : Nat) {cA : ClassId} {x : vp_A} (he : G a = some (.inl (cA, x))) {ty : FieldType} (ht : tys[t0]? = some (cA, ty)) {v : Int32} (hv : Int32.ofNat x.1 = v) (hdg : decode cc pc = .ok (.arraylength, 1))
    (kk : W p l e R s m args below meth c H locs cells slots Q (F0 m (pc + 1) ls (.int v :: rest))) : W p l e R s m args below meth c H locs cells slots Q (F0 m pc ls (.ref a :: rest)) :=
  va_alen hx hb hK (hM.one he) 0 t0 rfl ht hv hdg kk
-- stores
theorem tk_iast (hx : p.tables.exec = Jvm.exec) (hb : c.code = cc) (hK : va_K D vwCl tys s) (hM : tkM A D G H) (hS : va_S A H0 H locs) (t0 : Nat) {cA : ClassId} {n : Nat} {f : Nat → Int32} (he : G a = some (.inl (cA, n, .inl f))) (ht : tys[t0]? = some (cA, .int)) {i : Int32} {x : Int32} (hin : vp_in i n) (hdg : decode cc pc = .ok (.iastore, 1))
    (kk : ∀ (H1 : Heap) (locs1 : List Loc), tkM A D (va_up G a (some (.inl (cA, n, .inl (upd f i.toNatClampNeg x))))) H1 → va_S A H0 H1 locs1 → W p l e R s m args below meth c H1 locs1 cells slots Q (F0 m (pc + 1) ls rest)) : W p l e R s m args below meth c H locs cells slots Q (F0 m pc ls (.int x :: .int i :: .ref a :: rest)) := by
  obtain ⟨ws, hP, hD, hG⟩ := hM
  obtain ⟨q0, h0⟩ := hG _ _ he
  exact va_iast hx hb hK hP hD hS q0 t0 h0 ht hin hdg (fun H1 locs1 hP1 hD1 hS1 => kk H1 locs1 ⟨_, hP1, hD1, tk_set hD h0 hG⟩ hS1)
theorem tk_zast (hx : p.tables.exec = Jvm.exec) (hb : c.code = cc) (hK : va_K D vwCl tys s) (hM : tkM A D G H) (hS : va_S A H0 H locs) (t0 : Nat) {cA : ClassId} {n : Nat} {f : Nat → Int32} (he : G a = some (.inl (cA, n, .inl f))) (ht : tys[t0]? = some (cA, .boolean)) {i : Int32} {x y : Int32} (hy : vp_nar .boolean x = y) (hin : vp_in i n) (hdg : decode cc pc = .ok (.bastore, 1))
    (kk : ∀ (H1 : Heap) (locs1 : List Loc), tkM A D (va_up G a (some (.inl (cA, n, .inl (upd f i.toNatClampNeg y))))) H1 → va_S A H0 H1 locs1 → W p l e R s m args below meth c H1 locs1 cells slots Q (F0 m (pc + 1) ls rest)) : W p l e R s m args below meth c H locs cells slots Q (F0 m pc ls (.int x :: .int i :: .ref a :: rest)) := by
  subst hy
  obtain ⟨ws, hP, hD, hG⟩ := hM
  obtain ⟨q0, h0⟩ := hG _ _ he
  exact va_zast hx hb hK hP hD hS q0 t0 h0 ht hin hdg (fun H1 locs1 hP1 hD1 hS1 => kk H1 locs1 ⟨_, hP1, hD1, tk_set hD h0 hG⟩ hS1)
theorem tk_cast (hx : p.tables.exec = Jvm.exec) (hb : c.code = cc) (hK : va_K D vwCl tys s) (hM : tkM A D G H) (hS : va_S A H0 H locs) (t0 : Nat) {cA : ClassId} {n : Nat} {f : Nat → Int32} (he : G a = some (.inl (cA, n, .inl f))) (ht : tys[t0]? = some (cA, .char)) {i : Int32} {x y : Int32} (hy : vp_nar .char x = y) (hin : vp_in i n) (hdg : decode cc pc = .ok (.castore, 1))
    (kk : ∀ (H1 : Heap) (locs1 : List Loc), tkM A D (va_up G a (some (.inl (cA, n, .inl (upd f i.toNatClampNeg y))))) H1 → va_S A H0 H1 locs1 → W p l e R s m args below meth c H1 locs1 cells slots Q (F0 m (pc + 1) ls rest)) : W p l e R s m args below meth c H locs cells slots Q (F0 m pc ls (.int x :: .int i :: .ref a :: rest)) := by
  subst hy
  obtain ⟨ws, hP, hD, hG⟩ := hM
  obtain ⟨q0, h0⟩ := hG _ _ he
  exact va_cast hx hb hK hP hD hS q0 t0 h0 ht hin hdg (fun H1 locs1 hP1 hD1 hS1 => kk H1 locs1 ⟨_, hP1, hD1, tk_set hD h0 hG⟩ hS1)
theorem tk_last (hx : p.tables.exec = Jvm.exec) (hb : c.code = cc) (hK : va_K D vwCl tys s) (hM : tkM A D G H) (hS : va_S A H0 H locs) (t0 : Nat) {cA : ClassId} {n : Nat} {f : Nat → Int64} (he : G a = some (.inl (cA, n, .inr (.inl f)))) (ht : tys[t0]? = some (cA, .long)) {i : Int32} {x : Int64} (hin : vp_in i n) (hdg : decode cc pc = .ok (.lastore, 1))
    (kk : ∀ (H1 : Heap) (locs1 : List Loc), tkM A D (va_up G a (some (.inl (cA, n, .inr (.inl (vp_updL f i.toNatClampNeg x)))))) H1 → va_S A H0 H1 locs1 → W p l e R s m args below meth c H1 locs1 cells slots Q (F0 m (pc + 1) ls rest)) : W p l e R s m args below meth c H locs cells slots Q (F0 m pc ls (.long x :: .int i :: .ref a :: rest)) := by
  obtain ⟨ws, hP, hD, hG⟩ := hM
  obtain ⟨q0, h0⟩ := hG _ _ he
  exact va_last hx hb hK hP hD hS q0 t0 h0 ht hin hdg (fun H1 locs1 hP1 hD1 hS1 => kk H1 locs1 ⟨_, hP1, hD1, tk_set hD h0 hG⟩ hS1)
theorem tk_dast (hx : p.tables.exec = Jvm.exec) (hb : c.code = cc) (hK : va_K D vwCl tys s) (hM : tkM A D G H) (hS : va_S A H0 H locs) (t0 : Nat) {cA : ClassId} {n : Nat} {f : Nat → UInt64} (he : G a = some (.inl (cA, n, .inr (.inr (.inr (.inl f)))))) (ht : tys[t0]? = some (cA, .double)) {i : Int32} {x : UInt64} (hin : vp_in i n) (hdg : decode cc pc = .ok (.dastore, 1))
    (kk : ∀ (H1 : Heap) (locs1 : List Loc), tkM A D (va_up G a (some (.inl (cA, n, .inr (.inr (.inr (.inl (vf_upd f i.toNatClampNeg x)))))))) H1 → va_S A H0 H1 locs1 → W p l e R s m args below meth c H1 locs1 cells slots Q (F0 m (pc + 1) ls rest)) : W p l e R s m args below meth c H locs cells slots Q (F0 m pc ls (.double x :: .int i :: .ref a :: rest)) := by
  obtain ⟨ws, hP, hD, hG⟩ := hM
  obtain ⟨q0, h0⟩ := hG _ _ he
  exact va_dast hx hb hK hP hD hS q0 t0 h0 ht hin hdg (fun H1 locs1 hP1 hD1 hS1 => kk H1 locs1 ⟨_, hP1, hD1, tk_set hD h0 hG⟩ hS1)
-- new objects, new arrays
theorem tk_new {c0 : Code} (hx : p.tables.exec = Jvm.exec) (hb : c0.code = cc) {own C : String} {T : u_T} {N ci index : Nat} {Ts : List Cond} (hts : ∀ w ∈ Ts, w.before args s = true) (hin : ∀ w ∈ u_ws C T N, w ∈ Ts) (ty : Nat → FieldType) (hty : ∀ k, k < N → parseFieldDescriptor (T k).2.2.1 = some (ty k)) (hown : s.vm.findClass own = some m.cls) (hcl : (Cond.classLink own index C).before args s = true) (hinst : (Cond.instantiable C N).before args s = true) (hini : (Cond.initialized C).before args s = true)
    (hK : va_K D vwCl tys s) (hM : tkM A D G H) (hS : va_S A H0 H locs) (hA : ∀ q, H0.size ≤ q → A q) (hc : vwCl[ci]? = some (C, T, N)) {fs : List Value} (hfs : ∀ j, j < N → defaultValue (ty j) = vp_V fs j) (hcells : cells + 1 ≤ R.cells) (hslots : slots + N ≤ R.slots) (hdg : decode cc pc = .ok (.new index, 3))
    (kk : ∀ (q : Nat) (H1 : Heap), G q = none → H.size ≤ q → tkM A D (va_up G q (some (.inr (ci, fs)))) H1 → va_S A H0 H1 locs → W p l e R s m args below meth c0 H1 locs (cells + 1) (slots + N) Q (F0 m (pc + 3) ls (.ref q :: rest))) : W p l e R s m args below meth c0 H locs cells slots Q (F0 m pc ls rest) := by
  obtain ⟨ws, hP, hD, hG⟩ := hM
  have hKn := hK.1 ci _ hc
  refine W.newcK hx hb hown hcl hinst hini rfl hdg hcells hslots hKn.2.1 rfl fun H1 kC hkC e1 z1 o1 => ?_
  have hk : ∀ (k : Nat) (x : Nat × va_E), ws[k]? = some x → H1[x.1]? = H[x.1]? := fun k x hx => o1 x.1 ((hP k x hx).lt)
  have hD1 : va_D A (ws ++ [(H.size, .inr (ci, fs))]) := hD.push hP rfl (hA _ hS.1)
  obtain ⟨g1, g2⟩ := tk_push hD1 hG
  refine kk H.size H1 g1 (Nat.le_refl _) ⟨_, (hP.kept hk).app (fun k x hx => ?_), hD1, g2⟩ ⟨Nat.le_trans hS.1 (by omega), fun x h1 h2 => (o1 x (Nat.lt_of_lt_of_le h1 hS.1)).trans (hS.2.1 x h1 h2), hS.2.2⟩
  have hz : k < 1 := (List.getElem?_eq_some_iff.mp hx).1
  rw [show k = 0 by omega] at hx
  cases hx
  exact ⟨_, hc, (u_born ty hts hin hKn hkC e1 hty).to hfs⟩
theorem tk_newa (hx : p.tables.exec = Jvm.exec) (hb : c.code = cc) {atype : ArrayType} (harr : (Cond.arrayClass (newarray.typeOf atype)).before args s = true) {ty : FieldType} (hty : newarray.typeOf atype = ty) (hK : va_K D vwCl tys s) (t0 : Nat) {cI : ClassId} (ht : tys[t0]? = some (cI, ty)) (hra : ∀ cA : ClassId, va_RA s cA ty → s.vm.findClass ("[" ++ ty.toString) = some cA) (hM : tkM A D G H) (hS : va_S A H0 H locs) (hA : ∀ q, H0.size ≤ q → A q)
    {n : Int32} {N' : Nat} {a0 : vp_A} (ha : ∀ cA : ClassId, vp_cell cA a0 = arrV cA N' (fun _ => defaultValue ty)) (hn : ¬ n < 0) (hN : n.toNatClampNeg = N') (hbytes : N' * componentBytes ty ≤ 536870912) (hcells : cells + 1 ≤ R.cells) (hslots : slots + N' ≤ R.slots) (hdg : decode cc pc = .ok (.newarray atype, 2))
    (kk : ∀ (q : Nat) (H1 : Heap), G q = none → H.size ≤ q → tkM A D (va_up G q (some (.inl (cI, a0)))) H1 → va_S A H0 H1 locs → W p l e R s m args below meth c H1 locs (cells + 1) (slots + N') Q (F0 m (pc + 2) ls (.ref q :: rest))) : W p l e R s m args below meth c H locs cells slots Q (F0 m pc ls (.int n :: rest)) := by
  obtain ⟨ws, hP, hD, hG⟩ := hM
  subst hty
  refine va_newaK hx hb harr rfl hdg rfl hn hN hbytes hcells hslots rfl fun H1 cA e1 z1 o1 hAr hNm => ?_
  have hcA : cA = cI := Option.some.inj (hNm.symm.trans (hra _ (hK.2 t0 _ ht).2))
  subst hcA
  have hk : ∀ (k : Nat) (x : Nat × va_E), ws[k]? = some x → H1[x.1]? = H[x.1]? := fun k x hx => o1 x.1 ((hP k x hx).lt)
  have hD1 : va_D A (ws ++ [(H.size, .inl (cA, a0))]) := hD.push hP rfl (hA _ hS.1)
  obtain ⟨g1, g2⟩ := tk_push hD1 hG
  refine kk H.size H1 g1 (Nat.le_refl _) ⟨_, (hP.kept hk).app (fun k x hx => ?_), hD1, g2⟩ ⟨Nat.le_trans hS.1 (by omega), fun x h1 h2 => (o1 x (Nat.lt_of_lt_of_le h1 hS.1)).trans (hS.2.1 x h1 h2), hS.2.2⟩
  have hz : k < 1 := (List.getElem?_eq_some_iff.mp hx).1
  rw [show k = 0 by omega] at hx
  cases hx
  show H1[H.size]? = some (vp_cell _ _)
  rw [ha]
  exact e1
theorem tk_newq (hx : p.tables.exec = Jvm.exec) (hb : c.code = cc) {own C : String} {index : Nat} (hown : s.vm.findClass own = some m.cls) (hclink : (Cond.classLink own index C).before args s = true) (hover : va_AO C s) (hK : va_K D vwCl tys s) (t0 : Nat) {cO : ClassId} (ht : tys[t0]? = some (cO, .object C)) (hM : tkM A D G H) (hS : va_S A H0 H locs) (hA : ∀ q, H0.size ≤ q → A q)
    {n : Int32} {N' : Nat} (hn : ¬ n < 0) (hN : n.toNatClampNeg = N') (hbytes : N' * 4 ≤ 536870912) (hcells : cells + 1 ≤ R.cells) (hslots : slots + N' ≤ R.slots) (hdg : decode cc pc = .ok (.anewarray index, 3))
    (kk : ∀ (q : Nat) (H1 : Heap), G q = none → tkM A D (va_up G q (some (.inl (cO, N', .inr (.inr (.inr (.inr (fun _ => none)))))))) H1 → va_S A H0 H1 locs → W p l e R s m args below meth c H1 locs (cells + 1) (slots + N') Q (F0 m (pc + 3) ls (.ref q :: rest))) : W p l e R s m args below meth c H locs cells slots Q (F0 m pc ls (.int n :: rest)) := by
  obtain ⟨ws, hP, hD, hG⟩ := hM
  refine va_newq hx hb hown hclink hover hK hP hD hS hA hn hN hbytes hcells hslots hdg (fun q cA H1 hK1 hP1 hD1 hS1 => ?_)
  have hr1 := (hK1.2 tys.length (cA, .object C) (by rw [List.getElem?_append_right (Nat.le_refl _), Nat.sub_self]; rfl)).2
  have hr2 := (hK.2 t0 _ ht).2
  obtain ⟨_, _, _, _, _, h1⟩ := hr1
  obtain ⟨_, _, _, _, _, h2⟩ := hr2
  have hcA : cA = cO := Option.some.inj (h1.symm.trans h2)
  subst hcA
  obtain ⟨g1, g2⟩ := tk_push hD1 hG
  exact kk q H1 g1 ⟨_, hP1, hD1, g2⟩ hS1
end TKR
