/-! arrays of objects: stores, copies -/
/-- an object of ours -/
def XOb (G : TG) (x : Nat) : Prop := ∃ (ci : Nat) (fs : List Value) (C : String) (T : u_T) (N : Nat), G x = some (.inr (ci, fs)) ∧ vwCl[ci]? = some (C, T, N) ∧ C ∈ ["TicketForge$Task", "TicketForge$Entry", "TicketForge$Invoice"]
theorem XOb.up {G : TG} {x a : Nat} {y : Option va_E} (h : XOb G x) (ha : x ≠ a) : XOb (va_up G a y) x := by
  obtain ⟨ci, fs, C, T, N, h1, h2⟩ := h
  exact ⟨ci, fs, C, T, N, by rw [va_up_ne _ _ ha]; exact h1, h2⟩
theorem XOb.any {ac : Nat → ClassId} {A A1 : Nat → Prop} {D : va_G} {dE : Nat} {G : TG} {s : State} {H H2 : Heap} {x : Nat} (h : XOb G x) (hK : va_K D vwCl (tkT ac) s) (hM : tkM A D G H) (hO : tkO ac A1 dE s H2) : va_Any "java/lang/Object" s H x := by
  obtain ⟨ci, fs, C, T, N, h1, h2, h3⟩ := h
  refine va_rAny hK (hM.one h1) (q0 := 0) rfl h2 (fun comp c0 e1 e2 => ?_)
  obtain ⟨c1, t1, f1, f2, f3⟩ := Cond.castable_spec (va_Nw.use (A := #[]) rfl (hO.2.2.2.1 C h3))
  cases e1.symm.trans f2
  cases e2.symm.trans f1
  exact f3
section TKQ
variable {p : Program} {l : Launch} {e : Env} {R : Room} {s : State} {m : MethodId} {args : Array Value} {below : List Frame} {meth : Method} {c : Code} {H : Heap} {locs : List Loc} {cells slots : Nat} {Q : State → Prop}
variable {cc : ByteArray} {pc : Nat} {ls : Array Slot} {rest : List Value} {D : va_G} {A A1 : Nat → Prop} {a : Nat} {ac : Nat → ClassId} {G : TG} {H0 H2 : Heap} {dE : Nat}
theorem tk_aast (hx : p.tables.exec = Jvm.exec) (hb : c.code = cc) (hK : va_K D vwCl (tkT ac) s) (hM : tkM A D G H) (hS : va_S A H0 H locs) (hO : tkO ac A1 dE s H2) {n v : Nat} {f : Nat → Option Nat} (he : G a = some (.inl (ac 3, n, .inr (.inr (.inr (.inr f)))))) (hv : XOb G v) {i : Int32} (hin : vp_in i n) (hdg : decode cc pc = .ok (.aastore, 1))
    (kk : ∀ (H1 : Heap) (locs1 : List Loc), tkM A D (va_up G a (some (.inl (ac 3, n, .inr (.inr (.inr (.inr (va_up f i.toNatClampNeg (some v)))))))))  H1 → va_S A H0 H1 locs1 → W p l e R s m args below meth c H1 locs1 cells slots Q (F0 m (pc + 1) ls rest)) : W p l e R s m args below meth c H locs cells slots Q (F0 m pc ls (.ref v :: .int i :: .ref a :: rest)) := by
  obtain ⟨ws, hP, hD, hG⟩ := hM
  obtain ⟨q0, h0⟩ := hG _ _ he
  obtain ⟨ci, fs, C, T, N, h1, h2, h3⟩ := hv
  obtain ⟨q1, h4⟩ := hG _ _ h1
  exact va_astqO hx hb hK hP hD hS q0 3 q1 ci h0 (E := "java/lang/Object") rfl (r := (C, T, N)) (hO.2.2.2.1 C h3) h4 h2 hin hdg (fun H1 locs1 hP1 hD1 hS1 => kk H1 locs1 ⟨_, hP1, hD1, tk_set hD h0 hG⟩ hS1)
theorem tk_cpy (hx : p.tables.exec = Jvm.exec) (hb : c.code = cc) (hml : c.maxLocals = ls.size) {own : String} {index : Nat} (hown : s.vm.findClass own = some m.cls) (hlink : (Cond.methodLink own index arraycopyName).before args s = true) (hnat : (Cond.native arraycopyName).before args s = true) (hstat : (Cond.static arraycopyName).before args s = true) (hini : (Cond.initialized "java/lang/System").before args s = true)
    (hK : va_K D vwCl (tkT ac) s) (hM : tkM A D G H) (hS : va_S A H0 H locs) (hO : tkO ac A1 dE s H2) {a0 n0 n1 : Nat} {f g : Nat → Option Nat} (he0 : G a0 = some (.inl (ac 3, n0, .inr (.inr (.inr (.inr f)))))) (he1 : G a = some (.inl (ac 3, n1, .inr (.inr (.inr (.inr g)))))) {k : Nat} (hk0 : k ≤ n0) (hk1 : k ≤ n1) (hk : k < 2 ^ 31) (hel : ∀ i : Nat, i < k → ∀ y : Nat, f i = some y → XOb G y) (hframes : 1 ≤ R.frames) (hlocals : (rest.map fun v => v.category).sum + (nativeFrameWords "java/lang/System" "arraycopy" 5 + 11) ≤ R.locals) (hdg : decode cc pc = .ok (.invokestatic index, 3))
    (kk : ∀ (H1 : Heap) (locs1 : List Loc), tkM A D (va_up G a (some (.inl (ac 3, n1, .inr (.inr (.inr (.inr (va_cpy f g 0 0 k)))))))) H1 → va_S A H0 H1 locs1 → W p l e R s m args below meth c H1 locs1 cells slots Q (F0 m (pc + 3) ls rest)) : W p l e R s m args below meth c H locs cells slots Q (F0 m pc ls (.int (nI k) :: .int 0 :: .ref a :: .int 0 :: .ref a0 :: rest)) := by
  have hM0 := hM
  obtain ⟨ws, hP, hD, hG⟩ := hM
  obtain ⟨q0, h0⟩ := hG _ _ he0
  obtain ⟨q1, h1⟩ := hG _ _ he1
  have ek : (nI k).toNatClampNeg = k := nI_clamp hk
  have e0 : (0 : Int32).toNatClampNeg = 0 := by decide
  refine va_copyM hx hb hml hown hlink hnat hstat hini hK hP hD hS q0 q1 3 3 (E0 := "java/lang/Object") (E1 := "java/lang/Object") h0 h1 rfl rfl (by decide) (by decide) (nI_pos hk) (by rw [e0, ek]; omega) (by rw [e0, ek]; omega) (fun i hi y hy => ?_) hframes hlocals hdg (fun H1 locs1 hP1 hD1 hS1 => ?_)
  · rw [ek] at hi
    rw [e0, Nat.zero_add] at hy
    exact (hel i hi y hy).any hK hM0 hO
  · rw [e0, ek] at hP1 hD1
    exact kk H1 locs1 ⟨_, hP1, hD1, tk_set hD h1 hG⟩ hS1
end TKQ
theorem cpy_lt {f g : Nat → Option Nat} {k i : Nat} (h : i < k) : va_cpy f g 0 0 k i = f i := by
  unfold va_cpy
  simp [h]
theorem va_Mi.uq {C : String} {a b : Nat} {U : State} (h1 : va_Mi C a U) (h2 : va_Mi C b U) : a = b := by
  obtain ⟨c, k, e1, e2, e3⟩ := h1
  obtain ⟨c2, k2, g1, g2, g3⟩ := h2
  cases e1.symm.trans g1
  cases e2.symm.trans g2
  exact Option.some.inj (e3.symm.trans g3)
/-- the bundle of Arrays.copyOf: with a mirror -/
def tkY (A : Nat → Prop) (D : va_G) (ac : Nat → ClassId) (dE mi : Nat) (G : TG) (U : State) : Prop := tkX A D ac dE G U ∧ va_Mi "[Ljava/lang/Object;" mi U
theorem tkY.blind {A : Nat → Prop} {D : va_G} {ac : Nat → ClassId} {dE mi : Nat} {G : TG} (U : State) (g : JFrame) (mk : MethodId) (a : Array Value) (h : tkY A D ac dE mi G U) : tkY A D ac dE mi G (U.calling g mk a) := ⟨tkX.blind U g mk a h.1, va_Mi.moved (u := U) (U := U.calling g mk a) (Vm.Alike.refl U.vm) h.2⟩
theorem tkY.at {A : Nat → Prop} {D : va_G} {ac : Nat → ClassId} {dE mi : Nat} {G : TG} {s : State} {H : Heap} {locs : List Loc} (hM : tkM A D G H) (hK : va_K D vwCl (tkT ac) s) (hA : ∀ q, s.heap.size ≤ q → A q) (hF : tkF A s s.heap) (hO : tkO ac A dE s s.heap) (hS : va_S A s.heap H locs) (hMi : va_Mi "[Ljava/lang/Object;" mi s) (U : State) (hU : U.heap = H) (hW : s.WarmedH U.vm) : tkY A D ac dE mi G U := ⟨tkX.at hM hK hA hF hO hS U hU hW, hMi.moved hW.alike⟩
