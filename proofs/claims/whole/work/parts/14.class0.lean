/-! the class's bundle: statics, casts, mirrors that lists ask too -/
abbrev tkDe : List String := ["java/lang/RuntimeException", "java/lang/Exception", "java/lang/Throwable"]
theorem va_Nw.warmDe {x : MethodName} {s U : State} (hW : s.WarmedH U.vm) (hZ : va_Nw (.declares x) s) : va_Nw (.declares x) U := va_tabs rfl (rfl : (s.setVm U.vm).vm = U.vm) (by rw [Cond.declares_setVm hW.alike]; exact hZ)
def tkO (ac : Nat → ClassId) (A : Nat → Prop) (dE : Nat) (U : State) (H : Heap) : Prop := va_Z "java/util/ArrayList" "DEFAULTCAPACITY_EMPTY_ELEMENTDATA" "[Ljava/lang/Object;" (.ref dE) A U H ∧ va_T (.object "java/lang/Object") dE 0 (fun _ => .null) A U H ∧ va_AO "java/lang/Object" U ∧ (∀ C ∈ ["TicketForge$Task", "TicketForge$Entry", "TicketForge$Invoice"], va_Nw (.castable C "java/lang/Object") U) ∧ va_Nw (.castable "[I" "java/lang/Cloneable") U ∧ (∃ mi, va_Mi "[Ljava/lang/Object;" mi U) ∧ va_Dc U ∧ ∀ x ∈ tkDe, va_Nw (.declares (Bundle.initS x)) U
theorem tkO.de {ac : Nat → ClassId} {A : Nat → Prop} {dE : Nat} {U : State} {H : Heap} (h : tkO ac A dE U H) : ∀ x ∈ tkDe, va_Nw (.declares (Bundle.initS x)) U := h.2.2.2.2.2.2.2
theorem tkO.kept {ac : Nat → ClassId} {A : Nat → Prop} {dE : Nat} {U : State} {H H1 : Heap} (h : tkO ac A dE U H) (hq : ∀ a : Nat, a < H.size → ¬ A a → H1[a]? = H[a]?) : tkO ac A dE U H1 := ⟨h.1.kept hq, h.2.1.kept hq, h.2.2⟩
theorem tkO.warm {ac : Nat → ClassId} {A : Nat → Prop} {dE : Nat} {s U : State} {H : Heap} (hW : s.WarmedH U.vm) (h : tkO ac A dE s H) : tkO ac A dE U H := ⟨h.1.moved hW.alike, h.2.1.moved hW.alike, h.2.2.1.moved hW.alike, fun C hC => va_Nw.warmC hW (h.2.2.2.1 C hC), va_Nw.warmC hW h.2.2.2.2.1, h.2.2.2.2.2.1.elim (fun mi q => ⟨mi, q.moved hW.alike⟩), h.2.2.2.2.2.2.1.moved hW.alike, fun x hx => va_Nw.warmDe hW (h.2.2.2.2.2.2.2 x hx)⟩
theorem tkO.blind {ac : Nat → ClassId} {A : Nat → Prop} {dE : Nat} {U : State} {H : Heap} {g : JFrame} {mk : MethodId} {a : Array Value} (h : tkO ac A dE U H) : tkO ac A dE (U.calling g mk a) H := ⟨va_Z.moved (u := U) (U := U.calling g mk a) (Vm.Alike.refl U.vm) h.1, va_T.moved (u := U) (U := U.calling g mk a) (Vm.Alike.refl U.vm) h.2.1, va_AO.moved (u := U) (U := U.calling g mk a) (Vm.Alike.refl U.vm) h.2.2.1, fun C hC => va_Nw.same (U := U.calling g mk a) rfl rfl (h.2.2.2.1 C hC), va_Nw.same (U := U.calling g mk a) rfl rfl h.2.2.2.2.1, h.2.2.2.2.2.1.elim (fun mi q => ⟨mi, va_Mi.moved (u := U) (U := U.calling g mk a) (Vm.Alike.refl U.vm) q⟩), va_Dc.moved (u := U) (U := U.calling g mk a) (Vm.Alike.refl U.vm) h.2.2.2.2.2.2.1, fun x hx => va_Nw.same (U := U.calling g mk a) rfl rfl (h.2.2.2.2.2.2.2 x hx)⟩
def tkX (A : Nat → Prop) (D : va_G) (ac : Nat → ClassId) (dE : Nat) (G : TG) (U : State) : Prop := tkI A D ac G U ∧ tkO ac A dE U U.heap
theorem tkX.blind {A : Nat → Prop} {D : va_G} {ac : Nat → ClassId} {dE : Nat} {G : TG} (U : State) (g : JFrame) (mk : MethodId) (a : Array Value) (h : tkX A D ac dE G U) : tkX A D ac dE G (U.calling g mk a) := ⟨tkI.blind U g mk a h.1, h.2.blind⟩
theorem tkX.at {A : Nat → Prop} {D : va_G} {ac : Nat → ClassId} {dE : Nat} {G : TG} {s : State} {H : Heap} {locs : List Loc} (hM : tkM A D G H) (hK : va_K D vwCl (tkT ac) s) (hA : ∀ q, s.heap.size ≤ q → A q) (hF : tkF A s s.heap) (hO : tkO ac A dE s s.heap) (hS : va_S A s.heap H locs) (U : State) (hU : U.heap = H) (hW : s.WarmedH U.vm) : tkX A D ac dE G U := ⟨tkI.at hM hK hA hF hS U hU hW, by rw [hU]; exact (hO.kept hS.2.1).warm hW⟩
/-! a list of objects -/
def LX (ac : Nat → ClassId) (dE q d : Nat) (n : Nat) (f : Nat → Nat) (G : TG) : Prop := (∃ mc : Int32, G q = some (.inr (2, [.int mc, .ref d, .int (nI n)]))) ∧ ((n = 0 ∧ d = dE) ∨ ∃ (cap : Nat) (g : Nat → Option Nat), G d = some (.inl (ac 3, cap, .inr (.inr (.inr (.inr g))))) ∧ (∀ i, i < n → g i = some (f i)) ∧ n ≤ cap ∧ cap ≤ 1000 ∧ 0 < n)
/-- what a task, an entry .. holds -/
def parR (α : Nat → Nat → Nat) (M : TS) (i : Nat) : Option Nat := if M 1 i < 0 then none else some (α 1 (tn (M 1 i)))
def invR (α : Nat → Nat → Nat) (M : TS) (k : Nat) : Option Nat := if billed M k = true then some (α 3 (tn (M 14 k))) else none
def hF (α : Nat → Nat → Nat) (M : TS) : List Value := [.ref (α 0 0), .ref (α 0 1), .ref (α 0 2), .ref (α 0 3), .int (M 0 26), .int (M 0 20), .int (M 0 27)]
def tF (α : Nat → Nat → Nat) (M : TS) (i : Nat) : List Value := [.int (nI i), va_rf (parR α M i), .int (M 2 i), .int (M 3 i), .int (M 4 i), .int (M 19 i)]
def eF (α : Nat → Nat → Nat) (M : TS) (k : Nat) : List Value := [.ref (α 1 (tn (M 9 k))), .int (M 10 k), .int (M 11 k), .int (M 12 k), .int (M 5 k), .int (M 13 k), va_rf (invR α M k)]
def vF (α : Nat → Nat → Nat) (M : TS) (v : Nat) : List Value := [.int (nI v), .ref (α 4 v), .int (M 16 v), .int (M 17 v)]
def rF (r : Nat) (a b c : Int32) : List Value := [.ref r, .int a, .int b, .int c]
/-- the class's cells: nv invoices are there -/
def PX (ac : Nat → ClassId) (dE h0 : Nat) (α : Nat → Nat → Nat) (M : TS) (nv : Nat) (G : TG) : Prop :=
  (G h0 = some (.inr (7, hF α M)) ∧ LX ac dE (α 0 0) (α 0 5) (nT M) (α 1) G ∧ LX ac dE (α 0 1) (α 0 6) (nE M) (α 2) G ∧ LX ac dE (α 0 2) (α 0 7) (nV M) (α 3) G) ∧
  (G (α 0 3) = some (.inr (5, rF (α 0 4) (M 0 23) (M 0 24) (M 0 25))) ∧ G (α 0 4) = some (.inl (ac 1, 4, .inl (M 15)))) ∧
  (∀ i, i < nT M → G (α 1 i) = some (.inr (6, tF α M i))) ∧ (∀ k, k < nE M → G (α 2 k) = some (.inr (3, eF α M k))) ∧
  (∀ v, v < nv → G (α 3 v) = some (.inr (4, vF α M v)) ∧ G (α 4 v) = some (.inr (5, rF (α 5 v) (M 21 v) (M 22 v) (M 23 v))) ∧ ∃ f : Nat → Int32, G (α 5 v) = some (.inl (ac 1, 4, .inl f)) ∧ ∀ j, j < 4 → f j = M 20 (4 * v + j)) ∧
  ((∀ i j, i < nT M → j < nT M → α 1 i = α 1 j → i = j) ∧ (∀ i j, i < nE M → j < nE M → α 2 i = α 2 j → i = j) ∧ ∀ i j, i < nv → j < nv → α 3 i = α 3 j → i = j) ∧
  ((∀ v, v < nv → α 0 3 ≠ α 4 v) ∧ (∀ v, v < nv → α 0 4 ≠ α 5 v) ∧ α 0 0 ≠ α 0 1 ∧ α 0 0 ≠ α 0 2 ∧ α 0 1 ≠ α 0 2) ∧
  (0 < nT M → 0 < nE M → α 0 5 ≠ α 0 6) ∧ (0 < nT M → 0 < nV M → α 0 5 ≠ α 0 7) ∧ (0 < nE M → 0 < nV M → α 0 6 ≠ α 0 7)
section PXS
variable {ac : Nat → ClassId} {dE h0 : Nat} {α : Nat → Nat → Nat} {M : TS} {nv : Nat} {G : TG}
theorem PX.h (h : PX ac dE h0 α M nv G) : G h0 = some (.inr (7, hF α M)) := h.1.1
theorem PX.lt (h : PX ac dE h0 α M nv G) : LX ac dE (α 0 0) (α 0 5) (nT M) (α 1) G := h.1.2.1
theorem PX.le (h : PX ac dE h0 α M nv G) : LX ac dE (α 0 1) (α 0 6) (nE M) (α 2) G := h.1.2.2.1
theorem PX.lv (h : PX ac dE h0 α M nv G) : LX ac dE (α 0 2) (α 0 7) (nV M) (α 3) G := h.1.2.2.2
theorem PX.ru (h : PX ac dE h0 α M nv G) : G (α 0 3) = some (.inr (5, rF (α 0 4) (M 0 23) (M 0 24) (M 0 25))) := h.2.1.1
theorem PX.ra (h : PX ac dE h0 α M nv G) : G (α 0 4) = some (.inl (ac 1, 4, .inl (M 15))) := h.2.1.2
theorem PX.t (h : PX ac dE h0 α M nv G) {i : Nat} (hi : i < nT M) : G (α 1 i) = some (.inr (6, tF α M i)) := h.2.2.1 i hi
theorem PX.e (h : PX ac dE h0 α M nv G) {k : Nat} (hk : k < nE M) : G (α 2 k) = some (.inr (3, eF α M k)) := h.2.2.2.1 k hk
theorem PX.v (h : PX ac dE h0 α M nv G) {k : Nat} (hk : k < nv) : G (α 3 k) = some (.inr (4, vF α M k)) := (h.2.2.2.2.1 k hk).1
theorem PX.vr (h : PX ac dE h0 α M nv G) {k : Nat} (hk : k < nv) : G (α 4 k) = some (.inr (5, rF (α 5 k) (M 21 k) (M 22 k) (M 23 k))) := (h.2.2.2.2.1 k hk).2.1
theorem PX.va (h : PX ac dE h0 α M nv G) {k : Nat} (hk : k < nv) : ∃ f : Nat → Int32, G (α 5 k) = some (.inl (ac 1, 4, .inl f)) ∧ ∀ j, j < 4 → f j = M 20 (4 * k + j) := (h.2.2.2.2.1 k hk).2.2
theorem PX.jt (h : PX ac dE h0 α M nv G) {i j : Nat} (hi : i < nT M) (hj : j < nT M) (e : α 1 i = α 1 j) : i = j := h.2.2.2.2.2.1.1 i j hi hj e
theorem PX.je (h : PX ac dE h0 α M nv G) {i j : Nat} (hi : i < nE M) (hj : j < nE M) (e : α 2 i = α 2 j) : i = j := h.2.2.2.2.2.1.2.1 i j hi hj e
theorem PX.jv (h : PX ac dE h0 α M nv G) {i j : Nat} (hi : i < nv) (hj : j < nv) (e : α 3 i = α 3 j) : i = j := h.2.2.2.2.2.1.2.2 i j hi hj e
end PXS
theorem parR_n {α : Nat → Nat → Nat} {M : TS} {i : Nat} (h : M 1 i < 0) : parR α M i = none := if_pos h
theorem parR_s {α : Nat → Nat → Nat} {M : TS} {i q : Nat} (hq : q < 2 ^ 31) (h : M 1 i = nI q) : parR α M i = some (α 1 q) := by
  unfold parR
  rw [h, if_neg (nI_pos hq), show tn (nI q) = q from nI_clamp hq]
theorem invR_n {α : Nat → Nat → Nat} {M : TS} {k : Nat} (h : billed M k = false) : invR α M k = none := if_neg (by rw [h]; decide)
theorem invR_s {α : Nat → Nat → Nat} {M : TS} {k q : Nat} (hq : q < 2 ^ 31) (h : billed M k = true) (e : M 14 k = nI q) : invR α M k = some (α 3 q) := by
  unfold invR
  rw [if_pos h, e, show tn (nI q) = q from nI_clamp hq]
