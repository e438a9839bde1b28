/-! the mathematical state, and words of it -/
abbrev TS : Type := Nat → Nat → Int32
def st (M : TS) (f i : Nat) (v : Int32) : TS := va_up M f (upd (M f) i v)
theorem st_ne (M : TS) {f g : Nat} (i : Nat) (v : Int32) (h : g ≠ f) : st M f i v g = M g := va_up_ne _ _ h
theorem st_eq (M : TS) (f i : Nat) (v : Int32) : st M f i v f = upd (M f) i v := va_up_self _ _ _
theorem st_self (M : TS) (f i : Nat) (v : Int32) : st M f i v f i = v := by rw [st_eq]; simp [upd]
theorem st_nei (M : TS) {f i j : Nat} (v : Int32) (h : j ≠ i) : st M f i v f j = M f j := by rw [st_eq]; simp [upd, h]
def nT (M : TS) : Nat := (M 0 19).toNatClampNeg
def nE (M : TS) : Nat := (M 0 21).toNatClampNeg
def nV (M : TS) : Nat := (M 0 22).toNatClampNeg
/-- x is a number below n -/
def tkOk (n : Nat) (x : Int32) : Bool := decide (0 ≤ x) && decide (x < nI n)
theorem tkOk_nI {n t : Nat} (hn : n < 2 ^ 31) (h : t < n) : tkOk n (nI t) = true := by
  simp only [tkOk, Bool.and_eq_true, decide_eq_true_eq]
  exact ⟨nI_pos' (by omega), nI_lt h hn⟩
theorem tkOk_ex {n : Nat} {x : Int32} (hn : n < 2 ^ 31) (h : tkOk n x = true) : ∃ t : Nat, t < n ∧ x = nI t := by
  simp only [tkOk, Bool.and_eq_true, decide_eq_true_eq] at h
  obtain ⟨j, hj, rfl⟩ := nI_of (x := x) (Int32.not_lt.mpr h.1)
  exact ⟨j, (nI_ltI hj hn).mp h.2, rfl⟩
theorem tkOk_no {n : Nat} {x : Int32} (h : tkOk n x = false) : x < 0 ∨ nI n ≤ x := by
  simp only [tkOk, Bool.and_eq_false_iff, decide_eq_false_iff_not] at h
  rcases h with h | h
  · exact Or.inl (Int32.not_le.mp h)
  · exact Or.inr (Int32.not_lt.mp h)
theorem tkOk_lo {n : Nat} {x : Int32} (h : x < 0) : tkOk n x = false := by
  simp only [tkOk, Bool.and_eq_false_iff, decide_eq_false_iff_not]
  exact Or.inl (Int32.not_le.mpr h)
theorem tkOk_hi {n : Nat} {x : Int32} (h : nI n ≤ x) : tkOk n x = false := by
  simp only [tkOk, Bool.and_eq_false_iff, decide_eq_false_iff_not]
  exact Or.inr (Int32.not_lt.mpr h)
theorem tkOk_in {n : Nat} {x : Int32} (h0 : ¬ x < 0) (h : ¬ nI n ≤ x) : tkOk n x = true := by
  simp only [tkOk, Bool.and_eq_true, decide_eq_true_eq]
  exact ⟨Int32.not_lt.mp h0, Int32.not_le.mp h⟩
/-- x in a range of small numbers -/
def tkIn (x a b : Int32) : Bool := decide (a ≤ x) && decide (x ≤ b)
theorem tkIn_t {x a b : Int32} (h1 : a ≤ x) (h2 : x ≤ b) : tkIn x a b = true := by simp only [tkIn, Bool.and_eq_true, decide_eq_true_eq]; exact ⟨h1, h2⟩
theorem tkIn_f1 {x a b : Int32} (h1 : ¬ a ≤ x) : tkIn x a b = false := by simp only [tkIn, Bool.and_eq_false_iff, decide_eq_false_iff_not]; exact Or.inl h1
theorem tkIn_f2 {x a b : Int32} (h1 : ¬ x ≤ b) : tkIn x a b = false := by simp only [tkIn, Bool.and_eq_false_iff, decide_eq_false_iff_not]; exact Or.inr h1
theorem tkIn_ok {x : Int32} {n : Nat} (hn : n < 2 ^ 31 - 1) : tkIn x 0 (nI (n + 1) - 1) = tkOk (n + 1) x := by
  have e : nI (n + 1) - 1 = nI n := nI_pred n
  rw [e]
  unfold tkIn tkOk
  have : (x ≤ nI n) ↔ (x < nI (n + 1)) := by
    rw [Int32.le_iff_toInt_le, Int32.lt_iff_toInt_lt, nI_toInt (by omega), nI_toInt (by omega)]
    omega
  simp only [this]
theorem tkIn_ok0 {x : Int32} : tkIn x 0 (nI 0 - 1) = tkOk 0 x := by
  have e : nI 0 - 1 = (-1 : Int32) := by decide
  rw [e]
  unfold tkIn tkOk
  have h1 : ¬ (0 ≤ x ∧ x ≤ (-1 : Int32)) := fun h => by
    have := Int32.le_trans h.1 h.2
    exact absurd this (by decide)
  have h2 : ¬ (0 ≤ x ∧ x < nI 0) := fun h => by
    rw [nI_0] at h
    exact absurd h.2 (Int32.not_lt.mpr h.1)
  by_cases a : 0 ≤ x
  · have b1 : ¬ x ≤ (-1 : Int32) := fun q => h1 ⟨a, q⟩
    have b2 : ¬ x < nI 0 := fun q => h2 ⟨a, q⟩
    simp only [b1, b2, decide_false]
  · simp only [a, decide_false, Bool.false_and]
theorem tkIn_n {x : Int32} {n : Nat} (hn : n < 2 ^ 31) : tkIn x 0 (nI n - 1) = tkOk n x := by
  cases n with
  | zero => exact tkIn_ok0
  | succ k => exact tkIn_ok (by omega)
theorem tkIn_ex {x : Int32} {b : Int32} {n : Nat} (hb : b.toInt = n) (h : tkIn x 0 b = true) : ∃ j : Nat, j ≤ n ∧ x = nI j := by
  simp only [tkIn, Bool.and_eq_true, decide_eq_true_eq] at h
  exact nI_of2 hb (Int32.not_lt.mpr h.1) h.2
/-- an answer of a boolean method -/
def tkB (r : Int32) (b : Bool) : Prop := (r = 1 ∧ b = true) ∨ (r = 0 ∧ b = false)
theorem tkB_1 {b : Bool} (h : b = true) : tkB 1 b := Or.inl ⟨rfl, h⟩
theorem tkB_0 {b : Bool} (h : b = false) : tkB 0 b := Or.inr ⟨rfl, h⟩
theorem tkB_i {r : Int32} {b : Bool} (h : tkB r b) : r = if b = true then 1 else 0 := by
  rcases h with ⟨rfl, h⟩ | ⟨rfl, h⟩
  · rw [if_pos h]
  · rw [h]; rfl
theorem tkB_u {r q : Int32} {b : Bool} (h : tkB r b) (h2 : tkB q b) : r = q := by rw [tkB_i h, tkB_i h2]
theorem tkB_nar {r : Int32} {b : Bool} (h : tkB r b) : narrow .boolean (.int r) = .int r := by
  rcases h with ⟨rfl, -⟩ | ⟨rfl, -⟩ <;> rfl
/-- sums and searches over the numbers below n -/
def sumI (f : Nat → Int32) : Nat → Int32
  | 0 => 0
  | n + 1 => sumI f n + f n
def allB (f : Nat → Bool) : Nat → Bool
  | 0 => true
  | n + 1 => allB f n && f n
def anyB (f : Nat → Bool) : Nat → Bool
  | 0 => false
  | n + 1 => anyB f n || f n
theorem sumI_s (f : Nat → Int32) (n : Nat) : sumI f (n + 1) = sumI f n + f n := rfl
theorem sumI_0 {f : Nat → Int32} {n : Nat} (h : f n = 0) : sumI f (n + 1) = sumI f n := by rw [sumI_s, h, Int32.add_zero]
theorem sumI_cong {f g : Nat → Int32} : ∀ {n : Nat}, (∀ k, k < n → f k = g k) → sumI f n = sumI g n
  | 0, _ => rfl
  | n + 1, h => by rw [sumI_s, sumI_s, sumI_cong (fun k hk => h k (by omega)), h n (by omega)]
theorem allB_t {f : Nat → Bool} {n : Nat} (h : allB f n = true) (h2 : f n = true) : allB f (n + 1) = true := by show (allB f n && f n) = true; rw [h, h2]; rfl
theorem allB_f {f : Nat → Bool} {i : Nat} (h2 : f i = false) : ∀ {n : Nat}, i < n → allB f n = false
  | 0, h => absurd h (Nat.not_lt_zero i)
  | n + 1, h => by
    show (allB f n && f n) = false
    rcases Nat.lt_or_ge i n with q | q
    · rw [allB_f h2 q]; rfl
    · rw [show n = i by omega, h2, Bool.and_false]
theorem allB_all {f : Nat → Bool} : ∀ {n : Nat}, allB f n = true ↔ ∀ k, k < n → f k = true
  | 0 => ⟨fun _ k hk => absurd hk (Nat.not_lt_zero k), fun _ => rfl⟩
  | n + 1 => by
    show (allB f n && f n) = true ↔ _
    rw [Bool.and_eq_true, allB_all]
    refine ⟨fun h k hk => ?_, fun h => ⟨fun k hk => h k (by omega), h n (by omega)⟩⟩
    rcases Nat.lt_or_ge k n with q | q
    · exact h.1 k q
    · rw [show k = n by omega]; exact h.2
theorem allB_cong {f g : Nat → Bool} {n : Nat} (h : ∀ k, k < n → f k = g k) : allB f n = allB g n := by
  rw [Bool.eq_iff_iff, allB_all, allB_all]
  exact ⟨fun q k hk => by rw [← h k hk]; exact q k hk, fun q k hk => by rw [h k hk]; exact q k hk⟩
theorem anyB_f {f : Nat → Bool} {n : Nat} (h : anyB f n = false) (h2 : f n = false) : anyB f (n + 1) = false := by show (anyB f n || f n) = false; rw [h, h2]; rfl
theorem anyB_t {f : Nat → Bool} {i : Nat} (h2 : f i = true) : ∀ {n : Nat}, i < n → anyB f n = true
  | 0, h => absurd h (Nat.not_lt_zero i)
  | n + 1, h => by
    show (anyB f n || f n) = true
    rcases Nat.lt_or_ge i n with q | q
    · rw [anyB_t h2 q]; rfl
    · rw [show n = i by omega, h2, Bool.or_true]
theorem anyB_all {f : Nat → Bool} : ∀ {n : Nat}, anyB f n = false ↔ ∀ k, k < n → f k = false
  | 0 => ⟨fun _ k hk => absurd hk (Nat.not_lt_zero k), fun _ => rfl⟩
  | n + 1 => by
    show (anyB f n || f n) = false ↔ _
    rw [Bool.or_eq_false_iff, anyB_all]
    refine ⟨fun h k hk => ?_, fun h => ⟨fun k hk => h k (by omega), h n (by omega)⟩⟩
    rcases Nat.lt_or_ge k n with q | q
    · exact h.1 k q
    · rw [show k = n by omega]; exact h.2
/-- whether t is in the tree of r: by parents, fuel f -/
def inF (P : Nat → Int32) (r : Nat) : Nat → Nat → Bool
  | 0, _ => false
  | f + 1, t => if t = r then true else if P t < 0 then false else inF P r f (P t).toNatClampNeg
def isIn (M : TS) (t r : Nat) : Bool := inF (M 1) r (t + 1) t
/-- parents are none, or of a smaller number -/
def parOk (P : Nat → Int32) (n : Nat) : Prop := ∀ t, t < n → P t < 0 ∨ ∃ q : Nat, q < t ∧ P t = nI q
theorem inF_fuel {P : Nat → Int32} {r n : Nat} (hn : n < 2 ^ 31) (hP : parOk P n) : ∀ (t : Nat), t < n → ∀ f g : Nat, t < f → t < g → inF P r f t = inF P r g t := by
  intro t
  induction t using Nat.strongRecOn with
  | ind t ih =>
    intro ht f g hf hg
    cases f with
    | zero => exact absurd hf (Nat.not_lt_zero t)
    | succ f =>
      cases g with
      | zero => exact absurd hg (Nat.not_lt_zero t)
      | succ g =>
        show (if t = r then true else if P t < 0 then false else inF P r f (P t).toNatClampNeg) = (if t = r then true else if P t < 0 then false else inF P r g (P t).toNatClampNeg)
        by_cases h1 : t = r
        · rw [if_pos h1, if_pos h1]
        · rw [if_neg h1, if_neg h1]
          by_cases h2 : P t < 0
          · rw [if_pos h2, if_pos h2]
          · rw [if_neg h2, if_neg h2]
            rcases hP t ht with h3 | ⟨q, hq, e⟩
            · exact absurd h3 h2
            · rw [e, nI_clamp (by omega)]
              exact ih q hq (by omega) f g (by omega) (by omega)
theorem isIn_self (M : TS) (r : Nat) : isIn M r r = true := by
  show (if r = r then true else _) = true
  rw [if_pos rfl]
theorem isIn_top {M : TS} {t r : Nat} (h : ¬ t = r) (h2 : M 1 t < 0) : isIn M t r = false := by
  show (if t = r then true else if M 1 t < 0 then false else _) = false
  rw [if_neg h, if_pos h2]
theorem isIn_up {M : TS} {t r q n : Nat} (hn : n < 2 ^ 31) (hP : parOk (M 1) n) (ht : t < n) (h : ¬ t = r) (hq : q < t) (h2 : M 1 t = nI q) : isIn M t r = isIn M q r := by
  show (if t = r then true else if M 1 t < 0 then false else inF (M 1) r t (M 1 t).toNatClampNeg) = inF (M 1) r (q + 1) q
  rw [if_neg h, if_neg (by rw [h2]; exact nI_pos (by omega)), h2, nI_clamp (by omega)]
  exact inF_fuel hn hP q (by omega) t (q + 1) hq (Nat.lt_succ_self q)
/-- loops: by a measure, over what a turn may change -/
theorem tk_f0 {Wf : JFrame → Prop} {m : MethodId} {pc : Nat} (n : Nat) (Inv : Nat → Array Slot → Prop) (step : ∀ (i : Nat) (ls : Array Slot), i ≤ n → Inv i ls → (∀ (ls' : Array Slot), i < n → Inv (i + 1) ls' → Wf (F0 m pc ls' [])) → Wf (F0 m pc ls [])) (ls0 : Array Slot) (h0 : Inv 0 ls0) : Wf (F0 m pc ls0 []) := by
  have key : ∀ (d i : Nat) (ls : Array Slot), n - i = d → i ≤ n → Inv i ls → Wf (F0 m pc ls []) := by
    intro d
    induction d with
    | zero => intro i ls hd hi hI; exact step i ls hi hI (fun ls' hlt _ => absurd hlt (by omega))
    | succ d ih => intro i ls hd hi hI; exact step i ls hi hI (fun ls' hlt hI' => ih (i + 1) ls' (by omega) (by omega) hI')
  exact key _ 0 ls0 rfl (Nat.zero_le n) h0
theorem tk_f1 {A1 : Type} {Wf : JFrame → Prop} {m : MethodId} {pc : Nat} (n : Nat) (Inv : Nat → A1 → Array Slot → Prop) (step : ∀ (i : Nat) (a : A1) (ls : Array Slot), i ≤ n → Inv i a ls → (∀ (a' : A1) (ls' : Array Slot), i < n → Inv (i + 1) a' ls' → Wf (F0 m pc ls' [])) → Wf (F0 m pc ls [])) (a0 : A1) (ls0 : Array Slot) (h0 : Inv 0 a0 ls0) : Wf (F0 m pc ls0 []) := by
  have key : ∀ (d i : Nat) (a : A1) (ls : Array Slot), n - i = d → i ≤ n → Inv i a ls → Wf (F0 m pc ls []) := by
    intro d
    induction d with
    | zero => intro i a ls hd hi hI; exact step i a ls hi hI (fun a' ls' hlt _ => absurd hlt (by omega))
    | succ d ih => intro i a ls hd hi hI; exact step i a ls hi hI (fun a' ls' hlt hI' => ih (i + 1) a' ls' (by omega) (by omega) hI')
  exact key _ 0 a0 ls0 rfl (Nat.zero_le n) h0
theorem tk_f2 {A1 A2 : Type} {Wf : JFrame → Prop} {m : MethodId} {pc : Nat} (n : Nat) (Inv : Nat → A1 → A2 → Array Slot → Prop) (step : ∀ (i : Nat) (a : A1) (b : A2) (ls : Array Slot), i ≤ n → Inv i a b ls → (∀ (a' : A1) (b' : A2) (ls' : Array Slot), i < n → Inv (i + 1) a' b' ls' → Wf (F0 m pc ls' [])) → Wf (F0 m pc ls [])) (a0 : A1) (b0 : A2) (ls0 : Array Slot) (h0 : Inv 0 a0 b0 ls0) : Wf (F0 m pc ls0 []) := by
  have key : ∀ (d i : Nat) (a : A1) (b : A2) (ls : Array Slot), n - i = d → i ≤ n → Inv i a b ls → Wf (F0 m pc ls []) := by
    intro d
    induction d with
    | zero => intro i a b ls hd hi hI; exact step i a b ls hi hI (fun a' b' ls' hlt _ => absurd hlt (by omega))
    | succ d ih => intro i a b ls hd hi hI; exact step i a b ls hi hI (fun a' b' ls' hlt hI' => ih (i + 1) a' b' ls' (by omega) (by omega) hI')
  exact key _ 0 a0 b0 ls0 rfl (Nat.zero_le n) h0
/-- the same where the heap changes -/
theorem tk_g1 {A1 : Type} {Wf : Heap → List Loc → JFrame → Prop} {m : MethodId} {pc : Nat} (n : Nat) (Inv : Nat → A1 → Heap → List Loc → Array Slot → Prop) (step : ∀ (i : Nat) (a : A1) (H : Heap) (L : List Loc) (ls : Array Slot), i ≤ n → Inv i a H L ls → (∀ (a' : A1) (H' : Heap) (L' : List Loc) (ls' : Array Slot), i < n → Inv (i + 1) a' H' L' ls' → Wf H' L' (F0 m pc ls' [])) → Wf H L (F0 m pc ls [])) (a0 : A1) (H0 : Heap) (L0 : List Loc) (ls0 : Array Slot) (h0 : Inv 0 a0 H0 L0 ls0) : Wf H0 L0 (F0 m pc ls0 []) := by
  have key : ∀ (d i : Nat) (a : A1) (H : Heap) (L : List Loc) (ls : Array Slot), n - i = d → i ≤ n → Inv i a H L ls → Wf H L (F0 m pc ls []) := by
    intro d
    induction d with
    | zero => intro i a H L ls hd hi hI; exact step i a H L ls hi hI (fun a' H' L' ls' hlt _ => absurd hlt (by omega))
    | succ d ih => intro i a H L ls hd hi hI; exact step i a H L ls hi hI (fun a' H' L' ls' hlt hI' => ih (i + 1) a' H' L' ls' (by omega) (by omega) hI')
  exact key _ 0 a0 H0 L0 ls0 rfl (Nat.zero_le n) h0
/-- a loop up a chain: the measure falls -/
theorem tk_d1 {A1 : Type} {Wf : JFrame → Prop} {m : MethodId} {pc : Nat} (Inv : Nat → A1 → Array Slot → Prop) (step : ∀ (t : Nat) (a : A1) (ls : Array Slot), Inv t a ls → (∀ (q : Nat) (a' : A1) (ls' : Array Slot), q < t → Inv q a' ls' → Wf (F0 m pc ls' [])) → Wf (F0 m pc ls [])) (t0 : Nat) (a0 : A1) (ls0 : Array Slot) (h0 : Inv t0 a0 ls0) : Wf (F0 m pc ls0 []) := by
  have key : ∀ (t : Nat) (a : A1) (ls : Array Slot), Inv t a ls → Wf (F0 m pc ls []) := by
    intro t
    induction t using Nat.strongRecOn with
    | ind t ih => intro a ls h; exact step t a ls h (fun q a' ls' hq h' => ih q hq a' ls' h')
  exact key t0 a0 ls0 h0
theorem tk_ge {a b : Nat} (ha : a < 2 ^ 31) (hb : b < 2 ^ 31) (c : nI a ≤ nI b) : a ≤ b := (nI_leI ha hb).mp c
theorem tk_lt {a b : Nat} (ha : a < 2 ^ 31) (hb : b < 2 ^ 31) (c : ¬ nI a ≤ nI b) : b < a := Nat.not_le.mp (fun h => c ((nI_leI ha hb).mpr h))
theorem tk_ni {a b : Nat} (ha : a < 2 ^ 31) (hb : b < 2 ^ 31) (c : ¬ nI a = nI b) : a ≠ b := fun h => c (by rw [h])
theorem tk_ei {a b : Nat} (ha : a < 2 ^ 31) (hb : b < 2 ^ 31) (c : nI a = nI b) : a = b := (nI_eq ha hb).mp c
theorem sumI_t {f : Nat → Int32} {i : Nat} {a v : Int32} (h : a = sumI f i) (h2 : f i = v) : a + v = sumI f (i + 1) := by rw [h, sumI_s, h2]
theorem sumI_f {f : Nat → Int32} {i : Nat} {a : Int32} (h : a = sumI f i) (h2 : f i = 0) : a = sumI f (i + 1) := by rw [h, sumI_s, h2, Int32.add_zero]
theorem sumI_e {f : Nat → Int32} {i n : Nat} {a : Int32} (h : a = sumI f i) (h1 : i ≤ n) (h2 : n ≤ i) : a = sumI f n := by rw [h, Nat.le_antisymm h1 h2]
theorem allB_e {f : Nat → Bool} {i n : Nat} (h : allB f i = true) (h1 : i ≤ n) (h2 : n ≤ i) : allB f n = true := by rw [← Nat.le_antisymm h1 h2]; exact h
theorem anyB_e {f : Nat → Bool} {i n : Nat} (h : anyB f i = false) (h1 : i ≤ n) (h2 : n ≤ i) : anyB f n = false := by rw [← Nat.le_antisymm h1 h2]; exact h
theorem sumI_z {f : Nat → Int32} {i : Nat} {a : Int32} (h : a = sumI f i) (h2 : f i = 0) : a + 0 = sumI f (i + 1) := by rw [h, sumI_s, h2]
theorem tk_d2 {A1 A2 : Type} {Wf : JFrame → Prop} {m : MethodId} {pc : Nat} (Inv : Nat → A1 → A2 → Array Slot → Prop) (step : ∀ (t : Nat) (a : A1) (b : A2) (ls : Array Slot), Inv t a b ls → (∀ (q : Nat) (a' : A1) (b' : A2) (ls' : Array Slot), q < t → Inv q a' b' ls' → Wf (F0 m pc ls' [])) → Wf (F0 m pc ls [])) (t0 : Nat) (a0 : A1) (b0 : A2) (ls0 : Array Slot) (h0 : Inv t0 a0 b0 ls0) : Wf (F0 m pc ls0 []) := by
  have key : ∀ (t : Nat) (a : A1) (b : A2) (ls : Array Slot), Inv t a b ls → Wf (F0 m pc ls []) := by
    intro t
    induction t using Nat.strongRecOn with
    | ind t ih => intro a b ls h; exact step t a b ls h (fun q a' b' ls' hq h' => ih q hq a' b' ls' h')
  exact key t0 a0 b0 ls0 h0
