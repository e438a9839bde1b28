/-! the model's cells -/
def mF (am : Nat → Nat) (th : Int32) (M : TS) : List Value := [.ref (am 0), .ref (am 1), .ref (am 2), .ref (am 3), .ref (am 4), .ref (am 5), .ref (am 6), .ref (am 7), .ref (am 8), .ref (am 9), .ref (am 10), .ref (am 11), .ref (am 12), .ref (am 13), .ref (am 14), .ref (am 15), .ref (am 16), .ref (am 17), .int th, .int (M 0 19), .int (M 0 20), .int (M 0 21), .int (M 0 22), .int (M 0 23), .int (M 0 24), .int (M 0 25)]
def rC : Nat → Nat
  | 3 => 0
  | 4 => 0
  | 5 => 2
  | 6 => 2
  | 7 => 2
  | _ => 1
def rL : Nat → Nat
  | 4 => 60
  | 5 => 256
  | 6 => 30
  | 8 => 60
  | 9 => 60
  | 10 => 60
  | 11 => 60
  | 12 => 60
  | 13 => 60
  | 14 => 4
  | 15 => 20
  | 16 => 20
  | 17 => 20
  | _ => 16
def PR (ac : Nat → ClassId) (m0 : Nat) (am : Nat → Nat) (th : Int32) (M : TS) (G : TG) : Prop := G m0 = some (.inr (8, mF am th M)) ∧ (∀ k, k < 18 → G (am k) = some (.inl (ac (rC k), rL k, .inl (M (k + 1))))) ∧ ∀ i j, i < 18 → j < 18 → am i = am j → i = j
theorem PR.ne {ac : Nat → ClassId} {m0 : Nat} {am : Nat → Nat} {th : Int32} {M : TS} {G : TG} (h : PR ac m0 am th M G) {k : Nat} (hk : k < 18) : am k ≠ m0 := fun e => by
  have h1 := h.2.1 k hk
  rw [e, h.1] at h1
  cases h1
theorem PR.put {ac : Nat → ClassId} {m0 : Nat} {am : Nat → Nat} {th : Int32} {M : TS} {G : TG} (h : PR ac m0 am th M G) (k : Nat) (hk : k < 18) {i : Nat} {v : Int32} : PR ac m0 am th (st M (k + 1) i v) (va_up G (am k) (some (.inl (ac (rC k), rL k, .inl (upd (M (k + 1)) i v))))) := by
  refine ⟨?_, fun j hj => ?_, h.2.2⟩
  · rw [va_up_ne _ _ (Ne.symm (h.ne hk)), h.1]
    have e : st M (k + 1) i v 0 = M 0 := st_ne M i v (Nat.succ_ne_zero k).symm
    simp only [mF, e]
  · by_cases e : j = k
    · subst e
      rw [va_up_self, st_eq]
    · rw [va_up_ne _ _ (fun q => e (h.2.2 j k hj hk q)), h.2.1 j hj, st_ne M i v (fun q => e (Nat.succ.inj q))]
theorem PR.th {ac : Nat → ClassId} {m0 : Nat} {am : Nat → Nat} {th : Int32} {M : TS} {G : TG} (h : PR ac m0 am th M G) {v : Int32} : PR ac m0 am v M (va_up G m0 (some (.inr (8, (mF am th M).set 18 (.int v))))) := by
  refine ⟨?_, fun j hj => ?_, h.2.2⟩
  · rw [va_up_self]; rfl
  · rw [va_up_ne _ _ (h.ne hj), h.2.1 j hj]
theorem PR.sc {ac : Nat → ClassId} {m0 : Nat} {am : Nat → Nat} {th : Int32} {M : TS} {G : TG} (h : PR ac m0 am th M G) (k : Nat) {v : Int32} (e : (mF am th M).set k (.int v) = mF am th (st M 0 k v)) : PR ac m0 am th (st M 0 k v) (va_up G m0 (some (.inr (8, (mF am th M).set k (.int v))))) := by
  refine ⟨?_, fun j hj => ?_, h.2.2⟩
  · rw [va_up_self, e]
  · rw [va_up_ne _ _ (h.ne hj), h.2.1 j hj, st_ne M k v (Nat.succ_ne_zero j)]
theorem mF_19 (am : Nat → Nat) (th : Int32) (M : TS) (v : Int32) : (mF am th M).set 19 (.int v) = mF am th (st M 0 19 v) := by simp [mF, st, va_up, upd]
theorem mF_20 (am : Nat → Nat) (th : Int32) (M : TS) (v : Int32) : (mF am th M).set 20 (.int v) = mF am th (st M 0 20 v) := by simp [mF, st, va_up, upd]
theorem mF_21 (am : Nat → Nat) (th : Int32) (M : TS) (v : Int32) : (mF am th M).set 21 (.int v) = mF am th (st M 0 21 v) := by simp [mF, st, va_up, upd]
theorem mF_22 (am : Nat → Nat) (th : Int32) (M : TS) (v : Int32) : (mF am th M).set 22 (.int v) = mF am th (st M 0 22 v) := by simp [mF, st, va_up, upd]
theorem mF_23 (am : Nat → Nat) (th : Int32) (M : TS) (v : Int32) : (mF am th M).set 23 (.int v) = mF am th (st M 0 23 v) := by simp [mF, st, va_up, upd]
theorem mF_24 (am : Nat → Nat) (th : Int32) (M : TS) (v : Int32) : (mF am th M).set 24 (.int v) = mF am th (st M 0 24 v) := by simp [mF, st, va_up, upd]
theorem mF_25 (am : Nat → Nat) (th : Int32) (M : TS) (v : Int32) : (mF am th M).set 25 (.int v) = mF am th (st M 0 25 v) := by simp [mF, st, va_up, upd]
/-- the numbers fit -/
def W0 (M : TS) : Prop := (M 0 19 = nI (nT M) ∧ nT M ≤ 16) ∧ (M 0 21 = nI (nE M) ∧ nE M ≤ 60) ∧ (M 0 22 = nI (nV M) ∧ nV M ≤ 20) ∧ parOk (M 1) (nT M) ∧ (∀ k, k < nE M → ∃ t, t < nT M ∧ M 9 k = nI t) ∧ (∀ k, k < nE M → ∃ t, t < 30 ∧ M 11 k = nI t) ∧ (∀ k, k < nE M → ∃ t, t < 4 ∧ M 10 k = nI t) ∧ (∀ j, M 6 j = 0 ∨ M 6 j = 1) ∧ ∀ j, M 7 j = 0 ∨ M 7 j = 1
theorem W0.t {M : TS} (h : W0 M) : M 0 19 = nI (nT M) ∧ nT M ≤ 16 := h.1
theorem W0.e {M : TS} (h : W0 M) : M 0 21 = nI (nE M) ∧ nE M ≤ 60 := h.2.1
theorem W0.v {M : TS} (h : W0 M) : M 0 22 = nI (nV M) ∧ nV M ≤ 20 := h.2.2.1
theorem W0.p {M : TS} (h : W0 M) : parOk (M 1) (nT M) := h.2.2.2.1
theorem W0.et {M : TS} (h : W0 M) {k : Nat} (hk : k < nE M) : ∃ t, t < nT M ∧ M 9 k = nI t := h.2.2.2.2.1 k hk
theorem W0.ew {M : TS} (h : W0 M) {k : Nat} (hk : k < nE M) : ∃ t, t < 30 ∧ M 11 k = nI t := h.2.2.2.2.2.1 k hk
theorem W0.ep {M : TS} (h : W0 M) {k : Nat} (hk : k < nE M) : ∃ t, t < 4 ∧ M 10 k = nI t := h.2.2.2.2.2.2.1 k hk
theorem W0.b {M : TS} (h : W0 M) (j : Nat) : M 6 j = 0 ∨ M 6 j = 1 := h.2.2.2.2.2.2.2.1 j
theorem W0.lk {M : TS} (h : W0 M) (j : Nat) : M 7 j = 0 ∨ M 7 j = 1 := h.2.2.2.2.2.2.2.2 j
theorem bool_nar {r : Int32} (h : r = 0 ∨ r = 1) : narrow .boolean (.int r) = .int r := by rcases h with rfl | rfl <;> rfl
/-- what the helpers answer -/
def manyIn (M : TS) (x : Int32) : Int32 := sumI (fun k => if M 4 k = x then 1 else 0) (nT M)
def isFree (M : TS) (t : Nat) : Bool := allB (fun k => decide (M 6 (16 * k + t) = 0) || decide (M 4 k = 100)) (nT M)
def hasDoneCh (M : TS) (t : Nat) : Bool := allB (fun k => !decide (M 1 k = nI t) || decide (M 4 k = 100)) (nT M)
def hoursIn (M : TS) (r : Nat) : Int32 := sumI (fun k => if isIn M (M 9 k).toNatClampNeg r = true then M 12 k else 0) (nE M)
def billed (M : TS) (k : Nat) : Bool := decide (M 5 k = 98) || decide (M 5 k = 99)
def lookedAt (M : TS) (r : Nat) (w : Int32) (k : Nat) : Bool := decide (M 5 k = 97) && isIn M (M 9 k).toNatClampNeg r && decide (M 4 (M 9 k).toNatClampNeg = 100) && decide (M 11 k ≤ w)
def charged (M : TS) (p w : Int32) : Int32 := sumI (fun k => if (decide (M 10 k = p) && decide (M 11 k = w) && billed M k) = true then M 12 k else 0) (nE M)
def leftS (M : TS) (t : Nat) (n : Nat) : Int32 := M 2 t - sumI (fun k => if M 9 k = nI t then M 12 k else 0) n
def leftOf (M : TS) (t : Nat) : Int32 := if 0 < leftS M t (nE M) then leftS M t (nE M) else 0
def lately (M : TS) (w : Int32) : Int32 := sumI (fun k => if tkIn (M 11 k) (w - 2) w = true then M 12 k else 0) (nE M)
def wrongB (M : TS) (x : Int32) : Int32 := if tkOk (nE M) x = false then 1 else if billed M x.toNatClampNeg = false then 2 else 0
theorem leftS_0 (M : TS) (t : Nat) : M 2 t = leftS M t 0 := (Int32.sub_zero _).symm
theorem leftS_t {M : TS} {t i : Nat} {a : Int32} (h : a = leftS M t i) (h2 : M 9 i = nI t) : a - M 12 i = leftS M t (i + 1) := by
  rw [h, leftS, leftS, sumI_s, if_pos h2, Int32.sub_sub]
theorem leftS_f {M : TS} {t i : Nat} {a : Int32} (h : a = leftS M t i) (h2 : ¬ M 9 i = nI t) : a - 0 = leftS M t (i + 1) := by
  rw [h, leftS, leftS, sumI_s, if_neg h2, Int32.add_zero, Int32.sub_zero]
theorem leftS_e {M : TS} {t i n : Nat} {a : Int32} (h : a = leftS M t i) (h1 : i ≤ n) (h2 : n ≤ i) : a = leftS M t n := by rw [h, Nat.le_antisymm h1 h2]
