/-! bits, sums, counts: pure -/
theorem nI_any (x : Int32) : x = nI x.toBitVec.toNat := by
  apply Int32.toBitVec_inj.1
  show x.toBitVec = BitVec.ofNat 32 x.toBitVec.toNat
  simp
theorem nI_and (a b : Nat) : nI a &&& nI b = nI (a &&& b) := by
  apply Int32.toBitVec_inj.1
  show BitVec.ofNat 32 a &&& BitVec.ofNat 32 b = BitVec.ofNat 32 (a &&& b)
  apply BitVec.eq_of_getLsbD_eq
  intro i hi
  simp [hi]
theorem nI_or (a b : Nat) : nI a ||| nI b = nI (a ||| b) := by
  apply Int32.toBitVec_inj.1
  show BitVec.ofNat 32 a ||| BitVec.ofNat 32 b = BitVec.ofNat 32 (a ||| b)
  apply BitVec.eq_of_getLsbD_eq
  intro i hi
  simp [hi]
theorem nI_sub {a b : Nat} (h : b ≤ a) : nI a - nI b = nI (a - b) := by
  have e : nI a = nI (a - b) + nI b := by rw [nI_add, Nat.sub_add_cancel h]
  rw [e, Int32.add_sub_cancel]
theorem nI_mul (a b : Nat) : nI a * nI b = nI (a * b) := (Int32.ofNat_mul a b).symm
theorem and_pow {n j : Nat} : n &&& 2 ^ j = 0 ↔ n.testBit j = false := by
  constructor
  · intro h
    have h1 : (n &&& 2 ^ j).testBit j = false := by rw [h]; simp
    rw [Nat.testBit_and] at h1
    first | simpa using h1 | simpa [Nat.testBit_two_pow_self] using h1 | simpa [Nat.testBit_two_pow] using h1
  · intro h
    apply Nat.eq_of_testBit_eq
    intro i
    rw [Nat.testBit_and]
    by_cases hi : j = i
    · subst hi; simp [h]
    · first | (simp [Nat.testBit_two_pow, hi]; done) | (simp [Nat.testBit_two_pow_of_ne hi]; done)
theorem bitOf31 : ∀ k : Fin 31, bitOf k.val = nI (2 ^ k.val) := by decide +kernel
theorem bitOf_n {k : Nat} (h : k < 31) : bitOf k = nI (2 ^ k) := bitOf31 ⟨k, h⟩
def hb (x : Int32) (k : Nat) : Bool := !decide (x &&& bitOf k = 0)
theorem hb_n {m k : Nat} (h : k < 31) : hb (nI m) k = m.testBit k := by
  have h2 : (2 : Nat) ^ k < 2 ^ 31 := Nat.pow_lt_pow_right (by decide) h
  have hle : m &&& 2 ^ k ≤ 2 ^ k := Nat.and_le_right
  unfold hb
  rw [bitOf_n h, nI_and]
  have e : nI (m &&& 2 ^ k) = 0 ↔ m.testBit k = false := by
    rw [← and_pow, ← nI_0]
    exact nI_eq (Nat.lt_of_le_of_lt hle h2) (by decide)
  cases hm : m.testBit k with
  | false => rw [decide_eq_true (e.mpr hm)]; rfl
  | true => rw [decide_eq_false (fun q => by rw [e.mp q] at hm; cases hm)]; rfl
theorem hb_or {x y : Int32} {k : Nat} (h : k < 31) : hb (x ||| y) k = (hb x k || hb y k) := by
  rw [nI_any x, nI_any y, nI_or, hb_n h, hb_n h, hb_n h, Nat.testBit_or]
theorem hb_bit {j k : Nat} (hj : j < 31) (h : k < 31) : hb (bitOf j) k = decide (k = j) := by
  rw [bitOf_n hj, hb_n h]
  by_cases e : j = k
  · subst e; simp
  · have e2 : ¬ k = j := fun q => e q.symm
    first | (simp [Nat.testBit_two_pow, e, e2]; done) | (simp [Nat.testBit_two_pow_of_ne e, e2]; done)
theorem hb_0 {k : Nat} (h : k < 31) : hb 0 k = false := by
  rw [← nI_0, hb_n h]; simp
theorem hb_t {x : Int32} {k : Nat} : hb x k = true ↔ ¬ x &&& bitOf k = 0 := by unfold hb; simp
theorem hb_f {x : Int32} {k : Nat} : hb x k = false ↔ x &&& bitOf k = 0 := by unfold hb; simp
/-! sums -/
theorem sumI_at {f g : Nat → Int32} {i : Nat} : ∀ {n : Nat}, i < n → (∀ k, k < n → k ≠ i → g k = f k) → sumI g n = sumI f n + (g i - f i)
  | 0, h, _ => absurd h (Nat.not_lt_zero i)
  | n + 1, h, e => by
    rw [sumI_s, sumI_s]
    rcases Nat.lt_or_ge i n with q | q
    · rw [sumI_at q (fun k hk hne => e k (by omega) hne), e n (by omega) (by omega), Int32.add_assoc, Int32.add_assoc, Int32.add_comm (g i - f i)]
    · obtain rfl : i = n := by omega
      rw [sumI_cong (f := g) (g := f) (fun k hk => e k (by omega) (by omega)), Int32.add_assoc, Int32.add_comm (f i), Int32.sub_add_cancel]
theorem sumI_z0 {f : Nat → Int32} : ∀ {n : Nat}, (∀ k, k < n → f k = 0) → sumI f n = 0
  | 0, _ => rfl
  | n + 1, h => by rw [sumI_s, sumI_z0 (fun k hk => h k (by omega)), h n (by omega)]; decide
theorem sumI_ext {f : Nat → Int32} {m : Nat} : ∀ {n : Nat}, m ≤ n → (∀ k, m ≤ k → k < n → f k = 0) → sumI f n = sumI f m
  | 0, h, _ => by rw [show m = 0 by omega]
  | n + 1, h, e => by
    rcases Nat.lt_or_ge m (n + 1) with q | q
    · rw [sumI_s, sumI_ext (by omega) (fun k h1 h2 => e k h1 (by omega)), e n (by omega) (by omega), Int32.add_zero]
    · rw [show m = n + 1 by omega]
def isN (x : Int32) (B : Nat) : Prop := ∃ m : Nat, m ≤ B ∧ x = nI m
theorem isN.up {x : Int32} {B C : Nat} (h : isN x B) (hc : B ≤ C) : isN x C := h.elim (fun m q => ⟨m, Nat.le_trans q.1 hc, q.2⟩)
theorem isN.z (B : Nat) : isN 0 B := ⟨0, Nat.zero_le _, nI_0.symm⟩
theorem isN.ite {c : Prop} [Decidable c] {x : Int32} {B : Nat} (h : c → isN x B) : isN (if c then x else 0) B := by
  by_cases q : c
  · rw [if_pos q]; exact h q
  · rw [if_neg q]; exact isN.z B
theorem sumI_N {f : Nat → Int32} {B : Nat} : ∀ {n : Nat}, (∀ k, k < n → isN (f k) B) → isN (sumI f n) (B * n)
  | 0, _ => isN.z _
  | n + 1, h => by
    obtain ⟨a, ha, ea⟩ := sumI_N (n := n) (fun k hk => h k (by omega))
    obtain ⟨b, hb, eb⟩ := h n (by omega)
    exact ⟨a + b, by rw [Nat.mul_succ]; omega, by rw [sumI_s, ea, eb, nI_add]⟩
theorem allB_n {f : Nat → Bool} {n : Nat} (h : ∀ k, k < n → f k = true) : allB f n = true := allB_all.mpr h
theorem anyB_cong {f g : Nat → Bool} {n : Nat} (h : ∀ k, k < n → f k = g k) : anyB f n = anyB g n := by
  cases hg : anyB g n with
  | false => exact anyB_all.mpr (fun k hk => by rw [h k hk]; exact anyB_all.mp hg k hk)
  | true =>
    obtain ⟨k, hk, e⟩ := anyB_ex hg
    exact anyB_t (by rw [h k hk]; exact e) hk
/-! the count of bits -/
theorem us_sh : ∀ j : Fin 32, (UInt32.ofNat j.val &&& Int32.toUInt32 31).toNat % 32 = j.val := by decide +kernel
theorem nI_ush {k j : Nat} (hk : k < 2 ^ 32) (hj : j < 32) : ((nI k).toUInt32 >>> ((nI j).toUInt32 &&& Int32.toUInt32 31)).toInt32 = nI (k >>> j) := by
  have hs : k >>> j ≤ k := by
    rw [Nat.shiftRight_eq_div_pow]
    exact Nat.div_le_self _ _
  have e2 : UInt32.ofNat k >>> (UInt32.ofNat j &&& Int32.toUInt32 31) = UInt32.ofNat (k >>> j) := by
    apply UInt32.toNat_inj.1
    have h1 : (UInt32.ofNat k).toNat = k := Nat.mod_eq_of_lt (by omega)
    have h2 : (UInt32.ofNat (k >>> j)).toNat = k >>> j := Nat.mod_eq_of_lt (by omega)
    rw [UInt32.toNat_shiftRight, us_sh ⟨j, hj⟩, h1, h2]
  show (UInt32.ofNat k >>> (UInt32.ofNat j &&& Int32.toUInt32 31)).toInt32 = _
  rw [e2]
  rfl
def bn1 (n : Nat) : Nat := Nat.sub n (Nat.land (Nat.shiftRight n 1) 1431655765)
def bn2 (n : Nat) : Nat := Nat.add (Nat.land n 858993459) (Nat.land (Nat.shiftRight n 2) 858993459)
def bn3 (n : Nat) : Nat := Nat.land (Nat.add n (Nat.shiftRight n 4)) 252645135
def bn4 (n : Nat) : Nat := Nat.add n (Nat.shiftRight n 8)
def bn5 (n : Nat) : Nat := Nat.add n (Nat.shiftRight n 16)
theorem sr_le (n j : Nat) : Nat.shiftRight n j ≤ n := by
  show n >>> j ≤ n
  rw [Nat.shiftRight_eq_div_pow]
  exact Nat.div_le_self _ _
theorem la_le (n j : Nat) : Nat.land n j ≤ n := Nat.and_le_left
theorem bc1_n {n : Nat} (h : n < 2 ^ 32) : bc1 (nI n) = nI (bn1 n) ∧ bn1 n ≤ n := by
  have h1 := la_le (Nat.shiftRight n 1) 1431655765
  have h2 := sr_le n 1
  refine ⟨?_, Nat.sub_le _ _⟩
  unfold bc1
  have e := nI_ush (k := n) (j := 1) h (by decide)
  rw [show (Int32.toUInt32 1) = (nI 1).toUInt32 from rfl, e, show (1431655765 : Int32) = nI 1431655765 from rfl, nI_and]
  exact nI_sub (Nat.le_trans h1 h2)
theorem bc2_n {n : Nat} (h : n < 2 ^ 32) : bc2 (nI n) = nI (bn2 n) ∧ bn2 n ≤ n + n := by
  have h1 := la_le n 858993459
  have h2 := la_le (Nat.shiftRight n 2) 858993459
  have h3 := sr_le n 2
  refine ⟨?_, by unfold bn2; show Nat.land n 858993459 + Nat.land (Nat.shiftRight n 2) 858993459 ≤ n + n; omega⟩
  unfold bc2
  have e := nI_ush (k := n) (j := 2) h (by decide)
  rw [show (Int32.toUInt32 2) = (nI 2).toUInt32 from rfl, e, show (858993459 : Int32) = nI 858993459 from rfl, nI_and, nI_and, nI_add]
  rfl
theorem bc3_n {n : Nat} (h : n < 2 ^ 32) : bc3 (nI n) = nI (bn3 n) ∧ bn3 n ≤ n + n := by
  have h3 := sr_le n 4
  have h1 := la_le (Nat.add n (Nat.shiftRight n 4)) 252645135
  refine ⟨?_, by unfold bn3; refine Nat.le_trans h1 ?_; show n + Nat.shiftRight n 4 ≤ n + n; omega⟩
  unfold bc3
  have e := nI_ush (k := n) (j := 4) h (by decide)
  rw [show (Int32.toUInt32 4) = (nI 4).toUInt32 from rfl, e, show (252645135 : Int32) = nI 252645135 from rfl, nI_add, nI_and]
  rfl
theorem bc4_n {n : Nat} (h : n < 2 ^ 32) : bc4 (nI n) = nI (bn4 n) ∧ bn4 n ≤ n + n := by
  have h3 := sr_le n 8
  refine ⟨?_, by unfold bn4; show n + Nat.shiftRight n 8 ≤ n + n; omega⟩
  unfold bc4
  have e := nI_ush (k := n) (j := 8) h (by decide)
  rw [show (Int32.toUInt32 8) = (nI 8).toUInt32 from rfl, e, nI_add]
  rfl
theorem bc5_n {n : Nat} (h : n < 2 ^ 32) : bc5 (nI n) = nI (bn5 n) := by
  unfold bc5
  have e := nI_ush (k := n) (j := 16) h (by decide)
  rw [show (Int32.toUInt32 16) = (nI 16).toUInt32 from rfl, e, nI_add]
  rfl
def bnN (n : Nat) : Nat := Nat.land (bn5 (bn4 (bn3 (bn2 (bn1 n))))) 63
theorem bcI_n {n : Nat} (h : n < 65536) : bcI (nI n) = nI (bnN n) := by
  obtain ⟨e1, h1⟩ := bc1_n (n := n) (by omega)
  obtain ⟨e2, h2⟩ := bc2_n (n := bn1 n) (by omega)
  obtain ⟨e3, h3⟩ := bc3_n (n := bn2 (bn1 n)) (by omega)
  obtain ⟨e4, h4⟩ := bc4_n (n := bn3 (bn2 (bn1 n))) (by omega)
  have e5 := bc5_n (n := bn4 (bn3 (bn2 (bn1 n)))) (by omega)
  unfold bcI
  rw [e1, e2, e3, e4, e5, show (63 : Int32) = nI 63 from rfl, nI_and]
  rfl
