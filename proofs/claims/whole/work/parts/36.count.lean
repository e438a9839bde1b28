/-! the count of bits, looked up -/
def ct (m : Nat) : Nat → Nat
  | 0 => 0
  | k + 1 => ct m k + m / 2 ^ k % 2
def c16 (m : Nat) : Nat := Nat.add (Nat.add (Nat.add (Nat.add (Nat.add (Nat.add (Nat.add (Nat.add (Nat.add (Nat.add (Nat.add (Nat.add (Nat.add (Nat.add (Nat.add (Nat.add (0) (Nat.mod (Nat.div m 1) 2)) (Nat.mod (Nat.div m 2) 2)) (Nat.mod (Nat.div m 4) 2)) (Nat.mod (Nat.div m 8) 2)) (Nat.mod (Nat.div m 16) 2)) (Nat.mod (Nat.div m 32) 2)) (Nat.mod (Nat.div m 64) 2)) (Nat.mod (Nat.div m 128) 2)) (Nat.mod (Nat.div m 256) 2)) (Nat.mod (Nat.div m 512) 2)) (Nat.mod (Nat.div m 1024) 2)) (Nat.mod (Nat.div m 2048) 2)) (Nat.mod (Nat.div m 4096) 2)) (Nat.mod (Nat.div m 8192) 2)) (Nat.mod (Nat.div m 16384) 2)) (Nat.mod (Nat.div m 32768) 2)
theorem c16_ct (m : Nat) : c16 m = ct m 16 := rfl
theorem ct_sum (m : Nat) : ∀ n, sumI (fun k => if m.testBit k = true then 1 else 0) n = nI (ct m n)
  | 0 => rfl
  | n + 1 => by
    rw [sumI_s, ct_sum m n]
    show _ = nI (ct m n + m / 2 ^ n % 2)
    rw [← nI_add]
    congr 1
    rw [Nat.testBit_eq_decide_div_mod_eq]
    have h2 : m / 2 ^ n % 2 < 2 := Nat.mod_lt _ (by decide)
    rcases Nat.lt_or_ge (m / 2 ^ n % 2) 1 with q | q
    · rw [show m / 2 ^ n % 2 = 0 by omega]; rfl
    · rw [show m / 2 ^ n % 2 = 1 by omega]; rfl
noncomputable def ck (lo n : Nat) : Bool := Nat.rec (motive := fun _ => Bool) true (fun n b => and b (Nat.beq (bnN (Nat.add lo n)) (c16 (Nat.add lo n)))) n
theorem ck_s (lo n : Nat) : ck lo (n + 1) = (ck lo n && Nat.beq (bnN (lo + n)) (c16 (lo + n))) := rfl
theorem ck_of {lo : Nat} : ∀ {n : Nat}, ck lo n = true → ∀ k, k < n → bnN (lo + k) = c16 (lo + k)
  | 0, _, k, hk => absurd hk (Nat.not_lt_zero k)
  | n + 1, h, k, hk => by
    rw [ck_s, Bool.and_eq_true] at h
    rcases Nat.lt_or_ge k n with q | q
    · exact ck_of h.1 k q
    · rw [show k = n by omega]; exact Nat.eq_of_beq_eq_true h.2
theorem ck_0 : ∀ a : Fin 32, ck (0 + 256 * a.val) 256 = true := by decide +kernel
theorem ck_1 : ∀ a : Fin 32, ck (8192 + 256 * a.val) 256 = true := by decide +kernel
theorem ck_2 : ∀ a : Fin 32, ck (16384 + 256 * a.val) 256 = true := by decide +kernel
theorem ck_3 : ∀ a : Fin 32, ck (24576 + 256 * a.val) 256 = true := by decide +kernel
theorem ck_4 : ∀ a : Fin 32, ck (32768 + 256 * a.val) 256 = true := by decide +kernel
theorem ck_5 : ∀ a : Fin 32, ck (40960 + 256 * a.val) 256 = true := by decide +kernel
theorem ck_6 : ∀ a : Fin 32, ck (49152 + 256 * a.val) 256 = true := by decide +kernel
theorem ck_7 : ∀ a : Fin 32, ck (57344 + 256 * a.val) 256 = true := by decide +kernel
theorem bnN_16 {m : Nat} (h : m < 65536) : bnN m = c16 m := by
  have key : ∀ (j : Nat) (hj : ∀ a : Fin 32, ck (8192 * j + 256 * a.val) 256 = true), 8192 * j ≤ m → m < 8192 * j + 8192 → bnN m = c16 m := by
    intro j hj h1 h2
    have h3 := ck_of (hj ⟨(m - 8192 * j) / 256, by omega⟩) ((m - 8192 * j) % 256) (Nat.mod_lt _ (by decide))
    have e : 8192 * j + 256 * ((m - 8192 * j) / 256) + (m - 8192 * j) % 256 = m := by omega
    rw [e] at h3
    exact h3
  rcases (show m / 8192 = 0 ∨ m / 8192 = 1 ∨ m / 8192 = 2 ∨ m / 8192 = 3 ∨ m / 8192 = 4 ∨ m / 8192 = 5 ∨ m / 8192 = 6 ∨ m / 8192 = 7 by omega) with q | q | q | q | q | q | q | q
  · exact key 0 ck_0 (by omega) (by omega)
  · exact key 1 ck_1 (by omega) (by omega)
  · exact key 2 ck_2 (by omega) (by omega)
  · exact key 3 ck_3 (by omega) (by omega)
  · exact key 4 ck_4 (by omega) (by omega)
  · exact key 5 ck_5 (by omega) (by omega)
  · exact key 6 ck_6 (by omega) (by omega)
  · exact key 7 ck_7 (by omega) (by omega)
theorem bcI_sum {m : Nat} (h : m < 65536) : bcI (nI m) = sumI (fun k => if m.testBit k = true then 1 else 0) 16 := by
  rw [bcI_n h, bnN_16 h, c16_ct, ct_sum]
