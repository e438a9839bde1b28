/-! floats: no NaN, and what is equal compares so -/
theorem fl_t32 : FP.Core.b32.tails = 8388608 := by decide
theorem fl_e32 : FP.Core.b32.exps = 256 := by decide
theorem fl_m32 : FP.Core.b32.qmin = -149 := by decide
theorem fl_x32 : FP.Core.b32.qmax = 104 := by decide
theorem fl_p32 : 2 ^ FP.Core.b32.p = 16777216 := by decide
theorem fl_enc32 {s : Bool} {c : Nat} {q : Int} (hc : c < 16777216) (hq : q ≤ 104) : ∃ k m : Nat, FP.Core.encode FP.Core.b32 (.fin s c q) = k * 2147483648 + m ∧ k ≤ 1 ∧ m < 2139095040 ∧ (c ≠ 0 → m ≠ 0) := by
  have hs : s.toNat ≤ 1 := by cases s <;> decide
  unfold FP.Core.encode
  dsimp only
  rw [fl_t32, fl_m32]
  unfold FP.Core.assemble
  rw [fl_t32, fl_e32]
  by_cases h : c < 8388608
  · rw [if_pos h]
    exact ⟨s.toNat, c, by omega, hs, by omega, fun z => z⟩
  · rw [if_neg h]
    generalize hz : (q - (-149)).toNat = z
    have : z ≤ 256 - 3 := by omega
    exact ⟨s.toNat, (z + 1) * 8388608 + (c - 8388608), by omega, hs, by omega, fun _ => by omega⟩
theorem fl_inf32 (s : Bool) : ∃ k m : Nat, FP.Core.encode FP.Core.b32 (.inf s) = k * 2147483648 + m ∧ k ≤ 1 ∧ m = 2139095040 := by
  have hs : s.toNat ≤ 1 := by cases s <;> decide
  unfold FP.Core.encode
  dsimp only
  unfold FP.Core.assemble
  rw [fl_t32, fl_e32]
  exact ⟨s.toNat, 2139095040, by omega, hs, rfl⟩
theorem fl_rr32 (s : Bool) (a b : Nat) (e : Int) : (∃ c q, FP.Core.roundRatio FP.Core.b32 s a b e = .fin s c q ∧ c < 16777216 ∧ q ≤ 104) ∨ FP.Core.roundRatio FP.Core.b32 s a b e = .inf s := by
  unfold FP.Core.roundRatio
  split
  · exact Or.inl ⟨0, _, rfl, by decide, by rw [fl_m32]; decide⟩
  · unfold FP.Core.roundAt FP.Core.settle FP.Core.bound
    rw [fl_p32, fl_x32, fl_t32]
    split
    · rename_i h1
      split
      · rename_i h2
        exact Or.inl ⟨_, _, rfl, h1, h2⟩
      · exact Or.inr rfl
    · split
      · rename_i h2
        exact Or.inl ⟨_, _, rfl, by decide, h2⟩
      · exact Or.inr rfl
/-- a number whose bits are no NaN -/
def fl_ok32 (x : Nat) : Prop := ∃ k m : Nat, x = k * 2147483648 + m ∧ k ≤ 1 ∧ m ≤ 2139095040
theorem fl_okr32 (s : Bool) (a b : Nat) (e : Int) : fl_ok32 (FP.Core.encode FP.Core.b32 (FP.Core.roundRatio FP.Core.b32 s a b e)) := by
  rcases fl_rr32 s a b e with ⟨c, q, h, hc, hq⟩ | h
  · rw [h]
    obtain ⟨k, m, h1, h2, h3, -⟩ := fl_enc32 (s := s) hc hq
    exact ⟨k, m, h1, h2, by omega⟩
  · rw [h]
    obtain ⟨k, m, h1, h2, h3⟩ := fl_inf32 s
    exact ⟨k, m, h1, h2, by omega⟩
theorem fl_oki32 (s : Bool) : fl_ok32 (FP.Core.encode FP.Core.b32 (.inf s)) := by
  obtain ⟨k, m, h1, h2, h3⟩ := fl_inf32 s
  exact ⟨k, m, h1, h2, by omega⟩
theorem fl_dec32 {x : Nat} (h : fl_ok32 x) : FP.Core.decode FP.Core.b32 x ≠ .nan := by
  obtain ⟨k, m, rfl, hk, hm⟩ := h
  unfold FP.Core.decode FP.Core.fieldE FP.Core.fieldT
  rw [fl_t32, fl_e32]
  intro hn
  split at hn
  · rename_i h1
    rw [if_pos (by omega)] at hn
    cases hn
  · split at hn <;> cases hn
theorem fl_fin32 {x k m : Nat} (hx : x = k * 2147483648 + m) (h0 : m ≠ 0) (hm : m < 2139095040) : ∃ s c q, FP.Core.decode FP.Core.b32 x = .fin s c q ∧ c ≠ 0 := by
  subst hx
  unfold FP.Core.decode FP.Core.fieldE FP.Core.fieldT
  rw [fl_t32, fl_e32, if_neg (by omega)]
  split
  · exact ⟨_, _, _, rfl, by omega⟩
  · exact ⟨_, _, _, rfl, by omega⟩
theorem fl_ofn32 {x : Nat} (h : fl_ok32 x) : (UInt32.ofNat x).toNat = x := by
  obtain ⟨k, m, e, hk, hm⟩ := h
  have hx : x < 2 ^ 32 := by rw [show (2 : Nat) ^ 32 = 4294967296 from by decide]; omega
  rw [UInt32.toNat_ofNat']
  exact Nat.mod_eq_of_lt hx
theorem fl_v32 {x : Nat} (h : fl_ok32 x) : vf_n32 (UInt32.ofNat x) := by
  have e := fl_ofn32 h
  obtain ⟨k, m, rfl, hk, hm⟩ := h
  unfold vf_n32
  rw [UInt32.le_iff_toNat_le, UInt32.toNat_and, e]
  show (k * 2147483648 + m) &&& (2 ^ 31 - 1) ≤ 2139095040
  rw [Nat.and_two_pow_sub_one_eq_mod]
  omega
theorem fl_of32 {x : UInt32} (h : vf_n32 x) : fl_ok32 x.toNat := by
  unfold vf_n32 at h
  rw [UInt32.le_iff_toNat_le, UInt32.toNat_and] at h
  have h : x.toNat &&& (2 ^ 31 - 1) ≤ 2139095040 := h
  rw [Nat.and_two_pow_sub_one_eq_mod] at h
  have hx : x.toNat < 4294967296 := x.toNat_lt
  exact ⟨x.toNat / 2147483648, x.toNat % 2147483648, by omega, by omega, h⟩
theorem fl_t64 : FP.Core.b64.tails = 4503599627370496 := by decide
theorem fl_e64 : FP.Core.b64.exps = 2048 := by decide
theorem fl_m64 : FP.Core.b64.qmin = -1074 := by decide
theorem fl_x64 : FP.Core.b64.qmax = 971 := by decide
theorem fl_p64 : 2 ^ FP.Core.b64.p = 9007199254740992 := by decide
theorem fl_enc64 {s : Bool} {c : Nat} {q : Int} (hc : c < 9007199254740992) (hq : q ≤ 971) : ∃ k m : Nat, FP.Core.encode FP.Core.b64 (.fin s c q) = k * 9223372036854775808 + m ∧ k ≤ 1 ∧ m < 9218868437227405312 ∧ (c ≠ 0 → m ≠ 0) := by
  have hs : s.toNat ≤ 1 := by cases s <;> decide
  unfold FP.Core.encode
  dsimp only
  rw [fl_t64, fl_m64]
  unfold FP.Core.assemble
  rw [fl_t64, fl_e64]
  by_cases h : c < 4503599627370496
  · rw [if_pos h]
    exact ⟨s.toNat, c, by omega, hs, by omega, fun z => z⟩
  · rw [if_neg h]
    generalize hz : (q - (-1074)).toNat = z
    have : z ≤ 2048 - 3 := by omega
    exact ⟨s.toNat, (z + 1) * 4503599627370496 + (c - 4503599627370496), by omega, hs, by omega, fun _ => by omega⟩
theorem fl_inf64 (s : Bool) : ∃ k m : Nat, FP.Core.encode FP.Core.b64 (.inf s) = k * 9223372036854775808 + m ∧ k ≤ 1 ∧ m = 9218868437227405312 := by
  have hs : s.toNat ≤ 1 := by cases s <;> decide
  unfold FP.Core.encode
  dsimp only
  unfold FP.Core.assemble
  rw [fl_t64, fl_e64]
  exact ⟨s.toNat, 9218868437227405312, by omega, hs, rfl⟩
theorem fl_rr64 (s : Bool) (a b : Nat) (e : Int) : (∃ c q, FP.Core.roundRatio FP.Core.b64 s a b e = .fin s c q ∧ c < 9007199254740992 ∧ q ≤ 971) ∨ FP.Core.roundRatio FP.Core.b64 s a b e = .inf s := by
  unfold FP.Core.roundRatio
  split
  · exact Or.inl ⟨0, _, rfl, by decide, by rw [fl_m64]; decide⟩
  · unfold FP.Core.roundAt FP.Core.settle FP.Core.bound
    rw [fl_p64, fl_x64, fl_t64]
    split
    · rename_i h1
      split
      · rename_i h2
        exact Or.inl ⟨_, _, rfl, h1, h2⟩
      · exact Or.inr rfl
    · split
      · rename_i h2
        exact Or.inl ⟨_, _, rfl, by decide, h2⟩
      · exact Or.inr rfl
/-- a number whose bits are no NaN -/
def fl_ok64 (x : Nat) : Prop := ∃ k m : Nat, x = k * 9223372036854775808 + m ∧ k ≤ 1 ∧ m ≤ 9218868437227405312
theorem fl_okr64 (s : Bool) (a b : Nat) (e : Int) : fl_ok64 (FP.Core.encode FP.Core.b64 (FP.Core.roundRatio FP.Core.b64 s a b e)) := by
  rcases fl_rr64 s a b e with ⟨c, q, h, hc, hq⟩ | h
  · rw [h]
    obtain ⟨k, m, h1, h2, h3, -⟩ := fl_enc64 (s := s) hc hq
    exact ⟨k, m, h1, h2, by omega⟩
  · rw [h]
    obtain ⟨k, m, h1, h2, h3⟩ := fl_inf64 s
    exact ⟨k, m, h1, h2, by omega⟩
theorem fl_oki64 (s : Bool) : fl_ok64 (FP.Core.encode FP.Core.b64 (.inf s)) := by
  obtain ⟨k, m, h1, h2, h3⟩ := fl_inf64 s
  exact ⟨k, m, h1, h2, by omega⟩
theorem fl_dec64 {x : Nat} (h : fl_ok64 x) : FP.Core.decode FP.Core.b64 x ≠ .nan := by
  obtain ⟨k, m, rfl, hk, hm⟩ := h
  unfold FP.Core.decode FP.Core.fieldE FP.Core.fieldT
  rw [fl_t64, fl_e64]
  intro hn
  split at hn
  · rename_i h1
    rw [if_pos (by omega)] at hn
    cases hn
  · split at hn <;> cases hn
theorem fl_fin64 {x k m : Nat} (hx : x = k * 9223372036854775808 + m) (h0 : m ≠ 0) (hm : m < 9218868437227405312) : ∃ s c q, FP.Core.decode FP.Core.b64 x = .fin s c q ∧ c ≠ 0 := by
  subst hx
  unfold FP.Core.decode FP.Core.fieldE FP.Core.fieldT
  rw [fl_t64, fl_e64, if_neg (by omega)]
  split
  · exact ⟨_, _, _, rfl, by omega⟩
  · exact ⟨_, _, _, rfl, by omega⟩
theorem fl_ofn64 {x : Nat} (h : fl_ok64 x) : (UInt64.ofNat x).toNat = x := by
  obtain ⟨k, m, e, hk, hm⟩ := h
  have hx : x < 2 ^ 64 := by rw [show (2 : Nat) ^ 64 = 18446744073709551616 from by decide]; omega
  rw [UInt64.toNat_ofNat']
  exact Nat.mod_eq_of_lt hx
theorem fl_v64 {x : Nat} (h : fl_ok64 x) : vf_n64 (UInt64.ofNat x) := by
  have e := fl_ofn64 h
  obtain ⟨k, m, rfl, hk, hm⟩ := h
  unfold vf_n64
  rw [UInt64.le_iff_toNat_le, UInt64.toNat_and, e]
  show (k * 9223372036854775808 + m) &&& (2 ^ 63 - 1) ≤ 9218868437227405312
  rw [Nat.and_two_pow_sub_one_eq_mod]
  omega
theorem fl_of64 {x : UInt64} (h : vf_n64 x) : fl_ok64 x.toNat := by
  unfold vf_n64 at h
  rw [UInt64.le_iff_toNat_le, UInt64.toNat_and] at h
  have h : x.toNat &&& (2 ^ 63 - 1) ≤ 9218868437227405312 := h
  rw [Nat.and_two_pow_sub_one_eq_mod] at h
  have hx : x.toNat < 18446744073709551616 := x.toNat_lt
  exact ⟨x.toNat / 9223372036854775808, x.toNat % 9223372036854775808, by omega, by omega, h⟩
theorem fl_i2f (x : Int32) : fl_ok32 (FP.i2f x).toNat := by
  have h : fl_ok32 (FP.Core.fromInt FP.Core.b32 x.toInt) := fl_okr32 _ _ _ _
  show fl_ok32 (UInt32.ofNat (FP.Core.fromInt FP.Core.b32 x.toInt)).toNat
  rw [fl_ofn32 h]
  exact h
theorem fl_i2d (x : Int32) : fl_ok64 (FP.i2d x).toNat := by
  have h : fl_ok64 (FP.Core.fromInt FP.Core.b64 x.toInt) := fl_okr64 _ _ _ _
  show fl_ok64 (UInt64.ofNat (FP.Core.fromInt FP.Core.b64 x.toInt)).toNat
  rw [fl_ofn64 h]
  exact h
theorem fl_d3 : FP.Core.decode FP.Core.b32 (1077936128 : UInt32).toNat = .fin false 12582912 (-22) := by decide +kernel
theorem fl_pace (x : Int32) : vf_n32 (FP.fdiv (FP.i2f x) 1077936128) := by
  show vf_n32 (UInt32.ofNat (FP.Core.encode FP.Core.b32 (FP.Core.quotient FP.Core.b32 (FP.Core.decode FP.Core.b32 (FP.i2f x).toNat) (FP.Core.decode FP.Core.b32 (1077936128 : UInt32).toNat))))
  refine fl_v32 ?_
  rw [fl_d3]
  cases hd : FP.Core.decode FP.Core.b32 (FP.i2f x).toNat with
  | nan => exact absurd hd (fl_dec32 (fl_i2f x))
  | inf s => exact fl_oki32 _
  | fin s c q => exact fl_okr32 _ _ _ _
theorem fl_lead (n : Nat) (h : n < 2 ^ 32) : FP.Core.leading n 1 ≤ 31 := by
  have h1 : n.log2 ≤ 31 := by
    rcases Nat.eq_zero_or_pos n with z | z
    · subst z; decide
    · have := (Nat.log2_lt (show n ≠ 0 by omega) (k := 32)).mpr h
      omega
  unfold FP.Core.leading
  have e1 : Nat.log2 1 = 0 := by decide
  rw [e1]
  dsimp only
  split <;> omega
theorem fl_i2dn {y : Int32} (hy : ¬ y = 0) : ∃ s c q, FP.Core.decode FP.Core.b64 (FP.i2d y).toNat = .fin s c q ∧ c ≠ 0 := by
  have h := fl_i2d y
  have hr := fl_ofn64 (x := FP.Core.fromInt FP.Core.b64 y.toInt) (fl_okr64 _ _ _ _)
  have hy0 : y.toInt ≠ 0 := fun z => hy (Int32.toInt_inj.mp (by rw [z]; rfl))
  have hn0 : y.toInt.natAbs ≠ 0 := by omega
  have hlt : y.toInt.natAbs < 2 ^ 32 := by
    have h1 := Int32.le_toInt y
    have h2 := Int32.toInt_lt y
    omega
  have hlead := fl_lead _ hlt
  show ∃ s c q, FP.Core.decode FP.Core.b64 (UInt64.ofNat (FP.Core.fromInt FP.Core.b64 y.toInt)).toNat = .fin s c q ∧ c ≠ 0
  rw [hr]
  have key : ∃ s c q, FP.Core.round FP.Core.b64 (FP.Core.ofInt y.toInt) = .fin s c q ∧ c ≠ 0 ∧ c < 9007199254740992 ∧ q ≤ 971 := by
    show ∃ s c q, FP.Core.roundRatio FP.Core.b64 (decide (y.toInt < 0)) y.toInt.natAbs 1 0 = .fin s c q ∧ c ≠ 0 ∧ c < 9007199254740992 ∧ q ≤ 971
    unfold FP.Core.roundRatio
    rw [if_neg hn0]
    have hq : FP.Core.quantum FP.Core.b64 y.toInt.natAbs 1 0 ≤ -21 := by
      unfold FP.Core.quantum
      rw [fl_m64, show (FP.Core.b64.p : Int) = 53 from rfl]
      omega
    generalize FP.Core.quantum FP.Core.b64 y.toInt.natAbs 1 0 = q at hq
    unfold FP.Core.roundAt FP.Core.settle FP.Core.bound
    rw [fl_p64, fl_x64, fl_t64]
    have ec : FP.Core.nearest (FP.Core.unitsNum y.toInt.natAbs 0 q) (FP.Core.unitsDen 1 0 q) = y.toInt.natAbs * 2 ^ (0 - q).toNat := by
      unfold FP.Core.nearest FP.Core.unitsNum FP.Core.unitsDen
      rw [show (q - 0).toNat = 0 by omega, show (1 * 2 ^ 0 : Nat) = 1 from rfl, Nat.mod_one, if_pos (by decide), Nat.div_one]
    rw [ec]
    have c0 : y.toInt.natAbs * 2 ^ (0 - q).toNat ≠ 0 := Nat.mul_ne_zero hn0 (Nat.ne_of_gt (Nat.two_pow_pos _))
    split
    · rename_i h1
      rw [if_pos (by omega)]
      exact ⟨_, _, _, rfl, c0, h1, by omega⟩
    · rw [if_pos (by omega)]
      exact ⟨_, _, _, rfl, by decide, by decide, by omega⟩
  obtain ⟨s, c, q, e, c0, hc, hq⟩ := key
  unfold FP.Core.fromInt
  rw [e]
  obtain ⟨k, m, h1, h2, h3, h4⟩ := fl_enc64 (s := s) hc hq
  exact fl_fin64 h1 (h4 c0) h3
theorem fl_mean (x y : Int32) (h : ¬ y = 0) : vf_n64 (FP.ddiv (FP.i2d x) (FP.i2d y)) := by
  show vf_n64 (UInt64.ofNat (FP.Core.encode FP.Core.b64 (FP.Core.quotient FP.Core.b64 (FP.Core.decode FP.Core.b64 (FP.i2d x).toNat) (FP.Core.decode FP.Core.b64 (FP.i2d y).toNat))))
  refine fl_v64 ?_
  obtain ⟨t, d, r, e, hd0⟩ := fl_i2dn h
  rw [e]
  cases hd : FP.Core.decode FP.Core.b64 (FP.i2d x).toNat with
  | nan => exact absurd hd (fl_dec64 (fl_i2d x))
  | inf s => exact fl_oki64 _
  | fin s c q =>
    show fl_ok64 (FP.Core.encode FP.Core.b64 (if d = 0 then (if c = 0 then .nan else .inf (s != t)) else FP.Core.roundRatio FP.Core.b64 (s != t) c d (q - r)))
    rw [if_neg hd0]
    exact fl_okr64 _ _ _ _
theorem fl_f2d (x : UInt32) (h : vf_n32 x) : vf_n64 (FP.f2d x) := by
  have hn := fl_dec32 (fl_of32 h)
  have e : FP.f2d x = FP.Core.f2d x := by
    unfold FP.f2d
    rw [if_neg]
    intro z
    exact hn (of_decide_eq_true z)
  rw [e]
  show vf_n64 (UInt64.ofNat (FP.Core.encode FP.Core.b64 (FP.Core.round FP.Core.b64 (FP.Core.decode FP.Core.b32 x.toNat))))
  refine fl_v64 ?_
  cases hd : FP.Core.decode FP.Core.b32 x.toNat with
  | nan => exact absurd hd hn
  | inf s => exact fl_oki64 _
  | fin s c q => exact fl_okr64 _ _ _ _
theorem fl_self {x : UInt64} (h : vf_n64 x) : FP.dcmp x x = some .eq := by
  have hn := fl_dec64 (fl_of64 h)
  show FP.Core.order (FP.Core.decode FP.Core.b64 x.toNat) (FP.Core.decode FP.Core.b64 x.toNat) = some .eq
  cases hd : FP.Core.decode FP.Core.b64 x.toNat with
  | nan => exact absurd hd hn
  | inf s => cases s <;> rfl
  | fin s c q =>
    show some (compare _ _) = some .eq
    congr 1
    exact Std.ReflCmp.compare_self
