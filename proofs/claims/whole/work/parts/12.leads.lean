/-! reaching by blocks -/
def bB (M : TS) (k j : Nat) : Bool := decide (¬ M 6 (16 * k + j) = 0)
def cn (f : Nat → Bool) : Nat → Nat
  | 0 => 0
  | n + 1 => cn f n + (if f n = true then 1 else 0)
theorem cn_le (f : Nat → Bool) : ∀ n, cn f n ≤ n
  | 0 => Nat.le_refl 0
  | n + 1 => by
    have := cn_le f n
    show cn f n + (if f n = true then 1 else 0) ≤ n + 1
    split <;> omega
theorem cn_sub {f g : Nat → Bool} : ∀ {n : Nat}, (∀ k, k < n → f k = true → g k = true) → cn f n ≤ cn g n ∧ (cn f n = cn g n → ∀ k, k < n → g k = true → f k = true)
  | 0, _ => ⟨Nat.le_refl 0, fun _ k hk => absurd hk (Nat.not_lt_zero k)⟩
  | n + 1, h => by
    obtain ⟨h1, h2⟩ := cn_sub (f := f) (g := g) (n := n) (fun k hk => h k (by omega))
    have hn := h n (by omega)
    have ef : cn f (n + 1) = cn f n + (if f n = true then 1 else 0) := rfl
    have eg : cn g (n + 1) = cn g n + (if g n = true then 1 else 0) := rfl
    rw [ef, eg]
    by_cases a : f n = true
    · rw [if_pos a, if_pos (hn a)]
      refine ⟨by omega, fun e k hk hg => ?_⟩
      rcases Nat.lt_or_ge k n with q | q
      · exact h2 (by omega) k q hg
      · rw [show k = n by omega]; exact a
    · rw [if_neg a]
      by_cases b : g n = true
      · rw [if_pos b]
        exact ⟨by omega, fun e => absurd e (by omega)⟩
      · rw [if_neg b]
        refine ⟨by omega, fun e k hk hg => ?_⟩
        rcases Nat.lt_or_ge k n with q | q
        · exact h2 (by omega) k q hg
        · rw [show k = n by omega] at hg; exact absurd hg b
theorem cn_pos {f : Nat → Bool} {i : Nat} (hf : f i = true) : ∀ {n : Nat}, i < n → 1 ≤ cn f n
  | 0, h => absurd h (Nat.not_lt_zero i)
  | n + 1, h => by
    show 1 ≤ cn f n + (if f n = true then 1 else 0)
    rcases Nat.lt_or_ge i n with q | q
    · have := cn_pos hf q; omega
    · rw [show n = i by omega, if_pos hf]; omega
theorem anyB_ex {f : Nat → Bool} : ∀ {n : Nat}, anyB f n = true → ∃ k, k < n ∧ f k = true
  | 0, h => by cases h
  | n + 1, h => by
    have h' : (anyB f n || f n) = true := h
    rw [Bool.or_eq_true] at h'
    rcases h' with h' | h'
    · obtain ⟨k, hk, e⟩ := anyB_ex h'; exact ⟨k, by omega, e⟩
    · exact ⟨n, by omega, h'⟩
theorem rch_s (M : TS) (a n j : Nat) : rch M a (n + 1) j = true ↔ rch M a n j = true ∨ ∃ k, k < nT M ∧ rch M a n k = true ∧ bB M k j = true := by
  show (rch M a n j || anyB (fun k => rch M a n k && bB M k j) (nT M)) = true ↔ _
  rw [Bool.or_eq_true]
  refine ⟨fun h => h.imp id (fun h => ?_), fun h => h.imp id (fun h => ?_)⟩
  · obtain ⟨k, hk, e⟩ := anyB_ex h
    rw [Bool.and_eq_true] at e
    exact ⟨k, hk, e.1, e.2⟩
  · obtain ⟨k, hk, e1, e2⟩ := h
    exact anyB_t (by rw [e1, e2]; rfl) hk
theorem rch_mono {M : TS} {a j : Nat} {n m : Nat} (h : n ≤ m) (hr : rch M a n j = true) : rch M a m j = true := by
  induction m with
  | zero => rw [show 0 = n by omega]; exact hr
  | succ m ih =>
    rcases Nat.lt_or_ge n (m + 1) with q | q
    · exact (rch_s M a m j).mpr (Or.inl (ih (by omega)))
    · rw [show m + 1 = n by omega]; exact hr
theorem rch_self (M : TS) (a : Nat) : rch M a 0 a = true := decide_eq_true rfl
theorem rch_16 {M : TS} {a : Nat} (hT : nT M ≤ 16) (ha : a < nT M) {n j : Nat} (hj : j < nT M) (h : rch M a n j = true) : rch M a 16 j = true := by
  have key : ∀ n, (∃ m, m ≤ n ∧ ∀ j, j < nT M → rch M a (m + 1) j = true → rch M a m j = true) ∨ n + 1 ≤ cn (rch M a n) (nT M) := by
    intro n
    induction n with
    | zero => exact Or.inr (cn_pos (rch_self M a) ha)
    | succ n ih =>
      rcases ih with ⟨m, hm, hs⟩ | ih
      · exact Or.inl ⟨m, by omega, hs⟩
      · obtain ⟨h1, h2⟩ := cn_sub (f := rch M a n) (g := rch M a (n + 1)) (n := nT M) (fun k _ hk => rch_mono (by omega) hk)
        rcases Nat.lt_or_ge (cn (rch M a n) (nT M)) (cn (rch M a (n + 1)) (nT M)) with q | q
        · exact Or.inr (by omega)
        · exact Or.inl ⟨n, by omega, fun j hj hr => h2 (by omega) j hj hr⟩
  rcases key 16 with ⟨m, hm, hs⟩ | h17
  · have all : ∀ q, m ≤ q → ∀ j, j < nT M → rch M a q j = true → rch M a m j = true := by
      intro q hq
      induction q with
      | zero => intro j hj hr; rw [show m = 0 by omega]; exact hr
      | succ q ih =>
        intro j hj hr
        rcases Nat.lt_or_ge m (q + 1) with z | z
        · rcases (rch_s M a q j).mp hr with h1 | ⟨k, hk, h1, h2⟩
          · exact ih (by omega) j hj h1
          · exact hs j hj ((rch_s M a m j).mpr (Or.inr ⟨k, hk, ih (by omega) k hk h1, h2⟩))
        · rw [show m = q + 1 by omega]; exact hr
    rcases Nat.lt_or_ge n m with z | z
    · exact rch_mono (by omega) h
    · exact rch_mono hm (all n z j hj h)
  · have := cn_le (rch M a 16) (nT M)
    omega
/-- what holds of the reference's row of reached tasks -/
def lI (M : TS) (a r : Nat) (ar : Nat → Int32) : Prop := (∀ j, j < 16 → ar j = 0 ∨ ar j = 1) ∧ (∀ j, j < 16 → ar j = 1 → ∃ n, rch M a n j = true) ∧ ∀ j, j < nT M → rch M a r j = true → ar j = 1
def lK (M : TS) (a r k : Nat) (ar : Nat → Int32) : Prop := lI M a r ar ∧ ∀ q, q < k → rch M a r q = true → ∀ j, j < nT M → bB M q j = true → ar j = 1
def lJ (M : TS) (a r k j : Nat) (ar : Nat → Int32) : Prop := lK M a r k ar ∧ (rch M a r k = true → ∀ i, i < j → bB M k i = true → ar i = 1)
theorem lI_0 {M : TS} {a : Nat} {ar : Nat → Int32} (hT : nT M ≤ 16) (h : ∀ k, k < 16 → ar k = if k = a then 1 else 0) : lI M a 0 ar := by
  refine ⟨fun j hj => ?_, fun j hj e => ?_, fun j hj hr => ?_⟩
  · rw [h j hj]; split
    · exact Or.inr rfl
    · exact Or.inl rfl
  · rw [h j hj] at e
    by_cases q : j = a
    · exact ⟨0, by rw [q]; exact rch_self M a⟩
    · rw [if_neg q] at e; exact absurd e (by decide)
  · have : j = a := of_decide_eq_true hr
    rw [h j (by omega), if_pos this]
theorem lK_0 {M : TS} {a r : Nat} {ar : Nat → Int32} (h : lI M a r ar) : lK M a r 0 ar := ⟨h, fun q hq => absurd hq (Nat.not_lt_zero q)⟩
theorem lJ_0 {M : TS} {a r k : Nat} {ar : Nat → Int32} (h : lK M a r k ar) : lJ M a r k 0 ar := ⟨h, fun _ i hi => absurd hi (Nat.not_lt_zero i)⟩
theorem lJ_s {M : TS} {a r k j : Nat} {ar : Nat → Int32} (hk : k < nT M) (h : lJ M a r k j ar) (hn : ar k = 0 ∨ M 6 (16 * k + j) = 0) : lJ M a r k (j + 1) ar := by
  refine ⟨h.1, fun hr i hi hb => ?_⟩
  rcases Nat.lt_or_ge i j with q | q
  · exact h.2 hr i q hb
  · rw [show i = j by omega] at hb
    rcases hn with hn | hn
    · have := h.1.1.2.2 k hk hr
      rw [hn] at this
      exact absurd this (by decide)
    · exact absurd hn (of_decide_eq_true hb)
theorem lJ_w {M : TS} {a r k j : Nat} {ar : Nat → Int32} (hT : nT M ≤ 16) (hk : k < nT M) (h : lJ M a r k j ar) (ha : ¬ ar k = 0) (hb : ¬ M 6 (16 * k + j) = 0) : lJ M a r k (j + 1) (upd ar j 1) := by
  have up : ∀ i, ar i = 1 → upd ar j 1 i = 1 := fun i e => by
    by_cases q : i = j
    · simp [upd, q]
    · simp [upd, q, e]
  have h1 : ar k = 1 := (h.1.1.1 k (by omega)).resolve_left ha
  refine ⟨⟨⟨fun i hi => ?_, fun i hi e => ?_, fun i hi hr => up i (h.1.1.2.2 i hi hr)⟩, fun q hq hr i hi hb2 => up i (h.1.2 q hq hr i hi hb2)⟩, fun hr i hi hb2 => ?_⟩
  · by_cases q : i = j
    · exact Or.inr (by simp [upd, q])
    · have := h.1.1.1 i hi
      simpa [upd, q] using this
  · by_cases q : i = j
    · obtain ⟨n, hn⟩ := h.1.1.2.1 k (by omega) h1
      exact ⟨n + 1, (rch_s M a n i).mpr (Or.inr ⟨k, hk, hn, by rw [q]; exact decide_eq_true hb⟩)⟩
    · exact h.1.1.2.1 i hi (by simpa [upd, q] using e)
  · by_cases q : i = j
    · simp [upd, q]
    · exact up i (h.2 hr i (by omega) hb2)
theorem lK_s {M : TS} {a r k : Nat} {ar : Nat → Int32} (h : lJ M a r k (nT M) ar) : lK M a r (k + 1) ar := by
  refine ⟨h.1.1, fun q hq hr j hj hb => ?_⟩
  rcases Nat.lt_or_ge q k with z | z
  · exact h.1.2 q z hr j hj hb
  · rw [show q = k by omega] at hr hb
    exact h.2 hr j hj hb
theorem lI_s {M : TS} {a r : Nat} {ar : Nat → Int32} (h : lK M a r (nT M) ar) : lI M a (r + 1) ar := by
  refine ⟨h.1.1, h.1.2.1, fun j hj hr => ?_⟩
  rcases (rch_s M a r j).mp hr with h1 | ⟨k, hk, h1, h2⟩
  · exact h.1.2.2 j hj h1
  · exact h.2 k hk h1 j hj h2
theorem lI_e {M : TS} {a b : Nat} {ar : Nat → Int32} (hT : nT M ≤ 16) (ha : a < nT M) (hb : b < nT M) (h : lI M a 16 ar) : tkB (ar b) (leads M a b) := by
  rcases h.1 b (by omega) with e | e
  · rw [e]
    refine tkB_0 ?_
    cases hl : leads M a b with
    | false => rfl
    | true => have := h.2.2 b hb hl; rw [e] at this; exact absurd this (by decide)
  · rw [e]
    obtain ⟨n, hn⟩ := h.2.1 b (by omega) e
    exact tkB_1 (rch_16 hT ha hb hn)
theorem st8 (M : TS) (ar : Nat → Int32) (j : Nat) (v : Int32) : st (va_up M 8 ar) 8 j v = va_up M 8 (upd ar j v) := by
  unfold st
  rw [va_up_self]
  exact bx_uu M 8 ar (upd ar j v)
theorem W0.v8 {M : TS} (h : W0 M) (ar : Nat → Int32) : W0 (va_up M 8 ar) := h.w rfl rfl rfl rfl rfl rfl rfl rfl rfl
theorem PR.v8 {ac : Nat → ClassId} {m0 : Nat} {am : Nat → Nat} {th : Int32} {M : TS} {G : TG} (h : PR ac m0 am th M G) : PR ac m0 am th (va_up M 8 (M 8)) G := by
  have e : va_up M 8 (M 8) = M := by
    funext f
    by_cases q : f = 8
    · subst q; exact va_up_self _ _ _
    · exact va_up_ne _ _ q
  rw [e]; exact h
theorem PR.congr {ac : Nat → ClassId} {m0 : Nat} {am : Nat → Nat} {th : Int32} {M N : TS} {G : TG} (h : PR ac m0 am th M G) (h0 : ∀ k, 19 ≤ k → k ≤ 25 → N 0 k = M 0 k) (h1 : ∀ f, 1 ≤ f → f ≤ 18 → N f = M f) : PR ac m0 am th N G := by
  refine ⟨?_, fun k hk => ?_, h.2.2⟩
  · rw [h.1]
    simp only [mF, h0 19 (by decide) (by decide), h0 20 (by decide) (by decide), h0 21 (by decide) (by decide), h0 22 (by decide) (by decide), h0 23 (by decide) (by decide), h0 24 (by decide) (by decide), h0 25 (by decide) (by decide)]
  · rw [h.2.1 k hk, h1 (k + 1) (by omega) (by omega)]
theorem PR.blk {ac : Nat → ClassId} {m0 : Nat} {am : Nat → Nat} {th : Int32} {M : TS} {G : TG} {ar : Nat → Int32} {x y : Nat} (h : PR ac m0 am th (st (st (va_up M 8 ar) 6 (16 * x + y) 1) 0 20 (M 0 20 + 1)) G) : PR ac m0 am th (va_up (nBlock M x y) 8 ar) G := by
  refine h.congr (fun k _ _ => rfl) (fun f h1 h2 => ?_)
  by_cases q : f = 8
  · subst q; rfl
  · rw [va_up_ne _ _ q, nBlock, st_ne _ _ _ (show f ≠ 19 by omega), st_ne _ _ _ (show f ≠ 0 by omega), st_ne _ _ _ (show f ≠ 0 by omega)]
    by_cases q6 : f = 6
    · subst q6; rfl
    · rw [st_ne _ _ _ q6, st_ne _ _ _ q6, va_up_ne _ _ q]
theorem W0.blk {M : TS} (h : W0 M) (ar : Nat → Int32) (i : Nat) (v : Int32) : W0 (st (st (va_up M 8 ar) 6 i 1) 0 20 v) := by
  refine ⟨h.1, h.2.1, h.2.2.1, h.2.2.2.1, h.2.2.2.2.1, h.2.2.2.2.2.1, h.2.2.2.2.2.2.1, fun j => ?_, h.2.2.2.2.2.2.2.2⟩
  show upd (M 6) i 1 j = 0 ∨ upd (M 6) i 1 j = 1
  by_cases q : j = i
  · exact Or.inr (by simp [upd, q])
  · have := h.b j
    simpa [upd, q] using this
