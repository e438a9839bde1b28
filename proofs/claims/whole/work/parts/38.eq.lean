/-! the class answers as the model does -/
theorem itn {c d : Prop} [Decidable c] [Decidable d] {T : Type} {a b a' b' : T} (h : c ↔ d) (ha : c → a = a') (hb : ¬ c → b = b') : (if c then a else b) = (if d then a' else b') := by
  by_cases q : c
  · rw [if_pos q, if_pos (h.mp q)]; exact ha q
  · rw [if_neg q, if_neg (fun z => q (h.mpr z))]; exact hb q
theorem nb {x : Bool} (h : ¬ x = false) : x = true := by cases x with
  | false => exact absurd rfl h
  | true => rfl
theorem hasB_eq {M : TS} (h : IV M) {t k : Nat} (ht : t < nT M) (hk : k < nT M) : hasB M t k = bB M k t := by
  have hT := h.w.t.2
  exact (h.m t (by omega)).2 k (by omega)
theorem freeC_eq {M : TS} (h : IV M) {t : Nat} (ht : t < nT M) : freeC M t = isFree M t := by
  unfold freeC isFree
  refine allB_cong (fun k hk => ?_)
  rw [hasB_eq h ht hk]
  unfold bB
  by_cases e : M 6 (16 * k + t) = 0
  · simp [e]
  · simp [e]
theorem lk_eq {M : TS} (h : IV M) {w : Nat} (hw : w < 30) : lkB M w = true ↔ ¬ M 7 w = 0 := by
  rw [h.l w hw, decide_eq_true_iff]
theorem tkOk_tn {n : Nat} {x : Int32} (hn : n < 2 ^ 31) (h : tkOk n x = true) : tn x < n ∧ x = nI (tn x) := by
  obtain ⟨t, ht, rfl⟩ := tkOk_ex hn h
  have e : tn (nI t) = t := nI_clamp (by omega)
  rw [e]
  exact ⟨ht, rfl⟩
theorem tT {M : TS} (h : IV M) {x : Int32} (hx : tkOk (nT M) x = true) : tn x < nT M ∧ x = nI (tn x) := tkOk_tn (by have := h.w.t.2; omega) hx
theorem tE {M : TS} (h : IV M) {x : Int32} (hx : tkOk (nE M) x = true) : tn x < nE M ∧ x = nI (tn x) := tkOk_tn (by have := h.w.e.2; omega) hx
theorem tV {M : TS} (h : IV M) {x : Int32} (hx : tkOk (nV M) x = true) : tn x < nV M ∧ x = nI (tn x) := tkOk_tn (by have := h.w.v.2; omega) hx
theorem eq_begin {M : TS} (h : IV M) (x : Int32) : K_begin M x = S_begin M x := by
  unfold K_begin S_begin
  refine itn Iff.rfl (fun _ => rfl) (fun h1 => itn Iff.rfl (fun _ => rfl) (fun _ => ?_))
  rw [freeC_eq h (tT h (nb h1)).1]
theorem eq_canBegin {M : TS} (h : IV M) (x : Int32) : K_canBegin M x = S_canBegin M x := by
  unfold K_canBegin S_canBegin
  refine itn Iff.rfl (fun _ => rfl) (fun h1 => ?_)
  rw [freeC_eq h (tT h (nb h1)).1]
theorem eq_approve {M : TS} (h : IV M) (x : Int32) : K_approve M x = S_approve M x := by
  unfold K_approve S_approve
  refine itn Iff.rfl (fun _ => rfl) (fun h1 => itn Iff.rfl (fun _ => rfl) (fun _ => itn ?_ (fun _ => rfl) (fun _ => rfl)))
  obtain ⟨w, hw, e⟩ := h.w.ew (tE h (nb h1)).1
  rw [e, show tn (nI w) = w from nI_clamp (by omega)]
  exact lk_eq h hw
theorem eq_lock {M : TS} (h : IV M) (w : Int32) : K_lock M w = S_lock M w := by
  unfold K_lock S_lock
  exact itn Iff.rfl (fun _ => rfl) (fun h1 => itn (lk_eq h (tkOk_tn (by decide) (nb h1)).1) (fun _ => rfl) (fun _ => rfl))
theorem eq_items {M : TS} (h : IV M) (x : Int32) : K_items M x = S_items M x := by
  unfold K_items S_items
  refine itn Iff.rfl (fun _ => rfl) (fun h1 => ?_)
  rw [(h.t _ (tV h (nb h1)).1).2.2]
theorem eq_totalByRules {M : TS} (h : IV M) (x : Int32) : K_totalByRules M x = S_total M x := by
  unfold K_totalByRules S_total
  refine itn Iff.rfl (fun _ => rfl) (fun h1 => ?_)
  rw [(h.t _ (tV h (nb h1)).1).1]
theorem hN {M : TS} (h : IV M) {k : Nat} (hk : k < nE M) : isN (M 12 k) 40 := (h.h k hk).elim (fun q z => ⟨q, z.2.1, z.2.2⟩)
theorem lately_N {M : TS} (h : IV M) (w : Int32) : isN (lately M w) 2400 := by
  have := h.w.e.2
  exact (sumI_N (B := 40) (fun k hk => isN.ite (fun _ => hN h hk))).up (by omega)
theorem hours_N {M : TS} (h : IV M) (r : Nat) : isN (hoursIn M r) 2400 := by
  have := h.w.e.2
  exact (sumI_N (B := 40) (fun k hk => isN.ite (fun _ => hN h hk))).up (by omega)
theorem eq_forecast {M : TS} (h : IV M) (x w : Int32) : K_forecast M x w = S_forecast M x w := by
  unfold K_forecast S_forecast
  refine itn Iff.rfl (fun _ => rfl) (fun _ => itn Iff.rfl (fun _ => rfl) (fun _ => ?_))
  obtain ⟨m, hm, e⟩ := lately_N h w
  rw [e]
  by_cases q : m = 0
  · subst q
    rw [if_neg (by decide), if_pos (by decide)]
  · rw [if_pos (by rw [← nI_0]; exact nI_lt (by omega) (by omega)), if_neg (nI_ne0 (by omega) (by omega)), Int32.mul_comm]
theorem eq_isSettled {M : TS} (h : IV M) : K_isSettled M = true := by
  unfold K_isSettled
  rw [Bool.and_eq_true]
  refine ⟨allB_n (fun v hv => ?_), allB_n (fun k hk => ?_)⟩
  · obtain ⟨e1, e2, -⟩ := h.t v hv
    rw [← e1, ← e2]
    simp
  · have := h.c.1 (M 10 k) (M 11 k)
    simp [this]
/-! room -/
def rRel (a c : Int32) (m : Nat) : Prop := m ≤ 401 ∧ c = nI m ∧ ((a = nI m ∧ m ≤ 400) ∨ (a = -1 ∧ m = 401))
theorem m1_ne {m : Nat} (h : m ≤ 401) : ¬ nI m = -1 := fun e => by
  have h2 : ¬ (0 : Int32) ≤ -1 := by decide
  exact h2 (e ▸ nI_pos' (by omega))
theorem r_step {M : TS} (h : IV M) {t : Nat} (ht : t < nT M) {a c : Int32} {m : Nat} (hr : rRel a c m) : ∃ m', rRel (stp M t a) (stpC M t c) m' ∧ m' ≤ m ∧ ∀ b q, M 3 t = nI b → 0 < b → b ≤ 400 → hoursIn M t = nI q → q ≤ b → m' + q ≤ b := by
  obtain ⟨hm, rfl, ha⟩ := hr
  obtain ⟨b, hb, e3, hh⟩ := h.b t ht
  unfold stp stpC
  by_cases b0 : b = 0
  · subst b0
    rw [e3, if_neg (fun q => absurd q.1 (by decide)), if_pos (by decide)]
    exact ⟨m, ⟨hm, rfl, ha⟩, Nat.le_refl _, fun b q e h0 hb _ _ => by have := (nI_eq (by decide) (by omega)).mp e; omega⟩
  · obtain ⟨q, hq, e⟩ := hh (by omega)
    rw [e3, e, nI_sub hq, if_neg (nI_ne0 (by omega) (by omega))]
    have p0 : (0 : Int32) < nI b := by rw [← nI_0]; exact nI_lt (by omega) (by omega)
    have fin : ∀ m', m' ≤ b - q → ∀ b' q', nI b = nI b' → 0 < b' → b' ≤ 400 → nI q = nI q' → q' ≤ b' → m' + q' ≤ b' := fun m' hm' b' q' e1 h1 h2 e2 h3 => by
      have := (nI_eq (by omega) (by omega)).mp e1
      have := (nI_eq (by omega) (by omega)).mp e2
      omega
    by_cases lt : b - q < m
    · rw [if_pos (nI_lt lt (by omega))]
      have hc : 0 < nI b ∧ (a = -1 ∨ nI (b - q) < a) := ⟨p0, ha.elim (fun z => Or.inr (by rw [z.1]; exact nI_lt lt (by omega))) (fun z => Or.inl z.1)⟩
      rw [if_pos hc]
      exact ⟨b - q, ⟨by omega, rfl, Or.inl ⟨rfl, by omega⟩⟩, by omega, fin _ (Nat.le_refl _)⟩
    · rw [if_neg (nI_nlt (by omega) (by omega))]
      rcases ha with ⟨rfl, hm4⟩ | ⟨rfl, rfl⟩
      · rw [if_neg (fun z => z.2.elim (m1_ne hm) (nI_nlt (by omega) (by omega)))]
        exact ⟨m, ⟨hm, rfl, Or.inl ⟨rfl, hm4⟩⟩, Nat.le_refl _, fin _ (by omega)⟩
      · exact absurd lt (by omega)
theorem r_chain {M : TS} (h : IV M) : ∀ (t : Nat), t < nT M → ∀ (a c : Int32) (m : Nat), rRel a c m → ∃ m', rRel (rmF M (t + 1) t a) (rmC M (t + 1) t c) m' ∧ m' ≤ m ∧ ∀ r, isIn M t r = true → ∀ b q, M 3 r = nI b → 0 < b → b ≤ 400 → hoursIn M r = nI q → q ≤ b → m' + q ≤ b := by
  intro t
  have hT := h.w.t.2
  have hp := h.w.p
  induction t using Nat.strongRecOn with
  | ind t ih =>
    intro ht a c m hr
    obtain ⟨m1, h1, h2, h3⟩ := r_step h ht hr
    rcases hp t ht with hn | ⟨u, hu, e⟩
    · rw [rm_top hn, rmC_top hn]
      refine ⟨m1, h1, h2, fun r hir => ?_⟩
      by_cases er : t = r
      · subst er; exact h3
      · rw [isIn_top er hn] at hir; cases hir
    · rw [rm_up (by omega) hp ht hu e, rmC_up (by omega) hp ht hu e]
      obtain ⟨m2, g1, g2, g3⟩ := ih u hu (by omega) _ _ _ h1
      refine ⟨m2, g1, by omega, fun r hir => ?_⟩
      by_cases er : t = r
      · subst er
        intro b q e3 p0 pb e4 pq
        have := h3 b q e3 p0 pb e4 pq
        omega
      · rw [isIn_up (by omega) hp ht er hu e] at hir
        exact g3 r hir
theorem room_rel {M : TS} (h : IV M) {t : Nat} (ht : t < nT M) : ∃ m, rRel (roomFor M t) (rmC M (t + 1) t 401) m ∧ ∀ r, isIn M t r = true → ∀ b q, M 3 r = nI b → 0 < b → b ≤ 400 → hoursIn M r = nI q → q ≤ b → m + q ≤ b := by
  obtain ⟨m, h1, -, h3⟩ := r_chain h t ht (-1) 401 401 ⟨Nat.le_refl _, rfl, Or.inr ⟨rfl, rfl⟩⟩
  exact ⟨m, h1, h3⟩
theorem eq_room {M : TS} (h : IV M) (x : Int32) : K_room M x = S_room M x := by
  unfold K_room S_room
  refine itn Iff.rfl (fun _ => rfl) (fun h1 => ?_)
  obtain ⟨m, ⟨hm, ec, ha⟩, -⟩ := room_rel h (tT h (nb h1)).1
  rw [ec]
  rcases ha with ⟨e, h4⟩ | ⟨e, rfl⟩
  · rw [e]
    exact itn ⟨fun z => absurd ((nI_eq (by omega) (by decide)).mp (z.trans (show (401 : Int32) = nI 401 from rfl))) (by omega), fun z => absurd z (m1_ne hm)⟩ (fun _ => rfl) (fun _ => rfl)
  · rw [e, if_pos (show nI 401 = 401 from rfl), if_pos rfl]
theorem room_h {M : TS} (h : IV M) {t : Nat} (ht : t < nT M) {hh : Int32} (h40 : tkIn hh 1 40 = true) : hh ≤ rmC M (t + 1) t 401 ↔ (roomFor M t = -1 ∨ hh ≤ roomFor M t) := by
  obtain ⟨m, ⟨hm, ec, ha⟩, -⟩ := room_rel h ht
  rw [ec]
  rcases ha with ⟨e, h4⟩ | ⟨e, rfl⟩
  · rw [e]
    exact ⟨Or.inr, fun z => z.elim (fun z => absurd z (m1_ne hm)) id⟩
  · rw [e]
    refine ⟨fun _ => Or.inl rfl, fun _ => ?_⟩
    simp only [tkIn, Bool.and_eq_true, decide_eq_true_eq] at h40
    exact Int32.le_trans h40.2 (by decide)
theorem eq_note {M : TS} (h : IV M) (x p w hh : Int32) : K_note M x p w hh = S_note M x p w hh := by
  unfold K_note S_note
  refine itn Iff.rfl (fun _ => rfl) (fun h1 => itn Iff.rfl (fun _ => rfl) (fun h2 => ?_))
  have hw : tkOk 30 w = true := nb (fun z => h2 (Or.inr (Or.inl z)))
  have h40 : tkIn hh 1 40 = true := nb (fun z => h2 (Or.inr (Or.inr z)))
  refine itn (lk_eq h (tkOk_tn (by decide) hw).1) (fun _ => rfl) (fun _ => itn ?_ (fun _ => rfl) (fun _ => rfl))
  rw [room_h h (tT h (nb h1)).1 h40, ← h.w.e.1]
theorem eq_addTask {M : TS} (h : IV M) (p es bu : Int32) : K_addTask M p es bu = S_addTask M p es bu := by
  unfold K_addTask S_addTask
  refine itn Iff.rfl (fun _ => rfl) (fun h1 => itn Iff.rfl (fun _ => rfl) (fun h2 => itn ?_ (fun _ => rfl) (fun _ => rfl)))
  have hT := h.w.t.2
  rw [h.w.t.1, show (16 : Int32) = nI 16 from rfl]
  exact ⟨fun z => by rw [show nT M = 16 from Nat.le_antisymm hT ((nI_leI (by decide) (by omega)).mp z)], fun z => by rw [z]; exact nI_le (Nat.le_refl _) (by decide)⟩
/-! blocks -/
theorem rch_tr {M : TS} {a b : Nat} {m : Nat} (h : rch M a m b = true) : ∀ {n j : Nat}, rch M b n j = true → rch M a (m + n) j = true
  | 0, j, hj => by
    have e : j = b := by simpa [rch] using hj
    rw [e]; exact h
  | n + 1, j, hj => by
    show rch M a (m + n + 1) j = true
    rcases (rch_s M b n j).mp hj with q | ⟨k, hk, q1, q2⟩
    · exact (rch_s M a (m + n) j).mpr (Or.inl (rch_tr h q))
    · exact (rch_s M a (m + n) j).mpr (Or.inr ⟨k, hk, rch_tr h q1, q2⟩)
theorem rch_1 {M : TS} {a b : Nat} (ha : a < nT M) (h : bB M a b = true) : rch M a 1 b = true := (rch_s M a 0 b).mpr (Or.inr ⟨a, ha, rch_self M a, h⟩)
/-- the blocks the other way round -/
def rev (M : TS) : TS := va_up M 6 (fun j => M 6 (16 * (j % 16) + j / 16))
theorem rev_b {M : TS} {k j : Nat} (hj : j < 16) : bB (rev M) j k = bB M k j ∨ 16 ≤ k := by
  by_cases hk : k < 16
  · left
    unfold bB rev
    rw [va_up_self, show (16 * j + k) % 16 = k by omega, show (16 * j + k) / 16 = j by omega]
  · exact Or.inr (by omega)
theorem rev_r {M : TS} (hT : nT M ≤ 16) {a : Nat} (ha : a < nT M) : ∀ {n j : Nat}, j < nT M → rch M a n j = true → rch (rev M) j n a = true
  | 0, j, _, hj => by
    have e : j = a := by simpa [rch] using hj
    rw [e]; exact rch_self _ _
  | n + 1, j, hjT, hj => by
    have eT : nT (rev M) = nT M := rfl
    rcases (rch_s M a n j).mp hj with q | ⟨k, hk, q1, q2⟩
    · exact rch_mono (Nat.le_succ n) (rev_r hT ha hjT q)
    · have e1 : bB (rev M) j k = true := by
        rcases rev_b (M := M) (k := k) (j := j) (by omega) with e | e
        · rw [e]; exact q2
        · omega
      have := rch_tr (M := rev M) (m := 1) (rch_1 (by rw [eT]; exact hjT) e1) (rev_r hT ha hk q1)
      rw [Nat.add_comm]; exact this
section
variable {M : TS}
theorem fS_mono {x : Int32} {k : Nat} (hk : k < 31) : ∀ {n m : Nat}, n ≤ m → hb (fS M x n) k = true → hb (fS M x m) k = true
  | n, 0, h, e => by rw [show n = 0 by omega] at e; exact e
  | n, m + 1, h, e => by
    rcases Nat.lt_or_ge n (m + 1) with q | q
    · have ih := fS_mono hk (show n ≤ m by omega) e
      rw [fS]
      split
      · exact ih
      · rw [hb_or hk, ih]; rfl
    · rw [show m + 1 = n by omega]; exact e
theorem fR_mono {x : Int32} {k : Nat} (hk : k < 31) : ∀ {n m : Nat}, n ≤ m → hb (fR M x n) k = true → hb (fR M x m) k = true
  | n, 0, h, e => by rw [show n = 0 by omega] at e; exact e
  | n, m + 1, h, e => by
    rcases Nat.lt_or_ge n (m + 1) with q | q
    · exact fS_mono hk (Nat.zero_le _) (fR_mono hk (show n ≤ m by omega) e)
    · rw [show m + 1 = n by omega]; exact e
/-- what is found leads to x -/
theorem fS_snd (h : IV M) {x : Nat} {y : Int32} (hy : ∀ k, k < 16 → hb y k = true → k < nT M ∧ ∃ m, rch M k m x = true) : ∀ n, n ≤ nT M → ∀ k, k < 16 → hb (fS M y n) k = true → k < nT M ∧ ∃ m, rch M k m x = true
  | 0, _, k, hk, e => hy k hk e
  | n + 1, hn, k, hk, e => by
    have hT := h.w.t.2
    have ih := fS_snd h hy n (by omega)
    rw [fS] at e
    split at e
    · exact ih k hk e
    · rename_i c
      rw [hb_or (by omega), Bool.or_eq_true] at e
      rcases e with e | e
      · exact ih k hk e
      · rw [(h.m n (by omega)).2 k hk] at e
        have hkT : k < nT M := by
          rcases Nat.lt_or_ge k (nT M) with q | q
          · exact q
          · have := h.z k n hk (by omega) (Or.inl q)
            unfold bB at e
            rw [this] at e
            exact absurd e (by decide)
        obtain ⟨-, m, hm⟩ := ih n (by omega) (hb_t.mpr c)
        exact ⟨hkT, 1 + m, rch_tr (rch_1 hkT e) hm⟩
theorem m19_snd (h : IV M) {x : Nat} (hx : x < nT M) : ∀ k, k < 16 → hb (M 19 x) k = true → k < nT M ∧ ∃ m, rch M k m x = true := by
  intro k hk e
  have hT := h.w.t.2
  rw [(h.m x (by omega)).2 k hk] at e
  have hkT : k < nT M := by
    rcases Nat.lt_or_ge k (nT M) with q | q
    · exact q
    · have := h.z k x hk (by omega) (Or.inl q)
      unfold bB at e
      rw [this] at e
      exact absurd e (by decide)
  exact ⟨hkT, 1, rch_1 hkT e⟩
theorem fR_snd (h : IV M) {x : Nat} (hx : x < nT M) : ∀ n k, k < 16 → hb (fR M (M 19 x) n) k = true → k < nT M ∧ ∃ m, rch M k m x = true
  | 0, k, hk, e => m19_snd h hx k hk e
  | n + 1, k, hk, e => fS_snd h (fR_snd h hx n) (nT M) (Nat.le_refl _) k hk e
/-- what leads to x is found -/
theorem fR_cpl (h : IV M) {x : Nat} (hx : x < nT M) : ∀ n k, k < nT M → rch (rev M) x (n + 1) k = true → k = x ∨ hb (fR M (M 19 x) n) k = true
  | 0, k, hk, e => by
    have hT := h.w.t.2
    rcases (rch_s (rev M) x 0 k).mp e with q | ⟨j, hj, q1, q2⟩
    · left; simpa [rch] using q
    · have ej : j = x := by simpa [rch] using q1
      subst ej
      right
      show hb (M 19 j) k = true
      rw [(h.m j (by omega)).2 k (by omega)]
      rcases rev_b (M := M) (k := k) (j := j) (by omega) with z | z
      · rw [← z]; exact q2
      · omega
  | n + 1, k, hk, e => by
    have hT := h.w.t.2
    rcases (rch_s (rev M) x (n + 1) k).mp e with q | ⟨j, hj, q1, q2⟩
    · rcases fR_cpl h hx n k hk q with z | z
      · exact Or.inl z
      · exact Or.inr (fR_mono (by omega) (Nat.le_succ n) z)
    · have hjT : j < nT M := hj
      have e1 : bB M k j = true := by
        rcases rev_b (M := M) (k := k) (j := j) (by omega) with z | z
        · rw [← z]; exact q2
        · omega
      right
      rcases fR_cpl h hx n j hjT q1 with z | z
      · subst z
        refine fR_mono (by omega) (Nat.zero_le _) ?_
        show hb (M 19 j) k = true
        rw [(h.m j (by omega)).2 k (by omega)]; exact e1
      · show hb (fS M (fR M (M 19 x) n) (nT M)) k = true
        refine fS_mono (by omega) (show j + 1 ≤ nT M by omega) ?_
        rw [fS, if_neg (hb_t.mp (fS_mono (by omega) (Nat.zero_le j) z)), hb_or (by omega), (h.m j (by omega)).2 k (by omega), e1, Bool.or_true]
theorem chain_eq (h : IV M) {x y : Nat} (hx : x < nT M) (hy : y < nT M) (hne : y ≠ x) : hb (fR M (M 19 x) 16) y = leads M y x := by
  have hT := h.w.t.2
  cases hl : leads M y x with
  | true =>
    rcases fR_cpl h hx 16 y hy (rch_mono (by decide) (rev_r hT hy hx hl)) with z | z
    · exact absurd z hne
    · exact z
  | false =>
    cases hf : hb (fR M (M 19 x) 16) y with
    | false => rfl
    | true =>
      obtain ⟨-, m, hm⟩ := fR_snd h hx 16 y (by omega) hf
      rw [show leads M y x = true from rch_16 hT hy hx hm] at hl
      cases hl
theorem bcI_cnt (h : IV M) {x y : Nat} (hx : x < nT M) (hy : y < nT M) : bcI (M 19 y ||| bitOf x) = cntBl (nBlock M x y) y := by
  have hT := h.w.t.2
  obtain ⟨⟨m, hm, e⟩, hbits⟩ := h.m y (by omega)
  rw [e] at hbits
  rw [e, bitOf_n (by omega), nI_or, bcI_sum (Nat.or_lt_two_pow (n := 16) hm (Nat.lt_of_lt_of_le (Nat.pow_lt_pow_right (by decide) (show x < 16 by omega)) (by decide)))]
  unfold cntBl
  have eT : nT (nBlock M x y) = nT M := rfl
  rw [eT, sumI_ext (m := nT M) hT]
  · refine sumI_cong (fun k hk => ?_)
    have e6 : nBlock M x y 6 = upd (M 6) (16 * x + y) 1 := by
      unfold nBlock
      rw [st_ne _ _ _ (by decide), st_ne _ _ _ (by decide), st_eq]
    rw [e6, Nat.testBit_or, ← hb_n (by omega), hbits k (by omega), ← hb_n (m := 2 ^ x) (by omega), ← bitOf_n (by omega), hb_bit (by omega) (by omega)]
    unfold bB upd
    by_cases c : k = x
    · subst c
      simp
    · rw [if_neg (show ¬ 16 * k + y = 16 * x + y by omega)]
      simp [c]
  · intro k h1 h2
    have z := h.z k y h2 (by omega) (Or.inl h1)
    rw [Nat.testBit_or, ← hb_n (by omega), hbits k h2, ← hb_n (m := 2 ^ x) (by omega), ← bitOf_n (by omega), hb_bit (by omega) (by omega)]
    unfold bB
    rw [z]
    have : ¬ k = x := by omega
    simp [this]
theorem eq_block (h : IV M) (x y : Int32) : K_block M x y = S_block M x y := by
  unfold K_block S_block
  refine itn Iff.rfl (fun _ => rfl) (fun h1 => itn Iff.rfl (fun _ => rfl) (fun h2 => ?_))
  obtain ⟨hx, ex⟩ := tT h (nb (fun z => h1 (Or.inl z)))
  obtain ⟨hy, ey⟩ := tT h (nb (fun z => h1 (Or.inr z)))
  have hne : tn y ≠ tn x := fun z => h2 (by rw [ex, ey, z])
  refine itn ?_ (fun _ => rfl) (fun _ => itn ?_ (fun _ => rfl) (fun _ => ?_))
  · rw [hasB_eq h hy hx]
    unfold bB
    rw [decide_eq_true_iff]
    obtain ⟨c, hc, e⟩ := h.d
    rw [e, show (20 : Int32) = nI 20 from rfl]
    exact or_congr Iff.rfl ⟨fun z => by rw [show c = 20 from Nat.le_antisymm hc ((nI_leI (by decide) (by omega)).mp z)], fun z => by rw [z]; exact nI_le (Nat.le_refl _) (by decide)⟩
  · have := chain_eq h hx hy hne
    unfold hb at this
    rw [this]
  · rw [bcI_cnt h hx hy]
end
