/-! additions keep what holds -/
theorem inF_cg {P P' : Nat → Int32} {n r : Nat} (hn : n < 2 ^ 31) (hP : parOk P n) (e : ∀ j, j < n → P' j = P j) : ∀ f t, t < n → inF P' r f t = inF P r f t
  | 0, _, _ => rfl
  | f + 1, t, ht => by
    show (if t = r then true else if P' t < 0 then false else inF P' r f (P' t).toNatClampNeg) = (if t = r then true else if P t < 0 then false else inF P r f (P t).toNatClampNeg)
    rw [e t ht]
    by_cases h1 : t = r
    · rw [if_pos h1, if_pos h1]
    · rw [if_neg h1, if_neg h1]
      by_cases h2 : P t < 0
      · rw [if_pos h2, if_pos h2]
      · rw [if_neg h2, if_neg h2]
        rcases hP t ht with h3 | ⟨q, hq, e3⟩
        · exact absurd h3 h2
        · rw [e3, nI_clamp (by omega)]
          exact inF_cg hn hP e f q (by omega)
theorem inF_out {P : Nat → Int32} {n r : Nat} (hn : n < 2 ^ 31) (hP : parOk P n) (hr : n ≤ r) : ∀ f t, t < n → inF P r f t = false
  | 0, _, _ => rfl
  | f + 1, t, ht => by
    show (if t = r then true else if P t < 0 then false else inF P r f (P t).toNatClampNeg) = false
    rw [if_neg (by omega)]
    by_cases h2 : P t < 0
    · rw [if_pos h2]
    · rw [if_neg h2]
      rcases hP t ht with h3 | ⟨q, hq, e3⟩
      · exact absurd h3 h2
      · rw [e3, nI_clamp (by omega)]
        exact inF_out hn hP hr f q (by omega)
theorem bu_N {x : Int32} {n : Nat} {B : Int32} (hB : B.toInt = n) (h : tkIn x 0 B = true) : isN x n := tkIn_ex hB h
section
variable {M : TS}
theorem IV.addT (h : IV M) {p es bu : Int32} (hp : p = -1 ∨ tkOk (nT M) p = true) (hbu : tkIn bu 0 400 = true) (hn : nT M < 16) : IV (nTask M p es bu) := by
  have hT := h.w.t.2
  have a : ∀ f, f ≠ 0 → f ≠ 1 → f ≠ 2 → f ≠ 3 → f ≠ 4 → nTask M p es bu f = M f := fun f h0 h1 h2 h3 h4 => by unfold nTask; rw [st_ne _ _ _ h0, st_ne _ _ _ h4, st_ne _ _ _ h3, st_ne _ _ _ h2, st_ne _ _ _ h1]
  have b : ∀ k, k ≠ 19 → nTask M p es bu 0 k = M 0 k := fun k h1 => by unfold nTask; rw [st_nei _ _ h1, st_ne _ _ _ (by decide), st_ne _ _ _ (by decide), st_ne _ _ _ (by decide), st_ne _ _ _ (by decide)]
  have e19 : nTask M p es bu 0 19 = nI (nT M + 1) := by unfold nTask; rw [st_self]; exact nI_1 _
  have e1 : nTask M p es bu 1 = upd (M 1) (nT M) p := by unfold nTask; rw [st_ne _ _ _ (by decide), st_ne _ _ _ (by decide), st_ne _ _ _ (by decide), st_ne _ _ _ (by decide), st_eq]
  have e3 : nTask M p es bu 3 = upd (M 3) (nT M) bu := by unfold nTask; rw [st_ne _ _ _ (by decide), st_ne _ _ _ (by decide), st_eq, st_ne _ _ _ (by decide), st_ne _ _ _ (by decide)]
  have e4 : nTask M p es bu 4 = upd (M 4) (nT M) 111 := by unfold nTask; rw [st_ne _ _ _ (by decide), st_eq, st_ne _ _ _ (by decide), st_ne _ _ _ (by decide), st_ne _ _ _ (by decide)]
  generalize nTask M p es bu = N at a b e19 e1 e3 e4 ⊢
  have c : ∀ f, 5 ≤ f → N f = M f := fun f hf => a f (by omega) (by omega) (by omega) (by omega) (by omega)
  have eT : nT N = nT M + 1 := by unfold nT; rw [e19]; exact nI_clamp (by omega)
  have eE : nE N = nE M := nE_0 (b 21 (by decide))
  have eV : nV N = nV M := nV_0 (b 22 (by decide))
  have hb : ∀ k, billed N k = billed M k := fun k => bil_cg (by rw [c 5 (by decide)])
  have l1 : ∀ j, j < nT M → N 1 j = M 1 j := fun j hj => by rw [e1]; simp [upd, show ¬ j = nT M by omega]
  have u9 : ∀ k, k < nE M → tn (M 9 k) < nT M := fun k hk => by obtain ⟨t, ht, e⟩ := h.w.et hk; rw [e, show tn (nI t) = t from nI_clamp (by omega)]; exact ht
  refine ⟨⟨⟨⟨by rw [eT, e19], by omega⟩, by rw [eE, b 21 (by decide)]; exact h.w.e, by rw [eV, b 22 (by decide)]; exact h.w.v, ?_, ?_, ?_, ?_, ?_, ?_⟩, ?_, ?_, ?_⟩, ⟨h.m.cg (c 6 (by decide)) (c 19 (by decide)), ?_, h.l.cg (b 27 (by decide)) (c 7 (by decide))⟩, ⟨h.h.cg eE (c 12 (by decide)), ?_⟩, ⟨?_, ?_, h.c.cg eE (c 10 (by decide)) (c 11 (by decide)) (c 12 (by decide)) (fun k _ => hb k) (b 26 (by decide)) (b 23 (by decide))⟩, ?_⟩
  · intro t ht
    rw [eT] at ht
    rcases Nat.lt_or_ge t (nT M) with q | q
    · rw [l1 t q]; exact h.w.p t q
    · rw [show t = nT M by omega, e1, show upd (M 1) (nT M) p (nT M) = p from by simp [upd]]
      rcases hp with z | z
      · left; rw [z]; decide
      · right
        obtain ⟨z1, z2⟩ := tT h z
        exact ⟨tn p, z1, z2⟩
  · intro k hk
    rw [eE] at hk
    obtain ⟨t, ht, e⟩ := h.w.et hk
    exact ⟨t, by omega, by rw [c 9 (by decide)]; exact e⟩
  · intro k hk
    rw [eE] at hk
    rw [c 11 (by decide)]; exact h.w.ew hk
  · intro k hk
    rw [eE] at hk
    rw [c 10 (by decide)]; exact h.w.ep hk
  · rw [c 6 (by decide)]; exact h.w.b
  · rw [c 7 (by decide)]; exact h.w.lk
  · intro t ht
    rw [eT] at ht
    rcases Nat.lt_or_ge t (nT M) with q | q
    · rw [e4, show upd (M 4) (nT M) 111 t = M 4 t from by simp [upd, show ¬ t = nT M by omega]]
      exact h.w1.1 t q
    · rw [show t = nT M by omega, e4]
      left; simp [upd]
  · rw [eE, c 5 (by decide)]; exact h.w1.2.1
  · intro k hk hbk
    rw [eE] at hk
    rw [hb] at hbk
    rw [eV, c 14 (by decide)]
    exact h.w1.2.2 k hk hbk
  · intro k t hk ht hz
    rw [eT] at hz
    rw [c 6 (by decide)]
    exact h.z k t hk ht (hz.imp (fun z => by omega) (fun z => by omega))
  · intro t ht
    rw [eT] at ht
    rcases Nat.lt_or_ge t (nT M) with q | q
    · obtain ⟨b', hb', eb, hh⟩ := h.b t q
      refine ⟨b', hb', by rw [e3]; simp [upd, show ¬ t = nT M by omega]; exact eb, fun b0 => ?_⟩
      have e : hoursIn N t = hoursIn M t := by
        unfold hoursIn isIn
        rw [eE, c 9 (by decide), c 12 (by decide)]
        exact sumI_cong (fun k hk => by rw [inF_cg (n := nT M) (by omega) h.w.p l1 _ _ (u9 k hk)])
      rw [e]
      exact hh b0
    · rw [show t = nT M by omega]
      obtain ⟨b', hb', eb⟩ := bu_N (n := 400) (by decide) hbu
      refine ⟨b', hb', by rw [e3]; simp [upd]; exact eb, fun b0 => ?_⟩
      have e : hoursIn N (nT M) = 0 := by
        unfold hoursIn isIn
        rw [eE, c 9 (by decide), c 12 (by decide)]
        exact sumI_z0 (fun k hk => by rw [inF_cg (n := nT M) (by omega) h.w.p l1 _ _ (u9 k hk), inF_out (n := nT M) (by omega) h.w.p (Nat.le_refl _) _ _ (u9 k hk)]; rfl)
      rw [e]
      exact isN.z _
  · refine ⟨by rw [eV, c 16 (by decide), c 17 (by decide), c 18 (by decide)]; exact h.q.1, by rw [eE, c 13 (by decide)]; exact h.q.2.1, fun t ht => ?_⟩
    rw [c 19 (by decide)]
    exact h.q.2.2 t (by omega)
  · intro v hv
    rw [eV] at hv
    rw [recT_cg eE (fun k _ => hb k) (fun k _ => by rw [c 10 (by decide)]) (fun k _ => by rw [c 12 (by decide)]) (fun k _ => by rw [c 14 (by decide)]) (fun k _ => by rw [c 20 (by decide)]) (by rw [c 22 (by decide)]) (by rw [c 23 (by decide)]), eE, crP_cg (fun k _ => hb k) (fun k _ => by rw [c 14 (by decide)]) (fun k _ => by rw [c 13 (by decide)]) (fun k _ => by rw [c 5 (by decide)]), itC_cg (fun k _ => hb k) (fun k _ => by rw [c 14 (by decide)]), c 16 (by decide), c 17 (by decide), c 18 (by decide)]
    exact h.t v hv
  · obtain ⟨q, hq, e⟩ := h.d
    exact ⟨q, hq, by rw [b 20 (by decide)]; exact e⟩
theorem keep_addTask (h : IV M) (p es bu : Int32) : IV (S_addTask M p es bu).2.1 := by
  unfold S_addTask
  split
  · exact h
  rename_i h1
  split
  · exact h
  rename_i h2
  split
  · exact h
  rename_i h3
  split
  · exact h
  have hT := h.w.t.2
  refine h.addT ?_ (nb (fun z => h2 (Or.inr z))) ?_
  · by_cases q : p = -1
    · exact Or.inl q
    · exact Or.inr (nb (fun z => h1 ⟨q, z⟩))
  · have : nT M ≠ 16 := fun z => h3 (by rw [h.w.t.1, z]; rfl)
    omega
theorem IV.addE (h : IV M) {x p w hh : Int32} (hx : tkOk (nT M) x = true) (hp : tkOk 4 p = true) (hw : tkOk 30 w = true) (h40 : tkIn hh 1 40 = true) (hroom : roomFor M (tn x) = -1 ∨ hh ≤ roomFor M (tn x)) (hn : nE M < 60) : IV (nEntr M x p w hh) := by
  have hT := h.w.t.2
  obtain ⟨hxt, ex⟩ := tT h hx
  obtain ⟨hpt, ep⟩ := tkOk_tn (by decide) hp
  obtain ⟨hwt, ew⟩ := tkOk_tn (by decide) hw
  obtain ⟨jh, hj1, hj40, ej⟩ : ∃ j : Nat, 1 ≤ j ∧ j ≤ 40 ∧ hh = nI j := by
    simp only [tkIn, Bool.and_eq_true, decide_eq_true_eq] at h40
    obtain ⟨j, hj, e⟩ := nI_of2 (x := hh) (M := 40) (n := 40) (by decide) (Int32.not_lt.mpr (Int32.le_trans (by decide) h40.1)) h40.2
    refine ⟨j, ?_, hj, e⟩
    have h1 := h40.1
    rw [e, show (1 : Int32) = nI 1 from rfl] at h1
    exact (nI_leI (by decide) (by omega)).mp h1
  obtain ⟨m, ⟨hm, -, hrr⟩, hch⟩ := room_rel h hxt
  have hjm : jh ≤ m := by
    rcases hrr with ⟨e, -⟩ | ⟨-, e⟩
    · rw [e, ej] at hroom
      rcases hroom with z | z
      · exact absurd z (m1_ne hm)
      · exact (nI_leI (by omega) (by omega)).mp z
    · omega
  have a : ∀ f, f ≠ 0 → f ≠ 5 → f ≠ 9 → f ≠ 10 → f ≠ 11 → f ≠ 12 → nEntr M x p w hh f = M f := fun f h0 h5 h9 h10 h11 h12 => by unfold nEntr; rw [st_ne _ _ _ h0, st_ne _ _ _ h5, st_ne _ _ _ h12, st_ne _ _ _ h11, st_ne _ _ _ h10, st_ne _ _ _ h9]
  have b : ∀ k, k ≠ 21 → nEntr M x p w hh 0 k = M 0 k := fun k h1 => by unfold nEntr; rw [st_nei _ _ h1, st_ne _ _ _ (by decide), st_ne _ _ _ (by decide), st_ne _ _ _ (by decide), st_ne _ _ _ (by decide), st_ne _ _ _ (by decide)]
  have e21 : nEntr M x p w hh 0 21 = nI (nE M + 1) := by unfold nEntr; rw [st_self]; exact nI_1 _
  have e5 : nEntr M x p w hh 5 = upd (M 5) (nE M) 110 := by unfold nEntr; rw [st_ne _ _ _ (by decide), st_eq, st_ne _ _ _ (by decide), st_ne _ _ _ (by decide), st_ne _ _ _ (by decide), st_ne _ _ _ (by decide)]
  have e9 : nEntr M x p w hh 9 = upd (M 9) (nE M) x := by unfold nEntr; rw [st_ne _ _ _ (by decide), st_ne _ _ _ (by decide), st_ne _ _ _ (by decide), st_ne _ _ _ (by decide), st_ne _ _ _ (by decide), st_eq]
  have e10 : nEntr M x p w hh 10 = upd (M 10) (nE M) p := by unfold nEntr; rw [st_ne _ _ _ (by decide), st_ne _ _ _ (by decide), st_ne _ _ _ (by decide), st_ne _ _ _ (by decide), st_eq, st_ne _ _ _ (by decide)]
  have e11 : nEntr M x p w hh 11 = upd (M 11) (nE M) w := by unfold nEntr; rw [st_ne _ _ _ (by decide), st_ne _ _ _ (by decide), st_ne _ _ _ (by decide), st_eq, st_ne _ _ _ (by decide), st_ne _ _ _ (by decide)]
  have e12 : nEntr M x p w hh 12 = upd (M 12) (nE M) hh := by unfold nEntr; rw [st_ne _ _ _ (by decide), st_ne _ _ _ (by decide), st_eq, st_ne _ _ _ (by decide), st_ne _ _ _ (by decide), st_ne _ _ _ (by decide)]
  generalize nEntr M x p w hh = N at a b e21 e5 e9 e10 e11 e12 ⊢
  have eT : nT N = nT M := nT_0 (b 19 (by decide))
  have eE : nE N = nE M + 1 := by unfold nE; rw [e21]; exact nI_clamp (by have := h.w.e.2; unfold nE at this; omega)
  have eV : nV N = nV M := nV_0 (b 22 (by decide))
  have l5 : ∀ j, j < nE M → N 5 j = M 5 j := fun j hj => by rw [e5]; simp [upd, show ¬ j = nE M by omega]
  have l9 : ∀ j, j < nE M → N 9 j = M 9 j := fun j hj => by rw [e9]; simp [upd, show ¬ j = nE M by omega]
  have l10 : ∀ j, j < nE M → N 10 j = M 10 j := fun j hj => by rw [e10]; simp [upd, show ¬ j = nE M by omega]
  have l11 : ∀ j, j < nE M → N 11 j = M 11 j := fun j hj => by rw [e11]; simp [upd, show ¬ j = nE M by omega]
  have l12 : ∀ j, j < nE M → N 12 j = M 12 j := fun j hj => by rw [e12]; simp [upd, show ¬ j = nE M by omega]
  have n5 : N 5 (nE M) = 110 := by rw [e5]; simp [upd]
  have n9 : N 9 (nE M) = x := by rw [e9]; simp [upd]
  have n10 : N 10 (nE M) = p := by rw [e10]; simp [upd]
  have n11 : N 11 (nE M) = w := by rw [e11]; simp [upd]
  have n12 : N 12 (nE M) = hh := by rw [e12]; simp [upd]
  have a1 := a 1 (by decide) (by decide) (by decide) (by decide) (by decide) (by decide)
  have a3 := a 3 (by decide) (by decide) (by decide) (by decide) (by decide) (by decide)
  have a4 := a 4 (by decide) (by decide) (by decide) (by decide) (by decide) (by decide)
  have a6 := a 6 (by decide) (by decide) (by decide) (by decide) (by decide) (by decide)
  have a7 := a 7 (by decide) (by decide) (by decide) (by decide) (by decide) (by decide)
  have a13 := a 13 (by decide) (by decide) (by decide) (by decide) (by decide) (by decide)
  have a14 := a 14 (by decide) (by decide) (by decide) (by decide) (by decide) (by decide)
  have a16 := a 16 (by decide) (by decide) (by decide) (by decide) (by decide) (by decide)
  have a17 := a 17 (by decide) (by decide) (by decide) (by decide) (by decide) (by decide)
  have a18 := a 18 (by decide) (by decide) (by decide) (by decide) (by decide) (by decide)
  have a19 := a 19 (by decide) (by decide) (by decide) (by decide) (by decide) (by decide)
  have a20 := a 20 (by decide) (by decide) (by decide) (by decide) (by decide) (by decide)
  have a22 := a 22 (by decide) (by decide) (by decide) (by decide) (by decide) (by decide)
  have a23 := a 23 (by decide) (by decide) (by decide) (by decide) (by decide) (by decide)
  have hb : ∀ k, k < nE M → billed N k = billed M k := fun k hk => bil_cg (l5 k hk)
  have hbn : billed N (nE M) = false := by unfold billed; rw [n5]; decide
  have cut : ∀ k, k < nE N → k < nE M ∨ k = nE M := fun k hk => by omega
  have hoE : ∀ r, hoursIn N r = hoursIn M r + (if isIn M (tn x) r = true then hh else 0) := fun r => by
    unfold hoursIn isIn
    rw [eE, sumI_s, n9, n12, a1]
    congr 1
    exact sumI_cong (fun k hk => by rw [l9 k hk, l12 k hk])
  have chE : ∀ p w, charged N p w = charged M p w := fun p w => by
    unfold charged
    rw [eE, sumI_s, hbn, Bool.and_false, if_neg (by decide), Int32.add_zero]
    exact sumI_cong (fun k hk => by rw [hb k hk, l10 k hk, l11 k hk, l12 k hk])
  have rsE : ∀ v, recS N v (nE M + 1) = recS M v (nE M) := fun v => by
    show sumI _ (nE M + 1) = _
    rw [sumI_s, hbn, if_neg (fun z => by cases z.1), Int32.add_zero]
    exact recS_cg hb l10 l12 (fun k _ => by rw [a14]) (fun k _ => by rw [a20])
  refine ⟨⟨⟨by rw [eT, b 19 (by decide)]; exact h.w.t, ⟨by rw [eE, e21], by omega⟩, by rw [eV, b 22 (by decide)]; exact h.w.v, by rw [eT, a1]; exact h.w.p, ?_, ?_, ?_, by rw [a6]; exact h.w.b, by rw [a7]; exact h.w.lk⟩, ?_, ?_, ?_⟩, ⟨h.m.cg a6 a19, h.z.cg eT a6, h.l.cg (b 27 (by decide)) a7⟩, ⟨?_, ?_⟩, ⟨?_, ?_, ?_⟩, ?_⟩
  · intro k hk
    rw [eT]
    rcases cut k hk with q | q
    · rw [l9 k q]; exact h.w.et q
    · rw [q, n9]; exact ⟨tn x, hxt, ex⟩
  · intro k hk
    rcases cut k hk with q | q
    · rw [l11 k q]; exact h.w.ew q
    · rw [q, n11]; exact ⟨tn w, hwt, ew⟩
  · intro k hk
    rcases cut k hk with q | q
    · rw [l10 k q]; exact h.w.ep q
    · rw [q, n10]; exact ⟨tn p, hpt, ep⟩
  · rw [eT, a4]; exact h.w1.1
  · intro k hk
    rcases cut k hk with q | q
    · rw [l5 k q]; exact h.w1.2.1 k q
    · rw [q, n5]; exact Or.inl rfl
  · intro k hk hbk
    rcases cut k hk with q | q
    · rw [hb k q] at hbk
      rw [eV, a14]; exact h.w1.2.2 k q hbk
    · rw [q, hbn] at hbk; cases hbk
  · intro k hk
    rcases cut k hk with q | q
    · rw [l12 k q]; exact h.h k q
    · rw [q, n12]; exact ⟨jh, hj1, hj40, ej⟩
  · intro t ht
    rw [eT] at ht
    obtain ⟨b', hb', eb, hq⟩ := h.b t ht
    refine ⟨b', hb', by rw [a3]; exact eb, fun b0 => ?_⟩
    obtain ⟨q, hq1, eq⟩ := hq b0
    rw [hoE t, eq]
    cases hi : isIn M (tn x) t with
    | false => rw [if_neg (by decide), Int32.add_zero]; exact ⟨q, hq1, rfl⟩
    | true =>
      have := hch t hi b' q eb b0 hb' eq hq1
      rw [if_pos rfl, ej, nI_add]
      exact ⟨q + jh, by omega, rfl⟩
  · refine ⟨by rw [eV, a16, a17, a18]; exact h.q.1, fun k hk => ?_, by rw [eT, a19]; exact h.q.2.2⟩
    rw [a13]; exact h.q.2.1 k (by omega)
  · intro v hv
    rw [eV] at hv
    obtain ⟨t1, t2, t3⟩ := h.t v hv
    refine ⟨?_, ?_, ?_⟩
    · rw [a16, t1]
      unfold recT
      rw [eE, rsE v, sumI_s, hbn, if_neg (fun z => by cases z.1), Int32.add_zero]
      exact sumI_cong (fun k hk => by rw [priceV, priceV, hb k hk, l10 k hk, l12 k hk, a14, a20, a22, a23])
    · rw [a17, t2, eE]
      unfold crP
      rw [sumI_s, hbn, if_neg (fun z => by cases z.1.1), Int32.add_zero]
      exact sumI_cong (fun k hk => by rw [hb k hk, l5 k hk, a14, a13])
    · rw [a18, t3, eE]
      unfold itC
      rw [sumI_s, hbn, if_neg (fun z => by cases z.1), Int32.add_zero]
      exact sumI_cong (fun k hk => by rw [hb k hk, a14])
  · exact ⟨fun p w => by rw [chE, b 26 (by decide)]; exact h.c.1 p w, by rw [b 26 (by decide), b 23 (by decide)]; exact h.c.2⟩
  · obtain ⟨q, hq, e⟩ := h.d
    exact ⟨q, hq, by rw [b 20 (by decide)]; exact e⟩
theorem keep_note (h : IV M) (x p w hh : Int32) : IV (S_note M x p w hh).2.1 := by
  unfold S_note
  split
  · exact h
  rename_i h1
  split
  · exact h
  rename_i h2
  split
  · exact h
  split
  · rename_i h3
    refine h.addE (nb h1) (nb (fun z => h2 (Or.inl z))) (nb (fun z => h2 (Or.inr (Or.inl z)))) (nb (fun z => h2 (Or.inr (Or.inr z)))) h3.2.1 ?_
    have := h3.2.2
    rw [h.w.e.1, show (60 : Int32) = nI 60 from rfl] at this
    have e := h.w.e.2
    exact (nI_ltI (by omega) (by decide)).mp this
  · exact h
end
