/-! what holds is kept -/
section
variable {M : TS}
theorem IV.s4 (h : IV M) {t : Nat} {v : Int32} (hv : v = 119 ∨ v = 114 ∨ v = 100) : IV (st M 4 t v) := by
  refine h.cgs (fun f _ _ h4 _ _ _ => st_ne M t v h4) (fun k _ _ => rfl) (fun j hj => ?_) h.w1.2.1 (fun k hk => rfl) (fun k hk => Iff.rfl)
  by_cases e : j = t
  · rw [e, st_self]
    rcases hv with z | z | z <;> rw [z]
    · exact Or.inr (Or.inl rfl)
    · exact Or.inr (Or.inr (Or.inl rfl))
    · exact Or.inr (Or.inr (Or.inr rfl))
  · rw [st_nei _ _ e]; exact h.w1.1 j hj
theorem keep_begin (h : IV M) (x : Int32) : IV (S_begin M x).2.1 := by
  unfold S_begin
  split
  · exact h
  split
  · exact h
  split
  · exact h
  exact h.s4 (Or.inl rfl)
theorem keep_propose (h : IV M) (x : Int32) : IV (S_propose M x).2.1 := by
  unfold S_propose
  split
  · exact h
  split
  · exact h
  exact h.s4 (Or.inr (Or.inl rfl))
theorem keep_reject (h : IV M) (x : Int32) : IV (S_reject M x).2.1 := by
  unfold S_reject
  split
  · exact h
  split
  · exact h
  exact h.s4 (Or.inl rfl)
theorem keep_merge (h : IV M) (x : Int32) : IV (S_merge M x).2.1 := by
  unfold S_merge
  split
  · exact h
  split
  · exact h
  split
  · exact h
  exact h.s4 (Or.inr (Or.inr rfl))
theorem keep_setRate (h : IV M) (p r : Int32) : IV (S_setRate M p r).2.1 := by
  unfold S_setRate
  split
  · exact h
  exact h.cgs (fun f _ _ _ _ _ h15 => st_ne M _ _ h15) (fun k _ _ => rfl) h.w1.1 h.w1.2.1 (fun k hk => rfl) (fun k hk => Iff.rfl)
theorem keep_setDiscount (h : IV M) (f q : Int32) : IV (S_setDiscount M f q).2.1 := by
  unfold S_setDiscount
  split
  · exact h
  exact h.cgs (fun g h0 _ _ _ _ _ => by show st _ 0 _ _ g = _; rw [st_ne _ _ _ h0, st_ne _ _ _ h0]) (fun k h24 h25 => by show st _ 0 _ _ 0 k = _; rw [st_nei _ _ h25, st_nei _ _ h24]) h.w1.1 h.w1.2.1 (fun k hk => rfl) (fun k hk => Iff.rfl)
theorem keep_setCap (h : IV M) (x : Int32) : IV (S_setCap M x).2.1 := by
  unfold S_setCap
  split
  · exact h
  show IV (st (st M 0 23 x) 0 26 (if M 0 26 < x then x else M 0 26))
  have a : ∀ f, f ≠ 0 → st (st M 0 23 x) 0 26 (if M 0 26 < x then x else M 0 26) f = M f := fun f hf => by rw [st_ne _ _ _ hf, st_ne _ _ _ hf]
  have b : ∀ k, k ≠ 23 → k ≠ 26 → st (st M 0 23 x) 0 26 (if M 0 26 < x then x else M 0 26) 0 k = M 0 k := fun k h1 h2 => by rw [st_nei _ _ h2, st_nei _ _ h1]
  have e26 : st (st M 0 23 x) 0 26 (if M 0 26 < x then x else M 0 26) 0 26 = if M 0 26 < x then x else M 0 26 := st_self _ _ _ _
  have e23 : st (st M 0 23 x) 0 26 (if M 0 26 < x then x else M 0 26) 0 23 = x := by rw [st_nei _ _ (by decide), st_self]
  have le1 : M 0 26 ≤ if M 0 26 < x then x else M 0 26 := by
    by_cases c : M 0 26 < x
    · rw [if_pos c]; exact Int32.le_of_lt c
    · rw [if_neg c]; exact Int32.le_refl _
  have le2 : x ≤ if M 0 26 < x then x else M 0 26 := by
    by_cases c : M 0 26 < x
    · rw [if_pos c]; exact Int32.le_refl _
    · rw [if_neg c]; exact Int32.not_lt.mp c
  generalize hN : st (st M 0 23 x) 0 26 (if M 0 26 < x then x else M 0 26) = N at a b e26 e23 ⊢
  have eT : nT N = nT M := nT_0 (b 19 (by decide) (by decide))
  have eE : nE N = nE M := nE_0 (b 21 (by decide) (by decide))
  have eV : nV N = nV M := nV_0 (b 22 (by decide) (by decide))
  have q : ∀ f, f ≠ 0 → N f = M f := a
  have hb : ∀ k, billed N k = billed M k := fun k => bil_cg (by rw [a 5 (by decide)])
  refine ⟨⟨h.w.w (b 19 (by decide) (by decide)) (b 21 (by decide) (by decide)) (b 22 (by decide) (by decide)) (a 1 (by decide)) (a 9 (by decide)) (a 11 (by decide)) (a 10 (by decide)) (a 6 (by decide)) (a 7 (by decide)), ?_⟩, ⟨h.m.cg (a 6 (by decide)) (a 19 (by decide)), h.z.cg eT (a 6 (by decide)), h.l.cg (b 27 (by decide) (by decide)) (a 7 (by decide))⟩, ⟨h.h.cg eE (a 12 (by decide)), h.b.cg eT eE (a 1 (by decide)) (a 3 (by decide)) (a 9 (by decide)) (a 12 (by decide))⟩, ⟨h.q.cg eT eE eV (a 16 (by decide)) (a 17 (by decide)) (a 18 (by decide)) (a 13 (by decide)) (a 19 (by decide)), ?_, ?_⟩, ?_⟩
  · refine ⟨by rw [eT, a 4 (by decide)]; exact h.w1.1, by rw [eE, a 5 (by decide)]; exact h.w1.2.1, fun k hk hbk => ?_⟩
    rw [eE] at hk
    rw [hb] at hbk
    rw [eV, a 14 (by decide)]
    exact h.w1.2.2 k hk hbk
  · intro v hv
    rw [eV] at hv
    rw [recT_cg eE (fun k _ => hb k) (fun k _ => by rw [a 10 (by decide)]) (fun k _ => by rw [a 12 (by decide)]) (fun k _ => by rw [a 14 (by decide)]) (fun k _ => by rw [a 20 (by decide)]) (by rw [a 22 (by decide)]) (by rw [a 23 (by decide)]), eE, crP_cg (fun k _ => hb k) (fun k _ => by rw [a 14 (by decide)]) (fun k _ => by rw [a 13 (by decide)]) (fun k _ => by rw [a 5 (by decide)]), itC_cg (fun k _ => hb k) (fun k _ => by rw [a 14 (by decide)]), a 16 (by decide), a 17 (by decide), a 18 (by decide)]
    exact h.t v hv
  · refine ⟨fun p w => ?_, by rw [e26, e23]; exact le2⟩
    have e : charged N p w = charged M p w := by
      unfold charged
      rw [eE, a 10 (by decide), a 11 (by decide), a 12 (by decide)]
      exact sumI_cong (fun k hk => by rw [hb k])
    rw [e, e26]
    exact Int32.le_trans (h.c.1 p w) le1
  · obtain ⟨c, hc, e⟩ := h.d
    exact ⟨c, hc, by rw [b 20 (by decide) (by decide)]; exact e⟩
/-- an entry's state changed, not billed before or behind -/
theorem IV.s5 (h : IV M) {N : TS} (hN : ∀ f, f ≠ 5 → N f = M f) (h5 : ∀ k, k < nE M → N 5 k = M 5 k ∨ (M 5 k = 110 ∧ (N 5 k = 97 ∨ N 5 k = 120))) : IV N := by
  have hb : ∀ k, k < nE M → billed N k = billed M k := fun k hk => by
    rcases h5 k hk with e | ⟨e, z⟩
    · exact bil_cg e
    · unfold billed
      rw [e]
      rcases z with z | z <;> rw [z] <;> decide
  refine h.cgs (fun f _ _ _ h5 _ _ => hN f h5) (fun k _ _ => by rw [hN 0 (by decide)]) (by rw [hN 4 (by decide)]; exact h.w1.1) (fun k hk => ?_) hb (fun k hk => ?_)
  · rcases h5 k hk with e | ⟨-, z⟩
    · rw [e]; exact h.w1.2.1 k hk
    · rcases z with z | z
      · exact Or.inr (Or.inl z)
      · exact Or.inr (Or.inr (Or.inr (Or.inr z)))
  · rcases h5 k hk with e | ⟨e, z⟩
    · rw [e]
    · rw [e]
      rcases z with z | z <;> rw [z] <;> decide
theorem keep_approve (h : IV M) (x : Int32) : IV (S_approve M x).2.1 := by
  unfold S_approve
  split
  · exact h
  split
  · exact h
  rename_i h1 h2
  split
  · exact h
  refine h.s5 (fun f hf => st_ne M _ _ hf) (fun k hk => ?_)
  by_cases e : k = tn x
  · right
    subst e
    exact ⟨Decidable.not_not.mp h2, Or.inl (st_self M 5 _ _)⟩
  · left
    exact (st_nei M _ e : st M 5 (tn x) 97 5 k = M 5 k)
theorem drop_5 (w : Int32) : ∀ n k, (dropS M w n).1 5 k = M 5 k ∨ (M 5 k = 110 ∧ ((dropS M w n).1 5 k = 97 ∨ (dropS M w n).1 5 k = 120))
  | 0, k => Or.inl rfl
  | n + 1, k => by
    rw [dropS]
    split
    · rename_i c
      dsimp only
      by_cases e : k = n
      · right
        subst e
        exact ⟨c.2, Or.inr (st_self _ _ _ _)⟩
      · rw [st_nei _ _ e]
        exact drop_5 w n k
    · exact drop_5 w n k
theorem IV.lk (h : IV M) {w : Nat} (hw : w < 30) : IV (nLock M w) := by
  have a : ∀ f, f ≠ 0 → f ≠ 7 → nLock M w f = M f := fun f h0 h7 => by unfold nLock; rw [st_ne _ _ _ h0, st_ne _ _ _ h7]
  have b : ∀ k, k ≠ 27 → nLock M w 0 k = M 0 k := fun k h1 => by unfold nLock; rw [st_nei _ _ h1, st_ne _ _ _ (by decide)]
  have e27 : nLock M w 0 27 = M 0 27 ||| bitOf w := by unfold nLock; rw [st_self]; rfl
  have e7 : ∀ j, nLock M w 7 j = if j = w then 1 else M 7 j := fun j => by
    unfold nLock
    rw [st_ne _ _ _ (by decide)]
    by_cases e : j = w
    · rw [e, st_self, if_pos rfl]
    · rw [st_nei _ _ e, if_neg e]
  have w0 : W0 (nLock M w) := by
    have := (h.w.s7 (i := w)).of0 (k := 27) (v := M 0 27 ||| bitOf w) (by decide)
    exact this
  generalize nLock M w = N at a b e27 e7 w0 ⊢
  have eT : nT N = nT M := nT_0 (b 19 (by decide))
  have eE : nE N = nE M := nE_0 (b 21 (by decide))
  have eV : nV N = nV M := nV_0 (b 22 (by decide))
  have hbl : ∀ k, billed N k = billed M k := fun k => bil_cg (by rw [a 5 (by decide) (by decide)])
  refine ⟨⟨w0, ?_⟩, ⟨h.m.cg (a 6 (by decide) (by decide)) (a 19 (by decide) (by decide)), h.z.cg eT (a 6 (by decide) (by decide)), ?_⟩, ⟨h.h.cg eE (a 12 (by decide) (by decide)), h.b.cg eT eE (a 1 (by decide) (by decide)) (a 3 (by decide) (by decide)) (a 9 (by decide) (by decide)) (a 12 (by decide) (by decide))⟩, ⟨h.q.cg eT eE eV (a 16 (by decide) (by decide)) (a 17 (by decide) (by decide)) (a 18 (by decide) (by decide)) (a 13 (by decide) (by decide)) (a 19 (by decide) (by decide)), ?_, h.c.cg eE (a 10 (by decide) (by decide)) (a 11 (by decide) (by decide)) (a 12 (by decide) (by decide)) (fun k _ => hbl k) (b 26 (by decide)) (b 23 (by decide))⟩, ?_⟩
  · refine ⟨by rw [eT, a 4 (by decide) (by decide)]; exact h.w1.1, by rw [eE, a 5 (by decide) (by decide)]; exact h.w1.2.1, fun k hk hbk => ?_⟩
    rw [eE] at hk
    rw [hbl] at hbk
    rw [eV, a 14 (by decide) (by decide)]
    exact h.w1.2.2 k hk hbk
  · intro u hu
    have := h.l u hu
    unfold lkB at this ⊢
    rw [e27, e7]
    show hb _ u = _
    rw [hb_or (by omega), hb_bit (by omega) (by omega)]
    show (!decide (M 0 27 &&& bitOf u = 0) || _) = _
    rw [this]
    by_cases e : u = w
    · rw [if_pos e, decide_eq_true e, Bool.or_true]; rfl
    · rw [if_neg e, decide_eq_false e, Bool.or_false]
  · intro v hv
    rw [eV] at hv
    rw [recT_cg eE (fun k _ => hbl k) (fun k _ => by rw [a 10 (by decide) (by decide)]) (fun k _ => by rw [a 12 (by decide) (by decide)]) (fun k _ => by rw [a 14 (by decide) (by decide)]) (fun k _ => by rw [a 20 (by decide) (by decide)]) (by rw [a 22 (by decide) (by decide)]) (by rw [a 23 (by decide) (by decide)]), eE, crP_cg (fun k _ => hbl k) (fun k _ => by rw [a 14 (by decide) (by decide)]) (fun k _ => by rw [a 13 (by decide) (by decide)]) (fun k _ => by rw [a 5 (by decide) (by decide)]), itC_cg (fun k _ => hbl k) (fun k _ => by rw [a 14 (by decide) (by decide)]), a 16 (by decide) (by decide), a 17 (by decide) (by decide), a 18 (by decide) (by decide)]
    exact h.t v hv
  · obtain ⟨c, hc, e⟩ := h.d
    exact ⟨c, hc, by rw [b 20 (by decide)]; exact e⟩
theorem keep_lock (h : IV M) (w : Int32) : IV (S_lock M w).2.1 := by
  unfold S_lock
  split
  · exact h
  rename_i h1
  split
  · exact h
  exact (h.lk (tkOk_tn (by decide) (nb h1)).1).s5 (fun f hf => dropS_f hf _) (fun k hk => drop_5 w _ k)
/-! credits -/
theorem crS_b (t : Nat) : ∀ n k, billed (crS M t n).1 k = billed M k
  | 0, _ => rfl
  | n + 1, k => by
    rw [crS]
    split
    · rename_i c
      dsimp only
      by_cases e : k = n
      · subst e
        unfold billed
        rw [st_ne _ _ _ (by decide), st_self, c.2]
        decide
      · unfold billed
        rw [st_ne _ _ _ (by decide), st_nei _ _ e]
        exact crS_b t n k
    · exact crS_b t n k
theorem crS_s (t : Nat) : ∀ n k, (crS M t n).1 5 k = M 5 k ∨ (M 5 k = 98 ∧ (crS M t n).1 5 k = 99)
  | 0, _ => Or.inl rfl
  | n + 1, k => by
    rw [crS]
    split
    · rename_i c
      dsimp only
      rw [st_ne _ _ _ (by decide)]
      by_cases e : k = n
      · subst e
        exact Or.inr ⟨c.2, st_self _ _ _ _⟩
      · rw [st_nei _ _ e]
        exact crS_s t n k
    · exact crS_s t n k
theorem crS_t (h : IV M) (t : Nat) : ∀ n, n ≤ nE M → (∀ v, nV M ≤ v → (crS M t n).1 17 v = M 17 v) ∧ ∀ v, v < nV M → (crS M t n).1 17 v = crP (crS M t n).1 v (nE M)
  | 0, _ => ⟨fun _ _ => rfl, fun v hv => (h.t v hv).2.1⟩
  | n + 1, hn => by
    obtain ⟨i1, i2⟩ := crS_t h t n (by omega)
    have hV := h.w.v.2
    rw [crS]
    split
    · rename_i c
      dsimp only
      have hbn : billed M n = true := by unfold billed; rw [c.2]; decide
      obtain ⟨u, hu, eu⟩ := h.w1.2.2 n (by omega) hbn
      have etn : tn (M 14 n) = u := by rw [eu]; exact nI_clamp (by omega)
      rw [etn]
      refine ⟨fun v hv => by rw [st_nei _ _ (show v ≠ u by omega), st_ne _ _ _ (by decide)]; exact i1 v hv, fun v hv => ?_⟩
      have d14 : ∀ k, (crS M t n).1 14 k = M 14 k := fun k => by rw [crS_f (by decide) (by decide) n]
      have d13 : ∀ k, (crS M t n).1 13 k = M 13 k := fun k => by rw [crS_f (by decide) (by decide) n]
      have e5 : (crS M t n).1 5 n = 98 := (crS_5 n (Nat.le_refl n)).trans c.2
      generalize hC : (crS M t n).1 = C at i1 i2 d14 d13 e5 ⊢
      have d5 : st (st C 5 n 99) 17 u (C 17 u + M 13 n) 5 = upd (C 5) n 99 := by rw [st_ne _ _ _ (by decide), st_eq]
      have n14 : ∀ k, st (st C 5 n 99) 17 u (C 17 u + M 13 n) 14 k = M 14 k := fun k => by rw [st_ne _ _ _ (by decide), st_ne _ _ _ (by decide)]; exact d14 k
      have n13 : ∀ k, st (st C 5 n 99) 17 u (C 17 u + M 13 n) 13 k = M 13 k := fun k => by rw [st_ne _ _ _ (by decide), st_ne _ _ _ (by decide)]; exact d13 k
      have hbo : ∀ k, k ≠ n → billed (st (st C 5 n 99) 17 u (C 17 u + M 13 n)) k = billed C k := fun k hk => by
        unfold billed
        rw [d5]
        simp [upd, hk]
      have hbn9 : billed (st (st C 5 n 99) 17 u (C 17 u + M 13 n)) n = true := by
        unfold billed
        rw [d5]
        simp [upd]
      have hs : crP (st (st C 5 n 99) 17 u (C 17 u + M 13 n)) v (nE M) = crP C v (nE M) + ((if v = u then M 13 n else 0) - 0) := by
        unfold crP
        rw [sumI_at (f := fun k => if (billed C k = true ∧ C 14 k = nI v) ∧ C 5 k = 99 then C 13 k else 0) (i := n) (by omega) (fun k hk hne => by
          show (if _ then _ else _) = (if _ then _ else _)
          rw [hbo k hne, n14, n13, d14, d13, d5, show upd (C 5) n 99 k = C 5 k from by simp [upd, hne]])]
        congr 1
        show (if _ then _ else _) - (if _ then _ else _) = _
        rw [if_neg (show ¬ ((billed C n = true ∧ C 14 n = nI v) ∧ C 5 n = 99) from fun z => by rw [e5] at z; exact absurd z.2 (by decide)), n14, n13, d5, hbn9, show upd (C 5) n 99 n = 99 from by simp [upd]]
        congr 1
        by_cases e : v = u
        · rw [if_pos e, if_pos ⟨⟨rfl, by rw [eu, e]⟩, rfl⟩]
        · rw [if_neg e, if_neg (fun z => e ((nI_eq (by omega) (by omega)).mp (z.1.2.symm.trans eu)))]
      rw [hs]
      by_cases e : v = u
      · subst e
        rw [st_self, if_pos rfl, i2 v hv, Int32.sub_zero]
      · rw [st_nei _ _ e, st_ne _ _ _ (by decide), if_neg e, i2 v hv, Int32.sub_zero, Int32.add_zero]
    · exact ⟨i1, i2⟩
theorem IV.cr (h : IV M) (t : Nat) : IV (crS M t (nE M)).1 := by
  have a : ∀ f, f ≠ 5 → f ≠ 17 → (crS M t (nE M)).1 f = M f := fun f h5 h17 => crS_f h5 h17 _
  have w0 := crS_W h.w t (nE M)
  have hb := crS_b (M := M) t (nE M)
  have hs := crS_s (M := M) t (nE M)
  obtain ⟨c1, c2⟩ := crS_t h t (nE M) (Nat.le_refl _)
  generalize (crS M t (nE M)).1 = N at a w0 hb hs c1 c2 ⊢
  have a0 := a 0 (by decide) (by decide)
  have eT : nT N = nT M := nT_0 (by rw [a0])
  have eE : nE N = nE M := nE_0 (by rw [a0])
  have eV : nV N = nV M := nV_0 (by rw [a0])
  refine ⟨⟨w0, ?_⟩, ⟨h.m.cg (a 6 (by decide) (by decide)) (a 19 (by decide) (by decide)), h.z.cg eT (a 6 (by decide) (by decide)), h.l.cg (by rw [a0]) (a 7 (by decide) (by decide))⟩, ⟨h.h.cg eE (a 12 (by decide) (by decide)), h.b.cg eT eE (a 1 (by decide) (by decide)) (a 3 (by decide) (by decide)) (a 9 (by decide) (by decide)) (a 12 (by decide) (by decide))⟩, ⟨?_, ?_, h.c.cg eE (a 10 (by decide) (by decide)) (a 11 (by decide) (by decide)) (a 12 (by decide) (by decide)) (fun k _ => hb k) (by rw [a0]) (by rw [a0])⟩, ?_⟩
  · refine ⟨by rw [eT, a 4 (by decide) (by decide)]; exact h.w1.1, fun k hk => ?_, fun k hk hbk => ?_⟩
    · rw [eE] at hk
      rcases hs k with e | ⟨-, e⟩
      · rw [e]; exact h.w1.2.1 k hk
      · exact Or.inr (Or.inr (Or.inr (Or.inl e)))
    · rw [eE] at hk
      rw [hb] at hbk
      rw [eV, a 14 (by decide) (by decide)]
      exact h.w1.2.2 k hk hbk
  · refine ⟨fun v hv => ?_, by rw [eE, a 13 (by decide) (by decide)]; exact h.q.2.1, by rw [eT, a 19 (by decide) (by decide)]; exact h.q.2.2⟩
    rw [eV] at hv
    rw [a 16 (by decide) (by decide), a 18 (by decide) (by decide), c1 v hv]
    exact h.q.1 v hv
  · intro v hv
    rw [eV] at hv
    rw [recT_cg eE (fun k _ => hb k) (fun k _ => by rw [a 10 (by decide) (by decide)]) (fun k _ => by rw [a 12 (by decide) (by decide)]) (fun k _ => by rw [a 14 (by decide) (by decide)]) (fun k _ => by rw [a 20 (by decide) (by decide)]) (by rw [a 22 (by decide) (by decide)]) (by rw [a 23 (by decide) (by decide)]), eE, itC_cg (fun k _ => hb k) (fun k _ => by rw [a 14 (by decide) (by decide)]), a 16 (by decide) (by decide), a 18 (by decide) (by decide)]
    exact ⟨(h.t v hv).1, c2 v hv, (h.t v hv).2.2⟩
  · obtain ⟨c, hc, e⟩ := h.d
    exact ⟨c, hc, by rw [a0]; exact e⟩
theorem keep_reopen (h : IV M) (x : Int32) : IV (S_reopen M x).2.1 := by
  unfold S_reopen
  split
  · exact h
  split
  · exact h
  split
  · exact h
  exact (h.s4 (Or.inl rfl)).cr (tn x)
/-! blocks -/
theorem IV.bl (h : IV M) {x y : Nat} (hx : x < nT M) (hy : y < nT M) (h20 : ¬ M 0 20 = 20) : IV (nBlock M x y) := by
  have hT := h.w.t.2
  have a : ∀ f, f ≠ 0 → f ≠ 6 → f ≠ 19 → nBlock M x y f = M f := fun f h0 h6 h19 => by unfold nBlock; rw [st_ne _ _ _ h19, st_ne _ _ _ h0, st_ne _ _ _ h6]
  have b : ∀ k, k ≠ 20 → nBlock M x y 0 k = M 0 k := fun k h1 => by unfold nBlock; rw [st_ne _ _ _ (by decide), st_nei _ _ h1, st_ne _ _ _ (by decide)]
  have e20 : nBlock M x y 0 20 = M 0 20 + 1 := by unfold nBlock; rw [st_ne _ _ _ (by decide), st_self]
  have e6 : nBlock M x y 6 = upd (M 6) (16 * x + y) 1 := by unfold nBlock; rw [st_ne _ _ _ (by decide), st_ne _ _ _ (by decide), st_eq]
  have e19 : nBlock M x y 19 = upd (M 19) y (M 19 y ||| bitOf x) := by unfold nBlock; rw [st_eq, st_ne _ _ _ (by decide), st_ne _ _ _ (by decide)]; rfl
  have w0 : W0 (nBlock M x y) := ((h.w.s6 (i := 16 * x + y)).of0 (k := 20) (v := M 0 20 + 1) (by decide)).ofst 19 (Or.inr (by decide))
  generalize nBlock M x y = N at a b e20 e6 e19 w0 ⊢
  have eT : nT N = nT M := nT_0 (b 19 (by decide))
  have eE : nE N = nE M := nE_0 (b 21 (by decide))
  have eV : nV N = nV M := nV_0 (b 22 (by decide))
  have c : ∀ f, f ≠ 0 → f ≠ 6 → f ≠ 19 → N f = M f := a
  have hb : ∀ k, billed N k = billed M k := fun k => bil_cg (by rw [a 5 (by decide) (by decide) (by decide)])
  have a10 := a 10 (by decide) (by decide) (by decide)
  have a12 := a 12 (by decide) (by decide) (by decide)
  have a14 := a 14 (by decide) (by decide) (by decide)
  have a16 := a 16 (by decide) (by decide) (by decide)
  have a17 := a 17 (by decide) (by decide) (by decide)
  have a18 := a 18 (by decide) (by decide) (by decide)
  have a13 := a 13 (by decide) (by decide) (by decide)
  refine ⟨⟨w0, ?_⟩, ⟨?_, ?_, h.l.cg (b 27 (by decide)) (a 7 (by decide) (by decide) (by decide))⟩, ⟨h.h.cg eE a12, h.b.cg eT eE (a 1 (by decide) (by decide) (by decide)) (a 3 (by decide) (by decide) (by decide)) (a 9 (by decide) (by decide) (by decide)) a12⟩, ⟨?_, ?_, h.c.cg eE a10 (a 11 (by decide) (by decide) (by decide)) a12 (fun k _ => hb k) (b 26 (by decide)) (b 23 (by decide))⟩, ?_⟩
  · refine ⟨by rw [eT, a 4 (by decide) (by decide) (by decide)]; exact h.w1.1, by rw [eE, a 5 (by decide) (by decide) (by decide)]; exact h.w1.2.1, fun k hk hbk => ?_⟩
    rw [eE] at hk
    rw [hb] at hbk
    rw [eV, a14]
    exact h.w1.2.2 k hk hbk
  · intro t ht
    obtain ⟨⟨m, hm, e⟩, hbits⟩ := h.m t ht
    rw [e19]
    by_cases q : t = y
    · subst q
      rw [show upd (M 19) t (M 19 t ||| bitOf x) t = M 19 t ||| bitOf x from by simp [upd]]
      refine ⟨⟨m ||| 2 ^ x, Nat.or_lt_two_pow (n := 16) hm (Nat.lt_of_lt_of_le (Nat.pow_lt_pow_right (by decide) (show x < 16 by omega)) (by decide)), by rw [e, bitOf_n (by omega), nI_or]⟩, fun k hk => ?_⟩
      rw [hb_or (by omega), hbits k hk, hb_bit (by omega) (by omega)]
      unfold bB
      rw [e6]
      by_cases z : k = x
      · subst z
        simp [upd]
      · rw [show upd (M 6) (16 * x + t) 1 (16 * k + t) = M 6 (16 * k + t) from if_neg (by omega)]
        simp [z]
    · rw [show upd (M 19) y (M 19 y ||| bitOf x) t = M 19 t from by simp [upd, q]]
      refine ⟨⟨m, hm, e⟩, fun k hk => ?_⟩
      rw [hbits k hk]
      unfold bB
      rw [e6, show upd (M 6) (16 * x + y) 1 (16 * k + t) = M 6 (16 * k + t) from by simp [upd, show ¬ 16 * k + t = 16 * x + y by omega]]
  · intro k t hk ht hz
    rw [eT] at hz
    rw [e6, show upd (M 6) (16 * x + y) 1 (16 * k + t) = M 6 (16 * k + t) from by simp [upd, show ¬ 16 * k + t = 16 * x + y by omega]]
    exact h.z k t hk ht hz
  · refine ⟨by rw [eV, a16, a17, a18]; exact h.q.1, by rw [eE, a13]; exact h.q.2.1, fun t ht => ?_⟩
    rw [eT] at ht
    rw [e19, show upd (M 19) y (M 19 y ||| bitOf x) t = M 19 t from by simp [upd, show ¬ t = y by omega]]
    exact h.q.2.2 t ht
  · intro v hv
    rw [eV] at hv
    rw [recT_cg eE (fun k _ => hb k) (fun k _ => by rw [a10]) (fun k _ => by rw [a12]) (fun k _ => by rw [a14]) (fun k _ => by rw [a 20 (by decide) (by decide) (by decide)]) (by rw [a 22 (by decide) (by decide) (by decide)]) (by rw [a 23 (by decide) (by decide) (by decide)]), eE, crP_cg (fun k _ => hb k) (fun k _ => by rw [a14]) (fun k _ => by rw [a13]) (fun k _ => by rw [a 5 (by decide) (by decide) (by decide)]), itC_cg (fun k _ => hb k) (fun k _ => by rw [a14]), a16, a17, a18]
    exact h.t v hv
  · obtain ⟨q, hq, e⟩ := h.d
    have : q ≠ 20 := fun z => h20 (by rw [e, z]; rfl)
    exact ⟨q + 1, by omega, by rw [e20, e]; exact nI_1 q⟩
theorem keep_block (h : IV M) (x y : Int32) : IV (S_block M x y).2.1 := by
  unfold S_block
  split
  · exact h
  rename_i h1
  split
  · exact h
  split
  · exact h
  rename_i h2
  split
  · exact h
  exact h.bl (tT h (nb (fun z => h1 (Or.inl z)))).1 (tT h (nb (fun z => h1 (Or.inr z)))).1 (fun z => h2 (Or.inr z))
theorem IV.v8 (h : IV M) (ar : Nat → Int32) : IV (va_up M 8 ar) :=
  h.cgs (fun f _ _ _ _ h8 _ => va_up_ne _ _ h8) (fun k _ _ => rfl) h.w1.1 h.w1.2.1 (fun k hk => rfl) (fun k hk => Iff.rfl)
end
