/-! the class: its cells under writes -/
theorem gneR {G : TG} {a b i j : Nat} {x y : List Value} (ha : G a = some (.inr (i, x))) (hb : G b = some (.inr (j, y))) (hij : i ≠ j) : a ≠ b := fun e => by
  subst e
  rw [ha] at hb
  cases hb
  exact hij rfl
theorem gneL {G : TG} {a b i : Nat} {x : List Value} {y : ClassId × vp_A} (ha : G a = some (.inr (i, x))) (hb : G b = some (.inl y)) : a ≠ b := fun e => by
  subst e
  rw [ha] at hb
  cases hb
theorem gneA {G : TG} {a b : Nat} {c c1 : ClassId} {n n1 : Nat} {f : Nat → Int32} {g : Nat → Option Nat} (ha : G a = some (.inl (c, n, .inl f))) (hb : G b = some (.inl (c1, n1, .inr (.inr (.inr (.inr g)))))) : a ≠ b := fun e => by
  subst e
  rw [ha] at hb
  cases hb
theorem va_up2 {G : TG} {a : Nat} {x y : Option va_E} : va_up (va_up G a x) a y = va_up G a y := by
  funext b
  by_cases h : b = a
  · subst h; rw [va_up_self, va_up_self]
  · rw [va_up_ne _ _ h, va_up_ne _ _ h, va_up_ne _ _ h]
section LXS
variable {ac : Nat → ClassId} {dE q d n a : Nat} {f : Nat → Nat} {G : TG} {y : Option va_E}
theorem LX.up (hL : LX ac dE q d n f G) (h1 : q ≠ a) (h2 : ∀ cap g, G d = some (.inl (ac 3, cap, .inr (.inr (.inr (.inr g))))) → d ≠ a) : LX ac dE q d n f (va_up G a y) := by
  obtain ⟨⟨mc, hq⟩, hd⟩ := hL
  refine ⟨⟨mc, by rw [va_up_ne _ _ h1, hq]⟩, ?_⟩
  rcases hd with hd | ⟨cap, g, hd, h3⟩
  · exact Or.inl hd
  · exact Or.inr ⟨cap, g, by rw [va_up_ne _ _ (h2 cap g hd), hd], h3⟩
theorem LX.upO (hL : LX ac dE q d n f G) {ci : Nat} {fs : List Value} (ha : G a = some (.inr (ci, fs))) (hci : ci ≠ 2) : LX ac dE q d n f (va_up G a y) := by
  obtain ⟨mc, hq⟩ := hL.1
  exact hL.up (gneR hq ha (Ne.symm hci)) (fun cap g hd => Ne.symm (gneL ha hd))
theorem LX.upA (hL : LX ac dE q d n f G) {c : ClassId} {m : Nat} {f0 : Nat → Int32} (ha : G a = some (.inl (c, m, .inl f0))) : LX ac dE q d n f (va_up G a y) := by
  obtain ⟨mc, hq⟩ := hL.1
  exact hL.up (gneL hq ha) (fun cap g hd => Ne.symm (gneA ha hd))
end LXS
section PXW
variable {ac : Nat → ClassId} {dE h0 : Nat} {α : Nat → Nat → Nat} {M M' : TS} {nv : Nat} {G : TG}
theorem PX.gen (hP : PX ac dE h0 α M nv G) {G' : TG} (eT : M' 0 19 = M 0 19) (eE : M' 0 21 = M 0 21) (eV : M' 0 22 = M 0 22) (hl : ∀ q d n f, LX ac dE q d n f G → LX ac dE q d n f G') (c1 : G' h0 = some (.inr (7, hF α M'))) (c2 : G' (α 0 3) = some (.inr (5, rF (α 0 4) (M' 0 23) (M' 0 24) (M' 0 25)))) (c3 : G' (α 0 4) = some (.inl (ac 1, 4, .inl (M' 15)))) (c4 : ∀ i, i < nT M → G' (α 1 i) = some (.inr (6, tF α M' i))) (c5 : ∀ k, k < nE M → G' (α 2 k) = some (.inr (3, eF α M' k)))
    (c6 : ∀ v, v < nv → G' (α 3 v) = some (.inr (4, vF α M' v)) ∧ G' (α 4 v) = some (.inr (5, rF (α 5 v) (M' 21 v) (M' 22 v) (M' 23 v))) ∧ ∃ f : Nat → Int32, G' (α 5 v) = some (.inl (ac 1, 4, .inl f)) ∧ ∀ j, j < 4 → f j = M' 20 (4 * v + j)) : PX ac dE h0 α M' nv G' := by
  have hT : nT M' = nT M := by unfold nT; rw [eT]
  have hE : nE M' = nE M := by unfold nE; rw [eE]
  have hV : nV M' = nV M := by unfold nV; rw [eV]
  unfold PX
  rw [hT, hE, hV]
  exact ⟨⟨c1, hl _ _ _ _ hP.lt, hl _ _ _ _ hP.le, hl _ _ _ _ hP.lv⟩, ⟨c2, c3⟩, c4, c5, c6, hP.2.2.2.2.2⟩
theorem PX.cg (hP : PX ac dE h0 α M nv G) (h : ∀ f, f ≠ 6 → f ≠ 7 → f ≠ 8 → f ≠ 18 → M' f = M f) : PX ac dE h0 α M' nv G := by
  have e0 := h 0 (by decide) (by decide) (by decide) (by decide)
  refine hP.gen (by rw [e0]) (by rw [e0]) (by rw [e0]) (fun _ _ _ _ h => h) ?_ ?_ ?_ (fun i hi => ?_) (fun k hk => ?_) (fun v hv => ?_)
  · rw [hP.h, hF, hF, e0]
  · rw [hP.ru, e0]
  · rw [hP.ra, h 15 (by decide) (by decide) (by decide) (by decide)]
  · rw [hP.t hi, tF, tF, parR, parR, h 1 (by decide) (by decide) (by decide) (by decide), h 2 (by decide) (by decide) (by decide) (by decide), h 3 (by decide) (by decide) (by decide) (by decide), h 4 (by decide) (by decide) (by decide) (by decide), h 19 (by decide) (by decide) (by decide) (by decide)]
  · rw [hP.e hk, eF, eF, invR, invR, billed, billed, h 9 (by decide) (by decide) (by decide) (by decide), h 10 (by decide) (by decide) (by decide) (by decide), h 11 (by decide) (by decide) (by decide) (by decide), h 12 (by decide) (by decide) (by decide) (by decide), h 5 (by decide) (by decide) (by decide) (by decide), h 13 (by decide) (by decide) (by decide) (by decide), h 14 (by decide) (by decide) (by decide) (by decide)]
  · rw [hP.v hv, hP.vr hv, vF, vF, h 16 (by decide) (by decide) (by decide) (by decide), h 17 (by decide) (by decide) (by decide) (by decide), h 21 (by decide) (by decide) (by decide) (by decide), h 22 (by decide) (by decide) (by decide) (by decide), h 23 (by decide) (by decide) (by decide) (by decide), h 20 (by decide) (by decide) (by decide) (by decide)]
    exact ⟨rfl, rfl, hP.va hv⟩
theorem PX.st6 (hP : PX ac dE h0 α M nv G) {i : Nat} {v : Int32} : PX ac dE h0 α (st M 6 i v) nv G := hP.cg (fun f h1 _ _ _ => st_ne M i v h1)
theorem PX.st7 (hP : PX ac dE h0 α M nv G) {i : Nat} {v : Int32} : PX ac dE h0 α (st M 7 i v) nv G := hP.cg (fun f _ h1 _ _ => st_ne M i v h1)
theorem PX.st18 (hP : PX ac dE h0 α M nv G) {i : Nat} {v : Int32} : PX ac dE h0 α (st M 18 i v) nv G := hP.cg (fun f _ _ _ h1 => st_ne M i v h1)
/-- a task changes -/
theorem PX.tsk (hP : PX ac dE h0 α M nv G) {t : Nat} (ht : t < nT M) (h : ∀ f, f ≠ 4 → f ≠ 19 → M' f = M f) (h4 : ∀ j, j ≠ t → M' 4 j = M 4 j) (h19 : ∀ j, j ≠ t → M' 19 j = M 19 j) : PX ac dE h0 α M' nv (va_up G (α 1 t) (some (.inr (6, tF α M' t)))) := by
  have hq := hP.t ht
  have e := fun f (a : f ≠ 4) (b : f ≠ 19) => h f a b
  have e0 := e 0 (by decide) (by decide)
  refine hP.gen (by rw [e0]) (by rw [e0]) (by rw [e0]) (fun _ _ _ _ h => h.upO hq (by decide)) ?_ ?_ ?_ (fun i hi => ?_) (fun k hk => ?_) (fun v hv => ?_)
  · rw [va_up_ne _ _ (gneR hP.h hq (by decide)), hP.h, hF, hF, e0]
  · rw [va_up_ne _ _ (gneR hP.ru hq (by decide)), hP.ru, e0]
  · rw [va_up_ne _ _ (Ne.symm (gneL hq hP.ra)), hP.ra, e 15 (by decide) (by decide)]
  · by_cases c : i = t
    · rw [c, va_up_self]
    · rw [va_up_ne _ _ (fun z => c (hP.jt hi ht z)), hP.t hi, tF, tF, parR, parR, e 1 (by decide) (by decide), e 2 (by decide) (by decide), e 3 (by decide) (by decide), h4 i c, h19 i c]
  · rw [va_up_ne _ _ (gneR (hP.e hk) hq (by decide)), hP.e hk, eF, eF, invR, invR, billed, billed, e 9 (by decide) (by decide), e 10 (by decide) (by decide), e 11 (by decide) (by decide), e 12 (by decide) (by decide), e 5 (by decide) (by decide), e 13 (by decide) (by decide), e 14 (by decide) (by decide)]
  · obtain ⟨f, hf, hf2⟩ := hP.va hv
    rw [va_up_ne _ _ (gneR (hP.v hv) hq (by decide)), va_up_ne _ _ (gneR (hP.vr hv) hq (by decide)), va_up_ne _ _ (Ne.symm (gneL hq hf)), hP.v hv, hP.vr hv, vF, vF, e 16 (by decide) (by decide), e 17 (by decide) (by decide), e 21 (by decide) (by decide), e 22 (by decide) (by decide), e 23 (by decide) (by decide), e 20 (by decide) (by decide)]
    exact ⟨rfl, rfl, f, hf, hf2⟩
theorem PX.p4 (hP : PX ac dE h0 α M nv G) {t : Nat} (ht : t < nT M) {v : Int32} : PX ac dE h0 α (st M 4 t v) nv (va_up G (α 1 t) (some (.inr (6, (tF α M t).set 4 (.int v))))) := by
  have := hP.tsk (M' := st M 4 t v) ht (fun f a _ => st_ne M t v a) (fun j a => st_nei M v a) (fun j _ => by rw [st_ne M t v (show 19 ≠ 4 by decide)])
  rw [show (tF α M t).set 4 (.int v) = tF α (st M 4 t v) t from by simp [tF, parR, st, va_up, upd]]
  exact this
theorem PX.p5 (hP : PX ac dE h0 α M nv G) {t : Nat} (ht : t < nT M) {v : Int32} : PX ac dE h0 α (st M 19 t v) nv (va_up G (α 1 t) (some (.inr (6, (tF α M t).set 5 (.int v))))) := by
  have := hP.tsk (M' := st M 19 t v) ht (fun f _ a => st_ne M t v a) (fun j _ => by rw [st_ne M t v (show 4 ≠ 19 by decide)]) (fun j a => st_nei M v a)
  rw [show (tF α M t).set 5 (.int v) = tF α (st M 19 t v) t from by simp [tF, parR, st, va_up, upd]]
  exact this
/-- an entry changes -/
theorem PX.ent (hP : PX ac dE h0 α M nv G) {t : Nat} (ht : t < nE M) (h : ∀ f, f ≠ 5 → f ≠ 13 → f ≠ 14 → M' f = M f) (h4 : ∀ j, j ≠ t → M' 5 j = M 5 j) (h5 : ∀ j, j ≠ t → M' 13 j = M 13 j) (h6 : ∀ j, j ≠ t → M' 14 j = M 14 j) : PX ac dE h0 α M' nv (va_up G (α 2 t) (some (.inr (3, eF α M' t)))) := by
  have hq := hP.e ht
  have e := fun f (a : f ≠ 5) (b : f ≠ 13) (c : f ≠ 14) => h f a b c
  have e0 := e 0 (by decide) (by decide) (by decide)
  refine hP.gen (by rw [e0]) (by rw [e0]) (by rw [e0]) (fun _ _ _ _ h => h.upO hq (by decide)) ?_ ?_ ?_ (fun i hi => ?_) (fun k hk => ?_) (fun v hv => ?_)
  · rw [va_up_ne _ _ (gneR hP.h hq (by decide)), hP.h, hF, hF, e0]
  · rw [va_up_ne _ _ (gneR hP.ru hq (by decide)), hP.ru, e0]
  · rw [va_up_ne _ _ (Ne.symm (gneL hq hP.ra)), hP.ra, e 15 (by decide) (by decide) (by decide)]
  · rw [va_up_ne _ _ (gneR (hP.t hi) hq (by decide)), hP.t hi, tF, tF, parR, parR, e 1 (by decide) (by decide) (by decide), e 2 (by decide) (by decide) (by decide), e 3 (by decide) (by decide) (by decide), e 4 (by decide) (by decide) (by decide), e 19 (by decide) (by decide) (by decide)]
  · by_cases c : k = t
    · rw [c, va_up_self]
    · rw [va_up_ne _ _ (fun z => c (hP.je hk ht z)), hP.e hk, eF, eF, invR, invR, billed, billed, e 9 (by decide) (by decide) (by decide), e 10 (by decide) (by decide) (by decide), e 11 (by decide) (by decide) (by decide), e 12 (by decide) (by decide) (by decide), h4 k c, h5 k c, h6 k c]
  · obtain ⟨f, hf, hf2⟩ := hP.va hv
    rw [va_up_ne _ _ (gneR (hP.v hv) hq (by decide)), va_up_ne _ _ (gneR (hP.vr hv) hq (by decide)), va_up_ne _ _ (Ne.symm (gneL hq hf)), hP.v hv, hP.vr hv, vF, vF, e 16 (by decide) (by decide) (by decide), e 17 (by decide) (by decide) (by decide), e 21 (by decide) (by decide) (by decide), e 22 (by decide) (by decide) (by decide), e 23 (by decide) (by decide) (by decide), e 20 (by decide) (by decide) (by decide)]
    exact ⟨rfl, rfl, f, hf, hf2⟩
theorem PX.e4 (hP : PX ac dE h0 α M nv G) {t : Nat} (ht : t < nE M) {v : Int32} (hb : billed (st M 5 t v) t = billed M t) : PX ac dE h0 α (st M 5 t v) nv (va_up G (α 2 t) (some (.inr (3, (eF α M t).set 4 (.int v))))) := by
  have := hP.ent (M' := st M 5 t v) ht (fun f a _ _ => st_ne M t v a) (fun j a => st_nei M v a) (fun j _ => by rw [st_ne M t v (show 13 ≠ 5 by decide)]) (fun j _ => by rw [st_ne M t v (show 14 ≠ 5 by decide)])
  rw [show (eF α M t).set 4 (.int v) = eF α (st M 5 t v) t from by simp only [eF, invR, hb]; simp [st, va_up, upd]]
  exact this
theorem PX.e5 (hP : PX ac dE h0 α M nv G) {t : Nat} (ht : t < nE M) {v : Int32} : PX ac dE h0 α (st M 13 t v) nv (va_up G (α 2 t) (some (.inr (3, (eF α M t).set 5 (.int v))))) := by
  have := hP.ent (M' := st M 13 t v) ht (fun f _ a _ => st_ne M t v a) (fun j _ => by rw [st_ne M t v (show 5 ≠ 13 by decide)]) (fun j a => st_nei M v a) (fun j _ => by rw [st_ne M t v (show 14 ≠ 13 by decide)])
  rw [show (eF α M t).set 5 (.int v) = eF α (st M 13 t v) t from by simp [eF, invR, billed, st, va_up, upd]]
  exact this
/-- state and invoice of an entry at once -/
theorem PX.e46 (hP : PX ac dE h0 α M nv G) {t q : Nat} (ht : t < nE M) (hq0 : q < 2 ^ 31) : PX ac dE h0 α (st (st M 5 t 98) 14 t (nI q)) nv (va_up G (α 2 t) (some (.inr (3, ((eF α M t).set 4 (.int 98)).set 6 (.ref (α 3 q)))))) := by
  have := hP.ent (M' := st (st M 5 t 98) 14 t (nI q)) ht (fun f a _ b => by rw [st_ne _ _ _ b, st_ne _ _ _ a]) (fun j a => by rw [st_ne _ _ _ (show 5 ≠ 14 by decide)]; exact st_nei M _ a) (fun j _ => by rw [st_ne _ _ _ (show 13 ≠ 14 by decide), st_ne _ _ _ (show 13 ≠ 5 by decide)]) (fun j a => by rw [st_nei _ _ a, st_ne _ _ _ (show 14 ≠ 5 by decide)])
  rw [show ((eF α M t).set 4 (.int 98)).set 6 (.ref (α 3 q)) = eF α (st (st M 5 t 98) 14 t (nI q)) t from ?_]
  · exact this
  · have hi : invR α (st (st M 5 t 98) 14 t (nI q)) t = some (α 3 q) := invR_s hq0 (by simp [billed, st, va_up, upd]) (st_self _ _ _ _)
    simp only [eF, hi]
    simp [st, va_up, upd]
    rfl
/-- an invoice changes -/
theorem PX.inv (hP : PX ac dE h0 α M nv G) {t : Nat} (ht : t < nv) (h : ∀ f, f ≠ 16 → f ≠ 17 → M' f = M f) (h4 : ∀ j, j ≠ t → M' 16 j = M 16 j) (h5 : ∀ j, j ≠ t → M' 17 j = M 17 j) : PX ac dE h0 α M' nv (va_up G (α 3 t) (some (.inr (4, vF α M' t)))) := by
  have hq := hP.v ht
  have e := fun f (a : f ≠ 16) (b : f ≠ 17) => h f a b
  have e0 := e 0 (by decide) (by decide)
  refine hP.gen (by rw [e0]) (by rw [e0]) (by rw [e0]) (fun _ _ _ _ h => h.upO hq (by decide)) ?_ ?_ ?_ (fun i hi => ?_) (fun k hk => ?_) (fun v hv => ?_)
  · rw [va_up_ne _ _ (gneR hP.h hq (by decide)), hP.h, hF, hF, e0]
  · rw [va_up_ne _ _ (gneR hP.ru hq (by decide)), hP.ru, e0]
  · rw [va_up_ne _ _ (Ne.symm (gneL hq hP.ra)), hP.ra, e 15 (by decide) (by decide)]
  · rw [va_up_ne _ _ (gneR (hP.t hi) hq (by decide)), hP.t hi, tF, tF, parR, parR, e 1 (by decide) (by decide), e 2 (by decide) (by decide), e 3 (by decide) (by decide), e 4 (by decide) (by decide), e 19 (by decide) (by decide)]
  · rw [va_up_ne _ _ (gneR (hP.e hk) hq (by decide)), hP.e hk, eF, eF, invR, invR, billed, billed, e 9 (by decide) (by decide), e 10 (by decide) (by decide), e 11 (by decide) (by decide), e 12 (by decide) (by decide), e 5 (by decide) (by decide), e 13 (by decide) (by decide), e 14 (by decide) (by decide)]
  · obtain ⟨f, hf, hf2⟩ := hP.va hv
    rw [va_up_ne _ _ (gneR (hP.vr hv) hq (by decide)), va_up_ne _ _ (Ne.symm (gneL hq hf)), hP.vr hv, e 21 (by decide) (by decide), e 22 (by decide) (by decide), e 23 (by decide) (by decide), e 20 (by decide) (by decide)]
    refine ⟨?_, rfl, f, hf, hf2⟩
    by_cases c : v = t
    · rw [c, va_up_self]
    · rw [va_up_ne _ _ (fun z => c (hP.jv hv ht z)), hP.v hv, vF, vF, h4 v c, h5 v c]
theorem PX.i2 (hP : PX ac dE h0 α M nv G) {t : Nat} (ht : t < nv) {v : Int32} : PX ac dE h0 α (st M 16 t v) nv (va_up G (α 3 t) (some (.inr (4, (vF α M t).set 2 (.int v))))) := by
  have := hP.inv (M' := st M 16 t v) ht (fun f a _ => st_ne M t v a) (fun j a => st_nei M v a) (fun j _ => by rw [st_ne M t v (show 17 ≠ 16 by decide)])
  rw [show (vF α M t).set 2 (.int v) = vF α (st M 16 t v) t from by simp [vF, st, va_up, upd]]
  exact this
theorem PX.i3 (hP : PX ac dE h0 α M nv G) {t : Nat} (ht : t < nv) {v : Int32} : PX ac dE h0 α (st M 17 t v) nv (va_up G (α 3 t) (some (.inr (4, (vF α M t).set 3 (.int v))))) := by
  have := hP.inv (M' := st M 17 t v) ht (fun f _ a => st_ne M t v a) (fun j _ => by rw [st_ne M t v (show 16 ≠ 17 by decide)]) (fun j a => st_nei M v a)
  rw [show (vF α M t).set 3 (.int v) = vF α (st M 17 t v) t from by simp [vF, st, va_up, upd]]
  exact this
/-- the class's own numbers, its rules -/
theorem PX.own (hP : PX ac dE h0 α M nv G) {k : Nat} {v : Int32} (hk : k = 26 ∨ k = 20 ∨ k = 27) : PX ac dE h0 α (st M 0 k v) nv (va_up G h0 (some (.inr (7, hF α (st M 0 k v))))) := by
  have hq := hP.h
  have e := fun f (a : f ≠ 0) => st_ne M k v a
  have n : ∀ j, j ≠ k → st M 0 k v 0 j = M 0 j := fun j a => st_nei M v a
  refine hP.gen (n _ (by omega)) (n _ (by omega)) (n _ (by omega)) (fun _ _ _ _ h => h.upO hq (by decide)) ?_ ?_ ?_ (fun i hi => ?_) (fun k hk => ?_) (fun v hv => ?_)
  · rw [va_up_self]
  · rw [va_up_ne _ _ (gneR hP.ru hq (by decide)), hP.ru, n _ (by omega), n _ (by omega), n _ (by omega)]
  · rw [va_up_ne _ _ (Ne.symm (gneL hq hP.ra)), hP.ra, e 15 (by decide)]
  · rw [va_up_ne _ _ (gneR (hP.t hi) hq (by decide)), hP.t hi, tF, tF, parR, parR, e 1 (by decide), e 2 (by decide), e 3 (by decide), e 4 (by decide), e 19 (by decide)]
  · rw [va_up_ne _ _ (gneR (hP.e hk) hq (by decide)), hP.e hk, eF, eF, invR, invR, billed, billed, e 9 (by decide), e 10 (by decide), e 11 (by decide), e 12 (by decide), e 5 (by decide), e 13 (by decide), e 14 (by decide)]
  · obtain ⟨f, hf, hf2⟩ := hP.va hv
    rw [va_up_ne _ _ (gneR (hP.v hv) hq (by decide)), va_up_ne _ _ (gneR (hP.vr hv) hq (by decide)), va_up_ne _ _ (Ne.symm (gneL hq hf)), hP.v hv, hP.vr hv, vF, vF, e 16 (by decide), e 17 (by decide), e 21 (by decide), e 22 (by decide), e 23 (by decide), e 20 (by decide)]
    exact ⟨rfl, rfl, f, hf, hf2⟩
theorem PX.h4 (hP : PX ac dE h0 α M nv G) {v : Int32} : PX ac dE h0 α (st M 0 26 v) nv (va_up G h0 (some (.inr (7, (hF α M).set 4 (.int v))))) := by
  rw [show (hF α M).set 4 (.int v) = hF α (st M 0 26 v) from by simp [hF, st, va_up, upd]]
  exact hP.own (Or.inl rfl)
theorem PX.h5 (hP : PX ac dE h0 α M nv G) {v : Int32} : PX ac dE h0 α (st M 0 20 v) nv (va_up G h0 (some (.inr (7, (hF α M).set 5 (.int v))))) := by
  rw [show (hF α M).set 5 (.int v) = hF α (st M 0 20 v) from by simp [hF, st, va_up, upd]]
  exact hP.own (Or.inr (Or.inl rfl))
theorem PX.h6 (hP : PX ac dE h0 α M nv G) {v : Int32} : PX ac dE h0 α (st M 0 27 v) nv (va_up G h0 (some (.inr (7, (hF α M).set 6 (.int v))))) := by
  rw [show (hF α M).set 6 (.int v) = hF α (st M 0 27 v) from by simp [hF, st, va_up, upd]]
  exact hP.own (Or.inr (Or.inr rfl))
theorem PX.rul (hP : PX ac dE h0 α M nv G) {k : Nat} {v : Int32} (hk : k = 23 ∨ k = 24 ∨ k = 25) : PX ac dE h0 α (st M 0 k v) nv (va_up G (α 0 3) (some (.inr (5, rF (α 0 4) (st M 0 k v 0 23) (st M 0 k v 0 24) (st M 0 k v 0 25))))) := by
  have hq := hP.ru
  have e := fun f (a : f ≠ 0) => st_ne M k v a
  have n : ∀ j, j ≠ k → st M 0 k v 0 j = M 0 j := fun j a => st_nei M v a
  refine hP.gen (n _ (by omega)) (n _ (by omega)) (n _ (by omega)) (fun _ _ _ _ h => h.upO hq (by decide)) ?_ ?_ ?_ (fun i hi => ?_) (fun k hk => ?_) (fun v hv => ?_)
  · rw [va_up_ne _ _ (gneR hP.h hq (by decide)), hP.h, hF, hF, n _ (by omega), n _ (by omega), n _ (by omega)]
  · rw [va_up_self]
  · rw [va_up_ne _ _ (Ne.symm (gneL hq hP.ra)), hP.ra, e 15 (by decide)]
  · rw [va_up_ne _ _ (gneR (hP.t hi) hq (by decide)), hP.t hi, tF, tF, parR, parR, e 1 (by decide), e 2 (by decide), e 3 (by decide), e 4 (by decide), e 19 (by decide)]
  · rw [va_up_ne _ _ (gneR (hP.e hk) hq (by decide)), hP.e hk, eF, eF, invR, invR, billed, billed, e 9 (by decide), e 10 (by decide), e 11 (by decide), e 12 (by decide), e 5 (by decide), e 13 (by decide), e 14 (by decide)]
  · obtain ⟨f, hf, hf2⟩ := hP.va hv
    rw [va_up_ne _ _ (gneR (hP.v hv) hq (by decide)), va_up_ne _ _ (Ne.symm (hP.2.2.2.2.2.2.1.1 _ hv)), va_up_ne _ _ (Ne.symm (gneL hq hf)), hP.v hv, hP.vr hv, vF, vF, e 16 (by decide), e 17 (by decide), e 21 (by decide), e 22 (by decide), e 23 (by decide), e 20 (by decide)]
    exact ⟨rfl, rfl, f, hf, hf2⟩
theorem PX.r1 (hP : PX ac dE h0 α M nv G) {v : Int32} : PX ac dE h0 α (st M 0 23 v) nv (va_up G (α 0 3) (some (.inr (5, (rF (α 0 4) (M 0 23) (M 0 24) (M 0 25)).set 1 (.int v))))) := by
  have := hP.rul (v := v) (k := 23) (Or.inl rfl)
  rw [show (rF (α 0 4) (M 0 23) (M 0 24) (M 0 25)).set 1 (.int v) = rF (α 0 4) (st M 0 23 v 0 23) (st M 0 23 v 0 24) (st M 0 23 v 0 25) from by simp [rF, st, va_up, upd]]
  exact this
theorem PX.r2 (hP : PX ac dE h0 α M nv G) {v : Int32} : PX ac dE h0 α (st M 0 24 v) nv (va_up G (α 0 3) (some (.inr (5, (rF (α 0 4) (M 0 23) (M 0 24) (M 0 25)).set 2 (.int v))))) := by
  have := hP.rul (v := v) (k := 24) (Or.inr (Or.inl rfl))
  rw [show (rF (α 0 4) (M 0 23) (M 0 24) (M 0 25)).set 2 (.int v) = rF (α 0 4) (st M 0 24 v 0 23) (st M 0 24 v 0 24) (st M 0 24 v 0 25) from by simp [rF, st, va_up, upd]]
  exact this
theorem PX.r3 (hP : PX ac dE h0 α M nv G) {v : Int32} : PX ac dE h0 α (st M 0 25 v) nv (va_up G (α 0 3) (some (.inr (5, (rF (α 0 4) (M 0 23) (M 0 24) (M 0 25)).set 3 (.int v))))) := by
  have := hP.rul (v := v) (k := 25) (Or.inr (Or.inr rfl))
  rw [show (rF (α 0 4) (M 0 23) (M 0 24) (M 0 25)).set 3 (.int v) = rF (α 0 4) (st M 0 25 v 0 23) (st M 0 25 v 0 24) (st M 0 25 v 0 25) from by simp [rF, st, va_up, upd]]
  exact this
theorem PX.rate (hP : PX ac dE h0 α M nv G) {i : Nat} {v : Int32} : PX ac dE h0 α (st M 15 i v) nv (va_up G (α 0 4) (some (.inl (ac 1, 4, .inl (upd (M 15) i v))))) := by
  have hq := hP.ra
  have e := fun f (a : f ≠ 15) => st_ne M i v a
  have e0 := e 0 (by decide)
  refine hP.gen (by rw [e0]) (by rw [e0]) (by rw [e0]) (fun _ _ _ _ h => h.upA hq) ?_ ?_ ?_ (fun i hi => ?_) (fun k hk => ?_) (fun v hv => ?_)
  · rw [va_up_ne _ _ (gneL hP.h hq), hP.h, hF, hF, e0]
  · rw [va_up_ne _ _ (gneL hP.ru hq), hP.ru, e0]
  · rw [va_up_self, st_eq]
  · rw [va_up_ne _ _ (gneL (hP.t hi) hq), hP.t hi, tF, tF, parR, parR, e 1 (by decide), e 2 (by decide), e 3 (by decide), e 4 (by decide), e 19 (by decide)]
  · rw [va_up_ne _ _ (gneL (hP.e hk) hq), hP.e hk, eF, eF, invR, invR, billed, billed, e 9 (by decide), e 10 (by decide), e 11 (by decide), e 12 (by decide), e 5 (by decide), e 13 (by decide), e 14 (by decide)]
  · obtain ⟨f, hf, hf2⟩ := hP.va hv
    rw [va_up_ne _ _ (gneL (hP.v hv) hq), va_up_ne _ _ (gneL (hP.vr hv) hq), va_up_ne _ _ (Ne.symm (hP.2.2.2.2.2.2.1.2.1 _ hv)), hP.v hv, hP.vr hv, vF, vF, e 16 (by decide), e 17 (by decide), e 21 (by decide), e 22 (by decide), e 23 (by decide), e 20 (by decide)]
    exact ⟨rfl, rfl, f, hf, hf2⟩
end PXW
