/-! what states there are -/
def W1 (M : TS) : Prop := (∀ t, t < nT M → M 4 t = 111 ∨ M 4 t = 119 ∨ M 4 t = 114 ∨ M 4 t = 100) ∧ (∀ k, k < nE M → M 5 k = 110 ∨ M 5 k = 97 ∨ M 5 k = 98 ∨ M 5 k = 99 ∨ M 5 k = 120) ∧ ∀ k, k < nE M → billed M k = true → ∃ v, v < nV M ∧ M 14 k = nI v
theorem W1.nt {M : TS} (h : W1 M) {t : Nat} (ht : t < nT M) : narrow .char (.int (M 4 t)) = .int (M 4 t) := by
  rcases h.1 t ht with e | e | e | e <;> rw [e] <;> rfl
theorem W1.ne {M : TS} (h : W1 M) {k : Nat} (hk : k < nE M) : narrow .char (.int (M 5 k)) = .int (M 5 k) := by
  rcases h.2.1 k hk with e | e | e | e | e <;> rw [e] <;> rfl
theorem W1.iv {M : TS} (h : W1 M) {k : Nat} (hk : k < nE M) (hb : billed M k = true) : ∃ v, v < nV M ∧ M 14 k = nI v := h.2.2 k hk hb
