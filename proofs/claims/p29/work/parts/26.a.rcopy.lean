/-! PURE: a piece of a row -/
def cpo {α : Type} (g f : Nat → α) (off n : Nat) : Nat → α := fun j => if off ≤ j ∧ j < off + n then f (j - off) else g j
theorem cpv_0 {α : Type} (g f : Nat → α) : cpv g f 0 = g := by
  funext j
  simp [cpv]
theorem cpo_0 {α : Type} (g f : Nat → α) (off : Nat) : cpo g f off 0 = g := by
  funext j
  unfold cpo
  rw [if_neg (by omega)]
theorem cpv_succ (g f : Nat → Int32) (i : Nat) : upd (cpv g f i) i (f i) = cpv g f (i + 1) := by
  funext j
  unfold upd cpv
  by_cases h : j = i
  · subst h
    simp
  · by_cases h2 : j < i
    · simp [h, h2, show j < i + 1 by omega]
    · simp [h, h2, show ¬ j < i + 1 by omega]
theorem cpo_succ (g f : Nat → Int32) (off i : Nat) : upd (cpo g f off i) (off + i) (f i) = cpo g f off (i + 1) := by
  funext j
  unfold upd cpo
  by_cases h : j = off + i
  · subst h
    rw [if_pos rfl, if_pos (by omega)]
    exact congrArg f (by omega)
  · rw [if_neg h]
    by_cases h2 : off ≤ j ∧ j < off + i
    · rw [if_pos h2, if_pos (by omega)]
    · rw [if_neg h2, if_neg (by omega)]
