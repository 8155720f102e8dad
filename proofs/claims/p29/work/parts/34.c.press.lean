/-! PURE: press, release -/
theorem upd_self {f : Nat → Int32} {i : Nat} {x : Int32} : upd f i x i = x := by simp [upd]
theorem upd_o {f : Nat → Int32} {i j : Nat} {x : Int32} (h : j ≠ i) : upd f i x j = f j := by simp [upd, h]
theorem W2_err {N : Nat} {M : Mem} {x y : Mem → Option (Int32 × Mem)} {r : Int32} (h : IV N M) (hx : x M = some (r, M)) (hy : y M = some (r, M)) : W2 N x y M := W2_same' h hx hy
theorem agP_c (s : Nat → Int32) (n p k : Nat) : (agP s n p k = nI 0 ∧ s (20 + k) < nI 0 ∧ cnt n (fun j => decide (s (20 + j) = nI p)) ≠ 5) ∨ agP s n p k = nm 3 ∨ agP s n p k = nm 4 := by
  unfold agP
  by_cases h : s (20 + k) < nI 0
  · by_cases h2 : cnt n (fun j => decide (s (20 + j) = nI p)) = 5
    · right; left
      rw [if_pos h, if_pos h2]
    · left
      rw [if_pos h, if_neg h2]
      exact ⟨rfl, h, h2⟩
  · right; right
    rw [if_neg h]
theorem agR_c (s : Nat → Int32) (p k : Nat) : (agR s p k = nI 0 ∧ s (20 + k) = nI p) ∨ agR s p k = nm 4 := by
  unfold agR
  by_cases h : s (20 + k) = nI p
  · left
    rw [if_pos h]
    exact ⟨rfl, h⟩
  · right
    rw [if_neg h]
theorem nm34 : (¬ nm 3 = nI 0) ∧ (¬ nm 4 = nI 0) ∧ (¬ nI 0 ≤ nm 3) ∧ (¬ nI 0 ≤ nm 4) := by decide +kernel
