/-! PURE: calls that change -/
theorem mut_rec {N : Nat} {M : Mem} (h : IV N M) : ∃ q st M1, fX2_remember 100 1 M = some ((), M1) ∧ HC q st N M1 (M.1 236) (M.2 240) ∧ (∀ k, (k < 100 ∨ 233 ≤ k) → M1.1 k = M.1 k ∧ M1.2 k = M.2 k) := by
  obtain ⟨g1, ⟨q, st, g2⟩, _⟩ := h
  obtain ⟨M1, e, p1, p2⟩ := c_rec g2 (a := 1) (by decide) (by decide) g1
  exact ⟨q + 3, st, M1, e, p1, p2⟩
/-- what is against pressing, on both sides -/
def agP (s : Nat → Int32) (n p k : Nat) : Int32 := if s (20 + k) < nI 0 then (if cnt n (fun j => decide (s (20 + j) = nI p)) = 5 then nm 3 else nI 0) else nm 4
def agR (s : Nat → Int32) (p k : Nat) : Int32 := if s (20 + k) = nI p then nI 0 else nm 4
section AG
variable {r c t e dt N : Nat} {M : Mem}
theorem cp_out {x y : Int32} (H : NF r c t e dt N M) (h : (x < nI 0 ∨ nI 2 ≤ x) ∨ (y < nI 0 ∨ nI (r * c) ≤ y)) : fX5_pressError 1 x y M = some (nm 1, M) ∧ fX5_releaseError 1 x y M = some (nm 1, M) := by
  rcases pk_ix x (show 2 < 2 ^ 31 by decide) with hx | hx | ⟨p, hp, rfl⟩
  · have hx' : x < nI 0 ∨ nI 2 ≤ x := .inl hx
    unfold fX5_pressError fX5_releaseError
    simp only [e_isTypn M hx', cal_e, nlit, nm_def, if_true, and_self]
  · have hx' : x < nI 0 ∨ nI 2 ≤ x := .inr hx
    unfold fX5_pressError fX5_releaseError
    simp only [e_isTypn M hx', cal_e, nlit, nm_def, if_true, and_self]
  · have hy : y < nI 0 ∨ nI (r * c) ≤ y := by
      rcases h with h | h
      · exact absurd rfl (out_ne h hp (by decide))
      · exact h
    unfold fX5_pressError fX5_releaseError
    simp only [e_isTyp M hp, Nat.reduceAdd, e_hasn H.hr H.hc hy, cal_e, nlit, nm_def, n10, if_true, if_false, and_self]
theorem cp_in {p k : Nat} (H : NF r c t e dt N M) (hp : p < 2) (hk : k < r * c) : fX5_pressError 1 (nI p) (nI k) M = some (agP (M.1 236) (r * c) p k, M) ∧ fX5_releaseError 1 (nI p) (nI k) M = some (agR (M.1 236) p k, M) := by
  have hd := H.hd
  have m48 := H.m48
  have m31 := H.m31
  have hkr := divr hk
  have h5 := H.held5 hp
  obtain ⟨b7, b8, b9⟩ := H.bits hk
  obtain ⟨s1, s2, s3⟩ := e_isBit H.hc (by omega) (by omega) (show k / c < 6 by omega) (show k < 2 ^ 31 by omega)
  have e0 := e_has H.hr H.hc hk m31
  constructor
  · unfold fX5_pressError agP
    simp (disch := omega) only [Nat.reduceAdd, if_true, if_false, e0, cal_e, nlit, nm_def, n10, e_isTyp M hp, s1, b7, b2_if, e_heldBy, held_eq H hp, nI_ltI]
    by_cases q : M.1 236 (20 + k) < nI 0
    · simp only [q, decide_true, Bool.not_true, if_true]
      by_cases q2 : cnt (r * c) (fun k => decide (M.1 236 (20 + k) = nI p)) = 5
      · rw [if_neg (by omega), if_pos q2]
      · rw [if_pos (by omega), if_neg q2]
    · simp only [q, decide_false, Bool.not_false, Bool.true_eq_false, if_false]
  · unfold fX5_releaseError agR
    simp (disch := omega) only [Nat.reduceAdd, if_true, if_false, e0, cal_e, nlit, nm_def, n10, e_isTyp M hp, (e_leaf (M := M) (show k < 48 by omega)).1, oN_eq (H.hold hk) (show p < 2 ^ 31 by omega)]
    split <;> rfl
end AG

