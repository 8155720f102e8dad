/-! PURE: a move of a script, on both sides -/
theorem held_eqC {r c t e dt N p : Nat} {M : Mem} {s : Nat → Int32} {φ : Nat → UInt32} (H : CV r c t e dt N M s φ) (hp : p < 2) : cnt 48 (fun k => decide (M.1 3 k = nI p)) = cnt (r * c) (fun k => decide (s (20 + k) = nI p)) := by
  rw [cnt_cut H.m48 (fun i h1 h2 => decide_eq_false (by rw [H.hold48 h1 h2, nm_nI (by omega) (by decide) (by decide)]; exact not_false))]
  exact cnt_congr (fun i hi => by simp only [oN_eq (H.hold hi) (show p < 2 ^ 31 by omega)])
section MV
variable {r c t e dt N : Nat} {M : Mem} {s : Nat → Int32} {φ : Nat → UInt32}
theorem cp_outC {x y : Int32} (H : CV r c t e dt N M s φ) (h : (x < nI 0 ∨ nI 2 ≤ x) ∨ (y < nI 0 ∨ nI (r * c) ≤ y)) : fX5_pressError 1 x y M = some (nm 1, M) ∧ fX5_releaseError 1 x y M = some (nm 1, M) := by
  rcases pk_ix x (show 2 < 2 ^ 31 by decide) with hx | hx | ⟨p, hp, rfl⟩
  · have hx' : x < nI 0 ∨ nI 2 ≤ x := .inl hx
    unfold fX5_pressError fX5_releaseError
    simp only [e_isTypn M hx', cal_e, nlit, nm_def, if_true, and_self]
  · have hx' : x < nI 0 ∨ nI 2 ≤ x := .inr hx
    unfold fX5_pressError fX5_releaseError
    simp only [e_isTypn M hx', cal_e, nlit, nm_def, if_true, and_self]
  · have hy : y < nI 0 ∨ nI (r * c) ≤ y := by
      rcases h with h | h
      · exact absurd rfl (out_ne h hp (by decide))
      · exact h
    unfold fX5_pressError fX5_releaseError
    simp only [e_isTyp M hp, Nat.reduceAdd, e_hasn H.hr H.hc hy, cal_e, nlit, nm_def, n10, if_true, if_false, and_self]
theorem cp_inC {p k : Nat} (H : CV r c t e dt N M s φ) (hp : p < 2) (hk : k < r * c) : fX5_pressError 1 (nI p) (nI k) M = some (agP (s) (r * c) p k, M) ∧ fX5_releaseError 1 (nI p) (nI k) M = some (agR (s) p k, M) := by
  have hd := H.hd
  have m48 := H.m48
  have m31 := H.m31
  have hkr := divr hk
  have h5 := H.held5 hp
  obtain ⟨b7, b8, b9⟩ := H.bits hk
  obtain ⟨s1, s2, s3⟩ := e_isBit H.hc (by omega) (by omega) (show k / c < 6 by omega) (show k < 2 ^ 31 by omega)
  have e0 := e_has H.hr H.hc hk m31
  constructor
  · unfold fX5_pressError agP
    simp (disch := omega) only [Nat.reduceAdd, if_true, if_false, e0, cal_e, nlit, nm_def, n10, e_isTyp M hp, s1, b7, b2_if, e_heldBy, held_eqC H hp, nI_ltI]
    by_cases q : s (20 + k) < nI 0
    · simp only [q, decide_true, Bool.not_true, if_true]
      by_cases q2 : cnt (r * c) (fun k => decide (s (20 + k) = nI p)) = 5
      · rw [if_neg (by omega), if_pos q2]
      · rw [if_pos (by omega), if_neg q2]
    · simp only [q, decide_false, Bool.not_false, Bool.true_eq_false, if_false]
  · unfold fX5_releaseError agR
    simp (disch := omega) only [Nat.reduceAdd, if_true, if_false, e0, cal_e, nlit, nm_def, n10, e_isTyp M hp, (e_leaf (M := M) (show k < 48 by omega)).1, oN_eq (H.hold hk) (show p < 2 ^ 31 by omega)]
    split <;> rfl
/-! the class -/
/-! the reference -/
end MV
