/-! PURE: what is asked (5) -/
theorem e_isMean {w : Nat} (M : Mem) (hw : w < 2) : fX8_isMean (nI w) M = some (nI 1, M) := by
  rcases (show w = 0 ∨ w = 1 by omega) with rfl | rfl
  · rfl
  · rfl
theorem e_isMeann {x : Int32} (M : Mem) (hx : x < nI 0 ∨ nI 2 ≤ x) : fX8_isMean x M = some (nI 0, M) := by
  have h0 := out_ne (k := 0) hx (by omega) (by omega)
  have h1 := out_ne (k := 1) hx (by omega) (by omega)
  unfold fX8_isMean
  simp only [nlit, jn_e, h0, h1, if_false]
theorem e_meanOf {r c t e dt N p w : Nat} {M : Mem} (H : NF r c t e dt N M) (hp : p < 2) (hw : w < 2) : fX8_meanOf 0 (nI p) (nI w) M = some (M.2 240 (2 * w + p), M) ∧ gm (M.2 240 (2 * w + p)) := by
  obtain ⟨⟨⟨v1, v2, v3, v4⟩, _⟩, ek, _⟩ := H.ty hp
  unfold fX8_meanOf
  rcases (show w = 0 ∨ w = 1 by omega) with rfl | rfl
  · refine ⟨?_, by simpa using v3⟩
    simp only [Nat.reduceAdd, e_typOf M hp, cal_e, ek, asr_e, nlit, if_true, v1, Nat.mul_zero, Nat.zero_add]
  · refine ⟨?_, by simpa using v4⟩
    simp only [Nat.reduceAdd, e_typOf M hp, cal_e, ek, asr_e, nlit, n10, if_false, v2, Nat.mul_one]
