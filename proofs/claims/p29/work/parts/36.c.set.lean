theorem e_accN {x y : Int32} (M : Mem) (h : (x < nI 0 ∨ nI 3 ≤ x) ∨ y < nI 0) : fX4_accepts x y M = some (nI 0, M) := by
  unfold fX4_accepts
  by_cases h1 : x < 0
  · rw [if_pos h1]
    rfl
  · rw [if_neg h1]
    by_cases h2 : (3 : Int32) ≤ x
    · rw [if_pos h2]
      rfl
    · rw [if_neg h2]
      have h3 : y < 0 := by
        rcases h with (h | h) | h
        · exact absurd h h1
        · exact absurd h h2
        · exact h
      rw [if_pos h3]
      rfl
theorem e_acc {w b : Nat} (M : Mem) (hw : w < 3) (hb : b < 2 ^ 31) : fX4_accepts (nI w) (nI b) M = some (if lims w ≤ b then nI 0 else nI 1, M) := by
  have hl : lims w < 2 ^ 31 := by
    rcases (show w = 0 ∨ w = 1 ∨ w = 2 by omega) with rfl | rfl | rfl <;> decide
  unfold fX4_accepts
  rw [if_neg (show ¬ nI w < (0 : Int32) from nI_nlt0 (by omega)), if_neg (show ¬ (3 : Int32) ≤ nI w from nI_ge hw (by decide)), if_neg (show ¬ nI b < (0 : Int32) from nI_nlt0 hb), inb_nI (show w < 3 by omega) (by decide), asr_e, nI_clamp (by omega), lm_nI hw]
  by_cases h : lims w ≤ b
  · rw [if_pos h, if_pos (nI_le h hb)]
    rfl
  · rw [if_neg h, if_neg (by rw [nI_leI hl hb]; exact h)]
    rfl
theorem toU_n {b : Nat} (hb : b < 2 ^ 32) : ((nI b).toUInt32).toNat = b := by
  show (nI b).toBitVec.toNat = b
  exact pk_tn hb
