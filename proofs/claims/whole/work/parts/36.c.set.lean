theorem toU_n {b : Nat} (hb : b < 2 ^ 32) : ((nI b).toUInt32).toNat = b := by rw [toU_nI hb, toNat_ofNat32 hb]
theorem e_accN {x y : Int32} (M : Mem) (h : (x < nI 0 ∨ nI 3 ≤ x) ∨ y < nI 0) : fX4_accepts x y M = some (nI 0, M) := by
  unfold fX4_accepts
  by_cases h1 : x < 0
  · rw [if_pos h1]
    rfl
  · rw [if_neg h1]
    by_cases h2 : (3 : Int32) ≤ x
    · rw [if_pos h2]
      rfl
    · rw [if_neg h2]
      have h3 : y < 0 := by
        rcases h with (h | h) | h
        · exact absurd h h1
        · exact absurd h h2
        · exact h
      rw [if_pos h3]
      rfl
theorem e_acc {w b : Nat} (M : Mem) (hw : w < 3) (hb : b < 2 ^ 31) : fX4_accepts (nI w) (nI b) M = some (if lims w ≤ b then nI 0 else nI 1, M) := by
  have hl : lims w < 2 ^ 31 := by
    rcases (show w = 0 ∨ w = 1 ∨ w = 2 by omega) with rfl | rfl | rfl <;> decide
  unfold fX4_accepts
  rw [if_neg (show ¬ nI w < (0 : Int32) from nI_nlt0 (by omega)), if_neg (show ¬ (3 : Int32) ≤ nI w from nI_ge hw (by decide)), if_neg (show ¬ nI b < (0 : Int32) from nI_nlt0 hb), inb_nI (show w < 3 by omega) (by decide), asr_e, nI_clamp (by omega), lm_nI hw]
  by_cases h : lims w ≤ b
  · rw [if_pos h, if_pos (nI_le h hb)]
    rfl
  · rw [if_neg h, if_neg (by rw [nI_leI hl hb]; exact h)]
    rfl
theorem e_change {M : Mem} {w b : Nat} (hw : w < 3) (hb : b < lims w) : fX4_change 32 (nI w) (nI b) M = some ((), w2 (w1 M 33 w (nI b)) 32 (1 + w) (nI b).toUInt32) := by
  have hl : lims w ≤ 1082130433 := by
    rcases (show w = 0 ∨ w = 1 ∨ w = 2 by omega) with rfl | rfl | rfl <;> decide
  unfold fX4_change
  rw [e_put (a := 33) M (show w < ln 33 from hw), cal_e, e_valueOf (by omega), cal_e]
  rcases (show w = 0 ∨ w = 1 ∨ w = 2 by omega) with rfl | rfl | rfl <;> rfl
theorem most_ok {w : Nat} (hw : w < 3) : ∃ m : UInt32, m.toNat + 1 = lims w ∧ ∀ {γ : Type} (K : UInt32 → Mem → Option γ) (M : Mem), (if nI w = 0 then K FP.fconst2 M else if nI w = 1 then K 1082130432 M else K FP.fconst1 M) = K m M := by
  rcases (show w = 0 ∨ w = 1 ∨ w = 2 by omega) with rfl | rfl | rfl
  · exact ⟨FP.fconst2, by decide +kernel, fun K M => rfl⟩
  · exact ⟨1082130432, by decide +kernel, fun K M => rfl⟩
  · exact ⟨FP.fconst1, by decide +kernel, fun K M => rfl⟩
theorem sn_no {b : Nat} (hb : b ≤ 2139095040) : vn_sni2f (nI b) = false := by
  unfold vn_sni2f
  have e : ¬ ((nI b).toUInt32 &&& 0x7fffffff > 0x7f800000) := by
    show ¬ ((0x7f800000 : UInt32) < (nI b).toUInt32 &&& 0x7fffffff)
    rw [UInt32.lt_iff_toNat_lt, UInt32.toNat_and, toU_n (by omega), show (0x7fffffff : UInt32).toNat = 2 ^ 31 - 1 from rfl, Nat.and_two_pow_sub_one_eq_mod, show (0x7f800000 : UInt32).toNat = 2139095040 from rfl]
    omega
  simp [e]
