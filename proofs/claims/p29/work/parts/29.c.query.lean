/-! PURE: what is asked (3) -/
theorem nI_xor {a b : Nat} (ha : a < 2 ^ 31) (hb : b < 2 ^ 31) : nI a ^^^ nI b = nI (a ^^^ b) := by
  have hx : a ^^^ b < 2 ^ 31 := Nat.xor_lt_two_pow ha hb
  apply bt_ext
  intro d hd
  rw [bt_xor, bt_nI d (by omega), bt_nI d (by omega), bt_nI d (by omega), Nat.testBit_xor]
theorem e_fmod {a b : Nat} (M : Mem) (ha : a < 2 ^ 31) (h0 : 0 < b) (hb : b < 2 ^ 31) : fJ9_floorMod_7cf53 (nI a) (nI b) M = some (nI (a % b), M) := by
  have hx : a ^^^ b < 2 ^ 31 := Nat.xor_lt_two_pow ha hb
  unfold fJ9_floorMod_7cf53
  simp (disch := omega) only [nzb_nI, asr_e, nI_xor, nlit, nI_leI, Nat.zero_le, if_true, nI_rem]
theorem e_slot {a : Nat} (M : Mem) (ha : a < 2 ^ 31) : fX6_slot (nI a) M = some (nI (a % 20), M) := by
  unfold fX6_slot
  simp (disch := omega) only [nlit, nI_leI, Nat.zero_le, if_true, nI_rem]
theorem e_strk {a x : Nat} (M : Mem) (hx : x = 16 ∨ x = 24) (ha : a < 2 ^ 31) : fX6_keyOf x (nI a) M = some (M.1 (x + 1) (a % 20), M) ∧ fX6_sinceOf x (nI a) M = some (M.1 (x + 2) (a % 20), M) ∧ fX6_dwellOf x (nI a) M = some (M.1 (x + 3) (a % 20), M) ∧
    fX6_fateOf x (nI a) M = some (M.1 (x + 4) (a % 20), M) ∧ fX6_holderOf x (nI a) M = some (M.1 (x + 5) (a % 20), M) ∧ fX6_notedOf x (nI a) M = some (M.1 (x + 6) (a % 20), M) ∧ fX6_originOf x (nI a) M = some (M.1 (x + 7) (a % 20), M) := by
  have hl : a % 20 < 20 := Nat.mod_lt _ (by decide)
  have key : ∀ i, 1 ≤ i → i ≤ 7 → a % 20 < ln (x + i) := by
    intro i h1 h2
    rcases hx with rfl | rfl
    · rcases (show i = 1 ∨ i = 2 ∨ i = 3 ∨ i = 4 ∨ i = 5 ∨ i = 6 ∨ i = 7 by omega) with rfl | rfl | rfl | rfl | rfl | rfl | rfl <;> exact hl
    · rcases (show i = 1 ∨ i = 2 ∨ i = 3 ∨ i = 4 ∨ i = 5 ∨ i = 6 ∨ i = 7 by omega) with rfl | rfl | rfl | rfl | rfl | rfl | rfl <;> exact hl
  refine ⟨?_, ?_, ?_, ?_, ?_, ?_, ?_⟩
  · unfold fX6_keyOf
    rw [e_slot M ha, cal_e, e_at M (key 1 (by omega) (by omega)), cal_e]
  · unfold fX6_sinceOf
    rw [e_slot M ha, cal_e, e_at M (key 2 (by omega) (by omega)), cal_e]
  · unfold fX6_dwellOf
    rw [e_slot M ha, cal_e, e_at M (key 3 (by omega) (by omega)), cal_e]
  · unfold fX6_fateOf
    rw [e_slot M ha, cal_e, e_at M (key 4 (by omega) (by omega)), cal_e]
  · unfold fX6_holderOf
    rw [e_slot M ha, cal_e, e_at M (key 5 (by omega) (by omega)), cal_e]
  · unfold fX6_notedOf
    rw [e_slot M ha, cal_e, e_at M (key 6 (by omega) (by omega)), cal_e]
  · unfold fX6_originOf
    rw [e_slot M ha, cal_e, e_at M (key 7 (by omega) (by omega)), cal_e]
theorem NF.ty {r c t e dt N p : Nat} {M : Mem} (H : NF r c t e dt N M) (hp : p < 2) : tyF p (12 + 2 * p) (13 + 2 * p) N M ∧ kdb (12 + 2 * p) 6 = true ∧ ln (13 + 2 * p) = 24 := by
  rcases (show p = 0 ∨ p = 1 by omega) with rfl | rfl
  · exact ⟨H.ty0, kdb6.1, rfl⟩
  · exact ⟨H.ty1, kdb6.2, rfl⟩
