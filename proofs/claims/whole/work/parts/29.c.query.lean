/-! PURE: what is asked (3) -/
theorem nI_xor {a b : Nat} (ha : a < 2 ^ 31) (hb : b < 2 ^ 31) : nI a ^^^ nI b = nI (a ^^^ b) := by
  have hx : a ^^^ b < 2 ^ 31 := Nat.xor_lt_two_pow ha hb
  apply bt_ext
  intro d hd
  rw [bt_xor, bt_nI d (by omega), bt_nI d (by omega), bt_nI d (by omega), Nat.testBit_xor]
theorem e_fmod {a b : Nat} (M : Mem) (ha : a < 2 ^ 31) (h0 : 0 < b) (hb : b < 2 ^ 31) : fJ9_floorMod_7cf53 (nI a) (nI b) M = some (nI (a % b), M) := by
  have hx : a ^^^ b < 2 ^ 31 := Nat.xor_lt_two_pow ha hb
  unfold fJ9_floorMod_7cf53
  simp (disch := omega) only [nzb_nI, asr_e, nI_xor, nlit, nI_leI, Nat.zero_le, if_true, nI_rem]
theorem e_slot {a : Nat} (M : Mem) (ha : a < 2 ^ 31) : fX6_slot (nI a) M = some (nI (a % 20), M) := by
  unfold fX6_slot
  simp (disch := omega) only [nlit, nI_leI, Nat.zero_le, if_true, nI_rem]
theorem e_strk {a x : Nat} (M : Mem) (hx : x = 16 ∨ x = 24) (ha : a < 2 ^ 31) : fX6_keyOf x (nI a) M = some (M.1 (x + 1) (a % 20), M) ∧ fX6_sinceOf x (nI a) M = some (M.1 (x + 2) (a % 20), M) ∧ fX6_dwellOf x (nI a) M = some (M.1 (x + 3) (a % 20), M) ∧
    fX6_fateOf x (nI a) M = some (M.1 (x + 4) (a % 20), M) ∧ fX6_holderOf x (nI a) M = some (M.1 (x + 5) (a % 20), M) ∧ fX6_notedOf x (nI a) M = some (M.1 (x + 6) (a % 20), M) ∧ fX6_originOf x (nI a) M = some (M.1 (x + 7) (a % 20), M) := by
  have hl : a % 20 < 20 := Nat.mod_lt _ (by decide)
  have key : ∀ i, 1 ≤ i → i ≤ 7 → a % 20 < ln (x + i) := by
    intro i h1 h2
    rcases hx with rfl | rfl
    · rcases (show i = 1 ∨ i = 2 ∨ i = 3 ∨ i = 4 ∨ i = 5 ∨ i = 6 ∨ i = 7 by omega) with rfl | rfl | rfl | rfl | rfl | rfl | rfl <;> exact hl
    · rcases (show i = 1 ∨ i = 2 ∨ i = 3 ∨ i = 4 ∨ i = 5 ∨ i = 6 ∨ i = 7 by omega) with rfl | rfl | rfl | rfl | rfl | rfl | rfl <;> exact hl
  refine ⟨?_, ?_, ?_, ?_, ?_, ?_, ?_⟩
  · unfold fX6_keyOf
    rw [e_slot M ha, cal_e, e_at M (key 1 (by omega) (by omega)), cal_e]
  · unfold fX6_sinceOf
    rw [e_slot M ha, cal_e, e_at M (key 2 (by omega) (by omega)), cal_e]
  · unfold fX6_dwellOf
    rw [e_slot M ha, cal_e, e_at M (key 3 (by omega) (by omega)), cal_e]
  · unfold fX6_fateOf
    rw [e_slot M ha, cal_e, e_at M (key 4 (by omega) (by omega)), cal_e]
  · unfold fX6_holderOf
    rw [e_slot M ha, cal_e, e_at M (key 5 (by omega) (by omega)), cal_e]
  · unfold fX6_notedOf
    rw [e_slot M ha, cal_e, e_at M (key 6 (by omega) (by omega)), cal_e]
  · unfold fX6_originOf
    rw [e_slot M ha, cal_e, e_at M (key 7 (by omega) (by omega)), cal_e]
theorem NF.ty {r c t e dt N p : Nat} {M : Mem} (H : NF r c t e dt N M) (hp : p < 2) : tyF p (12 + 2 * p) (13 + 2 * p) N M ∧ kdb (12 + 2 * p) 6 = true ∧ ln (13 + 2 * p) = 24 := by
  rcases (show p = 0 ∨ p = 1 by omega) with rfl | rfl
  · exact ⟨H.ty0, kdb6.1, rfl⟩
  · exact ⟨H.ty1, kdb6.2, rfl⟩
theorem st_typed {N : Nat} {M : Mem} {a1 a2 : Int32} (h : IV N M) (hN : N < 2 ^ 30) : W2 N (fX8_typed 0 a1 a2) (fX9_typed 235 a1 a2) M := by
  obtain ⟨r, c, t, e, dt, H⟩ := h.nf
  have hn : ∀ x : Int32, (x < nI 0 ∨ nI 2 ≤ x) → W2 N (fX8_typed 0 x a2) (fX9_typed 235 x a2) M := fun x hx => by
    refine W2_same' (r := nm 1) h ?_ ?_
    · unfold fX8_typed
      simp only [e_isTypn M hx, cal_e, nlit, nm_def, if_true]
    · unfold fX9_typed
      simp only [r_noTypn M hx, cal_e, nlit, nm_def, n10, if_false]
  rcases pk_ix a1 (show 2 < 2 ^ 31 by decide) with hx | hx | ⟨p, hp, rfl⟩
  · exact hn _ (.inl hx)
  · exact hn _ (.inr hx)
  have e0 := e_isTyp M hp
  have e1 := e_typOf M hp
  have f0 := r_noTyp M hp
  obtain ⟨⟨_, _, _, _, _, ⟨m, hm, t6, t6'⟩, t7⟩, ek, el⟩ := H.ty hp
  rcases neg_nI (x := a2) with hx | ⟨j, hj, rfl⟩
  · have hx' : ¬ (nI 0 ≤ a2) := by rw [Int32.le_iff_toInt_le]; rw [Int32.lt_iff_toInt_lt] at hx; omega
    refine W2_same' (r := nm 2) h ?_ ?_
    · unfold fX8_typed
      simp only [Nat.reduceAdd, if_true, if_false, e0, cal_e, nlit, nm_def, n10, hx']
    · unfold fX9_typed
      simp only [Nat.reduceAdd, if_true, if_false, f0, cal_e, nlit, nm_def, n10, hx']
  by_cases h1 : m ≤ j
  · refine W2_same' (r := nm 5) h ?_ ?_
    · unfold fX8_typed
      simp (disch := omega) only [Nat.reduceAdd, if_true, if_false, e0, cal_e, nlit, nm_def, n10, e1, ek, asr_e, t6, nI_leI, Nat.zero_le, h1]
    · unfold fX9_typed
      simp (disch := first | omega | (simp only [ln_3, ln_4, ln_5, ln_6, ln_7, ln_8, ln_9, ln_10, ln_11, ln_13, ln_15, ln_17, ln_18, ln_19, ln_20, ln_21, ln_22, ln_23, ln_25, ln_26, ln_27, ln_28, ln_29, ln_30, ln_31, ln_33, ln_234, ln_236, ln_237, ln_238, ln_239, ln_240, ln_241, ln_242, ln_243, ln_244]; omega)) only [Nat.reduceAdd, if_true, if_false, f0, cal_e, nlit, nm_def, n10, nlit, nm_def, nI_add, nI_mul, nI_sub, nI_div, nI_rem, nI_clamp, nI_leI, nI_ltI, nI_eq, inb_nI, nzb_nI, nI_nm, nm_nI, nI_le_nm, nI_lt_nm, nm_le_nI, nm_lt_nI, cal_e, bnd_e, asr_e, jn_e, if_true, ln_236, t6', Nat.zero_le, h1]
  by_cases h2 : j < 24
  · have hl : (m - 1 - j) % 24 < 24 := Nat.mod_lt _ (by decide)
    refine W2_same' (r := M.1 236 (544 + 24 * p + (m - 1 - j) % 24)) h ?_ ?_
    · unfold fX8_typed fX7_signBack
      simp (disch := omega) only [Nat.reduceAdd, if_true, if_false, e0, cal_e, nlit, nm_def, n10, e1, ek, asr_e, t6, nI_leI, nI_ltI, nI_sub, Nat.zero_le, h1, h2, e_fmod, show 12 + 2 * p + 1 = 13 + 2 * p by omega]
      rw [e_at M (by rw [el]; exact hl), cal_e, cal_e, t7 _ hl]
    · unfold fX9_typed
      simp (disch := first | omega | (simp only [ln_3, ln_4, ln_5, ln_6, ln_7, ln_8, ln_9, ln_10, ln_11, ln_13, ln_15, ln_17, ln_18, ln_19, ln_20, ln_21, ln_22, ln_23, ln_25, ln_26, ln_27, ln_28, ln_29, ln_30, ln_31, ln_33, ln_234, ln_236, ln_237, ln_238, ln_239, ln_240, ln_241, ln_242, ln_243, ln_244]; omega)) only [Nat.reduceAdd, if_true, if_false, f0, cal_e, nlit, nm_def, n10, nlit, nm_def, nI_add, nI_mul, nI_sub, nI_div, nI_rem, nI_clamp, nI_leI, nI_ltI, nI_eq, inb_nI, nzb_nI, nI_nm, nm_nI, nI_le_nm, nI_lt_nm, nm_le_nI, nm_lt_nI, cal_e, bnd_e, asr_e, jn_e, if_true, ln_236, t6', Nat.zero_le, h1, show ¬ (24 ≤ j) by omega]
  · refine W2_same' (r := nm 5) h ?_ ?_
    · unfold fX8_typed
      simp (disch := omega) only [Nat.reduceAdd, if_true, if_false, e0, cal_e, nlit, nm_def, n10, e1, ek, asr_e, t6, nI_leI, nI_ltI, Nat.zero_le, h1, h2]
    · unfold fX9_typed
      simp (disch := first | omega | (simp only [ln_3, ln_4, ln_5, ln_6, ln_7, ln_8, ln_9, ln_10, ln_11, ln_13, ln_15, ln_17, ln_18, ln_19, ln_20, ln_21, ln_22, ln_23, ln_25, ln_26, ln_27, ln_28, ln_29, ln_30, ln_31, ln_33, ln_234, ln_236, ln_237, ln_238, ln_239, ln_240, ln_241, ln_242, ln_243, ln_244]; omega)) only [Nat.reduceAdd, if_true, if_false, f0, cal_e, nlit, nm_def, n10, nlit, nm_def, nI_add, nI_mul, nI_sub, nI_div, nI_rem, nI_clamp, nI_leI, nI_ltI, nI_eq, inb_nI, nzb_nI, nI_nm, nm_nI, nI_le_nm, nI_lt_nm, nm_le_nI, nm_lt_nI, cal_e, bnd_e, asr_e, jn_e, if_true, ln_236, t6', Nat.zero_le, h1, show 24 ≤ j by omega]
theorem st_stroke {N : Nat} {M : Mem} {a1 a2 : Int32} (h : IV N M) (hN : N < 2 ^ 30) : W2 N (fX8_stroke 0 a1 a2) (fX9_stroke 235 a1 a2) M := by
  obtain ⟨r, c, t, e, dt, H⟩ := h.nf
  have he := H.eN
  rcases neg_nI (x := a1) with hx | ⟨j, hj, rfl⟩
  · refine W2_same' (r := nm 2) h ?_ ?_
    · unfold fX8_stroke
      simp only [nlit, nm_def, hx, if_true]
    · unfold fX9_stroke
      simp only [nlit, nm_def, hx, if_true]
  have hj0 : ¬ (nI j < nI 0) := nI_nlt0 hj
  rcases pk_ix a2 (show 6 < 2 ^ 31 by decide) with hx | hx | ⟨w, hw, rfl⟩
  · have hx' : a2 < nI 0 := hx
    refine W2_same' (r := nm 2) h ?_ ?_
    · unfold fX8_stroke
      simp only [nlit, nm_def, hj0, hx', if_true, if_false]
    · unfold fX9_stroke
      simp only [nlit, nm_def, hj0, if_false, e_in0 M (.inl hx'), cal_e, if_true]
  · have hx5 : nI 5 < a2 := (lt_of_le_nI (by decide)).mpr hx
    have hx6 : ¬ a2 ≤ nI 5 := by rw [Int32.le_iff_toInt_le]; rw [Int32.lt_iff_toInt_lt] at hx5; omega
    refine W2_same' (r := nm 2) h ?_ ?_
    · unfold fX8_stroke
      simp only [nlit, nm_def, hj0, hx6, if_false, ite_self]
    · unfold fX9_stroke
      simp only [nlit, nm_def, hj0, if_false, e_in0 M (.inr hx5), cal_e, if_true]
  have hw0 : ¬ (nI w < nI 0) := nI_nlt0 (by omega)
  have i1 := e_in1 (k := w) (a := 0) (b := 5) M (by omega) (by omega) (by decide)
  by_cases h1 : e ≤ j
  · refine W2_same' (r := nm 5) h ?_ ?_
    · unfold fX8_stroke
      simp (disch := omega) only [Nat.reduceAdd, nlit, nm_def, hj0, hw0, if_false, nI_leI, show w ≤ 5 by omega, if_true, H.e1, h1]
    · unfold fX9_stroke
      simp (disch := first | omega | (simp only [ln_3, ln_4, ln_5, ln_6, ln_7, ln_8, ln_9, ln_10, ln_11, ln_13, ln_15, ln_17, ln_18, ln_19, ln_20, ln_21, ln_22, ln_23, ln_25, ln_26, ln_27, ln_28, ln_29, ln_30, ln_31, ln_33, ln_234, ln_236, ln_237, ln_238, ln_239, ln_240, ln_241, ln_242, ln_243, ln_244]; omega)) only [nlit, nm_def, hj0, i1, n10, if_false, cal_e, bnd_e, asr_e, jn_e, if_true, Nat.reduceAdd, ln_236, inb_nI, nI_clamp, H.e2, nI_leI, h1]
  by_cases h2 : j < 16
  · obtain ⟨g1, g2, g3, g4, g5, g6⟩ := H.en (i := e - 1 - j) (by omega) (by omega)
    have hl : (e - 1 - j) % 16 < 16 := Nat.mod_lt _ (by decide)
    obtain ⟨k1, k2, k3, k4, k5, k6, _⟩ := e_strk (a := e - 1 - j) M (.inl rfl) (by omega)
    refine W2_same' (r := M.1 236 (308 + 6 * ((e - 1 - j) % 16) + w)) h ?_ ?_
    · unfold fX8_stroke
      simp (disch := omega) only [Nat.reduceAdd, nlit, nm_def, hj0, hw0, if_false, nI_leI, nI_ltI, show w ≤ 5 by omega, if_true, H.e1, h1, h2, bnd_e, nI_sub, k1, k2, k3, k4, k5, k6, cal_e, e_orNone M g5 (show 2 ≤ 2 ^ 31 by decide), nI_eq, g1, g2, g3, g4, g6]
      rcases (show w = 0 ∨ w = 1 ∨ w = 2 ∨ w = 3 ∨ w = 4 ∨ w = 5 by omega) with rfl | rfl | rfl | rfl | rfl | rfl <;> simp
    · unfold fX9_stroke
      simp (disch := first | omega | (simp only [ln_3, ln_4, ln_5, ln_6, ln_7, ln_8, ln_9, ln_10, ln_11, ln_13, ln_15, ln_17, ln_18, ln_19, ln_20, ln_21, ln_22, ln_23, ln_25, ln_26, ln_27, ln_28, ln_29, ln_30, ln_31, ln_33, ln_234, ln_236, ln_237, ln_238, ln_239, ln_240, ln_241, ln_242, ln_243, ln_244]; omega)) only [nlit, nm_def, nI_add, nI_mul, nI_sub, nI_div, nI_rem, nI_clamp, nI_leI, nI_ltI, nI_eq, inb_nI, nzb_nI, nI_nm, nm_nI, nI_le_nm, nI_lt_nm, nm_le_nI, nm_lt_nI, Nat.one_ne_zero, hj0, i1, n10, if_false, cal_e, bnd_e, asr_e, jn_e, if_true, Nat.reduceAdd, ln_236, H.e2, h1, show ¬ (16 ≤ j) by omega, Nat.not_lt_zero]
  · refine W2_same' (r := nm 5) h ?_ ?_
    · unfold fX8_stroke
      simp (disch := omega) only [Nat.reduceAdd, nlit, nm_def, hj0, hw0, if_false, nI_leI, nI_ltI, show w ≤ 5 by omega, if_true, H.e1, h1, h2]
    · unfold fX9_stroke
      simp (disch := first | omega | (simp only [ln_3, ln_4, ln_5, ln_6, ln_7, ln_8, ln_9, ln_10, ln_11, ln_13, ln_15, ln_17, ln_18, ln_19, ln_20, ln_21, ln_22, ln_23, ln_25, ln_26, ln_27, ln_28, ln_29, ln_30, ln_31, ln_33, ln_234, ln_236, ln_237, ln_238, ln_239, ln_240, ln_241, ln_242, ln_243, ln_244]; omega)) only [nlit, nm_def, nI_add, nI_mul, nI_sub, nI_div, nI_rem, nI_clamp, nI_leI, nI_ltI, nI_eq, inb_nI, nzb_nI, nI_nm, nm_nI, nI_le_nm, nI_lt_nm, nm_le_nI, nm_lt_nI, Nat.one_ne_zero, hj0, i1, n10, if_false, cal_e, bnd_e, asr_e, jn_e, if_true, Nat.reduceAdd, ln_236, H.e2, h1, show 16 ≤ j by omega, Nat.not_lt_zero]
