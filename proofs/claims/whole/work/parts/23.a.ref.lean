/-! PURE: the reference by equations -/
theorem e_in {x : Int32} {a b : Nat} (M : Mem) : fX9_in x (nI a) (nI b) M = some (if x < nI a then nI 0 else if nI b < x then nI 0 else nI 1, M) := by
  unfold fX9_in
  by_cases h : x < nI a
  · simp only [h, if_true]
    rfl
  · by_cases h2 : nI b < x
    · simp only [h, h2, if_true, if_false]
      rfl
    · simp only [h, h2, if_false]
      rfl
theorem e_in1 {k a b : Nat} (M : Mem) (h1 : a ≤ k) (h2 : k ≤ b) (hb : b < 2 ^ 31) : fX9_in (nI k) (nI a) (nI b) M = some (nI 1, M) := by
  rw [e_in, if_neg (by rw [nI_ltI (by omega) (by omega)]; omega), if_neg (by rw [nI_ltI (by omega) (by omega)]; omega)]
theorem e_in0 {x : Int32} {a b : Nat} (M : Mem) (h : x < nI a ∨ nI b < x) : fX9_in x (nI a) (nI b) M = some (nI 0, M) := by
  rw [e_in]
  rcases h with h | h
  · rw [if_pos h]
  · by_cases h2 : x < nI a
    · rw [if_pos h2]
    · rw [if_neg h2, if_pos h]
theorem r_keys {M : Mem} {r c : Nat} (hr : M.1 236 0 = nI r) (hc : M.1 236 1 = nI c) : fX9_keys 235 M = some (nI (r * c), M) := by
  unfold fX9_keys
  simp (disch := first | omega | (simp only [ln_3, ln_4, ln_5, ln_6, ln_7, ln_8, ln_9, ln_10, ln_11, ln_13, ln_15, ln_17, ln_18, ln_19, ln_20, ln_21, ln_22, ln_23, ln_25, ln_26, ln_27, ln_28, ln_29, ln_30, ln_31, ln_33, ln_234, ln_236, ln_237, ln_238, ln_239, ln_240, ln_241, ln_242, ln_243, ln_244]; omega)) only [nlit, nm_def, nI_add, nI_mul, nI_sub, nI_div, nI_rem, nI_clamp, nI_leI, nI_ltI, nI_eq, inb_nI, nzb_nI, nI_nm, nm_nI, nI_le_nm, nI_lt_nm, nm_le_nI, nm_lt_nI, cal_e, bnd_e, asr_e, jn_e, if_true, Nat.reduceAdd, ln_236, hr, hc]
theorem lt_of_le_nI {x : Int32} {n : Nat} (hn : n + 1 < 2 ^ 31) : nI n < x ↔ nI (n + 1) ≤ x := by
  rw [Int32.lt_iff_toInt_lt, Int32.le_iff_toInt_le, nI_toInt (by omega), nI_toInt (by omega)]
  omega
theorem r_noKey {M : Mem} {r c k : Nat} (hr : M.1 236 0 = nI r) (hc : M.1 236 1 = nI c) (hk : k < r * c) (hn : r * c ≤ 48) : fX9_noKey 235 (nI k) M = some (nI 0, M) := by
  unfold fX9_noKey
  simp (disch := first | omega | (simp only [ln_3, ln_4, ln_5, ln_6, ln_7, ln_8, ln_9, ln_10, ln_11, ln_13, ln_15, ln_17, ln_18, ln_19, ln_20, ln_21, ln_22, ln_23, ln_25, ln_26, ln_27, ln_28, ln_29, ln_30, ln_31, ln_33, ln_234, ln_236, ln_237, ln_238, ln_239, ln_240, ln_241, ln_242, ln_243, ln_244]; omega)) only [r_keys hr hc, nlit, nm_def, nI_add, nI_mul, nI_sub, nI_div, nI_rem, nI_clamp, nI_leI, nI_ltI, nI_eq, inb_nI, nzb_nI, nI_nm, nm_nI, nI_le_nm, nI_lt_nm, nm_le_nI, nm_lt_nI, cal_e, bnd_e, asr_e, jn_e, if_true, e_in1]
  rw [if_neg (by omega)]
theorem r_noKeyn {M : Mem} {r c : Nat} {x : Int32} (hr : M.1 236 0 = nI r) (hc : M.1 236 1 = nI c) (hx : x < nI 0 ∨ nI (r * c) ≤ x) (h0 : 0 < r * c) (hn : r * c ≤ 48) : fX9_noKey 235 x M = some (nI 1, M) := by
  have h2 : x < nI 0 ∨ nI (r * c - 1) < x := by
    rw [lt_of_le_nI (by omega), show r * c - 1 + 1 = r * c by omega]
    exact hx
  unfold fX9_noKey
  simp (disch := first | omega | (simp only [ln_3, ln_4, ln_5, ln_6, ln_7, ln_8, ln_9, ln_10, ln_11, ln_13, ln_15, ln_17, ln_18, ln_19, ln_20, ln_21, ln_22, ln_23, ln_25, ln_26, ln_27, ln_28, ln_29, ln_30, ln_31, ln_33, ln_234, ln_236, ln_237, ln_238, ln_239, ln_240, ln_241, ln_242, ln_243, ln_244]; omega)) only [r_keys hr hc, nlit, nm_def, nI_add, nI_mul, nI_sub, nI_div, nI_rem, nI_clamp, nI_leI, nI_ltI, nI_eq, inb_nI, nzb_nI, nI_nm, nm_nI, nI_le_nm, nI_lt_nm, nm_le_nI, nm_lt_nI, cal_e, bnd_e, asr_e, jn_e, if_true, e_in0 M h2]
theorem r_noTyp {p : Nat} (M : Mem) (hp : p < 2) : fX9_noTypist 235 (nI p) M = some (nI 0, M) := by
  unfold fX9_noTypist
  simp (disch := first | omega | (simp only [ln_3, ln_4, ln_5, ln_6, ln_7, ln_8, ln_9, ln_10, ln_11, ln_13, ln_15, ln_17, ln_18, ln_19, ln_20, ln_21, ln_22, ln_23, ln_25, ln_26, ln_27, ln_28, ln_29, ln_30, ln_31, ln_33, ln_234, ln_236, ln_237, ln_238, ln_239, ln_240, ln_241, ln_242, ln_243, ln_244]; omega)) only [nlit, nm_def, nI_add, nI_mul, nI_sub, nI_div, nI_rem, nI_clamp, nI_leI, nI_ltI, nI_eq, inb_nI, nzb_nI, nI_nm, nm_nI, nI_le_nm, nI_lt_nm, nm_le_nI, nm_lt_nI, cal_e, bnd_e, asr_e, jn_e, if_true, e_in1]
  rw [if_neg (by omega)]
theorem r_noTypn {x : Int32} (M : Mem) (hx : x < nI 0 ∨ nI 2 ≤ x) : fX9_noTypist 235 x M = some (nI 1, M) := by
  have h2 : x < nI 0 ∨ nI 1 < x := by
    rw [lt_of_le_nI (by omega)]
    exact hx
  unfold fX9_noTypist
  simp (disch := first | omega | (simp only [ln_3, ln_4, ln_5, ln_6, ln_7, ln_8, ln_9, ln_10, ln_11, ln_13, ln_15, ln_17, ln_18, ln_19, ln_20, ln_21, ln_22, ln_23, ln_25, ln_26, ln_27, ln_28, ln_29, ln_30, ln_31, ln_33, ln_234, ln_236, ln_237, ln_238, ln_239, ln_240, ln_241, ln_242, ln_243, ln_244]; omega)) only [nlit, nm_def, nI_add, nI_mul, nI_sub, nI_div, nI_rem, nI_clamp, nI_leI, nI_ltI, nI_eq, inb_nI, nzb_nI, nI_nm, nm_nI, nI_le_nm, nI_lt_nm, nm_le_nI, nm_lt_nI, cal_e, bnd_e, asr_e, jn_e, if_true, e_in0 M h2]
theorem r_isDown {k : Nat} (M : Mem) (hk : k < 48) : fX9_isDown 235 (nI k) M = some (b2 (!decide (M.1 236 (20 + k) < nI 0)), M) := by
  unfold fX9_isDown
  simp (disch := first | omega | (simp only [ln_3, ln_4, ln_5, ln_6, ln_7, ln_8, ln_9, ln_10, ln_11, ln_13, ln_15, ln_17, ln_18, ln_19, ln_20, ln_21, ln_22, ln_23, ln_25, ln_26, ln_27, ln_28, ln_29, ln_30, ln_31, ln_33, ln_234, ln_236, ln_237, ln_238, ln_239, ln_240, ln_241, ln_242, ln_243, ln_244]; omega)) only [nlit, nm_def, nI_add, nI_mul, nI_sub, nI_div, nI_rem, nI_clamp, nI_leI, nI_ltI, nI_eq, inb_nI, nzb_nI, nI_nm, nm_nI, nI_le_nm, nI_lt_nm, nm_le_nI, nm_lt_nI, cal_e, bnd_e, asr_e, jn_e, if_true, Nat.reduceAdd, ln_236]
  by_cases h : M.1 236 (20 + k) < nI 0 <;> simp [h, b2]
theorem r_isSeen {k : Nat} (M : Mem) (hk : k < 48) : fX9_isSeen 235 (nI k) M = some (b2 (!decide (M.1 236 (68 + k) < nI 0)), M) := by
  unfold fX9_isSeen
  simp (disch := first | omega | (simp only [ln_3, ln_4, ln_5, ln_6, ln_7, ln_8, ln_9, ln_10, ln_11, ln_13, ln_15, ln_17, ln_18, ln_19, ln_20, ln_21, ln_22, ln_23, ln_25, ln_26, ln_27, ln_28, ln_29, ln_30, ln_31, ln_33, ln_234, ln_236, ln_237, ln_238, ln_239, ln_240, ln_241, ln_242, ln_243, ln_244]; omega)) only [nlit, nm_def, nI_add, nI_mul, nI_sub, nI_div, nI_rem, nI_clamp, nI_leI, nI_ltI, nI_eq, inb_nI, nzb_nI, nI_nm, nm_nI, nI_le_nm, nI_lt_nm, nm_le_nI, nm_lt_nI, cal_e, bnd_e, asr_e, jn_e, if_true, Nat.reduceAdd, ln_236]
  by_cases h : M.1 236 (68 + k) < nI 0 <;> simp [h, b2]
theorem r_shiftOf (M : Mem) (x : Int32) : fX9_shiftOf 235 x M = some (if M.1 236 5 = x then nI 0 else if M.1 236 6 = x then nI 1 else nm 5, M) := by
  unfold fX9_shiftOf
  simp (disch := first | omega | (simp only [ln_3, ln_4, ln_5, ln_6, ln_7, ln_8, ln_9, ln_10, ln_11, ln_13, ln_15, ln_17, ln_18, ln_19, ln_20, ln_21, ln_22, ln_23, ln_25, ln_26, ln_27, ln_28, ln_29, ln_30, ln_31, ln_33, ln_234, ln_236, ln_237, ln_238, ln_239, ln_240, ln_241, ln_242, ln_243, ln_244]; omega)) only [nlit, nm_def, nI_add, nI_mul, nI_sub, nI_div, nI_rem, nI_clamp, nI_leI, nI_ltI, nI_eq, inb_nI, nzb_nI, nI_nm, nm_nI, nI_le_nm, nI_lt_nm, nm_le_nI, nm_lt_nI, cal_e, bnd_e, asr_e, jn_e, if_true, Nat.reduceAdd, ln_236]
  by_cases h : M.1 236 5 = x
  · simp only [h, if_true]
  · by_cases h2 : M.1 236 6 = x
    · simp only [h, h2, if_true, if_false]
    · simp only [h, h2, if_false]
theorem r_held {M : Mem} {r c : Nat} (x : Int32) (hr : M.1 236 0 = nI r) (hc : M.1 236 1 = nI c) (hn : r * c ≤ 48) : fX9_held 235 x M = some (nI (cnt (r * c) (fun k => decide (M.1 236 (20 + k) = x))), M) := by
  unfold fX9_held
  refine wp_eq (lp_for (r * c) (fun i b M1 => b = (nI (cnt i (fun k => decide (M.1 236 (20 + k) = x))), nI i) ∧ M1 = M) (by omega) ⟨rfl, rfl⟩ ?_ ?_)
  · rintro i b M1 rec hi ⟨rfl, rfl⟩ kk
    unfold FX9_held_4
    simp (disch := first | omega | (simp only [ln_3, ln_4, ln_5, ln_6, ln_7, ln_8, ln_9, ln_10, ln_11, ln_13, ln_15, ln_17, ln_18, ln_19, ln_20, ln_21, ln_22, ln_23, ln_25, ln_26, ln_27, ln_28, ln_29, ln_30, ln_31, ln_33, ln_234, ln_236, ln_237, ln_238, ln_239, ln_240, ln_241, ln_242, ln_243, ln_244]; omega)) only [r_keys hr hc, nlit, nm_def, nI_add, nI_mul, nI_sub, nI_div, nI_rem, nI_clamp, nI_leI, nI_ltI, nI_eq, inb_nI, nzb_nI, nI_nm, nm_nI, nI_le_nm, nI_lt_nm, nm_le_nI, nm_lt_nI, cal_e, bnd_e, asr_e, jn_e, if_true, Nat.reduceAdd, ln_236, show ¬ (r * c ≤ i) by omega, if_false]
    by_cases h : M1.1 236 (20 + i) = x
    · simp only [h, if_true]
      exact kk _ _ ⟨by simp [cnt_succ, h], rfl⟩
    · simp only [h, if_false]
      exact kk _ _ ⟨by simp [cnt_succ, h], rfl⟩
  · rintro b M1 rec ⟨rfl, rfl⟩
    unfold FX9_held_4
    simp (disch := first | omega | (simp only [ln_3, ln_4, ln_5, ln_6, ln_7, ln_8, ln_9, ln_10, ln_11, ln_13, ln_15, ln_17, ln_18, ln_19, ln_20, ln_21, ln_22, ln_23, ln_25, ln_26, ln_27, ln_28, ln_29, ln_30, ln_31, ln_33, ln_234, ln_236, ln_237, ln_238, ln_239, ln_240, ln_241, ln_242, ln_243, ln_244]; omega)) only [r_keys hr hc, nlit, nm_def, nI_add, nI_mul, nI_sub, nI_div, nI_rem, nI_clamp, nI_leI, nI_ltI, nI_eq, inb_nI, nzb_nI, nI_nm, nm_nI, nI_le_nm, nI_lt_nm, nm_le_nI, nm_lt_nI, cal_e, bnd_e, asr_e, jn_e, if_true, Nat.le_refl, wp_some, and_self]
theorem r_noDis {M : Mem} {d dt : Nat} (h : M.1 236 16 = nI dt) (hd : d < dt) (hn : dt ≤ 20) : fX9_noDispute 235 (nI d) M = some (nI 0, M) := by
  unfold fX9_noDispute
  simp (disch := first | omega | (simp only [ln_3, ln_4, ln_5, ln_6, ln_7, ln_8, ln_9, ln_10, ln_11, ln_13, ln_15, ln_17, ln_18, ln_19, ln_20, ln_21, ln_22, ln_23, ln_25, ln_26, ln_27, ln_28, ln_29, ln_30, ln_31, ln_33, ln_234, ln_236, ln_237, ln_238, ln_239, ln_240, ln_241, ln_242, ln_243, ln_244]; omega)) only [nlit, nm_def, nI_add, nI_mul, nI_sub, nI_div, nI_rem, nI_clamp, nI_leI, nI_ltI, nI_eq, inb_nI, nzb_nI, nI_nm, nm_nI, nI_le_nm, nI_lt_nm, nm_le_nI, nm_lt_nI, cal_e, bnd_e, asr_e, jn_e, if_true, Nat.reduceAdd, ln_236, h, e_in1]
  rw [if_neg (by omega)]
theorem z_m1 : nI 0 - nI 1 = nm 1 := by decide
theorem r_noDisn {M : Mem} {x : Int32} {dt : Nat} (h : M.1 236 16 = nI dt) (hx : x < nI 0 ∨ nI dt ≤ x) (hn : dt ≤ 20) : fX9_noDispute 235 x M = some (nI 1, M) := by
  unfold fX9_noDispute
  rcases dt with _ | dt
  · have e : fX9_in x (nI 0) (nI 0 - nI 1) M = some (nI 0, M) := by
      rw [z_m1]
      unfold fX9_in
      by_cases h : x < nI 0
      · rw [if_pos h]
        rfl
      · rw [if_neg h, if_pos ?_]
        · rfl
        · rw [Int32.lt_iff_toInt_lt] at *
          rw [nm_toInt (by decide)]
          rw [nI_toInt (by decide)] at h
          omega
    simp (disch := first | omega | (simp only [ln_3, ln_4, ln_5, ln_6, ln_7, ln_8, ln_9, ln_10, ln_11, ln_13, ln_15, ln_17, ln_18, ln_19, ln_20, ln_21, ln_22, ln_23, ln_25, ln_26, ln_27, ln_28, ln_29, ln_30, ln_31, ln_33, ln_234, ln_236, ln_237, ln_238, ln_239, ln_240, ln_241, ln_242, ln_243, ln_244]; omega)) only [nlit, inb_nI, nI_clamp, cal_e, bnd_e, asr_e, jn_e, if_true, Nat.reduceAdd, ln_236, h, e]
  · have h2 : x < nI 0 ∨ nI dt < x := by
      rw [lt_of_le_nI (by omega)]
      exact hx
    simp (disch := first | omega | (simp only [ln_3, ln_4, ln_5, ln_6, ln_7, ln_8, ln_9, ln_10, ln_11, ln_13, ln_15, ln_17, ln_18, ln_19, ln_20, ln_21, ln_22, ln_23, ln_25, ln_26, ln_27, ln_28, ln_29, ln_30, ln_31, ln_33, ln_234, ln_236, ln_237, ln_238, ln_239, ln_240, ln_241, ln_242, ln_243, ln_244]; omega)) only [nlit, nm_def, nI_add, nI_mul, nI_sub, nI_div, nI_rem, nI_clamp, nI_leI, nI_ltI, nI_eq, inb_nI, nzb_nI, nI_nm, nm_nI, nI_le_nm, nI_lt_nm, nm_le_nI, nm_lt_nI, cal_e, bnd_e, asr_e, jn_e, if_true, Nat.reduceAdd, ln_236, h, Nat.add_sub_cancel, e_in0 M h2]
