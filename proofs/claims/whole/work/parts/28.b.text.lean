/-! PURE: the text -/
theorem toI_nI {x : UInt32} (h : x.toNat < 2 ^ 32) : x.toInt32 = nI x.toNat := by
  apply Int32.toBitVec_inj.mp
  apply BitVec.eq_of_toNat_eq
  show x.toBitVec.toNat = x.toNat % 2 ^ 32
  rw [Nat.mod_eq_of_lt h]
  rfl
theorem i2cv_nI (x : Int32) : ∃ u, u < 65536 ∧ i2cv x = nI u := by
  have e : (x.toUInt32 % 65536).toNat = x.toUInt32.toNat % 65536 := by simp
  have h := Nat.mod_lt x.toUInt32.toNat (show 0 < 65536 by decide)
  refine ⟨x.toUInt32.toNat % 65536, h, ?_⟩
  unfold i2cv
  rw [toI_nI (by omega), e]
theorem nar_nI {u : Nat} (h : u < 65536) : vp_nar .char (nI u) = nI u := by
  have e0 : (nI u).toUInt32.toNat = u := by
    show (nI u).toBitVec.toNat = u
    exact pk_tn (by omega)
  have e : ((nI u).toUInt32.toUInt16.toUInt32).toNat = u := by
    rw [UInt16.toNat_toUInt32, UInt32.toNat_toUInt16, e0]
    omega
  rw [vp_nar_char, toI_nI (by omega), e]
theorem st_type {N : Nat} {M : Mem} {x : Int32} (h : IV N M) : W2 N (fX8_type 0 (i2cv x)) (fX9_type 235 (i2cv x)) M := by
  have h0 := h
  obtain ⟨g1, ⟨q, st, g2⟩, g3, L, hL, t1, t2, t3⟩ := h
  obtain ⟨u, hu, eu⟩ := i2cv_nI x
  rw [eu]
  have l1 : ln 234 = 60 := rfl
  have l2 : ln 244 = 60 := rfl
  by_cases h : L < 60
  · unfold W2 fX8_type fX3_append
    simp (disch := first | omega | (simp only [ln_3, ln_4, ln_5, ln_6, ln_7, ln_8, ln_9, ln_10, ln_11, ln_13, ln_15, ln_17, ln_18, ln_19, ln_20, ln_21, ln_22, ln_23, ln_25, ln_26, ln_27, ln_28, ln_29, ln_30, ln_31, ln_33, ln_234, ln_236, ln_237, ln_238, ln_239, ln_240, ln_241, ln_242, ln_243, ln_244]; omega)) only [Nat.reduceAdd, t1, nlit, nm_def, nI_add, nI_mul, nI_sub, nI_div, nI_rem, nI_clamp, nI_leI, nI_ltI, nI_eq, inb_nI, nzb_nI, nI_nm, nm_nI, nI_le_nm, nI_lt_nm, nm_le_nI, nm_lt_nI, cal_e, bnd_e, asr_e, jn_e, if_true, l1, wp_cal, wp_some, wp_bnd, Nat.not_lt_zero, if_false, h, if_true, nar_nI hu, w1_1, reduceIte, Nat.reduceEqDiff, false_and, and_self, show ¬ (1 = 0) by decide]
    unfold fX9_type
    simp (disch := first | omega | (simp only [ln_3, ln_4, ln_5, ln_6, ln_7, ln_8, ln_9, ln_10, ln_11, ln_13, ln_15, ln_17, ln_18, ln_19, ln_20, ln_21, ln_22, ln_23, ln_25, ln_26, ln_27, ln_28, ln_29, ln_30, ln_31, ln_33, ln_234, ln_236, ln_237, ln_238, ln_239, ln_240, ln_241, ln_242, ln_243, ln_244]; omega)) only [wf_1, wf_self, wf_o, wa_o, wa_self, wa_2, w1_o, w1_2, w2_1, w2_o, cpv_lt, t2, nlit, nm_def, nI_add, nI_mul, nI_sub, nI_div, nI_rem, nI_clamp, nI_leI, nI_ltI, nI_eq, inb_nI, nzb_nI, nI_nm, nm_nI, nI_le_nm, nI_lt_nm, nm_le_nI, nm_lt_nI, cal_e, bnd_e, asr_e, jn_e, if_true, l2, wp_cal, wp_some, wp_bnd, nar_nI hu, w1_1, reduceIte, Nat.reduceEqDiff, false_and, and_self, show ¬ (L = 60) by omega, if_false, true_and, Nat.reduceAdd, and_true, and_false]
    refine ⟨NowR_f g1 ⟨fun k _ _ => ⟨?_, rfl⟩, ?_, rfl⟩, ⟨q, st, HI_f g2 ⟨fun k _ _ => ⟨?_, rfl⟩, ?_, ?_, rfl⟩⟩, SN_f g3 ⟨fun k _ _ => ⟨?_, rfl⟩, ?_, ?_, ?_, rfl⟩, L + 1, by omega, ?_, ?_, ?_⟩
    · simp (disch := omega) only [wf_1, wf_self, wf_o, wa_o, wa_self, wa_2, w1_o, w1_2, w2_1, w2_o, cpv_lt]
    · simp (disch := omega) only [wf_1, wf_self, wf_o, wa_o, wa_self, wa_2, w1_o, w1_2, w2_1, w2_o, cpv_lt]
    · simp (disch := omega) only [wf_1, wf_self, wf_o, wa_o, wa_self, wa_2, w1_o, w1_2, w2_1, w2_o, cpv_lt]
    · simp (disch := omega) [wf_1, wf_self, wf_o, wa_o, wa_self, wa_2, w1_o, w1_2, w2_1, w2_o, cpv_lt, w1_1]
    · simp (disch := omega) only [wf_1, wf_self, wf_o, wa_o, wa_self, wa_2, w1_o, w1_2, w2_1, w2_o, cpv_lt]
    · simp (disch := omega) only [wf_1, wf_self, wf_o, wa_o, wa_self, wa_2, w1_o, w1_2, w2_1, w2_o, cpv_lt]
    · simp (disch := omega) only [wf_1, wf_self, wf_o, wa_o, wa_self, wa_2, w1_o, w1_2, w2_1, w2_o, cpv_lt]
    · simp (disch := omega) [wf_1, wf_self, wf_o, wa_o, wa_self, wa_2, w1_o, w1_2, w2_1, w2_o, cpv_lt, w1_1]
    · simp (disch := omega) only [wf_1, wf_self, wf_o, wa_o, wa_self, wa_2, w1_o, w1_2, w2_1, w2_o, cpv_lt]
    · simp (disch := omega) [wf_1, wf_self, wf_o, wa_o, wa_self, wa_2, w1_o, w1_2, w2_1, w2_o, cpv_lt, w1_1]
    · simp (disch := omega) [wf_1, wf_self, wf_o, wa_o, wa_self, wa_2, w1_o, w1_2, w2_1, w2_o, cpv_lt, w1_1]
    · intro j hj
      by_cases e : j = L
      · subst e
        exact ⟨u, hu, by simp (disch := omega) [wf_1, wf_self, wf_o, wa_o, wa_self, wa_2, w1_o, w1_2, w2_1, w2_o, cpv_lt, w1_1], by simp (disch := omega) [wf_1, wf_self, wf_o, wa_o, wa_self, wa_2, w1_o, w1_2, w2_1, w2_o, cpv_lt, w1_1]⟩
      · obtain ⟨v, hv, a, b⟩ := t3 j (by omega)
        exact ⟨v, hv, by simp (disch := omega) [wf_1, wf_self, wf_o, wa_o, wa_self, wa_2, w1_o, w1_2, w2_1, w2_o, cpv_lt, w1_1, e, a], by simp (disch := omega) [wf_1, wf_self, wf_o, wa_o, wa_self, wa_2, w1_o, w1_2, w2_1, w2_o, cpv_lt, w1_1, e, b]⟩
  · have : L = 60 := by omega
    subst this
    refine W2_same (r := nm 3) h0 ?_ ?_
    · unfold fX8_type fX3_append
      simp (disch := first | omega | (simp only [ln_3, ln_4, ln_5, ln_6, ln_7, ln_8, ln_9, ln_10, ln_11, ln_13, ln_15, ln_17, ln_18, ln_19, ln_20, ln_21, ln_22, ln_23, ln_25, ln_26, ln_27, ln_28, ln_29, ln_30, ln_31, ln_33, ln_234, ln_236, ln_237, ln_238, ln_239, ln_240, ln_241, ln_242, ln_243, ln_244]; omega)) only [Nat.reduceAdd, t1, nlit, nm_def, nI_add, nI_mul, nI_sub, nI_div, nI_rem, nI_clamp, nI_leI, nI_ltI, nI_eq, inb_nI, nzb_nI, nI_nm, nm_nI, nI_le_nm, nI_lt_nm, nm_le_nI, nm_lt_nI, cal_e, bnd_e, asr_e, jn_e, if_true, l1, Nat.lt_irrefl, if_false, Nat.not_lt_zero]
    · unfold fX9_type
      simp only [t2, nlit, if_true, nm_def, wp_some, implies_true, and_self]
theorem st_clear {N : Nat} {M : Mem} (h : IV N M) : W2 N (fX8_clearText 0) (fX9_clearText 235) M := by
  obtain ⟨g1, ⟨q, st, g2⟩, g3, L, hL, t1, t2, t3⟩ := h
  unfold W2 fX8_clearText
  simp only [wp_bnd, wp_some, Nat.reduceAdd]
  unfold fX9_clearText
  simp (disch := omega) only [wp_bnd, wp_some, wf_1, wf_self, wf_o, wa_o, wa_self, wa_2, w1_o, w1_2, w2_1, w2_o, cpv_lt]
  refine ⟨?_, NowR_f g1 ⟨fun k _ _ => ⟨?_, rfl⟩, ?_, rfl⟩, ⟨q, st, HI_f g2 ⟨fun k _ _ => ⟨?_, rfl⟩, ?_, ?_, rfl⟩⟩, SN_f g3 ⟨fun k _ _ => ⟨?_, rfl⟩, ?_, ?_, ?_, rfl⟩, 0, by omega, ?_, ?_, ?_⟩
  · rw [t1, t2]
  · simp (disch := omega) only [wf_1, wf_self, wf_o, wa_o, wa_self, wa_2, w1_o, w1_2, w2_1, w2_o, cpv_lt]
  · simp (disch := omega) only [wf_1, wf_self, wf_o, wa_o, wa_self, wa_2, w1_o, w1_2, w2_1, w2_o, cpv_lt]
  · simp (disch := omega) only [wf_1, wf_self, wf_o, wa_o, wa_self, wa_2, w1_o, w1_2, w2_1, w2_o, cpv_lt]
  · simp (disch := omega) [wf_1, wf_self, wf_o, wa_o, wa_self, wa_2, w1_o, w1_2, w2_1, w2_o, cpv_lt, w1_1]
  · simp (disch := omega) only [wf_1, wf_self, wf_o, wa_o, wa_self, wa_2, w1_o, w1_2, w2_1, w2_o, cpv_lt]
  · simp (disch := omega) only [wf_1, wf_self, wf_o, wa_o, wa_self, wa_2, w1_o, w1_2, w2_1, w2_o, cpv_lt]
  · simp (disch := omega) only [wf_1, wf_self, wf_o, wa_o, wa_self, wa_2, w1_o, w1_2, w2_1, w2_o, cpv_lt]
  · simp (disch := omega) [wf_1, wf_self, wf_o, wa_o, wa_self, wa_2, w1_o, w1_2, w2_1, w2_o, cpv_lt, w1_1]
  · simp (disch := omega) only [wf_1, wf_self, wf_o, wa_o, wa_self, wa_2, w1_o, w1_2, w2_1, w2_o, cpv_lt]
  · simp (disch := omega) [wf_1, wf_self, wf_o, wa_o, wa_self, wa_2, w1_o, w1_2, w2_1, w2_o, cpv_lt, w1_1, nlit]
  · simp (disch := omega) [wf_1, wf_self, wf_o, wa_o, wa_self, wa_2, w1_o, w1_2, w2_1, w2_o, cpv_lt, w1_1, nlit]
  · intro j hj
    omega
