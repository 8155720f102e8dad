/-! PURE: what is asked (5) -/
theorem st_verdict {N : Nat} {M : Mem} {a1 : Int32} (h : IV N M) (hN : N < 2 ^ 30) : W2 N (fX8_verdict 0 a1) (fX9_verdict 235 a1) M := by
  obtain ⟨r, c, t, e, dt, H⟩ := h.nf
  have hd := H.hd
  have m31 := H.m31
  have m48 := H.m48
  have hn : ∀ x : Int32, (x < nI 0 ∨ nI (r * c) ≤ x) → W2 N (fX8_verdict 0 x) (fX9_verdict 235 x) M := fun x hx => by
    refine W2_same' (r := nm 1) h ?_ ?_
    · unfold fX8_verdict
      simp only [Nat.reduceAdd, e_hasn H.hr H.hc hx, cal_e, nlit, nm_def, if_true]
    · unfold fX9_verdict
      simp only [r_noKeyn H.sr H.sc hx H.m0 m48, cal_e, nlit, nm_def, n10, if_false]
  rcases pk_ix a1 m31 with hx | hx | ⟨k, hk, rfl⟩
  · exact hn _ (.inl hx)
  · exact hn _ (.inr hx)
  have hkr := divr hk
  obtain ⟨b7, b8, b9⟩ := H.bits hk
  obtain ⟨s1, s2, s3⟩ := e_isBit H.hc (by omega) (by omega) (show k / c < 6 by omega) (show k < 2 ^ 31 by omega)
  have e0 := e_has H.hr H.hc hk m31
  have f0 := r_noKey H.sr H.sc hk m48
  by_cases g : M.1 236 (68 + k) < nI 0
  · refine W2_same' (r := nm 5) h ?_ ?_
    · unfold fX8_verdict
      simp only [Nat.reduceAdd, if_true, if_false, e0, cal_e, nlit, nm_def, n10, s2, b8, b2_if, g, decide_true, Bool.not_true, b2_f, b2_t]
    · unfold fX9_verdict
      simp (disch := omega) only [Nat.reduceAdd, if_true, if_false, f0, cal_e, nlit, nm_def, n10, r_isSeen, b2_if, g, decide_true, Bool.not_true, b2_f, b2_t]
  · refine W2_same' (r := jS (M.1 236) (M.2 240) k t dt) h ?_ ?_
    · unfold fX8_verdict
      simp only [Nat.reduceAdd, if_true, if_false, e0, cal_e, nlit, nm_def, n10, s2, b8, b2_if, g, decide_false, Bool.not_false, Bool.true_eq_false, b2_f, b2_t, e_fate H hN hk g]
    · unfold fX9_verdict
      simp (disch := omega) only [Nat.reduceAdd, if_true, if_false, f0, cal_e, nlit, nm_def, n10, r_isSeen, b2_if, g, decide_false, Bool.not_false, Bool.true_eq_false, b2_f, b2_t, r_judged H hN hk g]
theorem e_isMean {w : Nat} (M : Mem) (hw : w < 2) : fX8_isMean (nI w) M = some (nI 1, M) := by
  rcases (show w = 0 ∨ w = 1 by omega) with rfl | rfl
  · rfl
  · rfl
theorem e_isMeann {x : Int32} (M : Mem) (hx : x < nI 0 ∨ nI 2 ≤ x) : fX8_isMean x M = some (nI 0, M) := by
  have h0 := out_ne (k := 0) hx (by omega) (by omega)
  have h1 := out_ne (k := 1) hx (by omega) (by omega)
  unfold fX8_isMean
  simp only [nlit, jn_e, h0, h1, if_false]
theorem e_meanOf {r c t e dt N p w : Nat} {M : Mem} (H : NF r c t e dt N M) (hp : p < 2) (hw : w < 2) : fX8_meanOf 0 (nI p) (nI w) M = some (M.2 240 (2 * w + p), M) ∧ gm (M.2 240 (2 * w + p)) := by
  obtain ⟨⟨⟨v1, v2, v3, v4⟩, _⟩, ek, _⟩ := H.ty hp
  unfold fX8_meanOf
  rcases (show w = 0 ∨ w = 1 by omega) with rfl | rfl
  · refine ⟨?_, by simpa using v3⟩
    simp only [Nat.reduceAdd, e_typOf M hp, cal_e, ek, asr_e, nlit, if_true, v1, Nat.mul_zero, Nat.zero_add]
  · refine ⟨?_, by simpa using v4⟩
    simp only [Nat.reduceAdd, e_typOf M hp, cal_e, ek, asr_e, nlit, n10, if_false, v2, Nat.mul_one]
theorem st_style {N : Nat} {M : Mem} {a1 a2 : Int32} (h : IV N M) (hN : N < 2 ^ 30) : W2 N (fX8_style 0 a1 a2) (fX9_style 235 a1 a2) M := by
  obtain ⟨r, c, t, e, dt, H⟩ := h.nf
  have hn : ∀ x : Int32, (x < nI 0 ∨ nI 2 ≤ x) → W2 N (fX8_style 0 x a2) (fX9_style 235 x a2) M := fun x hx => by
    refine W2_same' (r := 2143289344) h ?_ ?_
    · unfold fX8_style
      simp only [e_isTypn M hx, cal_e, nlit, if_true]
    · unfold fX9_style
      simp only [r_noTypn M hx, cal_e, nlit, n10, if_false, jn_e]
  rcases pk_ix a1 (show 2 < 2 ^ 31 by decide) with hx | hx | ⟨p, hp, rfl⟩
  · exact hn _ (.inl hx)
  · exact hn _ (.inr hx)
  have e0 := e_isTyp M hp
  have f0 := r_noTyp M hp
  have hn2 : ∀ x : Int32, (x < nI 0 ∨ nI 2 ≤ x) → W2 N (fX8_style 0 (nI p) x) (fX9_style 235 (nI p) x) M := fun x hx => by
    have hx' : x < nI 0 ∨ nI 1 < x := by
      rw [lt_of_le_nI (by decide)]
      exact hx
    refine W2_same' (r := 2143289344) h ?_ ?_
    · unfold fX8_style
      simp only [Nat.reduceAdd, if_true, if_false, e0, cal_e, nlit, nm_def, n10, e_isMeann M hx]
    · unfold fX9_style
      simp only [Nat.reduceAdd, if_true, if_false, f0, cal_e, nlit, nm_def, n10, jn_e, e_in0 M hx']
  rcases pk_ix a2 (show 2 < 2 ^ 31 by decide) with hx | hx | ⟨w, hw, rfl⟩
  · exact hn2 _ (.inl hx)
  · exact hn2 _ (.inr hx)
  refine W2_same' (r := M.2 240 (2 * w + p)) h ?_ ?_
  · unfold fX8_style
    simp only [Nat.reduceAdd, if_true, if_false, e0, cal_e, nlit, nm_def, n10, e_isMean M hw, (e_meanOf H hp hw).1]
  · unfold fX9_style
    simp (disch := first | omega | (simp only [ln_3, ln_4, ln_5, ln_6, ln_7, ln_8, ln_9, ln_10, ln_11, ln_13, ln_15, ln_17, ln_18, ln_19, ln_20, ln_21, ln_22, ln_23, ln_25, ln_26, ln_27, ln_28, ln_29, ln_30, ln_31, ln_33, ln_234, ln_236, ln_237, ln_238, ln_239, ln_240, ln_241, ln_242, ln_243, ln_244]; omega)) only [Nat.reduceAdd, if_true, if_false, f0, cal_e, nlit, nm_def, n10, e_in1, Nat.one_ne_zero, nlit, nm_def, nI_add, nI_mul, nI_sub, nI_div, nI_rem, nI_clamp, nI_leI, nI_ltI, nI_eq, inb_nI, nzb_nI, nI_nm, nm_nI, nI_le_nm, nI_lt_nm, nm_le_nI, nm_lt_nI, cal_e, bnd_e, asr_e, jn_e, if_true, ln_240]
theorem st_hundredths {N : Nat} {M : Mem} {a1 a2 : Int32} (h : IV N M) (hN : N < 2 ^ 30) : W2 N (fX8_hundredths 0 a1 a2) (fX9_hundredths 235 a1 a2) M := by
  obtain ⟨r, c, t, e, dt, H⟩ := h.nf
  have hn : ∀ x : Int32, (x < nI 0 ∨ nI 2 ≤ x) → W2 N (fX8_hundredths 0 x a2) (fX9_hundredths 235 x a2) M := fun x hx => by
    refine W2_same' (r := nm 1) h ?_ ?_
    · unfold fX8_hundredths
      simp only [e_isTypn M hx, cal_e, nlit, nm_def, if_true]
    · unfold fX9_hundredths
      simp only [r_noTypn M hx, cal_e, nlit, nm_def, n10, if_false]
  rcases pk_ix a1 (show 2 < 2 ^ 31 by decide) with hx | hx | ⟨p, hp, rfl⟩
  · exact hn _ (.inl hx)
  · exact hn _ (.inr hx)
  have e0 := e_isTyp M hp
  have f0 := r_noTyp M hp
  have hn2 : ∀ x : Int32, (x < nI 0 ∨ nI 2 ≤ x) → W2 N (fX8_hundredths 0 (nI p) x) (fX9_hundredths 235 (nI p) x) M := fun x hx => by
    have hx' : x < nI 0 ∨ nI 1 < x := by
      rw [lt_of_le_nI (by decide)]
      exact hx
    refine W2_same' (r := nm 2) h ?_ ?_
    · unfold fX8_hundredths
      simp only [Nat.reduceAdd, if_true, if_false, e0, cal_e, nlit, nm_def, n10, e_isMeann M hx]
    · unfold fX9_hundredths
      simp only [Nat.reduceAdd, if_true, if_false, f0, cal_e, nlit, nm_def, n10, jn_e, e_in0 M hx']
  rcases pk_ix a2 (show 2 < 2 ^ 31 by decide) with hx | hx | ⟨w, hw, rfl⟩
  · exact hn2 _ (.inl hx)
  · exact hn2 _ (.inr hx)
  obtain ⟨k1, k2⟩ := e_meanOf H hp hw
  have k3 := FP.Core.fmul_mag (a := M.2 240 (2 * w + p)) (b := 1120403456) (Ka := 153) (Kb := 134) (gm_K k2).1 (by decide) (by decide) (by decide)
  have k4 : nnb (FP.fmul (M.2 240 (2 * w + p)) 1120403456) = true := nnb_K k3 (by decide)
  refine W2_same' (r := FP.f2i (FP.fmul (M.2 240 (2 * w + p)) 1120403456)) h ?_ ?_
  · unfold fX8_hundredths
    simp only [Nat.reduceAdd, if_true, if_false, e0, cal_e, nlit, nm_def, n10, e_isMean M hw, k1, k4, asr_e, bnd_e]
  · unfold fX9_hundredths
    simp (disch := first | omega | (simp only [ln_3, ln_4, ln_5, ln_6, ln_7, ln_8, ln_9, ln_10, ln_11, ln_13, ln_15, ln_17, ln_18, ln_19, ln_20, ln_21, ln_22, ln_23, ln_25, ln_26, ln_27, ln_28, ln_29, ln_30, ln_31, ln_33, ln_234, ln_236, ln_237, ln_238, ln_239, ln_240, ln_241, ln_242, ln_243, ln_244]; omega)) only [Nat.reduceAdd, if_true, if_false, f0, cal_e, nlit, nm_def, n10, e_in1, Nat.one_ne_zero, nlit, nm_def, nI_add, nI_mul, nI_sub, nI_div, nI_rem, nI_clamp, nI_leI, nI_ltI, nI_eq, inb_nI, nzb_nI, nI_nm, nm_nI, nI_le_nm, nI_lt_nm, nm_le_nI, nm_lt_nI, cal_e, bnd_e, asr_e, jn_e, if_true, ln_240, k4]
theorem st_distance {N : Nat} {M : Mem} {a1 a2 a3 : Int32} (h : IV N M) (hN : N < 2 ^ 30) : W2 N (fX8_distance 0 a1 a2 a3) (fX9_distance 235 a1 a2 a3) M := by
  obtain ⟨r, c, t, e, dt, H⟩ := h.nf
  have hn : ∀ x : Int32, (x < nI 0 ∨ nI 2 ≤ x) → W2 N (fX8_distance 0 x a2 a3) (fX9_distance 235 x a2 a3) M := fun x hx => by
    refine W2_same' (r := 2143289344) h ?_ ?_
    · unfold fX8_distance
      simp only [e_isTypn M hx, cal_e, nlit, if_true]
    · unfold fX9_distance
      simp only [r_noTypn M hx, cal_e, nlit, n10, if_false, jn_e]
  rcases pk_ix a1 (show 2 < 2 ^ 31 by decide) with hx | hx | ⟨p, hp, rfl⟩
  · exact hn _ (.inl hx)
  · exact hn _ (.inr hx)
  have e0 := e_isTyp M hp
  have f0 := r_noTyp M hp
  rcases neg_nI (x := a2) with hx | ⟨j, hj, rfl⟩
  · refine W2_same' (r := 2143289344) h ?_ ?_
    · unfold fX8_distance
      simp only [Nat.reduceAdd, if_true, if_false, e0, cal_e, nlit, nm_def, n10, hx]
    · unfold fX9_distance
      simp only [Nat.reduceAdd, if_true, if_false, f0, cal_e, nlit, nm_def, n10, jn_e, hx]
  have hj0 : ¬ (nI j < nI 0) := nI_nlt0 hj
  have hn2 : ∀ x : Int32, (x < nI 0 ∨ nI 10000 ≤ x) → W2 N (fX8_distance 0 (nI p) (nI j) x) (fX9_distance 235 (nI p) (nI j) x) M := fun x hx => by
    have hx' : x < nI 0 ∨ nI 9999 < x := by
      rw [lt_of_le_nI (by decide)]
      exact hx
    refine W2_same' (r := 2143289344) h ?_ ?_
    · unfold fX8_distance
      rcases hx' with hx' | hx'
      · simp only [Nat.reduceAdd, if_true, if_false, e0, cal_e, nlit, nm_def, n10, hj0, hx']
      · have hx9 : ¬ x ≤ nI 9999 := by rw [Int32.le_iff_toInt_le]; rw [Int32.lt_iff_toInt_lt] at hx'; omega
        simp only [Nat.reduceAdd, if_true, if_false, e0, cal_e, nlit, nm_def, n10, hj0, hx9, ite_self]
    · unfold fX9_distance
      simp only [Nat.reduceAdd, if_true, if_false, f0, cal_e, nlit, nm_def, n10, jn_e, hj0, e_in0 M hx']
  rcases pk_ix a3 (show 10000 < 2 ^ 31 by decide) with hx | hx | ⟨w, hw, rfl⟩
  · exact hn2 _ (.inl hx)
  · exact hn2 _ (.inr hx)
  have hw0 : ¬ (nI w < nI 0) := nI_nlt0 (by omega)
  obtain ⟨⟨⟨v1, v2, v3, v4⟩, v5, _⟩, ek, _⟩ := H.ty hp
  refine W2_same' (r := offS (M.1 236) (M.2 240) p j (nI w)) h ?_ ?_
  · unfold fX8_distance
    simp (disch := omega) only [Nat.reduceAdd, if_true, if_false, e0, cal_e, nlit, nm_def, n10, hj0, hw0, nI_leI, show w ≤ 9999 by omega, e_typOf M hp, ek, asr_e, e_dist (s := M.1 236) (φ := M.2 240) (dwell := nI w) v1 v2 v3 v4 v5 (by omega) hj]
  · unfold fX9_distance
    simp (disch := omega) only [Nat.reduceAdd, if_true, if_false, f0, cal_e, nlit, nm_def, n10, jn_e, hj0, e_in1, Nat.one_ne_zero, nlit, nm_def, nI_add, nI_mul, nI_sub, nI_div, nI_rem, nI_clamp, nI_leI, nI_ltI, nI_eq, inb_nI, nzb_nI, nI_nm, nm_nI, nI_le_nm, nI_lt_nm, nm_le_nI, nm_lt_nI, r_off (dwell := nI w) hp v3 v4 v5 (show N + 1 ≤ 2 ^ 31 by omega) hj]
theorem st_count {N : Nat} {M : Mem} {a1 : Int32} (h : IV N M) (hN : N < 2 ^ 30) : W2 N (fX8_count 0 a1) (fX9_count 235 a1) M := by
  obtain ⟨r, c, t, e, dt, H⟩ := h.nf
  have h0 := h
  obtain ⟨_, ⟨q, st, y1, y2, y3, _⟩, _, L, _, y4, y5, _⟩ := h0
  have hd := H.hd
  have tN := H.tN
  obtain ⟨_, _, _, v4, v5, _⟩ := H.ty0
  obtain ⟨_, _, _, w4, w5, _⟩ := H.ty1
  obtain ⟨c1, c2, c3⟩ := H.counts
  have hn : ∀ x : Int32, (x < nI 0 ∨ nI 16 ≤ x) → W2 N (fX8_count 0 x) (fX9_count 235 x) M := fun x hx => by
    have o : ∀ k, k < 16 → ¬ x = nI k := fun k hk => out_ne hx hk (by decide)
    refine W2_same' (r := nm 2) h ?_ ?_
    · unfold fX8_count
      simp only [nlit, nm_def, o 0 (by decide), o 1 (by decide), o 2 (by decide), o 3 (by decide), o 4 (by decide), o 5 (by decide), o 6 (by decide), o 7 (by decide), o 8 (by decide), o 9 (by decide), o 10 (by decide), o 11 (by decide), o 12 (by decide), o 13 (by decide), o 14 (by decide), o 15 (by decide), if_false]
    · unfold fX9_count
      simp only [nlit, nm_def, jn_e, o 0 (by decide), o 1 (by decide), o 2 (by decide), o 3 (by decide), o 4 (by decide), o 5 (by decide), o 6 (by decide), o 7 (by decide), o 8 (by decide), o 9 (by decide), o 10 (by decide), o 11 (by decide), o 12 (by decide), o 13 (by decide), o 14 (by decide), o 15 (by decide), if_false]
  rcases pk_ix a1 (show 16 < 2 ^ 31 by decide) with hx | hx | ⟨w, hw, rfl⟩
  · exact hn _ (.inl hx)
  · exact hn _ (.inr hx)
  have f16 : ∀ a, a < 16 → ∀ b, b < 16 → (nI a = nI b) = (a = b) := fun a ha b hb => by rw [nI_eq (by omega) (by omega)]
  rcases (show w = 0 ∨ w = 1 ∨ w = 2 ∨ w = 3 ∨ w = 4 ∨ w = 5 ∨ w = 6 ∨ w = 7 ∨ w = 8 ∨ w = 9 ∨ w = 10 ∨ w = 11 ∨ w = 12 ∨ w = 13 ∨ w = 14 ∨ w = 15 by omega) with rfl | rfl | rfl | rfl | rfl | rfl | rfl | rfl | rfl | rfl | rfl | rfl | rfl | rfl | rfl | rfl
  · refine W2_same' (r := nI t) h ?_ ?_
    · unfold fX8_count
      simp (disch := omega) only [Nat.reduceAdd, nlit, f16, Nat.reduceEqDiff, if_true, if_false, cal_e, H.t1, Nat.add_zero, Nat.zero_add]
    · unfold fX9_count
      simp (disch := first | omega | (simp only [ln_3, ln_4, ln_5, ln_6, ln_7, ln_8, ln_9, ln_10, ln_11, ln_13, ln_15, ln_17, ln_18, ln_19, ln_20, ln_21, ln_22, ln_23, ln_25, ln_26, ln_27, ln_28, ln_29, ln_30, ln_31, ln_33, ln_234, ln_236, ln_237, ln_238, ln_239, ln_240, ln_241, ln_242, ln_243, ln_244]; omega)) only [jn_e, Nat.reduceAdd, nlit, f16, Nat.reduceEqDiff, if_true, if_false, cal_e, inb_nI, nI_clamp, asr_e, nzb_nI, nI_rem, ln_236, H.t2]
  · refine W2_same' (r := nI r) h ?_ ?_
    · unfold fX8_count
      simp (disch := omega) only [Nat.reduceAdd, nlit, f16, Nat.reduceEqDiff, if_true, if_false, cal_e, H.hr, Nat.add_zero, Nat.zero_add]
    · unfold fX9_count
      simp (disch := first | omega | (simp only [ln_3, ln_4, ln_5, ln_6, ln_7, ln_8, ln_9, ln_10, ln_11, ln_13, ln_15, ln_17, ln_18, ln_19, ln_20, ln_21, ln_22, ln_23, ln_25, ln_26, ln_27, ln_28, ln_29, ln_30, ln_31, ln_33, ln_234, ln_236, ln_237, ln_238, ln_239, ln_240, ln_241, ln_242, ln_243, ln_244]; omega)) only [jn_e, Nat.reduceAdd, nlit, f16, Nat.reduceEqDiff, if_true, if_false, cal_e, inb_nI, nI_clamp, asr_e, nzb_nI, nI_rem, ln_236, H.sr]
  · refine W2_same' (r := nI c) h ?_ ?_
    · unfold fX8_count
      simp (disch := omega) only [Nat.reduceAdd, nlit, f16, Nat.reduceEqDiff, if_true, if_false, cal_e, H.hc, Nat.add_zero, Nat.zero_add]
    · unfold fX9_count
      simp (disch := first | omega | (simp only [ln_3, ln_4, ln_5, ln_6, ln_7, ln_8, ln_9, ln_10, ln_11, ln_13, ln_15, ln_17, ln_18, ln_19, ln_20, ln_21, ln_22, ln_23, ln_25, ln_26, ln_27, ln_28, ln_29, ln_30, ln_31, ln_33, ln_234, ln_236, ln_237, ln_238, ln_239, ln_240, ln_241, ln_242, ln_243, ln_244]; omega)) only [jn_e, Nat.reduceAdd, nlit, f16, Nat.reduceEqDiff, if_true, if_false, cal_e, inb_nI, nI_clamp, asr_e, nzb_nI, nI_rem, ln_236, H.sc]
  · refine W2_same' (r := nI (cnt (r * c) (fun k => !decide (M.1 236 (20 + k) < nI 0)))) h ?_ ?_
    · unfold fX8_count
      simp (disch := omega) only [Nat.reduceAdd, nlit, f16, Nat.reduceEqDiff, if_true, if_false, cal_e, c1, Nat.add_zero, Nat.zero_add]
    · unfold fX9_count
      simp (disch := first | omega | (simp only [ln_3, ln_4, ln_5, ln_6, ln_7, ln_8, ln_9, ln_10, ln_11, ln_13, ln_15, ln_17, ln_18, ln_19, ln_20, ln_21, ln_22, ln_23, ln_25, ln_26, ln_27, ln_28, ln_29, ln_30, ln_31, ln_33, ln_234, ln_236, ln_237, ln_238, ln_239, ln_240, ln_241, ln_242, ln_243, ln_244]; omega)) only [jn_e, Nat.reduceAdd, nlit, f16, Nat.reduceEqDiff, if_true, if_false, cal_e, inb_nI, nI_clamp, asr_e, nzb_nI, nI_rem, ln_236, r_keysThat H hN (.inl rfl)]
  · refine W2_same' (r := nI (cnt (r * c) (fun k => !decide (M.1 236 (68 + k) < nI 0)))) h ?_ ?_
    · unfold fX8_count
      simp (disch := omega) only [Nat.reduceAdd, nlit, f16, Nat.reduceEqDiff, if_true, if_false, cal_e, c2, Nat.add_zero, Nat.zero_add]
    · unfold fX9_count
      simp (disch := first | omega | (simp only [ln_3, ln_4, ln_5, ln_6, ln_7, ln_8, ln_9, ln_10, ln_11, ln_13, ln_15, ln_17, ln_18, ln_19, ln_20, ln_21, ln_22, ln_23, ln_25, ln_26, ln_27, ln_28, ln_29, ln_30, ln_31, ln_33, ln_234, ln_236, ln_237, ln_238, ln_239, ln_240, ln_241, ln_242, ln_243, ln_244]; omega)) only [jn_e, Nat.reduceAdd, nlit, f16, Nat.reduceEqDiff, if_true, if_false, cal_e, inb_nI, nI_clamp, asr_e, nzb_nI, nI_rem, ln_236, r_keysThat H hN (.inr (.inl rfl))]
  · refine W2_same' (r := nI (cnt (r * c) (fun k => decide (M.1 236 (116 + k) = nI 1)))) h ?_ ?_
    · unfold fX8_count
      simp (disch := omega) only [Nat.reduceAdd, nlit, f16, Nat.reduceEqDiff, if_true, if_false, cal_e, c3, Nat.add_zero, Nat.zero_add]
    · unfold fX9_count
      simp (disch := first | omega | (simp only [ln_3, ln_4, ln_5, ln_6, ln_7, ln_8, ln_9, ln_10, ln_11, ln_13, ln_15, ln_17, ln_18, ln_19, ln_20, ln_21, ln_22, ln_23, ln_25, ln_26, ln_27, ln_28, ln_29, ln_30, ln_31, ln_33, ln_234, ln_236, ln_237, ln_238, ln_239, ln_240, ln_241, ln_242, ln_243, ln_244]; omega)) only [jn_e, Nat.reduceAdd, nlit, f16, Nat.reduceEqDiff, if_true, if_false, cal_e, inb_nI, nI_clamp, asr_e, nzb_nI, nI_rem, ln_236, r_keysThat H hN (.inr (.inr rfl))]
  · refine W2_same' (r := nI e) h ?_ ?_
    · unfold fX8_count
      simp (disch := omega) only [Nat.reduceAdd, nlit, f16, Nat.reduceEqDiff, if_true, if_false, cal_e, H.e1, Nat.add_zero, Nat.zero_add]
    · unfold fX9_count
      simp (disch := first | omega | (simp only [ln_3, ln_4, ln_5, ln_6, ln_7, ln_8, ln_9, ln_10, ln_11, ln_13, ln_15, ln_17, ln_18, ln_19, ln_20, ln_21, ln_22, ln_23, ln_25, ln_26, ln_27, ln_28, ln_29, ln_30, ln_31, ln_33, ln_234, ln_236, ln_237, ln_238, ln_239, ln_240, ln_241, ln_242, ln_243, ln_244]; omega)) only [jn_e, Nat.reduceAdd, nlit, f16, Nat.reduceEqDiff, if_true, if_false, cal_e, inb_nI, nI_clamp, asr_e, nzb_nI, nI_rem, ln_236, H.e2]
  · refine W2_same' (r := M.1 236 10 + M.1 236 11) h ?_ ?_
    · unfold fX8_count
      simp (disch := omega) only [Nat.reduceAdd, nlit, f16, Nat.reduceEqDiff, if_true, if_false, cal_e, v4, w4, Nat.add_zero, Nat.zero_add]
    · unfold fX9_count
      simp (disch := first | omega | (simp only [ln_3, ln_4, ln_5, ln_6, ln_7, ln_8, ln_9, ln_10, ln_11, ln_13, ln_15, ln_17, ln_18, ln_19, ln_20, ln_21, ln_22, ln_23, ln_25, ln_26, ln_27, ln_28, ln_29, ln_30, ln_31, ln_33, ln_234, ln_236, ln_237, ln_238, ln_239, ln_240, ln_241, ln_242, ln_243, ln_244]; omega)) only [jn_e, Nat.reduceAdd, nlit, f16, Nat.reduceEqDiff, if_true, if_false, cal_e, inb_nI, nI_clamp, asr_e, nzb_nI, nI_rem, ln_236]
  · refine W2_same' (r := M.1 236 14) h ?_ ?_
    · unfold fX8_count
      simp (disch := omega) only [Nat.reduceAdd, nlit, f16, Nat.reduceEqDiff, if_true, if_false, cal_e, H.gh, Nat.add_zero, Nat.zero_add]
    · unfold fX9_count
      simp (disch := first | omega | (simp only [ln_3, ln_4, ln_5, ln_6, ln_7, ln_8, ln_9, ln_10, ln_11, ln_13, ln_15, ln_17, ln_18, ln_19, ln_20, ln_21, ln_22, ln_23, ln_25, ln_26, ln_27, ln_28, ln_29, ln_30, ln_31, ln_33, ln_234, ln_236, ln_237, ln_238, ln_239, ln_240, ln_241, ln_242, ln_243, ln_244]; omega)) only [jn_e, Nat.reduceAdd, nlit, f16, Nat.reduceEqDiff, if_true, if_false, cal_e, inb_nI, nI_clamp, asr_e, nzb_nI, nI_rem, ln_236]
  · refine W2_same' (r := nI (cnt dt (fun d => decide (M.1 236 (404 + 7 * d + 3) < nI 0)))) h ?_ ?_
    · unfold fX8_count
      simp (disch := omega) only [Nat.reduceAdd, nlit, f16, Nat.reduceEqDiff, if_true, if_false, cal_e, H.opn, Nat.add_zero, Nat.zero_add]
    · unfold fX9_count
      simp (disch := first | omega | (simp only [ln_3, ln_4, ln_5, ln_6, ln_7, ln_8, ln_9, ln_10, ln_11, ln_13, ln_15, ln_17, ln_18, ln_19, ln_20, ln_21, ln_22, ln_23, ln_25, ln_26, ln_27, ln_28, ln_29, ln_30, ln_31, ln_33, ln_234, ln_236, ln_237, ln_238, ln_239, ln_240, ln_241, ln_242, ln_243, ln_244]; omega)) only [jn_e, Nat.reduceAdd, nlit, f16, Nat.reduceEqDiff, if_true, if_false, cal_e, inb_nI, nI_clamp, asr_e, nzb_nI, nI_rem, ln_236, r_open H]
  · refine W2_same' (r := nI dt) h ?_ ?_
    · unfold fX8_count
      simp (disch := omega) only [Nat.reduceAdd, nlit, f16, Nat.reduceEqDiff, if_true, if_false, cal_e, H.d1, Nat.add_zero, Nat.zero_add]
    · unfold fX9_count
      simp (disch := first | omega | (simp only [ln_3, ln_4, ln_5, ln_6, ln_7, ln_8, ln_9, ln_10, ln_11, ln_13, ln_15, ln_17, ln_18, ln_19, ln_20, ln_21, ln_22, ln_23, ln_25, ln_26, ln_27, ln_28, ln_29, ln_30, ln_31, ln_33, ln_234, ln_236, ln_237, ln_238, ln_239, ln_240, ln_241, ln_242, ln_243, ln_244]; omega)) only [jn_e, Nat.reduceAdd, nlit, f16, Nat.reduceEqDiff, if_true, if_false, cal_e, inb_nI, nI_clamp, asr_e, nzb_nI, nI_rem, ln_236, H.d2]
  · refine W2_same' (r := M.1 236 12 + M.1 236 13) h ?_ ?_
    · unfold fX8_count
      simp (disch := omega) only [Nat.reduceAdd, nlit, f16, Nat.reduceEqDiff, if_true, if_false, cal_e, v5, w5, Nat.add_zero, Nat.zero_add]
    · unfold fX9_count
      simp (disch := first | omega | (simp only [ln_3, ln_4, ln_5, ln_6, ln_7, ln_8, ln_9, ln_10, ln_11, ln_13, ln_15, ln_17, ln_18, ln_19, ln_20, ln_21, ln_22, ln_23, ln_25, ln_26, ln_27, ln_28, ln_29, ln_30, ln_31, ln_33, ln_234, ln_236, ln_237, ln_238, ln_239, ln_240, ln_241, ln_242, ln_243, ln_244]; omega)) only [jn_e, Nat.reduceAdd, nlit, f16, Nat.reduceEqDiff, if_true, if_false, cal_e, inb_nI, nI_clamp, asr_e, nzb_nI, nI_rem, ln_236]
  · refine W2_same' (r := M.1 236 15) h ?_ ?_
    · unfold fX8_count
      simp (disch := omega) only [Nat.reduceAdd, nlit, f16, Nat.reduceEqDiff, if_true, if_false, cal_e, H.gb, Nat.add_zero, Nat.zero_add]
    · unfold fX9_count
      simp (disch := first | omega | (simp only [ln_3, ln_4, ln_5, ln_6, ln_7, ln_8, ln_9, ln_10, ln_11, ln_13, ln_15, ln_17, ln_18, ln_19, ln_20, ln_21, ln_22, ln_23, ln_25, ln_26, ln_27, ln_28, ln_29, ln_30, ln_31, ln_33, ln_234, ln_236, ln_237, ln_238, ln_239, ln_240, ln_241, ln_242, ln_243, ln_244]; omega)) only [jn_e, Nat.reduceAdd, nlit, f16, Nat.reduceEqDiff, if_true, if_false, cal_e, inb_nI, nI_clamp, asr_e, nzb_nI, nI_rem, ln_236]
  · refine W2_same' (r := nI (t % r)) h ?_ ?_
    · unfold fX8_count
      simp (disch := omega) only [Nat.reduceAdd, nlit, f16, Nat.reduceEqDiff, if_true, if_false, cal_e, e_driven H hN, Nat.add_zero, Nat.zero_add]
    · unfold fX9_count
      simp (disch := first | omega | (simp only [ln_3, ln_4, ln_5, ln_6, ln_7, ln_8, ln_9, ln_10, ln_11, ln_13, ln_15, ln_17, ln_18, ln_19, ln_20, ln_21, ln_22, ln_23, ln_25, ln_26, ln_27, ln_28, ln_29, ln_30, ln_31, ln_33, ln_234, ln_236, ln_237, ln_238, ln_239, ln_240, ln_241, ln_242, ln_243, ln_244]; omega)) only [jn_e, Nat.reduceAdd, nlit, f16, Nat.reduceEqDiff, if_true, if_false, cal_e, inb_nI, nI_clamp, asr_e, nzb_nI, nI_rem, ln_236, H.t2, H.sr]
  · refine W2_same' (r := nI st) h ?_ ?_
    · unfold fX8_count
      simp (disch := omega) only [Nat.reduceAdd, nlit, f16, Nat.reduceEqDiff, if_true, if_false, cal_e, y2, Nat.add_zero, Nat.zero_add]
    · unfold fX9_count
      simp (disch := first | omega | (simp only [ln_3, ln_4, ln_5, ln_6, ln_7, ln_8, ln_9, ln_10, ln_11, ln_13, ln_15, ln_17, ln_18, ln_19, ln_20, ln_21, ln_22, ln_23, ln_25, ln_26, ln_27, ln_28, ln_29, ln_30, ln_31, ln_33, ln_234, ln_236, ln_237, ln_238, ln_239, ln_240, ln_241, ln_242, ln_243, ln_244]; omega)) only [jn_e, Nat.reduceAdd, nlit, f16, Nat.reduceEqDiff, if_true, if_false, cal_e, inb_nI, nI_clamp, asr_e, nzb_nI, nI_rem, ln_236, y3]
  · refine W2_same' (r := nI L) h ?_ ?_
    · unfold fX8_count
      simp (disch := omega) only [Nat.reduceAdd, nlit, f16, Nat.reduceEqDiff, if_true, if_false, cal_e, y4, Nat.add_zero, Nat.zero_add]
    · unfold fX9_count
      simp (disch := first | omega | (simp only [ln_3, ln_4, ln_5, ln_6, ln_7, ln_8, ln_9, ln_10, ln_11, ln_13, ln_15, ln_17, ln_18, ln_19, ln_20, ln_21, ln_22, ln_23, ln_25, ln_26, ln_27, ln_28, ln_29, ln_30, ln_31, ln_33, ln_234, ln_236, ln_237, ln_238, ln_239, ln_240, ln_241, ln_242, ln_243, ln_244]; omega)) only [jn_e, Nat.reduceAdd, nlit, f16, Nat.reduceEqDiff, if_true, if_false, cal_e, inb_nI, nI_clamp, asr_e, nzb_nI, nI_rem, ln_236, y5]
