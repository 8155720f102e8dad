/-! PURE: what is asked (2) -/
theorem e_isTyp {p : Nat} (M : Mem) (hp : p < 2) : fX5_isTypist (nI p) M = some (nI 1, M) := by
  rcases (show p = 0 ∨ p = 1 by omega) with rfl | rfl
  · rfl
  · rfl
theorem out_ne {x : Int32} {n k : Nat} (hx : x < nI 0 ∨ nI n ≤ x) (hk : k < n) (hn : n < 2 ^ 31) : ¬ x = nI k := by
  rintro rfl
  rcases hx with h | h
  · exact nI_nlt0 (by omega) h
  · rw [nI_leI (by omega) (by omega)] at h
    omega
theorem e_isTypn {x : Int32} (M : Mem) (hx : x < nI 0 ∨ nI 2 ≤ x) : fX5_isTypist x M = some (nI 0, M) := by
  have h0 := out_ne (k := 0) hx (by omega) (by omega)
  have h1 := out_ne (k := 1) hx (by omega) (by omega)
  unfold fX5_isTypist
  simp only [nlit, jn_e, h0, h1, if_false]
theorem e_typOf {p : Nat} (M : Mem) (hp : p < 2) : fX5_typistOf 1 (nI p) M = some (12 + 2 * p, M) := by
  rcases (show p = 0 ∨ p = 1 by omega) with rfl | rfl
  · rfl
  · rfl
theorem kdb6 : kdb 12 6 = true ∧ kdb 14 6 = true := by decide +kernel
theorem held_eq {r c t e dt N p : Nat} {M : Mem} (H : NF r c t e dt N M) (hp : p < 2) : cnt 48 (fun k => decide (M.1 3 k = nI p)) = cnt (r * c) (fun k => decide (M.1 236 (20 + k) = nI p)) := by
  rw [cnt_cut H.m48 (fun i h1 h2 => decide_eq_false (by rw [H.hold48 h1 h2, nm_nI (by omega) (by decide) (by decide)]; exact not_false))]
  exact cnt_congr (fun i hi => by simp only [oN_eq (H.hold hi) (show p < 2 ^ 31 by omega)])
def onv (s : Nat → Int32) (p : Nat) : Bool := !decide (s (5 + p) < nI 0) && (!decide (s (68 + (s (5 + p)).toNatClampNeg) < nI 0) && decide (s (116 + (s (5 + p)).toNatClampNeg) = nI 0))
theorem e_isOn {r c p : Nat} {M : Mem} {s : Nat → Int32} (hd : 2 ≤ r ∧ r ≤ 6 ∧ 2 ≤ c ∧ c ≤ 8) (hc : M.1 2 1 = nI c) (hp : p < 2) (hs : oN (M.1 11 p) (s (5 + p)) (r * c)) (hb : ∀ k, k < r * c → bt (M.1 9 (k / c)) (k % c) = !decide (s (68 + k) < nI 0) ∧ bt (M.1 10 (k / c)) (k % c) = decide (s (116 + k) = nI 1)) (h01 : ∀ k, k < r * c → s (116 + k) = nI 0 ∨ s (116 + k) = nI 1) :
    fX0_isShiftOn 2 (nI p) M = some (b2 (onv s p), M) := by
  have m48 := (mul48 hd).1
  unfold fX0_isShiftOn onv
  rcases hs with ⟨g1, g2⟩ | ⟨k, hk, g1, g2⟩
  · simp only [e_shiftOf hp, cal_e, g1, nlit, nm_def, if_true, g2]
    rw [show decide (nm 5 < nI 0) = true from decide_eq_true (nm_lt0 (by decide) (by decide))]
    rfl
  · have hkr := divr hk
    obtain ⟨_, s2, s3⟩ := e_isBit (M := M) hc (by omega) (by omega) (show k / c < 6 by omega) (show k < 2 ^ 31 by omega)
    simp (disch := omega) only [e_shiftOf hp, cal_e, g1, nlit, nm_def, nI_nm, if_false, g2, s2, s3, b2_if, nI_clamp, (hb k hk).1, (hb k hk).2]
    rw [show decide (nI k < nI 0) = false from decide_eq_false (nI_nlt0 (by omega))]
    cases h1 : decide (s (68 + k) < nI 0)
    · rcases h01 k hk with g | g
      · simp [g, fin9, b2]
      · simp [g, fin9, b2]
    · simp [b2]
theorem r_isOn {n p : Nat} {M : Mem} {x : Int32} (hp : p < 2) (hs : oN x (M.1 236 (5 + p)) n) (hn : n ≤ 48) : fX9_isOn 235 (nI p) M = some (b2 (onv (M.1 236) p), M) := by
  unfold fX9_isOn onv
  rcases hs with ⟨g1, g2⟩ | ⟨k, hk, g1, g2⟩
  · have h5 : nm 5 < nI 0 := nm_lt0 (by decide) (by decide)
    simp (disch := first | omega | (simp only [ln_3, ln_4, ln_5, ln_6, ln_7, ln_8, ln_9, ln_10, ln_11, ln_13, ln_15, ln_17, ln_18, ln_19, ln_20, ln_21, ln_22, ln_23, ln_25, ln_26, ln_27, ln_28, ln_29, ln_30, ln_31, ln_33, ln_234, ln_236, ln_237, ln_238, ln_239, ln_240, ln_241, ln_242, ln_243, ln_244]; omega)) only [nlit, nm_def, nI_add, nI_mul, nI_sub, nI_div, nI_rem, nI_clamp, nI_leI, nI_ltI, nI_eq, inb_nI, nzb_nI, nI_nm, nm_nI, nI_le_nm, nI_lt_nm, nm_le_nI, nm_lt_nI, cal_e, bnd_e, asr_e, jn_e, if_true, Nat.reduceAdd, ln_236, g2]
    rfl
  · simp (disch := first | omega | (simp only [ln_3, ln_4, ln_5, ln_6, ln_7, ln_8, ln_9, ln_10, ln_11, ln_13, ln_15, ln_17, ln_18, ln_19, ln_20, ln_21, ln_22, ln_23, ln_25, ln_26, ln_27, ln_28, ln_29, ln_30, ln_31, ln_33, ln_234, ln_236, ln_237, ln_238, ln_239, ln_240, ln_241, ln_242, ln_243, ln_244]; omega)) only [nlit, nm_def, nI_add, nI_mul, nI_sub, nI_div, nI_rem, nI_clamp, nI_leI, nI_ltI, nI_eq, inb_nI, nzb_nI, nI_nm, nm_nI, nI_le_nm, nI_lt_nm, nm_le_nI, nm_lt_nI, cal_e, bnd_e, asr_e, jn_e, if_true, Nat.reduceAdd, ln_236, g2, Nat.not_lt_zero, if_false, r_isSeen, b2_if, decide_false]
    cases h1 : decide (M.1 236 (68 + k) < nI 0)
    · by_cases g : M.1 236 (116 + k) = nI 0
      · simp [g, b2]
      · simp [g, b2]
    · simp [b2]
theorem NF.on {r c t e dt N p : Nat} {M : Mem} (H : NF r c t e dt N M) (hp : p < 2) : fX0_isShiftOn 2 (nI p) M = some (b2 (onv (M.1 236) p), M) ∧ fX9_isOn 235 (nI p) M = some (b2 (onv (M.1 236) p), M) :=
  ⟨e_isOn H.hd H.hc hp (H.shift hp) (fun k hk => (H.bits hk).2) (fun k hk => by
    rcases H.key hk with ⟨_, g⟩ | ⟨_, g, _⟩
    · exact .inl g
    · exact g), r_isOn hp (H.shift hp) H.m48⟩
theorem st_typist {N : Nat} {M : Mem} {a1 a2 : Int32} (h : IV N M) (hN : N < 2 ^ 30) : W2 N (fX8_typist 0 a1 a2) (fX9_typist 235 a1 a2) M := by
  obtain ⟨r, c, t, e, dt, H⟩ := h.nf
  have hn : ∀ x : Int32, (x < nI 0 ∨ nI 2 ≤ x) → W2 N (fX8_typist 0 x a2) (fX9_typist 235 x a2) M := fun x hx => by
    refine W2_same' (r := nm 1) h ?_ ?_
    · unfold fX8_typist
      simp only [e_isTypn M hx, cal_e, nlit, nm_def, if_true]
    · unfold fX9_typist
      simp only [r_noTypn M hx, cal_e, nlit, nm_def, n10, if_false]
  rcases pk_ix a1 (show 2 < 2 ^ 31 by decide) with hx | hx | ⟨p, hp, rfl⟩
  · exact hn _ (.inl hx)
  · exact hn _ (.inr hx)
  have e0 := e_isTyp M hp
  have e1 := e_typOf M hp
  have f0 := r_noTyp M hp
  have ek : kdb (12 + 2 * p) 6 = true := by
    rcases (show p = 0 ∨ p = 1 by omega) with rfl | rfl
    · exact kdb6.1
    · exact kdb6.2
  have T : tyF p (12 + 2 * p) (13 + 2 * p) N M := by
    rcases (show p = 0 ∨ p = 1 by omega) with rfl | rfl
    · exact H.ty0
    · exact H.ty1
  obtain ⟨_, t2, ⟨b, hb, t3, t3'⟩, t4, t5, ⟨m, hm, t6, t6'⟩, _⟩ := T
  by_cases q0 : a2 = nI 0
  · subst q0
    refine W2_same' (r := nI (cnt (r * c) (fun k => decide (M.1 236 (20 + k) = nI p)))) h ?_ ?_
    · unfold fX8_typist
      simp (disch := omega) only [Nat.reduceAdd, if_true, if_false, e0, cal_e, nlit, nm_def, n10, e1, ek, asr_e, e_heldBy, held_eq H hp]
    · unfold fX9_typist
      simp (disch := first | omega | (simp only [ln_3, ln_4, ln_5, ln_6, ln_7, ln_8, ln_9, ln_10, ln_11, ln_13, ln_15, ln_17, ln_18, ln_19, ln_20, ln_21, ln_22, ln_23, ln_25, ln_26, ln_27, ln_28, ln_29, ln_30, ln_31, ln_33, ln_234, ln_236, ln_237, ln_238, ln_239, ln_240, ln_241, ln_242, ln_243, ln_244]; omega)) only [Nat.reduceAdd, if_true, if_false, f0, cal_e, nlit, nm_def, n10, r_held (nI p) H.sr H.sc H.m48]
  by_cases q1 : a2 = nI 1
  · subst q1
    refine W2_same' (r := M.1 236 (5 + p)) h ?_ ?_
    · unfold fX8_typist
      simp (disch := omega) only [Nat.reduceAdd, if_true, if_false, e0, cal_e, nlit, nm_def, n10, e1, ek, asr_e, q0, e_shiftOf hp, e_orNone M (H.shift hp) (by have := H.m48; omega)]
    · unfold fX9_typist
      simp (disch := first | omega | (simp only [ln_3, ln_4, ln_5, ln_6, ln_7, ln_8, ln_9, ln_10, ln_11, ln_13, ln_15, ln_17, ln_18, ln_19, ln_20, ln_21, ln_22, ln_23, ln_25, ln_26, ln_27, ln_28, ln_29, ln_30, ln_31, ln_33, ln_234, ln_236, ln_237, ln_238, ln_239, ln_240, ln_241, ln_242, ln_243, ln_244]; omega)) only [Nat.reduceAdd, if_true, if_false, f0, cal_e, nlit, nm_def, n10, q0, nlit, nm_def, nI_add, nI_mul, nI_sub, nI_div, nI_rem, nI_clamp, nI_leI, nI_ltI, nI_eq, inb_nI, nzb_nI, nI_nm, nm_nI, nI_le_nm, nI_lt_nm, nm_le_nI, nm_lt_nI, cal_e, bnd_e, asr_e, jn_e, if_true, ln_236]
  by_cases q2 : a2 = nI 2
  · subst q2
    refine W2_same' (r := b2 (onv (M.1 236) p)) h ?_ ?_
    · unfold fX8_typist
      simp (disch := omega) only [Nat.reduceAdd, if_true, if_false, e0, cal_e, nlit, nm_def, n10, e1, ek, asr_e, q0, q1, (H.on hp).1, b2_if]
      cases onv (M.1 236) p <;> rfl
    · unfold fX9_typist
      simp (disch := first | omega | (simp only [ln_3, ln_4, ln_5, ln_6, ln_7, ln_8, ln_9, ln_10, ln_11, ln_13, ln_15, ln_17, ln_18, ln_19, ln_20, ln_21, ln_22, ln_23, ln_25, ln_26, ln_27, ln_28, ln_29, ln_30, ln_31, ln_33, ln_234, ln_236, ln_237, ln_238, ln_239, ln_240, ln_241, ln_242, ln_243, ln_244]; omega)) only [Nat.reduceAdd, if_true, if_false, f0, cal_e, nlit, nm_def, n10, q0, q1, (H.on hp).2, b2_if]
      cases onv (M.1 236) p <;> rfl
  by_cases q3 : a2 = nI 3
  · subst q3
    refine W2_same' (r := M.1 236 (7 + p)) h ?_ ?_
    · unfold fX8_typist
      simp (disch := omega) only [Nat.reduceAdd, if_true, if_false, e0, cal_e, nlit, nm_def, n10, e1, ek, asr_e, q0, q1, q2, t3, t3']
      rcases (show b = 0 ∨ b = 1 by omega) with rfl | rfl <;> rfl
    · unfold fX9_typist
      simp (disch := first | omega | (simp only [ln_3, ln_4, ln_5, ln_6, ln_7, ln_8, ln_9, ln_10, ln_11, ln_13, ln_15, ln_17, ln_18, ln_19, ln_20, ln_21, ln_22, ln_23, ln_25, ln_26, ln_27, ln_28, ln_29, ln_30, ln_31, ln_33, ln_234, ln_236, ln_237, ln_238, ln_239, ln_240, ln_241, ln_242, ln_243, ln_244]; omega)) only [Nat.reduceAdd, if_true, if_false, f0, cal_e, nlit, nm_def, n10, q0, q1, q2, nlit, nm_def, nI_add, nI_mul, nI_sub, nI_div, nI_rem, nI_clamp, nI_leI, nI_ltI, nI_eq, inb_nI, nzb_nI, nI_nm, nm_nI, nI_le_nm, nI_lt_nm, nm_le_nI, nm_lt_nI, cal_e, bnd_e, asr_e, jn_e, if_true, ln_236]
  by_cases q4 : a2 = nI 4
  · subst q4
    refine W2_same' (r := M.1 236 (10 + p)) h ?_ ?_
    · unfold fX8_typist
      simp (disch := omega) only [Nat.reduceAdd, if_true, if_false, e0, cal_e, nlit, nm_def, n10, e1, ek, asr_e, q0, q1, q2, q3, t4]
    · unfold fX9_typist
      simp (disch := first | omega | (simp only [ln_3, ln_4, ln_5, ln_6, ln_7, ln_8, ln_9, ln_10, ln_11, ln_13, ln_15, ln_17, ln_18, ln_19, ln_20, ln_21, ln_22, ln_23, ln_25, ln_26, ln_27, ln_28, ln_29, ln_30, ln_31, ln_33, ln_234, ln_236, ln_237, ln_238, ln_239, ln_240, ln_241, ln_242, ln_243, ln_244]; omega)) only [Nat.reduceAdd, if_true, if_false, f0, cal_e, nlit, nm_def, n10, q0, q1, q2, q3, nlit, nm_def, nI_add, nI_mul, nI_sub, nI_div, nI_rem, nI_clamp, nI_leI, nI_ltI, nI_eq, inb_nI, nzb_nI, nI_nm, nm_nI, nI_le_nm, nI_lt_nm, nm_le_nI, nm_lt_nI, cal_e, bnd_e, asr_e, jn_e, if_true, ln_236]
  by_cases q5 : a2 = nI 5
  · subst q5
    refine W2_same' (r := M.1 236 (12 + p)) h ?_ ?_
    · unfold fX8_typist
      simp (disch := omega) only [Nat.reduceAdd, if_true, if_false, e0, cal_e, nlit, nm_def, n10, e1, ek, asr_e, q0, q1, q2, q3, q4, t5]
    · unfold fX9_typist
      simp (disch := first | omega | (simp only [ln_3, ln_4, ln_5, ln_6, ln_7, ln_8, ln_9, ln_10, ln_11, ln_13, ln_15, ln_17, ln_18, ln_19, ln_20, ln_21, ln_22, ln_23, ln_25, ln_26, ln_27, ln_28, ln_29, ln_30, ln_31, ln_33, ln_234, ln_236, ln_237, ln_238, ln_239, ln_240, ln_241, ln_242, ln_243, ln_244]; omega)) only [Nat.reduceAdd, if_true, if_false, f0, cal_e, nlit, nm_def, n10, q0, q1, q2, q3, q4, nlit, nm_def, nI_add, nI_mul, nI_sub, nI_div, nI_rem, nI_clamp, nI_leI, nI_ltI, nI_eq, inb_nI, nzb_nI, nI_nm, nm_nI, nI_le_nm, nI_lt_nm, nm_le_nI, nm_lt_nI, cal_e, bnd_e, asr_e, jn_e, if_true, ln_236]
  by_cases q6 : a2 = nI 6
  · subst q6
    refine W2_same' (r := M.1 236 (17 + p)) h ?_ ?_
    · unfold fX8_typist
      simp (disch := omega) only [Nat.reduceAdd, if_true, if_false, e0, cal_e, nlit, nm_def, n10, e1, ek, asr_e, q0, q1, q2, q3, q4, q5, t6, t6']
    · unfold fX9_typist
      simp (disch := first | omega | (simp only [ln_3, ln_4, ln_5, ln_6, ln_7, ln_8, ln_9, ln_10, ln_11, ln_13, ln_15, ln_17, ln_18, ln_19, ln_20, ln_21, ln_22, ln_23, ln_25, ln_26, ln_27, ln_28, ln_29, ln_30, ln_31, ln_33, ln_234, ln_236, ln_237, ln_238, ln_239, ln_240, ln_241, ln_242, ln_243, ln_244]; omega)) only [Nat.reduceAdd, if_true, if_false, f0, cal_e, nlit, nm_def, n10, q0, q1, q2, q3, q4, q5, nlit, nm_def, nI_add, nI_mul, nI_sub, nI_div, nI_rem, nI_clamp, nI_leI, nI_ltI, nI_eq, inb_nI, nzb_nI, nI_nm, nm_nI, nI_le_nm, nI_lt_nm, nm_le_nI, nm_lt_nI, cal_e, bnd_e, asr_e, jn_e, if_true, ln_236]
  by_cases q7 : a2 = nI 7
  · subst q7
    refine W2_same' (r := M.1 236 (3 + p)) h ?_ ?_
    · unfold fX8_typist
      simp (disch := omega) only [Nat.reduceAdd, if_true, if_false, e0, cal_e, nlit, nm_def, n10, e1, ek, asr_e, q0, q1, q2, q3, q4, q5, q6, e_orNone M t2 (show N + 1 ≤ 2 ^ 31 by omega)]
    · unfold fX9_typist
      simp (disch := first | omega | (simp only [ln_3, ln_4, ln_5, ln_6, ln_7, ln_8, ln_9, ln_10, ln_11, ln_13, ln_15, ln_17, ln_18, ln_19, ln_20, ln_21, ln_22, ln_23, ln_25, ln_26, ln_27, ln_28, ln_29, ln_30, ln_31, ln_33, ln_234, ln_236, ln_237, ln_238, ln_239, ln_240, ln_241, ln_242, ln_243, ln_244]; omega)) only [Nat.reduceAdd, if_true, if_false, f0, cal_e, nlit, nm_def, n10, q0, q1, q2, q3, q4, q5, q6, nlit, nm_def, nI_add, nI_mul, nI_sub, nI_div, nI_rem, nI_clamp, nI_leI, nI_ltI, nI_eq, inb_nI, nzb_nI, nI_nm, nm_nI, nI_le_nm, nI_lt_nm, nm_le_nI, nm_lt_nI, cal_e, bnd_e, asr_e, jn_e, if_true, ln_236]
  refine W2_same' (r := nm 2) h ?_ ?_
  · unfold fX8_typist
    simp only [Nat.reduceAdd, if_true, if_false, e0, cal_e, nlit, nm_def, n10, e1, ek, asr_e, q0, q1, q2, q3, q4, q5, q6, q7]
  · unfold fX9_typist
    simp only [Nat.reduceAdd, if_true, if_false, f0, cal_e, nlit, nm_def, n10, q0, q1, q2, q3, q4, q5, q6, q7]
