/-! PURE: what is asked (4) -/
theorem st_dispute {N : Nat} {M : Mem} {a1 a2 : Int32} (h : IV N M) (hN : N < 2 ^ 30) : W2 N (fX8_dispute 0 a1 a2) (fX9_dispute 235 a1 a2) M := by
  obtain ⟨r, c, t, e, dt, H⟩ := h.nf
  have d20 := H.d20
  have hn : ∀ x : Int32, (x < nI 0 ∨ nI dt ≤ x) → W2 N (fX8_dispute 0 x a2) (fX9_dispute 235 x a2) M := fun x hx => by
    refine W2_same' (r := nm 1) h ?_ ?_
    · unfold fX8_dispute fX5_hasDispute
      rcases hx with hx | hx
      · simp only [nlit, nm_def, Nat.reduceAdd, hx, if_true, cal_e]
      · by_cases h0 : x < nI 0
        · simp only [nlit, nm_def, Nat.reduceAdd, h0, if_true, cal_e]
        · simp only [nlit, nm_def, Nat.reduceAdd, h0, if_true, if_false, H.d1, hx, cal_e]
    · unfold fX9_dispute
      simp only [r_noDisn H.d2 hx d20, cal_e, nlit, nm_def, n10, if_false]
  rcases pk_ix a1 (show dt < 2 ^ 31 by omega) with hx | hx | ⟨d, hd, rfl⟩
  · exact hn _ (.inl hx)
  · exact hn _ (.inr hx)
  have hd0 : ¬ (nI d < nI 0) := nI_nlt0 (by omega)
  have e0 : fX5_hasDispute 1 (nI d) M = some (nI 1, M) := by
    unfold fX5_hasDispute
    simp (disch := omega) only [nlit, Nat.reduceAdd, hd0, if_false, H.d1, nI_leI, show ¬ (dt ≤ d) by omega]
  have f0 := r_noDis H.d2 hd d20
  obtain ⟨⟨k, hk, a, a'⟩, ⟨u, hu, b, b'⟩, ⟨v, hv, g, g'⟩, fa, ho, _⟩ := H.dis hd
  obtain ⟨k1, k2, k3, k4, k5, _, _⟩ := e_strk (a := d) (x := 24) M (.inr rfl) (by omega)
  rw [Nat.mod_eq_of_lt (show d < 20 by omega)] at k1 k2 k3 k4 k5
  have hout : ∀ x : Int32, (x < nI 0 ∨ nI 5 ≤ x) → W2 N (fX8_dispute 0 (nI d) x) (fX9_dispute 235 (nI d) x) M := fun x hx => by
    have n0 := out_ne (k := 0) hx (by omega) (by omega)
    have n1 := out_ne (k := 1) hx (by omega) (by omega)
    have n2 := out_ne (k := 2) hx (by omega) (by omega)
    have n3 := out_ne (k := 3) hx (by omega) (by omega)
    have n4 := out_ne (k := 4) hx (by omega) (by omega)
    have hx' : x < nI 0 ∨ nI 4 < x := by
      rw [lt_of_le_nI (by decide)]
      exact hx
    refine W2_same' (r := nm 2) h ?_ ?_
    · unfold fX8_dispute
      simp only [Nat.reduceAdd, if_true, if_false, e0, cal_e, nlit, nm_def, n10, n0, n1, n2, n3, n4]
    · unfold fX9_dispute
      simp only [Nat.reduceAdd, if_true, if_false, f0, cal_e, nlit, nm_def, n10, e_in0 M hx']
  rcases pk_ix a2 (show 5 < 2 ^ 31 by decide) with hx | hx | ⟨w, hw, rfl⟩
  · exact hout _ (.inl hx)
  · exact hout _ (.inr hx)
  refine W2_same' (r := M.1 236 (404 + 7 * d + w)) h ?_ ?_
  · unfold fX8_dispute
    rcases (show w = 0 ∨ w = 1 ∨ w = 2 ∨ w = 3 ∨ w = 4 by omega) with rfl | rfl | rfl | rfl | rfl
    · simp only [Nat.reduceAdd, if_true, if_false, e0, cal_e, nlit, nm_def, n10, k1, a, a', Nat.add_zero]
    · simp only [Nat.reduceAdd, if_true, if_false, e0, cal_e, nlit, nm_def, n10, k2, b, b']
    · simp only [Nat.reduceAdd, if_true, if_false, e0, cal_e, nlit, nm_def, n10, n20, fin9 2 (by decide) 1 (by decide) (by decide), k3, g, g']
    · simp only [Nat.reduceAdd, if_true, if_false, e0, cal_e, nlit, nm_def, n10, fin9 3 (by decide) 0 (by decide) (by decide), fin9 3 (by decide) 1 (by decide) (by decide), fin9 3 (by decide) 2 (by decide) (by decide), k4]
      rcases fa with ⟨q1, q2⟩ | ⟨w, hw, q1, q2⟩
      · simp only [q1, q2, if_true]
      · simp only [q1, q2, fin9 w (by omega) 3 (by decide) (by omega), if_false]
    · simp only [Nat.reduceAdd, if_true, if_false, e0, cal_e, nlit, nm_def, n10, fin9 4 (by decide) 0 (by decide) (by decide), fin9 4 (by decide) 1 (by decide) (by decide), fin9 4 (by decide) 2 (by decide) (by decide), fin9 4 (by decide) 3 (by decide) (by decide), k5, e_orNone M ho (show 2 ≤ 2 ^ 31 by decide)]
  · unfold fX9_dispute
    simp (disch := first | omega | (simp only [ln_3, ln_4, ln_5, ln_6, ln_7, ln_8, ln_9, ln_10, ln_11, ln_13, ln_15, ln_17, ln_18, ln_19, ln_20, ln_21, ln_22, ln_23, ln_25, ln_26, ln_27, ln_28, ln_29, ln_30, ln_31, ln_33, ln_234, ln_236, ln_237, ln_238, ln_239, ln_240, ln_241, ln_242, ln_243, ln_244]; omega)) only [Nat.reduceAdd, if_true, if_false, f0, cal_e, nlit, nm_def, n10, e_in1, Nat.one_ne_zero, nlit, nm_def, nI_add, nI_mul, nI_sub, nI_div, nI_rem, nI_clamp, nI_leI, nI_ltI, nI_eq, inb_nI, nzb_nI, nI_nm, nm_nI, nI_le_nm, nI_lt_nm, nm_le_nI, nm_lt_nI, cal_e, bnd_e, asr_e, jn_e, if_true, ln_236]
theorem words_eq {r c : Nat} (hd : 2 ≤ r ∧ r ≤ 6 ∧ 2 ≤ c ∧ c ≤ 8) {w : Nat → Int32} {p : Nat → Bool} (h1 : ∀ k, k < r * c → bt (w (k / c)) (k % c) = p k) (h2 : ∀ i, i < 6 → ∀ d, ¬ (i < r ∧ d < c) → bt (w i) d = false) : sm 6 (fun i => cnt 8 (bt (w i))) = cnt (r * c) p := by
  rw [cnt_mul, sm_cut (n := r) (by omega) (fun i h3 h4 => cnt_zero.mpr (fun d _ => h2 i h4 d (by omega)))]
  refine sm_congr (fun i hi => ?_)
  show cnt 8 (bt (w i)) = _
  rw [cnt_cut (n := c) (by omega) (fun d h3 h4 => h2 i (by omega) d (by omega))]
  refine cnt_congr (fun d hd2 => ?_)
  have h3 := h1 (i * c + d) (ixlt hi hd2)
  rw [show (i * c + d) / c = i from by rw [Nat.mul_comm, Nat.mul_add_div (by omega), Nat.div_eq_of_lt hd2, Nat.add_zero], show (i * c + d) % c = d from by rw [Nat.mul_comm, Nat.mul_add_mod, Nat.mod_eq_of_lt hd2]] at h3
  exact h3
theorem NF.counts {r c t e dt N : Nat} {M : Mem} (H : NF r c t e dt N M) :
    fX0_downKeys 2 M = some (nI (cnt (r * c) (fun k => !decide (M.1 236 (20 + k) < nI 0))), M) ∧ fX0_seenKeys 2 M = some (nI (cnt (r * c) (fun k => !decide (M.1 236 (68 + k) < nI 0))), M) ∧ fX0_doubtfulKeys 2 M = some (nI (cnt (r * c) (fun k => decide (M.1 236 (116 + k) = nI 1))), M) := by
  have hd := H.hd
  have z : ∀ i, i < 6 → ∀ d, 8 ≤ d → bt (M.1 8 i) d = false ∧ bt (M.1 9 i) d = false ∧ bt (M.1 10 i) d = false := fun i hi d h8 => H.bit0 hi (by omega)
  refine ⟨?_, ?_, ?_⟩
  · unfold fX0_downKeys
    rw [e_bitsIn (a := 2 + 6) rfl (fun i hi d h8 => (z i hi d h8).1), cal_e, ← words_eq hd (w := M.1 8) (fun k hk => (H.bits hk).1) (fun i hi d hd => (H.bit0 hi hd).1)]
  · unfold fX0_seenKeys
    rw [e_bitsIn (a := 2 + 7) rfl (fun i hi d h8 => (z i hi d h8).2.1), cal_e, ← words_eq hd (w := M.1 9) (fun k hk => (H.bits hk).2.1) (fun i hi d hd => (H.bit0 hi hd).2.1)]
  · unfold fX0_doubtfulKeys
    rw [e_bitsIn (a := 2 + 8) rfl (fun i hi d h8 => (z i hi d h8).2.2), cal_e, ← words_eq hd (w := M.1 10) (fun k hk => (H.bits hk).2.2) (fun i hi d hd => (H.bit0 hi hd).2.2)]
theorem r_keysThat {r c t e dt N w : Nat} {M : Mem} (H : NF r c t e dt N M) (hN : N < 2 ^ 30) (hw : w = 3 ∨ w = 4 ∨ w = 5) : fX9_keysThat 235 (nI w) M = some (nI (cnt (r * c) (fun k => if w = 3 then !decide (M.1 236 (20 + k) < nI 0) else if w = 4 then !decide (M.1 236 (68 + k) < nI 0) else decide (M.1 236 (116 + k) = nI 1))), M) := by
  have m48 := H.m48
  unfold fX9_keysThat
  refine wp_eq (lp_for (r * c) (fun i b M1 => b = (nI (cnt i (fun k => if w = 3 then !decide (M.1 236 (20 + k) < nI 0) else if w = 4 then !decide (M.1 236 (68 + k) < nI 0) else decide (M.1 236 (116 + k) = nI 1))), nI i) ∧ M1 = M) (by omega) ⟨rfl, rfl⟩ ?_ ?_)
  · rintro i b M1 rec hi ⟨rfl, rfl⟩ kk
    have hs := H.seen hN hi
    unfold FX9_keysThat_4
    rcases hw with rfl | rfl | rfl
    · simp (disch := first | omega | (simp only [ln_3, ln_4, ln_5, ln_6, ln_7, ln_8, ln_9, ln_10, ln_11, ln_13, ln_15, ln_17, ln_18, ln_19, ln_20, ln_21, ln_22, ln_23, ln_25, ln_26, ln_27, ln_28, ln_29, ln_30, ln_31, ln_33, ln_234, ln_236, ln_237, ln_238, ln_239, ln_240, ln_241, ln_242, ln_243, ln_244]; omega)) only [r_keys H.sr H.sc, nlit, nm_def, nI_add, nI_mul, nI_sub, nI_div, nI_rem, nI_clamp, nI_leI, nI_ltI, nI_eq, inb_nI, nzb_nI, nI_nm, nm_nI, nI_le_nm, nI_lt_nm, nm_le_nI, nm_lt_nI, cal_e, bnd_e, asr_e, jn_e, if_true, Nat.reduceAdd, ln_236, show ¬ (r * c ≤ i) by omega, if_false, r_isDown, b2_if]
      cases h : !decide (M1.1 236 (20 + i) < nI 0)
      · simp only [if_true]
        exact kk _ _ ⟨by simp [cnt_succ, h], rfl⟩
      · simp only [if_false, Bool.true_eq_false]
        exact kk _ _ ⟨by simp [cnt_succ, h], rfl⟩
    · simp (disch := first | omega | (simp only [ln_3, ln_4, ln_5, ln_6, ln_7, ln_8, ln_9, ln_10, ln_11, ln_13, ln_15, ln_17, ln_18, ln_19, ln_20, ln_21, ln_22, ln_23, ln_25, ln_26, ln_27, ln_28, ln_29, ln_30, ln_31, ln_33, ln_234, ln_236, ln_237, ln_238, ln_239, ln_240, ln_241, ln_242, ln_243, ln_244]; omega)) only [r_keys H.sr H.sc, nlit, nm_def, nI_add, nI_mul, nI_sub, nI_div, nI_rem, nI_clamp, nI_leI, nI_ltI, nI_eq, inb_nI, nzb_nI, nI_nm, nm_nI, nI_le_nm, nI_lt_nm, nm_le_nI, nm_lt_nI, cal_e, bnd_e, asr_e, jn_e, if_true, Nat.reduceAdd, ln_236, show ¬ (r * c ≤ i) by omega, if_false, r_isSeen, b2_if, Nat.reduceEqDiff]
      cases h : !decide (M1.1 236 (68 + i) < nI 0)
      · simp only [if_true]
        exact kk _ _ ⟨by simp [cnt_succ, h], rfl⟩
      · simp only [if_false, Bool.true_eq_false]
        exact kk _ _ ⟨by simp [cnt_succ, h], rfl⟩
    · simp (disch := first | omega | (simp only [ln_3, ln_4, ln_5, ln_6, ln_7, ln_8, ln_9, ln_10, ln_11, ln_13, ln_15, ln_17, ln_18, ln_19, ln_20, ln_21, ln_22, ln_23, ln_25, ln_26, ln_27, ln_28, ln_29, ln_30, ln_31, ln_33, ln_234, ln_236, ln_237, ln_238, ln_239, ln_240, ln_241, ln_242, ln_243, ln_244]; omega)) only [r_keys H.sr H.sc, nlit, nm_def, nI_add, nI_mul, nI_sub, nI_div, nI_rem, nI_clamp, nI_leI, nI_ltI, nI_eq, inb_nI, nzb_nI, nI_nm, nm_nI, nI_le_nm, nI_lt_nm, nm_le_nI, nm_lt_nI, cal_e, bnd_e, asr_e, jn_e, if_true, Nat.reduceAdd, ln_236, show ¬ (r * c ≤ i) by omega, if_false, r_isSeen, b2_if, Nat.reduceEqDiff]
      rcases hs with ⟨g1, g2, g3⟩ | ⟨g1, g2, g3⟩
      · rw [if_pos (by simp [g1])]
        exact kk _ _ ⟨by simp [cnt_succ, g3, fin9], rfl⟩
      · rw [if_neg (by simp [g1])]
        by_cases h : M1.1 236 (116 + i) = nI 1
        · simp only [h, if_true, if_false, Nat.one_ne_zero]
          exact kk _ _ ⟨by simp [cnt_succ, h], rfl⟩
        · simp only [h, if_true, if_false]
          exact kk _ _ ⟨by simp [cnt_succ, h], rfl⟩
  · rintro b M1 rec ⟨rfl, rfl⟩
    unfold FX9_keysThat_4
    rw [r_keys H.sr H.sc, cal_e, if_pos (nI_le (Nat.le_refl _) (by omega)), wp_some]
    exact ⟨rfl, rfl⟩
theorem r_open {r c t e dt N : Nat} {M : Mem} (H : NF r c t e dt N M) : fX9_openDisputes 235 M = some (nI (cnt dt (fun d => decide (M.1 236 (404 + 7 * d + 3) < nI 0))), M) := by
  have d20 := H.d20
  unfold fX9_openDisputes
  refine wp_eq (lp_for dt (fun i b M1 => b = (nI (cnt i (fun d => decide (M.1 236 (404 + 7 * d + 3) < nI 0))), nI i) ∧ M1 = M) (by omega) ⟨rfl, rfl⟩ ?_ ?_)
  · rintro i b M1 rec hi ⟨rfl, rfl⟩ kk
    unfold FX9_openDisputes_4
    simp (disch := first | omega | (simp only [ln_3, ln_4, ln_5, ln_6, ln_7, ln_8, ln_9, ln_10, ln_11, ln_13, ln_15, ln_17, ln_18, ln_19, ln_20, ln_21, ln_22, ln_23, ln_25, ln_26, ln_27, ln_28, ln_29, ln_30, ln_31, ln_33, ln_234, ln_236, ln_237, ln_238, ln_239, ln_240, ln_241, ln_242, ln_243, ln_244]; omega)) only [nlit, nm_def, nI_add, nI_mul, nI_sub, nI_div, nI_rem, nI_clamp, nI_leI, nI_ltI, nI_eq, inb_nI, nzb_nI, nI_nm, nm_nI, nI_le_nm, nI_lt_nm, nm_le_nI, nm_lt_nI, cal_e, bnd_e, asr_e, jn_e, if_true, Nat.reduceAdd, ln_236, H.d2, show ¬ (dt ≤ i) by omega, if_false]
    by_cases h : M1.1 236 (404 + 7 * i + 3) < nI 0
    · rw [if_neg (by rw [Int32.le_iff_toInt_le]; rw [Int32.lt_iff_toInt_lt] at h; omega)]
      exact kk _ _ ⟨by simp [cnt_succ, h], rfl⟩
    · rw [if_pos (by rw [Int32.le_iff_toInt_le]; rw [Int32.lt_iff_toInt_lt] at h; omega)]
      exact kk _ _ ⟨by simp [cnt_succ, h], rfl⟩
  · rintro b M1 rec ⟨rfl, rfl⟩
    unfold FX9_openDisputes_4
    simp (disch := first | omega | (simp only [ln_3, ln_4, ln_5, ln_6, ln_7, ln_8, ln_9, ln_10, ln_11, ln_13, ln_15, ln_17, ln_18, ln_19, ln_20, ln_21, ln_22, ln_23, ln_25, ln_26, ln_27, ln_28, ln_29, ln_30, ln_31, ln_33, ln_234, ln_236, ln_237, ln_238, ln_239, ln_240, ln_241, ln_242, ln_243, ln_244]; omega)) only [nlit, nm_def, nI_add, nI_mul, nI_sub, nI_div, nI_rem, nI_clamp, nI_leI, nI_ltI, nI_eq, inb_nI, nzb_nI, nI_nm, nm_nI, nI_le_nm, nI_lt_nm, nm_le_nI, nm_lt_nI, cal_e, bnd_e, asr_e, jn_e, if_true, Nat.reduceAdd, ln_236, H.d2, Nat.le_refl, wp_some, and_self]
theorem e_driven {r c t e dt N : Nat} {M : Mem} (H : NF r c t e dt N M) (hN : N < 2 ^ 30) : fX5_drivenRow 1 M = some (nI (t % r), M) := by
  have hd := H.hd
  have := H.tN
  unfold fX5_drivenRow
  simp (disch := omega) only [nlit, Nat.reduceAdd, H.hr, H.t1, nI_leI, show ¬ (r ≤ 0) by omega, if_false, e_fmod, cal_e]
