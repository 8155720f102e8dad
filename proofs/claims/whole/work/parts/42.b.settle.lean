/-! PURE: settle (2) -/
theorem rwF_def (s : Nat → Int32) (d o e w : Nat) : rwF s d o e w = if 16 < e - o then upd s (404 + 7 * d + 3) (nI w) else upd (upd s (404 + 7 * d + 3) (nI w)) (308 + 6 * (o % 16) + 3) (nI w) := rfl
theorem r_byHand {r c t e dt N d w k u dw q o : Nat} {h : Int32} {Mf M3 : Mem} {s : Nat → Int32} {φ : Nat → UInt32} {b8 : Int32} (HF : CV r c t e dt N Mf (rwF s d o e w) φ) (hN : N < 2 ^ 24) (hd : d < dt) (hw : w < 3) (hk : k < 48) (hu : u ≤ N) (hdw : dw ≤ N) (hq : q < 4)
    (p0 : s (404 + 7 * d) = nI k) (p1 : s (404 + 7 * d + 1) = nI u) (p2 : s (404 + 7 * d + 2) = nI dw) (p4 : s (404 + 7 * d + 4) = h) (p5 : s (404 + 7 * d + 5) = nI q) :
    (asr (inb ((404 + (7 * nI d)) + 4) (ln (235 + 1))) (cal (fX9_countIt 235 (nI w) ((put M3 (rwF s d o e w) φ).1 (235 + 1) ((404 + (7 * nI d)) + 4).toNatClampNeg) (put M3 (rwF s d o e w) φ)) (fun v11 M12 => if 2 ≤ nI w then asr (inb ((404 + (7 * nI d)) + 0) (ln (235 + 1))) (some (M12.1 (235 + 1) ((404 + (7 * nI d)) + 0).toNatClampNeg, M12)) else asr (inb ((404 + (7 * nI d)) + 1) (ln (235 + 1))) (asr (inb ((404 + (7 * nI d)) + 2) (ln (235 + 1))) (cal (fX9_learn 235 (nI w) (M12.1 (235 + 1) ((404 + (7 * nI d)) + 1).toNatClampNeg) (M12.1 (235 + 1) ((404 + (7 * nI d)) + 2).toNatClampNeg) M12) (fun v13 M14 => asr (inb ((404 + (7 * nI d)) + 0) (ln (235 + 1))) (asr (inb ((404 + (7 * nI d)) + 5) (ln (235 + 1))) (cal (fX9_giveSign 235 (nI w) (M14.1 (235 + 1) ((404 + (7 * nI d)) + 0).toNatClampNeg) (M14.1 (235 + 1) ((404 + (7 * nI d)) + 5).toNatClampNeg) M14) (fun v15 M16 => asr (inb ((404 + (7 * nI d)) + 0) (ln (235 + 1))) (some (M16.1 (235 + 1) ((404 + (7 * nI d)) + 0).toNatClampNeg, M16)))))))))))
      = some (nI k, put M3 (finS (r * c) w k u q h true (rwF s d o e w)) (finF w u dw h true (rwF s d o e w) φ)) := by
  have d20 := HF.d20
  have f0 : rwF s d o e w (404 + 7 * d) = nI k := by rw [rwF_o (by omega) (by omega), p0]
  have f1 : rwF s d o e w (404 + 7 * d + 1) = nI u := by rw [rwF_o (by omega) (by omega), p1]
  have f2 : rwF s d o e w (404 + 7 * d + 2) = nI dw := by rw [rwF_o (by omega) (by omega), p2]
  have f4 : rwF s d o e w (404 + 7 * d + 4) = h := by rw [rwF_o (by omega) (by omega), p4]
  have f5 : rwF s d o e w (404 + 7 * d + 5) = nI q := by rw [rwF_o (by omega) (by omega), p5]
  generalize rwF s d o e w = s1 at *
  have c19 : ∀ i, 19 ≤ i → rwC w h s1 i = s1 i := fun i hi => by
    unfold rwC
    split
    · rw [upd_ne (by omega), upd_ne (by omega)]
    · rw [upd_ne (by omega), upd_ne (by omega)]
  have g0 : rwC w h s1 (404 + 7 * d) = nI k := by rw [c19 _ (by omega), f0]
  have g1 : rwC w h s1 (404 + 7 * d + 1) = nI u := by rw [c19 _ (by omega), f1]
  have g2 : rwC w h s1 (404 + 7 * d + 2) = nI dw := by rw [c19 _ (by omega), f2]
  have g5 : rwC w h s1 (404 + 7 * d + 5) = nI q := by rw [c19 _ (by omega), f5]
  have z : finS (r * c) w k u q h true s1 (404 + 7 * d) = nI k := by rw [fin_hi hw (by omega) (by omega), f0]
  by_cases h2 : w = 2
  · subst h2
    simp (disch := first | omega | (simp only [ln_3, ln_4, ln_5, ln_6, ln_7, ln_8, ln_9, ln_10, ln_11, ln_13, ln_15, ln_17, ln_18, ln_19, ln_20, ln_21, ln_22, ln_23, ln_25, ln_26, ln_27, ln_28, ln_29, ln_30, ln_31, ln_33, ln_234, ln_236, ln_237, ln_238, ln_239, ln_240, ln_241, ln_242, ln_243, ln_244]; omega)) only [nlit', nI_mul, nI_add, inb_nI, nI_clamp, ln_236, Nat.reduceAdd, asr_x, put_s, f4, r_count, cal_x, nI_leI, Nat.le_refl, if_true, g0, Nat.add_zero]
    rfl
  · have hp : w < 2 := by omega
    have n2w : ¬ 2 ≤ w := by omega
    have HC1 := CV_cnt (x := if h = nI w then nI 1 else nI 0) HF hp
    have es : rwC w h s1 = upd (upd s1 (10 + w) (s1 (10 + w) + nI 1)) (12 + w) (s1 (12 + w) + (if h = nI w then nI 1 else nI 0)) := by
      unfold rwC
      rw [if_neg h2]
    rw [← es] at HC1
    obtain ⟨M2, _, HC2, _⟩ := CV_learn (u := u) (d := dw) HC1 hN hp hu hdw
    have ef : finS (r * c) w k u q h true s1 = rwG (r * c) w k q (upd (rwC w h s1) (3 + w) (nI u)) ∧ finF w u dw h true s1 φ = lrF w u dw (rwC w h s1) φ := by
      unfold finS finF
      rw [if_neg h2, if_neg h2]
      exact ⟨rfl, rfl⟩
    have z0 : upd (rwC w h s1) (3 + w) (nI u) (404 + 7 * d) = nI k := by rw [upd_ne (by omega), g0]
    have z5 : upd (rwC w h s1) (3 + w) (nI u) (404 + 7 * d + 5) = nI q := by rw [upd_ne (by omega), g5]
    rw [ef.1] at z
    rw [ef.1, ef.2]
    simp (disch := first | omega | (simp only [ln_3, ln_4, ln_5, ln_6, ln_7, ln_8, ln_9, ln_10, ln_11, ln_13, ln_15, ln_17, ln_18, ln_19, ln_20, ln_21, ln_22, ln_23, ln_25, ln_26, ln_27, ln_28, ln_29, ln_30, ln_31, ln_33, ln_234, ln_236, ln_237, ln_238, ln_239, ln_240, ln_241, ln_242, ln_243, ln_244]; omega)) only [nlit', nI_mul, nI_add, inb_nI, nI_clamp, ln_236, Nat.reduceAdd, asr_x, put_s, f4, r_count, cal_x, nI_leI, n2w, if_false, g1, g2, Nat.add_zero, r_learn HC1 hN hp hu hdw, z0, z5, r_sign HC2 hN hp hk hq, z]
theorem st_settle {N : Nat} {M : Mem} {x y : Int32} (h : IV N M) (hN : N < 2 ^ 24) : W2 (N + 1) (fX8_settle 0 x y) (fX9_settle 235 x y) M := by
  obtain ⟨r, c, t, e, dt, H⟩ := h.nf
  have d20 := H.d20
  have eN := H.eN
  have hn : ∀ x : Int32, (x < nI 0 ∨ nI dt ≤ x) → W2 (N + 1) (fX8_settle 0 x y) (fX9_settle 235 x y) M := fun x hx => by
    refine W2_mono (W2_same' (r := nm 1) h ?_ ?_) (Nat.le_succ N)
    · unfold fX8_settle fX5_hasDispute
      rcases hx with hx | hx
      · simp only [nlit', nm_x, Nat.reduceAdd, hx, if_true, cal_x]
      · by_cases h0 : x < nI 0
        · simp only [nlit', nm_x, Nat.reduceAdd, h0, if_true, cal_x]
        · simp only [nlit', nm_x, Nat.reduceAdd, h0, if_true, if_false, H.d1, hx, cal_x]
    · unfold fX9_settle
      simp only [r_noDisn H.d2 hx d20, cal_x, nlit', nm_x, n10, if_false]
  rcases pk_ix x (show dt < 2 ^ 31 by omega) with hx | hx | ⟨d, hd, rfl⟩
  · exact hn _ (.inl hx)
  · exact hn _ (.inr hx)
  have hd0 : ¬ (nI d < nI 0) := nI_nlt0 (by omega)
  have e0 : fX5_hasDispute 1 (nI d) M = some (nI 1, M) := by
    unfold fX5_hasDispute
    simp (disch := omega) only [nlit', Nat.reduceAdd, hd0, if_false, H.d1, nI_leI, show ¬ (dt ≤ d) by omega]
  have f0 := r_noDis H.d2 hd d20
  obtain ⟨_, _, _, fa, _⟩ := H.dis hd
  obtain ⟨_, _, _, k4, _⟩ := e_strk (a := d) (x := 24) M (.inr rfl) (by omega)
  rw [Nat.mod_eq_of_lt (show d < 20 by omega)] at k4
  have hout : ∀ x : Int32, (x < nI 0 ∨ nI 3 ≤ x) → W2 (N + 1) (fX8_settle 0 (nI d) x) (fX9_settle 235 (nI d) x) M := fun x hx => by
    have hx' : x < nI 0 ∨ nI 2 < x := by
      rw [lt_of_le_nI (by decide)]
      exact hx
    refine W2_mono (W2_same' (r := nm 2) h ?_ ?_) (Nat.le_succ N)
    · unfold fX8_settle
      by_cases h0 : x < nI 0
      · simp only [Nat.reduceAdd, if_true, if_false, e0, cal_e, nlit, nm_def, n10, h0]
      · have h3 : ¬ x ≤ nI 2 := by
          rcases hx' with q | q
          · exact absurd q h0
          · rw [Int32.le_iff_toInt_le]
            rw [Int32.lt_iff_toInt_lt] at q
            omega
        simp only [Nat.reduceAdd, if_true, if_false, e0, cal_e, nlit, nm_def, n10, h0, h3]
    · unfold fX9_settle
      simp only [Nat.reduceAdd, if_true, if_false, f0, cal_e, nlit, nm_def, n10, e_in0 M hx']
  rcases pk_ix y (show 3 < 2 ^ 31 by decide) with hx | hx | ⟨w, hw, rfl⟩
  · exact hout _ (.inl hx)
  · exact hout _ (.inr hx)
  have hw0 : ¬ (nI w < nI 0) := nI_nlt0 (by omega)
  have hw2 : nI w ≤ nI 2 := by rw [nI_leI (by omega) (by decide)]; omega
  have f1 := e_in1 (k := w) (a := 0) (b := 2) M (by omega) (by omega) (by decide)
  rcases fa with ⟨a, a'⟩ | ⟨w', hw', a, a'⟩
  · obtain ⟨q0, st, M1, e1, hc, g1⟩ := mut_rec h
    have H1 : CV r c t e dt N M1 (M.1 236) (M.2 240) := CV.v (M := M) H (fun k _ _ => g1 k (by omega))
    obtain ⟨k, u, dw, hh, q, o, hk, hu, hdw, hq, ho, p0, p1, p2, p4, p5, p6, hwp, HF⟩ := c_byHand H1 hN hd hw a'
    unfold W2 fX8_settle
    simp (disch := omega) only [nlit', Nat.reduceAdd, e0, cal_x, n10, if_false, hw0, hw2, if_true, k4, a, e1]
    rw [wp_cal]
    refine wp_mono hwp (fun _ M2 ⟨fc, H2⟩ => ?_)
    have m236 : M2.1 236 = M.1 236 := by rw [(fc _ (by omega)).1, (g1 _ (by omega)).1]
    have k0 := (e_strk (a := d) (x := 24) M2 (.inr rfl) (by omega)).1
    rw [Nat.mod_eq_of_lt (show d < 20 by omega)] at k0
    obtain ⟨⟨k', _, b0, b0'⟩, _⟩ := H2.dis hd
    rw [fin_hi hw (by omega) (by omega), rwF_o (by omega) (by omega), p0] at b0'
    simp only [Nat.reduceAdd] at k0
    rw [k0, cal_x, wp_some, b0, ← b0']
    have f0' := r_noDis (M := M2) (d := d) (dt := dt) (by rw [m236]; exact H.d2) hd d20
    have f1' := e_in1 (k := w) (a := 0) (b := 2) M2 (by omega) (by omega) (by decide)
    have hneg : nm 5 < nI 0 := nm_lt0 (by decide) (by decide)
    unfold fX9_settle
    simp (disch := first | omega | (simp only [ln_3, ln_4, ln_5, ln_6, ln_7, ln_8, ln_9, ln_10, ln_11, ln_13, ln_15, ln_17, ln_18, ln_19, ln_20, ln_21, ln_22, ln_23, ln_25, ln_26, ln_27, ln_28, ln_29, ln_30, ln_31, ln_33, ln_234, ln_236, ln_237, ln_238, ln_239, ln_240, ln_241, ln_242, ln_243, ln_244]; omega)) only [nlit', f0', cal_x, f1', n10, if_true, if_false, nI_mul, nI_add, inb_nI, nI_clamp, ln_236, Nat.reduceAdd, asr_x, m236, a', hneg]
    refine mut_put h (Nat.le_succ N) hc g1 fc H2 (fun M3 => ?_)
    have z9 : upd (M.1 236) (404 + 7 * d + 3) (nI w) 9 = nI e := by rw [upd_ne (by omega)]; exact H.e2
    have z6 : upd (M.1 236) (404 + 7 * d + 3) (nI w) (404 + 7 * d + 6) = nI o := by rw [upd_ne (by omega), p6]
    have h16 : o % 16 < 16 := Nat.mod_lt _ (by decide)
    have step : ∀ (K : Unit → Mem → Option (Int32 × Mem)), jn K (fun j9 => if 16 < e - o then j9 () (put M3 (upd (M.1 236) (404 + 7 * d + 3) (nI w)) (M.2 240)) else j9 () (put M3 (upd (upd (M.1 236) (404 + 7 * d + 3) (nI w)) (308 + 6 * (o % 16) + 3) (nI w)) (M.2 240))) = K () (put M3 (rwF (M.1 236) d o e w) (M.2 240)) := fun K => by
      unfold jn rwF
      split <;> rfl
    simp (disch := first | omega | (simp only [ln_3, ln_4, ln_5, ln_6, ln_7, ln_8, ln_9, ln_10, ln_11, ln_13, ln_15, ln_17, ln_18, ln_19, ln_20, ln_21, ln_22, ln_23, ln_25, ln_26, ln_27, ln_28, ln_29, ln_30, ln_31, ln_33, ln_234, ln_236, ln_237, ln_238, ln_239, ln_240, ln_241, ln_242, ln_243, ln_244]; omega)) only [bnd_x, put_w1, put_s, nI_rem, nI_mul, nI_add, inb_nI, nI_clamp, ln_236, asr_x, z9, z6, nI_sub (show o ≤ e by omega), nI_ltI]
    rw [step]
    have R := r_byHand (M3 := M3) (b8 := 0) HF hN hd hw hk hu hdw hq p0 p1 p2 p4 p5
    simp (disch := first | omega | (simp only [ln_3, ln_4, ln_5, ln_6, ln_7, ln_8, ln_9, ln_10, ln_11, ln_13, ln_15, ln_17, ln_18, ln_19, ln_20, ln_21, ln_22, ln_23, ln_25, ln_26, ln_27, ln_28, ln_29, ln_30, ln_31, ln_33, ln_234, ln_236, ln_237, ln_238, ln_239, ln_240, ln_241, ln_242, ln_243, ln_244]; omega)) only [nlit', Nat.reduceAdd, nI_mul, nI_add, inb_nI, nI_clamp, ln_236, asr_x] at R
    rw [R, wp_some]
    exact ⟨rfl, M3, FD_refl M3, rfl⟩
  · have n3 : ¬ nI w' = nI 3 := by rw [nI_eq (by omega) (by decide)]; omega
    have hn0 : ¬ nI w' < nI 0 := nI_nlt0 (by omega)
    refine W2_mono (W2_same' (r := nm 4) h ?_ ?_) (Nat.le_succ N)
    · unfold fX8_settle
      simp only [Nat.reduceAdd, if_true, if_false, e0, cal_e, nlit, nm_def, n10, hw0, hw2, k4, a, n3]
    · unfold fX9_settle
      simp (disch := first | omega | (simp only [ln_3, ln_4, ln_5, ln_6, ln_7, ln_8, ln_9, ln_10, ln_11, ln_13, ln_15, ln_17, ln_18, ln_19, ln_20, ln_21, ln_22, ln_23, ln_25, ln_26, ln_27, ln_28, ln_29, ln_30, ln_31, ln_33, ln_234, ln_236, ln_237, ln_238, ln_239, ln_240, ln_241, ln_242, ln_243, ln_244]; omega)) only [Nat.reduceAdd, if_true, if_false, f0, cal_e, nlit, nm_def, n10, f1, nI_mul, nI_add, inb_nI, nI_clamp, ln_236, asr_x, a', hn0]
