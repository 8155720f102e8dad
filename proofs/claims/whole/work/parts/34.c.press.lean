/-! PURE: press, release -/
theorem upd_self {f : Nat → Int32} {i : Nat} {x : Int32} : upd f i x i = x := by simp [upd]
theorem upd_o {f : Nat → Int32} {i j : Nat} {x : Int32} (h : j ≠ i) : upd f i x j = f j := by simp [upd, h]
theorem W2_err {N : Nat} {M : Mem} {x y : Mem → Option (Int32 × Mem)} {r : Int32} (h : IV N M) (hx : x M = some (r, M)) (hy : y M = some (r, M)) : W2 N x y M := W2_same' h hx hy
theorem agP_c (s : Nat → Int32) (n p k : Nat) : (agP s n p k = nI 0 ∧ s (20 + k) < nI 0 ∧ cnt n (fun j => decide (s (20 + j) = nI p)) ≠ 5) ∨ agP s n p k = nm 3 ∨ agP s n p k = nm 4 := by
  unfold agP
  by_cases h : s (20 + k) < nI 0
  · by_cases h2 : cnt n (fun j => decide (s (20 + j) = nI p)) = 5
    · right; left
      rw [if_pos h, if_pos h2]
    · left
      rw [if_pos h, if_neg h2]
      exact ⟨rfl, h, h2⟩
  · right; right
    rw [if_neg h]
theorem agR_c (s : Nat → Int32) (p k : Nat) : (agR s p k = nI 0 ∧ s (20 + k) = nI p) ∨ agR s p k = nm 4 := by
  unfold agR
  by_cases h : s (20 + k) = nI p
  · left
    rw [if_pos h]
    exact ⟨rfl, h⟩
  · right
    rw [if_neg h]
theorem nm34 : (¬ nm 3 = nI 0) ∧ (¬ nm 4 = nI 0) ∧ (¬ nI 0 ≤ nm 3) ∧ (¬ nI 0 ≤ nm 4) := by decide +kernel
theorem st_press {N : Nat} {M : Mem} {x y : Int32} (h : IV N M) (hN : N < 2 ^ 30) : W2 N (fX8_press 0 x y) (fX9_press 235 x y) M := by
  obtain ⟨r, c, t, e, dt, H⟩ := h.nf
  have hd := H.hd
  have m48 := H.m48
  have hout : ((x < nI 0 ∨ nI 2 ≤ x) ∨ (y < nI 0 ∨ nI (r * c) ≤ y)) → W2 N (fX8_press 0 x y) (fX9_press 235 x y) M := fun ho => by
    refine W2_same' (r := nm 1) h ?_ ?_
    · unfold fX8_press
      simp only [Nat.reduceAdd, (cp_out H ho).1, cal_e, nlit, show ¬ nm 1 = nI 0 by decide, if_false]
    · unfold fX9_press
      simp only [(rp_out hd H.sr H.sc ho).1, cal_e, nlit, show ¬ nI 0 ≤ nm 1 by decide, if_false]
  rcases pk_ix x (show 2 < 2 ^ 31 by decide) with hx | hx | ⟨p, hp, rfl⟩
  · exact hout (.inl (.inl hx))
  · exact hout (.inl (.inr hx))
  rcases pk_ix y H.m31 with hx | hx | ⟨k, hk, rfl⟩
  · exact hout (.inr (.inl hx))
  · exact hout (.inr (.inr hx))
  have ec := (cp_in H hp hk).1
  have er := (rp_in hd H.sr H.sc hp hk).1
  rcases agP_c (M.1 236) (r * c) p k with ⟨q, q1, q2⟩ | q | q
  · rw [q] at ec er
    have h5 := H.held5 hp
    have hkr := divr hk
    obtain ⟨q0, st, M1, e1, hc, f1⟩ := mut_rec h
    have hc1 : M1.1 2 1 = nI c := by rw [(f1 2 (by omega)).1]; exact H.hc
    have e2 := e_putDown (M := M1) (x := nI p) hc1 (by omega) hd.2.2.2 (show k / c < 6 by omega) (show k < 48 by omega)
    have x8 : M1.1 8 = M.1 8 := (f1 8 (by omega)).1
    have x3 : M1.1 3 = M.1 3 := (f1 3 (by omega)).1
    have f2 : ∀ j, j ≠ 3 → j ≠ 8 → (w1 (w1 M1 3 k (nI p)) 8 (k / c) (M1.1 8 (k / c) ||| pw (k % c))).1 j = M1.1 j := fun j h1 h2 => by rw [w1_o h2, w1_o h1]
    have g3 : (w1 (w1 M1 3 k (nI p)) 8 (k / c) (M1.1 8 (k / c) ||| pw (k % c))).1 3 = upd (M.1 3) k (nI p) := by rw [w1_o (by decide), w1_self, x3]
    have g8 : (w1 (w1 M1 3 k (nI p)) 8 (k / c) (M1.1 8 (k / c) ||| pw (k % c))).1 8 = upd (M.1 8) (k / c) (M.1 8 (k / c) ||| pw (k % c)) := by rw [w1_self, w1_o (by decide), x8]
    have gB : (w1 (w1 M1 3 k (nI p)) 8 (k / c) (M1.1 8 (k / c) ||| pw (k % c))).2 = M1.2 := rfl
    unfold W2 fX8_press
    simp only [Nat.reduceAdd, ec, cal_e, nlit, if_true, e1, e2, e_heldBy, wp_some]
    generalize (w1 (w1 M1 3 k (nI p)) 8 (k / c) (M1.1 8 (k / c) ||| pw (k % c))) = M2 at *
    have e236 : M2.1 236 = M.1 236 := by rw [f2 236 (by decide) (by decide), (f1 _ (by omega)).1]
    have er2 : fX9_againstPress 235 (nI p) (nI k) M2 = some (nI 0, M2) := by
      have := (rp_in (M := M2) hd (by rw [e236]; exact H.sr) (by rw [e236]; exact H.sc) hp hk).1
      rw [e236, q] at this
      exact this
    unfold fX9_press
    simp only [er2, cal_e, nlit, show nI 0 ≤ nI 0 by decide, if_true]
    refine mut_ref h (Nat.le_refl N) hc f1 (fun j hj => ⟨f2 j (by omega) (by omega), by rw [gB]⟩) (fun M3 b1 b2 => ?_)
    have s236 : M3.1 236 = M.1 236 := by rw [b1 _ (by omega) (by omega) (by omega), e236]
    have h4r : (w1 M3 236 (20 + k) (nI p)).1 236 0 = nI r := by rw [w1_1, if_neg (by omega), s236]; exact H.sr
    have h4c : (w1 M3 236 (20 + k) (nI p)).1 236 1 = nI c := by rw [w1_1, if_neg (by omega), s236]; exact H.sc
    simp (disch := first | omega | (simp only [ln_3, ln_4, ln_5, ln_6, ln_7, ln_8, ln_9, ln_10, ln_11, ln_13, ln_15, ln_17, ln_18, ln_19, ln_20, ln_21, ln_22, ln_23, ln_25, ln_26, ln_27, ln_28, ln_29, ln_30, ln_31, ln_33, ln_234, ln_236, ln_237, ln_238, ln_239, ln_240, ln_241, ln_242, ln_243, ln_244]; omega)) only [nI_add, inb_nI, nI_clamp, Nat.reduceAdd, ln_236, cal_e, bnd_e, asr_e, jn_e, if_true, r_held (nI p) h4r h4c m48, wp_some]
    have H4 : NF r c t e dt N (w1 M3 236 (20 + k) (nI p)) := by
      refine RS_press (A := vA M 1) (B := vB M 1) (s := M.1 236) (φ := M.2 240) H hk hp (by omega) q1 (fun j hj hj2 => ?_) ?_ ?_ (fun j hj _ => ?_) (fun i hi => ?_) ?_ (fun i _ => ?_)
      · simp only [Bool.or_eq_false_iff, beq_eq_false_iff_ne] at hj2
        show (w1 M3 236 (20 + k) (nI p)).1 (1 + j) = M.1 (1 + j)
        rw [w1_o (by omega), b1 _ (by omega) (by omega) (by omega), f2 _ (by omega) (by omega), (f1 _ (by omega)).1]
      · show (w1 M3 236 (20 + k) (nI p)).1 3 = _
        rw [w1_o (by omega), b1 _ (by omega) (by omega) (by omega), g3]
        rfl
      · show (w1 M3 236 (20 + k) (nI p)).1 8 = _
        rw [w1_o (by omega), b1 _ (by omega) (by omega) (by omega), g8]
        rfl
      · show (w1 M3 236 (20 + k) (nI p)).2 (1 + j) = M.2 (1 + j)
        rw [w1_2, b2 _ (by omega) (by omega), gB, (f1 _ (by omega)).2]
      · rw [w1_1, if_neg (by omega), s236]
      · rw [w1_1, if_pos ⟨rfl, rfl⟩]
      · rw [w1_2, b2 _ (by omega) (by omega), gB, (f1 _ (by omega)).2]
    refine ⟨?_, ⟨r, c, t, e, dt, H4⟩, fun j h1 h2 h3 => by rw [w1_o h3], fun j hj => by rw [w1_o (by decide)], fun j _ _ => rfl⟩
    rw [← held_eq H4 hp]
    have e3 : (w1 M3 236 (20 + k) (nI p)).1 3 = M2.1 3 := by rw [w1_o (by omega), b1 _ (by omega) (by omega) (by omega)]
    rw [e3]
  · rw [q] at ec er
    refine W2_same' (r := nm 3) h ?_ ?_
    · unfold fX8_press
      simp only [Nat.reduceAdd, ec, cal_e, nlit, nm34, if_false]
    · unfold fX9_press
      simp only [er, cal_e, nlit, nm34, if_false]
  · rw [q] at ec er
    refine W2_same' (r := nm 4) h ?_ ?_
    · unfold fX8_press
      simp only [Nat.reduceAdd, ec, cal_e, nlit, nm34, if_false]
    · unfold fX9_press
      simp only [er, cal_e, nlit, nm34, if_false]
theorem st_release {N : Nat} {M : Mem} {x y : Int32} (h : IV N M) (hN : N < 2 ^ 30) : W2 N (fX8_release 0 x y) (fX9_release 235 x y) M := by
  obtain ⟨r, c, t, e, dt, H⟩ := h.nf
  have hd := H.hd
  have m48 := H.m48
  have hout : ((x < nI 0 ∨ nI 2 ≤ x) ∨ (y < nI 0 ∨ nI (r * c) ≤ y)) → W2 N (fX8_release 0 x y) (fX9_release 235 x y) M := fun ho => by
    refine W2_same' (r := nm 1) h ?_ ?_
    · unfold fX8_release
      simp only [Nat.reduceAdd, (cp_out H ho).2, cal_e, nlit, show ¬ nm 1 = nI 0 by decide, if_false]
    · unfold fX9_release
      simp only [(rp_out hd H.sr H.sc ho).2, cal_e, nlit, show ¬ nI 0 ≤ nm 1 by decide, if_false]
  rcases pk_ix x (show 2 < 2 ^ 31 by decide) with hx | hx | ⟨p, hp, rfl⟩
  · exact hout (.inl (.inl hx))
  · exact hout (.inl (.inr hx))
  rcases pk_ix y H.m31 with hx | hx | ⟨k, hk, rfl⟩
  · exact hout (.inr (.inl hx))
  · exact hout (.inr (.inr hx))
  have ec := (cp_in H hp hk).2
  have er := (rp_in hd H.sr H.sc hp hk).2
  rcases agR_c (M.1 236) p k with ⟨q, q1⟩ | q
  · rw [q] at ec er
    have hkr := divr hk
    obtain ⟨q0, st, M1, e1, hc, f1⟩ := mut_rec h
    have hc1 : M1.1 2 1 = nI c := by rw [(f1 2 (by omega)).1]; exact H.hc
    have e2 := e_liftUp (M := M1) hc1 (by omega) hd.2.2.2 (show k / c < 6 by omega) (show k < 48 by omega)
    have x8 : M1.1 8 = M.1 8 := (f1 8 (by omega)).1
    have x3 : M1.1 3 = M.1 3 := (f1 3 (by omega)).1
    have f2 : ∀ j, j ≠ 3 → j ≠ 8 → (w1 (w1 M1 3 k (nm 1)) 8 (k / c) (M1.1 8 (k / c) &&& (pw (k % c) ^^^ nm 1))).1 j = M1.1 j := fun j h1 h2 => by rw [w1_o h2, w1_o h1]
    have g3 : (w1 (w1 M1 3 k (nm 1)) 8 (k / c) (M1.1 8 (k / c) &&& (pw (k % c) ^^^ nm 1))).1 3 = upd (M.1 3) k (nm 1) := by rw [w1_o (by decide), w1_self, x3]
    have g8 : (w1 (w1 M1 3 k (nm 1)) 8 (k / c) (M1.1 8 (k / c) &&& (pw (k % c) ^^^ nm 1))).1 8 = upd (M.1 8) (k / c) (M.1 8 (k / c) &&& (pw (k % c) ^^^ nm 1)) := by rw [w1_self, w1_o (by decide), x8]
    have gB : (w1 (w1 M1 3 k (nm 1)) 8 (k / c) (M1.1 8 (k / c) &&& (pw (k % c) ^^^ nm 1))).2 = M1.2 := rfl
    unfold W2 fX8_release
    simp only [Nat.reduceAdd, ec, cal_e, nlit, if_true, e1, e2, e_heldBy, wp_some]
    generalize (w1 (w1 M1 3 k (nm 1)) 8 (k / c) (M1.1 8 (k / c) &&& (pw (k % c) ^^^ nm 1))) = M2 at *
    have e236 : M2.1 236 = M.1 236 := by rw [f2 236 (by decide) (by decide), (f1 _ (by omega)).1]
    have er2 : fX9_againstRelease 235 (nI p) (nI k) M2 = some (nI 0, M2) := by
      have := (rp_in (M := M2) hd (by rw [e236]; exact H.sr) (by rw [e236]; exact H.sc) hp hk).2
      rw [e236, q] at this
      exact this
    unfold fX9_release
    simp only [er2, cal_e, nlit, show nI 0 ≤ nI 0 by decide, if_true]
    refine mut_ref h (Nat.le_refl N) hc f1 (fun j hj => ⟨f2 j (by omega) (by omega), by rw [gB]⟩) (fun M3 b1 b2 => ?_)
    have s236 : M3.1 236 = M.1 236 := by rw [b1 _ (by omega) (by omega) (by omega), e236]
    have h4r : (w1 M3 236 (20 + k) (nm 5)).1 236 0 = nI r := by rw [w1_1, if_neg (by omega), s236]; exact H.sr
    have h4c : (w1 M3 236 (20 + k) (nm 5)).1 236 1 = nI c := by rw [w1_1, if_neg (by omega), s236]; exact H.sc
    simp (disch := first | omega | (simp only [ln_3, ln_4, ln_5, ln_6, ln_7, ln_8, ln_9, ln_10, ln_11, ln_13, ln_15, ln_17, ln_18, ln_19, ln_20, ln_21, ln_22, ln_23, ln_25, ln_26, ln_27, ln_28, ln_29, ln_30, ln_31, ln_33, ln_234, ln_236, ln_237, ln_238, ln_239, ln_240, ln_241, ln_242, ln_243, ln_244]; omega)) only [nm_def, nI_add, inb_nI, nI_clamp, Nat.reduceAdd, ln_236, cal_e, bnd_e, asr_e, jn_e, if_true, r_held (nI p) h4r h4c m48, wp_some]
    have H4 : NF r c t e dt N (w1 M3 236 (20 + k) (nm 5)) := by
      refine RS_release (A := vA M 1) (B := vB M 1) (s := M.1 236) (φ := M.2 240) H hk (fun j hj hj2 => ?_) ?_ ?_ (fun j hj _ => ?_) (fun i hi => ?_) ?_ (fun i _ => ?_)
      · simp only [Bool.or_eq_false_iff, beq_eq_false_iff_ne] at hj2
        show (w1 M3 236 (20 + k) (nm 5)).1 (1 + j) = M.1 (1 + j)
        rw [w1_o (by omega), b1 _ (by omega) (by omega) (by omega), f2 _ (by omega) (by omega), (f1 _ (by omega)).1]
      · show (w1 M3 236 (20 + k) (nm 5)).1 3 = _
        rw [w1_o (by omega), b1 _ (by omega) (by omega) (by omega), g3]
        rfl
      · show (w1 M3 236 (20 + k) (nm 5)).1 8 = _
        rw [w1_o (by omega), b1 _ (by omega) (by omega) (by omega), g8]
        rfl
      · show (w1 M3 236 (20 + k) (nm 5)).2 (1 + j) = M.2 (1 + j)
        rw [w1_2, b2 _ (by omega) (by omega), gB, (f1 _ (by omega)).2]
      · rw [w1_1, if_neg (by omega), s236]
      · rw [w1_1, if_pos ⟨rfl, rfl⟩]
      · rw [w1_2, b2 _ (by omega) (by omega), gB, (f1 _ (by omega)).2]
    refine ⟨?_, ⟨r, c, t, e, dt, H4⟩, fun j h1 h2 h3 => by rw [w1_o h3], fun j hj => by rw [w1_o (by decide)], fun j _ _ => rfl⟩
    rw [← held_eq H4 hp]
    have e3 : (w1 M3 236 (20 + k) (nm 5)).1 3 = M2.1 3 := by rw [w1_o (by omega), b1 _ (by omega) (by omega) (by omega)]
    rw [e3]
  · rw [q] at ec er
    refine W2_same' (r := nm 4) h ?_ ?_
    · unfold fX8_release
      simp only [Nat.reduceAdd, ec, cal_e, nlit, nm34, if_false]
    · unfold fX9_release
      simp only [er, cal_e, nlit, nm34, if_false]
