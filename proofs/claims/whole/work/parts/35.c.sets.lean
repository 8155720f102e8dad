/-! PURE: borrow -/
theorem RS_bor0 {A A2 : Nat → Nat → Int32} {B B2 : Nat → Nat → UInt32} {s s2 : Nat → Int32} {φ φ2 : Nat → UInt32} {r c t e dt N b : Nat} (H : RSp r c t e dt N A B s φ) (hb : b < 2)
    (eA : ∀ k, k < 33 → (k == 11) = false → A2 k = A k) (a11 : A2 11 = upd (A 11) 3 (nI b)) (eB : ∀ k, k < 33 → false = false → B2 k = B k)
    (eS : ∀ i, i ≠ 7 → s2 i = s i) (s7 : s2 7 = nI b) (eF : ∀ i, false = false → φ2 i = φ i) : RSp r c t e dt N A2 B2 s2 φ2 := by
  have hd := H.1.1
  obtain ⟨m48, m0⟩ := mul48 hd
  refine ⟨rDim_c H.1 (congrFun (eA 1 (by decide) rfl) 0) (congrFun (eA 1 (by decide) rfl) 1) (eS 0 (by omega)) (eS 1 (by omega)), rShift_c H.2.1 (fun p hp => congrFun (eA 10 (by decide) rfl) p) (fun p hp => eS _ (by omega)), rHold_c H.2.2.1 (fun k hk => congrFun (eA 2 (by decide) rfl) k) (fun k hk => eS _ (by omega)) m48, rBits_c H.2.2.2.1 (fun i hi => ⟨congrFun (eA 7 (by decide) rfl) i, congrFun (eA 8 (by decide) rfl) i, congrFun (eA 9 (by decide) rfl) i⟩) (fun k hk => ⟨eS _ (by omega), eS _ (by omega), eS _ (by omega)⟩), rKey_c H.2.2.2.2.1 (fun k hk => ⟨congrFun (eA 4 (by decide) rfl) k, congrFun (eA 5 (by decide) rfl) k, congrFun (eA 6 (by decide) rfl) k⟩) (fun k hk => ⟨eS _ (by omega), eS _ (by omega), eS _ (by omega), eS _ (by omega)⟩), rSign_c H.2.2.2.2.2.1 (fun k hk => congrFun (eA 3 (by decide) rfl) k) (fun k hk => eS _ (by omega)), ?_, rTyp_c H.2.2.2.2.2.2.2.1 (fun j _ _ => congrFun (eA 13 (by decide) rfl) j) (fun j _ => congrFun (eA 14 (by decide) rfl) j) (fun j _ => congrFun (eB 13 (by decide) rfl) j) ⟨eS _ (by omega), eS _ (by omega), eS _ (by omega), eS _ (by omega), eS _ (by omega)⟩ (fun j hj => eS _ (by omega)) ⟨eF 1 rfl, eF 3 rfl⟩, rEnd_c H.2.2.2.2.2.2.2.2.1 (congrFun (eA 15 (by decide) rfl) 0) (fun j hj => ⟨congrFun (eA 16 (by decide) rfl) j, congrFun (eA 17 (by decide) rfl) j, congrFun (eA 18 (by decide) rfl) j, congrFun (eA 19 (by decide) rfl) j, congrFun (eA 20 (by decide) rfl) j, congrFun (eA 21 (by decide) rfl) j⟩) (eS 9 (by omega)) (fun j _ _ => eS _ (by omega)), rDis_c H.2.2.2.2.2.2.2.2.2.1 (congrFun (eA 23 (by decide) rfl) 0) (congrFun (eA 0 (by decide) rfl) 9) (fun j hj => ⟨congrFun (eA 24 (by decide) rfl) j, congrFun (eA 25 (by decide) rfl) j, congrFun (eA 26 (by decide) rfl) j, congrFun (eA 27 (by decide) rfl) j, congrFun (eA 28 (by decide) rfl) j, congrFun (eA 29 (by decide) rfl) j, congrFun (eA 30 (by decide) rfl) j⟩) (eS 16 (by omega)) (fun j _ _ => eS _ (by omega)), rSet_c H.2.2.2.2.2.2.2.2.2.2.1 (fun j hj => ⟨congrFun (eA 32 (by decide) rfl) j, congrFun (eB 31 (by decide) rfl) _⟩) (fun j hj => eF _ (by rcases (show j = 0 ∨ j = 1 ∨ j = 2 by omega) with rfl | rfl | rfl <;> rfl)), rCnt_c H.2.2.2.2.2.2.2.2.2.2.2 ⟨congrFun (eA 0 (by decide) rfl) 6, congrFun (eA 0 (by decide) rfl) 7, congrFun (eA 0 (by decide) rfl) 8⟩ ⟨eS 2 (by omega), eS 14 (by omega), eS 15 (by omega)⟩⟩
  obtain ⟨⟨h1, h2, h3, h4⟩, h5, h6, h7, h8, h9, h10⟩ := H.2.2.2.2.2.2.1
  refine ⟨⟨?_, ?_, ?_, ?_⟩, ?_, ⟨b, hb, ?_, s7⟩, ?_, ?_, ?_, fun j hj => ?_⟩
  · rw [show B2 (11 + 2 * 0) = B (11 + 2 * 0) from eB 11 (by decide) rfl, eF 0 rfl]; exact h1
  · rw [show B2 (11 + 2 * 0) = B (11 + 2 * 0) from eB 11 (by decide) rfl, eF (2 + 0) rfl]; exact h2
  · rw [eF 0 rfl]; exact h3
  · rw [eF (2 + 0) rfl]; exact h4
  · rw [show A2 (11 + 2 * 0) = upd (A 11) 3 (nI b) from a11, upd_o (by decide), eS _ (by omega)]; exact h5
  · rw [show A2 (11 + 2 * 0) = upd (A 11) 3 (nI b) from a11, upd_self]
  · rw [show A2 (11 + 2 * 0) = upd (A 11) 3 (nI b) from a11, upd_o (by decide), eS _ (by omega)]; exact h7
  · rw [show A2 (11 + 2 * 0) = upd (A 11) 3 (nI b) from a11, upd_o (by decide), eS _ (by omega)]; exact h8
  · rw [show A2 (11 + 2 * 0) = upd (A 11) 3 (nI b) from a11, upd_o (by decide), eS _ (by omega)]; exact h9
  · rw [show A2 (12 + 2 * 0) = A (12 + 2 * 0) from eA 12 (by decide) rfl, eS _ (by omega)]; exact h10 j hj
theorem RS_bor1 {A A2 : Nat → Nat → Int32} {B B2 : Nat → Nat → UInt32} {s s2 : Nat → Int32} {φ φ2 : Nat → UInt32} {r c t e dt N b : Nat} (H : RSp r c t e dt N A B s φ) (hb : b < 2)
    (eA : ∀ k, k < 33 → (k == 13) = false → A2 k = A k) (a11 : A2 13 = upd (A 13) 3 (nI b)) (eB : ∀ k, k < 33 → false = false → B2 k = B k)
    (eS : ∀ i, i ≠ 8 → s2 i = s i) (s7 : s2 8 = nI b) (eF : ∀ i, false = false → φ2 i = φ i) : RSp r c t e dt N A2 B2 s2 φ2 := by
  have hd := H.1.1
  obtain ⟨m48, m0⟩ := mul48 hd
  refine ⟨rDim_c H.1 (congrFun (eA 1 (by decide) rfl) 0) (congrFun (eA 1 (by decide) rfl) 1) (eS 0 (by omega)) (eS 1 (by omega)), rShift_c H.2.1 (fun p hp => congrFun (eA 10 (by decide) rfl) p) (fun p hp => eS _ (by omega)), rHold_c H.2.2.1 (fun k hk => congrFun (eA 2 (by decide) rfl) k) (fun k hk => eS _ (by omega)) m48, rBits_c H.2.2.2.1 (fun i hi => ⟨congrFun (eA 7 (by decide) rfl) i, congrFun (eA 8 (by decide) rfl) i, congrFun (eA 9 (by decide) rfl) i⟩) (fun k hk => ⟨eS _ (by omega), eS _ (by omega), eS _ (by omega)⟩), rKey_c H.2.2.2.2.1 (fun k hk => ⟨congrFun (eA 4 (by decide) rfl) k, congrFun (eA 5 (by decide) rfl) k, congrFun (eA 6 (by decide) rfl) k⟩) (fun k hk => ⟨eS _ (by omega), eS _ (by omega), eS _ (by omega), eS _ (by omega)⟩), rSign_c H.2.2.2.2.2.1 (fun k hk => congrFun (eA 3 (by decide) rfl) k) (fun k hk => eS _ (by omega)), rTyp_c H.2.2.2.2.2.2.1 (fun j _ _ => congrFun (eA 11 (by decide) rfl) j) (fun j _ => congrFun (eA 12 (by decide) rfl) j) (fun j _ => congrFun (eB 11 (by decide) rfl) j) ⟨eS _ (by omega), eS _ (by omega), eS _ (by omega), eS _ (by omega), eS _ (by omega)⟩ (fun j hj => eS _ (by omega)) ⟨eF 0 rfl, eF 2 rfl⟩, ?_, rEnd_c H.2.2.2.2.2.2.2.2.1 (congrFun (eA 15 (by decide) rfl) 0) (fun j hj => ⟨congrFun (eA 16 (by decide) rfl) j, congrFun (eA 17 (by decide) rfl) j, congrFun (eA 18 (by decide) rfl) j, congrFun (eA 19 (by decide) rfl) j, congrFun (eA 20 (by decide) rfl) j, congrFun (eA 21 (by decide) rfl) j⟩) (eS 9 (by omega)) (fun j _ _ => eS _ (by omega)), rDis_c H.2.2.2.2.2.2.2.2.2.1 (congrFun (eA 23 (by decide) rfl) 0) (congrFun (eA 0 (by decide) rfl) 9) (fun j hj => ⟨congrFun (eA 24 (by decide) rfl) j, congrFun (eA 25 (by decide) rfl) j, congrFun (eA 26 (by decide) rfl) j, congrFun (eA 27 (by decide) rfl) j, congrFun (eA 28 (by decide) rfl) j, congrFun (eA 29 (by decide) rfl) j, congrFun (eA 30 (by decide) rfl) j⟩) (eS 16 (by omega)) (fun j _ _ => eS _ (by omega)), rSet_c H.2.2.2.2.2.2.2.2.2.2.1 (fun j hj => ⟨congrFun (eA 32 (by decide) rfl) j, congrFun (eB 31 (by decide) rfl) _⟩) (fun j hj => eF _ (by rcases (show j = 0 ∨ j = 1 ∨ j = 2 by omega) with rfl | rfl | rfl <;> rfl)), rCnt_c H.2.2.2.2.2.2.2.2.2.2.2 ⟨congrFun (eA 0 (by decide) rfl) 6, congrFun (eA 0 (by decide) rfl) 7, congrFun (eA 0 (by decide) rfl) 8⟩ ⟨eS 2 (by omega), eS 14 (by omega), eS 15 (by omega)⟩⟩
  obtain ⟨⟨h1, h2, h3, h4⟩, h5, h6, h7, h8, h9, h10⟩ := H.2.2.2.2.2.2.2.1
  refine ⟨⟨?_, ?_, ?_, ?_⟩, ?_, ⟨b, hb, ?_, s7⟩, ?_, ?_, ?_, fun j hj => ?_⟩
  · rw [show B2 (11 + 2 * 1) = B (11 + 2 * 1) from eB 13 (by decide) rfl, eF 1 rfl]; exact h1
  · rw [show B2 (11 + 2 * 1) = B (11 + 2 * 1) from eB 13 (by decide) rfl, eF (2 + 1) rfl]; exact h2
  · rw [eF 1 rfl]; exact h3
  · rw [eF (2 + 1) rfl]; exact h4
  · rw [show A2 (11 + 2 * 1) = upd (A 13) 3 (nI b) from a11, upd_o (by decide), eS _ (by omega)]; exact h5
  · rw [show A2 (11 + 2 * 1) = upd (A 13) 3 (nI b) from a11, upd_self]
  · rw [show A2 (11 + 2 * 1) = upd (A 13) 3 (nI b) from a11, upd_o (by decide), eS _ (by omega)]; exact h7
  · rw [show A2 (11 + 2 * 1) = upd (A 13) 3 (nI b) from a11, upd_o (by decide), eS _ (by omega)]; exact h8
  · rw [show A2 (11 + 2 * 1) = upd (A 13) 3 (nI b) from a11, upd_o (by decide), eS _ (by omega)]; exact h9
  · rw [show A2 (12 + 2 * 1) = A (12 + 2 * 1) from eA 14 (by decide) rfl, eS _ (by omega)]; exact h10 j hj
theorem st_bor0 {N b : Nat} {M : Mem} (h : IV N M) (hN : N < 2 ^ 30) (hb : b < 2) : W2 N (fX8_borrow 0 (nI 0) (nI b)) (fX9_borrow 235 (nI 0) (nI b)) M := by
  obtain ⟨r, c, t, e, dt, H⟩ := h.nf
  have hp : 0 < 2 := by decide
  have e1 : ∀ M2 : Mem, fX5_typistOf 1 (nI 0) M2 = some (12, M2) := fun M2 => e_typOf M2 hp
  have ek : kdb 12 6 = true := kdb6.1
  obtain ⟨_, _, ⟨b0, hb0, t0, t0'⟩, _⟩ := H.ty0
  obtain ⟨_, _, ⟨b1, hb1, t1, t1'⟩, _⟩ := H.ty1
  simp only [Nat.add_zero, Nat.reduceAdd] at t0' t1'
  have bz : bzb (nI b) = true := by
    rcases (show b = 0 ∨ b = 1 by omega) with rfl | rfl <;> decide
  by_cases hbb : b0 = b
  · subst hbb
    refine W2_same' (r := nm 5) h ?_ ?_
    · unfold fX8_borrow
      simp only [Nat.reduceAdd, e_isTyp M hp, cal_e, nlit, nm_def, n10, if_false, e1, ek, asr_e, t0, if_true]
    · unfold fX9_borrow
      simp (disch := first | omega | (simp only [ln_3, ln_4, ln_5, ln_6, ln_7, ln_8, ln_9, ln_10, ln_11, ln_13, ln_15, ln_17, ln_18, ln_19, ln_20, ln_21, ln_22, ln_23, ln_25, ln_26, ln_27, ln_28, ln_29, ln_30, ln_31, ln_33, ln_234, ln_236, ln_237, ln_238, ln_239, ln_240, ln_241, ln_242, ln_243, ln_244]; omega)) only [r_noTyp M hp, cal_e, nlit, nm_def, if_true, nI_add, inb_nI, nI_clamp, cal_e, bnd_e, asr_e, jn_e, if_true, Nat.reduceAdd, ln_236, t0', nI_eq]
      rcases (show b0 = 0 ∨ b0 = 1 by omega) with rfl | rfl <;> simp
  · obtain ⟨q0, st, M1, e0, hc, g1⟩ := mut_rec h
    have f2 : ∀ j, j ≠ 12 → (w1 M1 12 3 (nI b)).1 j = M1.1 j := fun j h1 => by rw [w1_o h1]
    have g12 : (w1 M1 12 3 (nI b)).1 12 = upd (M.1 12) 3 (nI b) := by rw [w1_self, (g1 12 (by omega)).1]
    have gB : (w1 M1 12 3 (nI b)).2 = M1.2 := rfl
    have x12 : (w1 M1 12 3 (nI b)).1 12 3 = nI (b) ∧ (w1 M1 12 3 (nI b)).1 14 3 = nI (b1) := by
      refine ⟨?_, ?_⟩
      · rw [w1_1]
        simp [(g1 12 (by omega)).1, t0]
      · rw [w1_1]
        simp [(g1 14 (by omega)).1, t1]
    have hcl : fX8_borrow 0 (nI 0) (nI b) M = some (nI (b + b1), w1 M1 12 3 (nI b)) := by
      unfold fX8_borrow
      simp (disch := omega) only [Nat.reduceAdd, e_isTyp M hp, cal_e, nlit, nm_def, n10, if_false, e1, ek, asr_e, t0, nI_eq, hbb, e0, bz, bnd_e, jn_e, x12]
      rcases (show b = 0 ∨ b = 1 by omega) with rfl | rfl <;> rcases (show b0 = 0 ∨ b0 = 1 by omega) with rfl | rfl <;> rcases (show b1 = 0 ∨ b1 = 1 by omega) with rfl | rfl <;> first | rfl | exact absurd rfl hbb
    refine wp_of hcl ?_
    generalize (w1 M1 12 3 (nI b)) = M2 at *
    have e236 : M2.1 236 = M.1 236 := by rw [f2 236 (by decide), (g1 _ (by omega)).1]
    have hrf : ∀ Q : Int32 → Mem → Prop, wp (cal (fX9_begin 235 M2) (fun v6 M7 => some (M7.1 236 8 + nI b, w1 M7 236 7 (nI b)))) Q → wp (fX9_borrow 235 (nI 0) (nI b) M2) Q := fun Q hQ => by
      unfold fX9_borrow
      simp (disch := first | omega | (simp only [ln_3, ln_4, ln_5, ln_6, ln_7, ln_8, ln_9, ln_10, ln_11, ln_13, ln_15, ln_17, ln_18, ln_19, ln_20, ln_21, ln_22, ln_23, ln_25, ln_26, ln_27, ln_28, ln_29, ln_30, ln_31, ln_33, ln_234, ln_236, ln_237, ln_238, ln_239, ln_240, ln_241, ln_242, ln_243, ln_244]; omega)) only [r_noTyp M2 hp, cal_e, nlit, nm_def, if_true, nI_add, inb_nI, nI_clamp, asr_e, bnd_e, jn_e, Nat.reduceAdd, ln_236, e236, t0', w1_1, reduceIte, Nat.reduceEqDiff, and_true, and_false]
      refine Eq.mp ?_ hQ
      rcases (show b = 0 ∨ b = 1 by omega) with rfl | rfl <;> rcases (show b0 = 0 ∨ b0 = 1 by omega) with rfl | rfl <;> first | exact absurd rfl hbb | (simp [n10, show ¬ nI 0 = nI 1 by decide, Int32.add_comm])
    refine hrf _ (mut_ref h (Nat.le_refl N) hc g1 (fun j hj => ⟨f2 j (by omega), by rw [gB]⟩) (fun M3 b1' b2' => ?_))
    have s236 : M3.1 236 = M.1 236 := by rw [b1' _ (by omega) (by omega) (by omega), e236]
    rw [wp_some]
    refine ⟨?_, ⟨r, c, t, e, dt, RS_bor0 (A := vA M 1) (B := vB M 1) (s := M.1 236) (φ := M.2 240) H hb (eA_of (X := fun k => k == 11) g1 (fun j hj => f2 _ (by simp at hj; omega)) b1' (fun j hj => by rw [w1_o (by omega)])) ?_ (eB_of g1 (fun j _ => by rw [gB]) b2' (fun j _ => rfl)) (fun i h1 => ?_) ?_ (fun i _ => ?_)⟩, fun j h1 h2 h3 => by rw [w1_o h3], fun j hj => by rw [w1_o (by decide)], fun j _ _ => rfl⟩
    · (rw [s236, t1', nI_add]) <;> exact congrArg nI (by omega)
    · show (w1 M3 236 7 (nI b)).1 12 = _
      rw [w1_o (by omega), b1' _ (by omega) (by omega) (by omega), g12]
      rfl
    · rw [w1_1, if_neg (by omega), s236]
    · rw [w1_1, if_pos ⟨rfl, rfl⟩]
    · rw [w1_2, b2' _ (by omega) (by omega), gB, (g1 _ (by omega)).2]
theorem st_bor1 {N b : Nat} {M : Mem} (h : IV N M) (hN : N < 2 ^ 30) (hb : b < 2) : W2 N (fX8_borrow 0 (nI 1) (nI b)) (fX9_borrow 235 (nI 1) (nI b)) M := by
  obtain ⟨r, c, t, e, dt, H⟩ := h.nf
  have hp : 1 < 2 := by decide
  have e1 : ∀ M2 : Mem, fX5_typistOf 1 (nI 1) M2 = some (14, M2) := fun M2 => e_typOf M2 hp
  have ek : kdb 14 6 = true := kdb6.2
  obtain ⟨_, _, ⟨b0, hb0, t0, t0'⟩, _⟩ := H.ty0
  obtain ⟨_, _, ⟨b1, hb1, t1, t1'⟩, _⟩ := H.ty1
  simp only [Nat.add_zero, Nat.reduceAdd] at t0' t1'
  have bz : bzb (nI b) = true := by
    rcases (show b = 0 ∨ b = 1 by omega) with rfl | rfl <;> decide
  by_cases hbb : b1 = b
  · subst hbb
    refine W2_same' (r := nm 5) h ?_ ?_
    · unfold fX8_borrow
      simp only [Nat.reduceAdd, e_isTyp M hp, cal_e, nlit, nm_def, n10, if_false, e1, ek, asr_e, t1, if_true]
    · unfold fX9_borrow
      simp (disch := first | omega | (simp only [ln_3, ln_4, ln_5, ln_6, ln_7, ln_8, ln_9, ln_10, ln_11, ln_13, ln_15, ln_17, ln_18, ln_19, ln_20, ln_21, ln_22, ln_23, ln_25, ln_26, ln_27, ln_28, ln_29, ln_30, ln_31, ln_33, ln_234, ln_236, ln_237, ln_238, ln_239, ln_240, ln_241, ln_242, ln_243, ln_244]; omega)) only [r_noTyp M hp, cal_e, nlit, nm_def, if_true, nI_add, inb_nI, nI_clamp, cal_e, bnd_e, asr_e, jn_e, if_true, Nat.reduceAdd, ln_236, t1', nI_eq]
      rcases (show b1 = 0 ∨ b1 = 1 by omega) with rfl | rfl <;> simp
  · obtain ⟨q0, st, M1, e0, hc, g1⟩ := mut_rec h
    have f2 : ∀ j, j ≠ 14 → (w1 M1 14 3 (nI b)).1 j = M1.1 j := fun j h1 => by rw [w1_o h1]
    have g12 : (w1 M1 14 3 (nI b)).1 14 = upd (M.1 14) 3 (nI b) := by rw [w1_self, (g1 14 (by omega)).1]
    have gB : (w1 M1 14 3 (nI b)).2 = M1.2 := rfl
    have x12 : (w1 M1 14 3 (nI b)).1 12 3 = nI (b0) ∧ (w1 M1 14 3 (nI b)).1 14 3 = nI (b) := by
      refine ⟨?_, ?_⟩
      · rw [w1_1]
        simp [(g1 12 (by omega)).1, t0]
      · rw [w1_1]
        simp [(g1 14 (by omega)).1, t1]
    have hcl : fX8_borrow 0 (nI 1) (nI b) M = some (nI (b0 + b), w1 M1 14 3 (nI b)) := by
      unfold fX8_borrow
      simp (disch := omega) only [Nat.reduceAdd, e_isTyp M hp, cal_e, nlit, nm_def, n10, if_false, e1, ek, asr_e, t1, nI_eq, hbb, e0, bz, bnd_e, jn_e, x12]
      rcases (show b = 0 ∨ b = 1 by omega) with rfl | rfl <;> rcases (show b0 = 0 ∨ b0 = 1 by omega) with rfl | rfl <;> rcases (show b1 = 0 ∨ b1 = 1 by omega) with rfl | rfl <;> first | rfl | exact absurd rfl hbb
    refine wp_of hcl ?_
    generalize (w1 M1 14 3 (nI b)) = M2 at *
    have e236 : M2.1 236 = M.1 236 := by rw [f2 236 (by decide), (g1 _ (by omega)).1]
    have hrf : ∀ Q : Int32 → Mem → Prop, wp (cal (fX9_begin 235 M2) (fun v6 M7 => some (M7.1 236 7 + nI b, w1 M7 236 8 (nI b)))) Q → wp (fX9_borrow 235 (nI 1) (nI b) M2) Q := fun Q hQ => by
      unfold fX9_borrow
      simp (disch := first | omega | (simp only [ln_3, ln_4, ln_5, ln_6, ln_7, ln_8, ln_9, ln_10, ln_11, ln_13, ln_15, ln_17, ln_18, ln_19, ln_20, ln_21, ln_22, ln_23, ln_25, ln_26, ln_27, ln_28, ln_29, ln_30, ln_31, ln_33, ln_234, ln_236, ln_237, ln_238, ln_239, ln_240, ln_241, ln_242, ln_243, ln_244]; omega)) only [r_noTyp M2 hp, cal_e, nlit, nm_def, if_true, nI_add, inb_nI, nI_clamp, asr_e, bnd_e, jn_e, Nat.reduceAdd, ln_236, e236, t1', w1_1, reduceIte, Nat.reduceEqDiff, and_true, and_false]
      refine Eq.mp ?_ hQ
      rcases (show b = 0 ∨ b = 1 by omega) with rfl | rfl <;> rcases (show b1 = 0 ∨ b1 = 1 by omega) with rfl | rfl <;> first | exact absurd rfl hbb | (simp [n10, show ¬ nI 0 = nI 1 by decide, Int32.add_comm])
    refine hrf _ (mut_ref h (Nat.le_refl N) hc g1 (fun j hj => ⟨f2 j (by omega), by rw [gB]⟩) (fun M3 b1' b2' => ?_))
    have s236 : M3.1 236 = M.1 236 := by rw [b1' _ (by omega) (by omega) (by omega), e236]
    rw [wp_some]
    refine ⟨?_, ⟨r, c, t, e, dt, RS_bor1 (A := vA M 1) (B := vB M 1) (s := M.1 236) (φ := M.2 240) H hb (eA_of (X := fun k => k == 13) g1 (fun j hj => f2 _ (by simp at hj; omega)) b1' (fun j hj => by rw [w1_o (by omega)])) ?_ (eB_of g1 (fun j _ => by rw [gB]) b2' (fun j _ => rfl)) (fun i h1 => ?_) ?_ (fun i _ => ?_)⟩, fun j h1 h2 h3 => by rw [w1_o h3], fun j hj => by rw [w1_o (by decide)], fun j _ _ => rfl⟩
    · (rw [s236, t0', nI_add]) <;> exact congrArg nI (by omega)
    · show (w1 M3 236 8 (nI b)).1 14 = _
      rw [w1_o (by omega), b1' _ (by omega) (by omega) (by omega), g12]
      rfl
    · rw [w1_1, if_neg (by omega), s236]
    · rw [w1_1, if_pos ⟨rfl, rfl⟩]
    · rw [w1_2, b2' _ (by omega) (by omega), gB, (g1 _ (by omega)).2]
theorem st_borrow {N : Nat} {M : Mem} {x y : Int32} (h : IV N M) (hN : N < 2 ^ 30) (hy : y = 0 ∨ y = 1) : W2 N (fX8_borrow 0 x y) (fX9_borrow 235 x y) M := by
  obtain ⟨b, hb, rfl⟩ : ∃ b, b < 2 ∧ y = nI b := by
    rcases hy with rfl | rfl
    · exact ⟨0, by decide, rfl⟩
    · exact ⟨1, by decide, rfl⟩
  have hox : ∀ x : Int32, (x < nI 0 ∨ nI 2 ≤ x) → W2 N (fX8_borrow 0 x (nI b)) (fX9_borrow 235 x (nI b)) M := fun x hx => by
    refine W2_same' (r := nm 1) h ?_ ?_
    · unfold fX8_borrow
      simp only [e_isTypn M hx, cal_e, nlit, nm_def, if_true]
    · unfold fX9_borrow
      simp only [r_noTypn M hx, cal_e, nlit, nm_def, n10, if_false]
  rcases pk_ix x (show 2 < 2 ^ 31 by decide) with hx | hx | ⟨p, hp, rfl⟩
  · exact hox _ (.inl hx)
  · exact hox _ (.inr hx)
  rcases (show p = 0 ∨ p = 1 by omega) with rfl | rfl
  · exact st_bor0 h hN hb
  · exact st_bor1 h hN hb
