theorem e_f2ib {b : Nat} (M : Mem) (hb : b ≤ 2139095040) : fJxf58ca_floatToIntBits_5c35a (nI b).toUInt32 M = some (nI b, M) := by
  have hn : ((nI b).toUInt32).toNat ≤ 2139095040 := by rw [toU_n (by omega)]; exact hb
  have h0 : fcl (nI b).toUInt32 (nI b).toUInt32 = 0 := (fcl_nn hn hn).1.mpr rfl
  unfold fJxf58ca_floatToIntBits_5c35a fJxf58ca_isNaN_12338
  rw [if_pos h0, cal_e, if_pos rfl]
  rfl
theorem r_set {M : Mem} {w b b0 : Nat} {Q : Int32 → Mem → Prop} (hw : w < 3) (hb : b < 2 ^ 31) (hb0 : b0 < lims w) (z : M.2 240 (4 + w) = (nI b0).toUInt32) (k1 : lims w ≤ b → Q (nm 2) M) (k2 : b0 = b → Q (nm 5) M)
    (k3 : b < lims w → b0 ≠ b → wp (cal (fX9_begin 235 M) (fun _ M8 => some (nI b0, w2 M8 240 (4 + w) (nI b).toUInt32))) Q) : wp (fX9_set 235 (nI w) (nI b) M) Q := by
  have hl : lims w ≤ 1082130433 := by
    rcases (show w = 0 ∨ w = 1 ∨ w = 2 by omega) with rfl | rfl | rfl <;> decide
  have hand : nI b &&& 2147483647 = nI b := by
    rw [pk_andN (by omega) 31 (by decide), Nat.mod_eq_of_lt hb]
  obtain ⟨mo, mo1, mo2⟩ := most_ok hw
  have hin : fX9_in (nI w) 0 2 M = some (nI 1, M) := e_in1 (k := w) (a := 0) (b := 2) M (by omega) (by omega) (by decide)
  have mo3 : ∀ K : UInt32 → Mem → Option (Int32 × Mem), jn K (fun j4 => if nI w = 0 then j4 FP.fconst2 M else if nI w = 1 then j4 1082130432 M else j4 FP.fconst1 M) = K mo M := fun K => mo2 K M
  unfold fX9_set
  rw [hin, cal_e, if_neg (show ¬ nI 1 = (0 : Int32) by decide), if_neg (show ¬ nI b < (0 : Int32) from nI_nlt0 hb), hand]
  by_cases hbig : b ≤ 2139095040
  · rw [if_pos (show nI b ≤ (2139095040 : Int32) from nI_le hbig (by decide)), sn_no hbig, Bool.not_false, asr_e, mo3]
    have hn : ((nI b).toUInt32).toNat = b := toU_n (by omega)
    have f0 := fcl_nn (x := (nI b).toUInt32) (y := FP.fconst0) (by omega) (by decide)
    have fm := fcl_nn (x := (nI b).toUInt32) (y := mo) (by omega) (by omega)
    rw [if_neg (show ¬ fcl (nI b).toUInt32 FP.fconst0 < (0 : Int32) from fun q => by
      have := f0.2.1.mp q
      rw [show FP.fconst0.toNat = 0 from rfl] at this
      omega)]
    by_cases hacc : lims w ≤ b
    · rw [if_neg (show ¬ fcg (nI b).toUInt32 mo ≤ (0 : Int32) from fun q => by have := fm.2.2.mp q; omega)]
      exact wp_some.mpr (k1 hacc)
    · rw [if_pos (show fcg (nI b).toUInt32 mo ≤ (0 : Int32) from fm.2.2.mpr (by omega))]
      simp (disch := first | omega | (simp only [ln_3, ln_4, ln_5, ln_6, ln_7, ln_8, ln_9, ln_10, ln_11, ln_13, ln_15, ln_17, ln_18, ln_19, ln_20, ln_21, ln_22, ln_23, ln_25, ln_26, ln_27, ln_28, ln_29, ln_30, ln_31, ln_33, ln_234, ln_236, ln_237, ln_238, ln_239, ln_240, ln_241, ln_242, ln_243, ln_244]; omega)) only [nlit, nm_def, nI_add, inb_nI, nI_clamp, asr_e, bnd_e, Nat.reduceAdd, ln_240, z, e_f2ib _ (show b0 ≤ 2139095040 by omega), cal_e]
      have hn0 : ((nI b0).toUInt32).toNat = b0 := toU_n (by omega)
      have fe := fcl_nn (x := (nI b0).toUInt32) (y := (nI b).toUInt32) (by omega) (by omega)
      refine wp_ite.mpr ⟨fun q => wp_some.mpr (k2 ?_), fun q => k3 (by omega) (fun q2 => q ?_)⟩
      · have := fe.1.mp q
        omega
      · refine fe.1.mpr ?_
        omega
  · rw [if_neg (show ¬ nI b ≤ (2139095040 : Int32) from nI_ge (a := 2139095040) (by omega) hb)]
    exact wp_some.mpr (k1 (by omega))
theorem st_set {N : Nat} {M : Mem} {x y : Int32} (h : IV N M) (hN : N < 2 ^ 30) : W2 N (fX8_set 0 x y) (fX9_set 235 x y) M := by
  obtain ⟨r, c, t, e, dt, H⟩ := h.nf
  have hox : ∀ x : Int32, (x < nI 0 ∨ nI 3 ≤ x) → W2 N (fX8_set 0 x y) (fX9_set 235 x y) M := fun x hx => by
    have hx' : x < nI 0 ∨ nI 2 < x := by
      rw [lt_of_le_nI (by decide)]
      exact hx
    refine W2_same' (r := nm 2) h ?_ ?_
    · unfold fX8_set
      simp only [e_accN M (.inl hx), cal_e, nlit', nm_def, if_true]
    · unfold fX9_set
      simp only [nlit', e_in0 M hx', cal_e, nm_def, if_true]
  rcases pk_ix x (show 3 < 2 ^ 31 by decide) with hx | hx | ⟨w, hw, rfl⟩
  · exact hox _ (.inl hx)
  · exact hox _ (.inr hx)
  have hin := e_in1 (k := w) (a := 0) (b := 2) M (by omega) (by omega) (by decide)
  rcases neg_nI (x := y) with hy | ⟨b, hb, rfl⟩
  · refine W2_same' (r := nm 2) h ?_ ?_
    · unfold fX8_set
      simp only [e_accN M (.inr hy), cal_e, nlit', nm_def, if_true]
    · unfold fX9_set
      simp only [nlit', hin, cal_e, nm_def, n10, if_false, hy, if_true]
  have hb0 : ¬ nI b < nI 0 := nI_nlt0 hb
  have hl : lims w ≤ 1082130433 := by
    rcases (show w = 0 ∨ w = 1 ∨ w = 2 by omega) with rfl | rfl | rfl <;> decide
  have hst : (∃ b0, b0 < lims w ∧ M.1 33 w = nI b0 ∧ M.2 240 (4 + w) = (nI b0).toUInt32) := by
    rcases (show w = 0 ∨ w = 1 ∨ w = 2 by omega) with rfl | rfl | rfl
    · exact H.set0.1
    · exact H.set1.1
    · exact H.set2.1
  obtain ⟨b0, hb0l, z1, z2⟩ := hst
  have eacc := e_acc M hw hb
  have e33 : fX4_bitsOf 32 (nI w) M = some (nI b0, M) := by
    unfold fX4_bitsOf
    rw [e_at (a := 32 + 1) M (show w < ln 33 from hw), cal_e]
    exact congrArg (fun q => some (q, M)) z1
  by_cases hacc : lims w ≤ b
  · rw [if_pos hacc] at eacc
    refine W2_same (r := nm 2) h ?_ (r_set hw hb hb0l z2 (fun _ => ⟨rfl, fun _ _ => rfl, fun _ _ => rfl, rfl⟩) (fun q => absurd q (by omega)) (fun q => absurd hacc (by omega)))
    unfold fX8_set
    simp only [eacc, cal_e, nlit', nm_def, if_true]
  · rw [if_neg hacc] at eacc
    by_cases heq : b0 = b
    · refine W2_same (r := nm 5) h ?_ (r_set hw hb hb0l z2 (fun q => absurd q hacc) (fun _ => ⟨rfl, fun _ _ => rfl, fun _ _ => rfl, rfl⟩) (fun _ q => absurd heq q))
      unfold fX8_set
      simp only [eacc, cal_e, nlit', nm_def, n10, if_false, Nat.reduceAdd, e33, heq, if_true]
    · obtain ⟨q0, st, M1, e0, hc, g1⟩ := mut_rec h
      have hcl : fX8_set 0 (nI w) (nI b) M = some (nI b0, w2 (w1 M1 33 w (nI b)) 32 (1 + w) (nI b).toUInt32) := by
        unfold fX8_set
        have n1 : ¬ nI b0 = nI b := by rw [nI_eq (by omega) hb]; exact heq
        simp only [eacc, cal_e, nlit', nm_def, n10, if_false, Nat.reduceAdd, e33, n1, e0, e_change hw (show b < lims w by omega)]
      refine wp_of hcl ?_
      have f2 : ∀ j, j ≠ 33 → (w2 (w1 M1 33 w (nI b)) 32 (1 + w) (nI b).toUInt32).1 j = M1.1 j := fun j h1 => by rw [w2_1, w1_o h1]
      have fB : ∀ j, j ≠ 32 → (w2 (w1 M1 33 w (nI b)) 32 (1 + w) (nI b).toUInt32).2 j = M1.2 j := fun j h1 => by rw [w2_o h1, w1_2]
      have g33 : (w2 (w1 M1 33 w (nI b)) 32 (1 + w) (nI b).toUInt32).1 33 = upd (M.1 33) w (nI b) := by rw [w2_1, w1_self, (g1 33 (by omega)).1]
      have g32 : (w2 (w1 M1 33 w (nI b)) 32 (1 + w) (nI b).toUInt32).2 32 = vf_upd (M.2 32) (1 + w) (nI b).toUInt32 := by rw [w2_self, w1_2, (g1 32 (by omega)).2]
      generalize (w2 (w1 M1 33 w (nI b)) 32 (1 + w) (nI b).toUInt32) = M2 at *
      have e236 : M2.1 236 = M.1 236 := by rw [f2 236 (by decide), (g1 _ (by omega)).1]
      have e240 : M2.2 240 = M.2 240 := by rw [fB 240 (by decide), (g1 _ (by omega)).2]
      refine r_set hw hb hb0l (by rw [e240]; exact z2) (fun q => absurd q hacc) (fun q => absurd q heq) (fun _ _ => ?_)
      refine mut_ref h (Nat.le_refl N) hc g1 (fun j hj => ⟨f2 j (by omega), fB j (by omega)⟩) (fun M3 b1' b2' => ?_)
      have s236 : M3.1 236 = M.1 236 := by rw [b1' _ (by omega) (by omega) (by omega), e236]
      have s240 : M3.2 240 = M.2 240 := by rw [b2' _ (by omega) (by omega), e240]
      rw [wp_some]
      refine ⟨rfl, ⟨r, c, t, e, dt, ?_⟩, fun j _ _ _ => rfl, fun j hj => rfl, fun j h1 h2 => by rw [w2_o h2]⟩
      have eR : (w2 M3 240 (4 + w) (nI b).toUInt32).1 236 = M.1 236 := s236
      rw [eR]
      refine RS_set (A := vA M 1) (B := vB M 1) (φ := M.2 240) H hw (show b < lims w by omega) (eA_of (X := fun k => k == 32) g1 (fun j hj => f2 _ (by simp at hj; omega)) b1' (fun j hj => rfl)) ?_ (fun j hj hj2 => ?_) ?_ (fun i => rfl) ?_
      · show M3.1 33 = _
        rw [b1' _ (by omega) (by omega) (by omega), g33]
        rfl
      · have hj3 : j ≠ 31 := by simpa using hj2
        show (w2 M3 240 (4 + w) (nI b).toUInt32).2 (1 + j) = M.2 (1 + j)
        rw [w2_o (by omega), b2' _ (by omega) (by omega), fB _ (by omega), (g1 _ (by omega)).2]
      · show (w2 M3 240 (4 + w) (nI b).toUInt32).2 32 = _
        rw [w2_o (by omega), b2' _ (by omega) (by omega), g32]
        rfl
      · rw [w2_self, s240]
