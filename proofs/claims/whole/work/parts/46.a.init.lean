/-! PURE: the start -/
def rz : Nat → Int32 := ck (upd (upd (upd (upd (upd (upd (fun _ => 0) 0 (nI 4)) 1 (nI 6)) 3 (nm 5)) 5 (nm 5)) 4 (nm 5)) 6 (nm 5)) 48
def pz : Nat → UInt32 := vf_upd (vf_upd (vf_upd (vf_upd (vf_upd (vf_upd (vf_upd (fun _ => 0) 0 1082130432) 2 1086324736) 1 1090519040) 3 1092616192) 4 1040187392) 5 1056964608) 6 1048576000
theorem fl_0 : FP.fmul 1082130432 (FP.i2f (nI 0)) = 0 ∧ FP.fadd 1082130432 0 = 1082130432 ∧ FP.fadd 1086324736 0 = 1086324736 := by decide +kernel
theorem fl_1 : FP.fmul 1082130432 (FP.i2f (nI 1)) = 1082130432 ∧ FP.fadd 1082130432 1082130432 = 1090519040 ∧ FP.fadd 1086324736 1082130432 = 1092616192 := by decide +kernel
theorem nn_s : nnb 0 = true ∧ nnb 1082130432 = true ∧ nnb 1086324736 = true ∧ nnb 1090519040 = true ∧ nnb 1092616192 = true := by decide +kernel
def FI (Z M : Mem) : Prop := (∀ k, k ≠ 236 → M.1 k = Z.1 k) ∧ (∀ k, k ≠ 240 → M.2 k = Z.2 k)
theorem FI_1 {Z M : Mem} {i : Nat} {x : Int32} (h : FI Z M) : FI Z (w1 M 236 i x) := ⟨fun k hk => by rw [w1_o hk, h.1 k hk], h.2⟩
theorem FI_2 {Z M : Mem} {i : Nat} {x : UInt32} (h : FI Z M) : FI Z (w2 M 240 i x) := ⟨h.1, fun k hk => by rw [w2_o hk, h.2 k hk]⟩
theorem init_g {Z : Mem} (h1 : Z.1 236 = fun _ => 0) (h2 : Z.2 240 = fun _ => 0) : wp (fX9_initB 235 Z) (fun _ M0 => M0.1 236 = rz ∧ M0.2 240 = pz ∧ FI Z M0) := by
  unfold fX9_initB
  simp (disch := first | omega | (simp only [ln_3, ln_4, ln_5, ln_6, ln_7, ln_8, ln_9, ln_10, ln_11, ln_13, ln_15, ln_17, ln_18, ln_19, ln_20, ln_21, ln_22, ln_23, ln_25, ln_26, ln_27, ln_28, ln_29, ln_30, ln_31, ln_33, ln_234, ln_236, ln_237, ln_238, ln_239, ln_240, ln_241, ln_242, ln_243, ln_244]; omega)) only [nlit', Nat.reduceAdd, ln_236, inb_nI, nI_clamp, asr_x, bnd_x]
  refine lp_for 2 (fun i b M1 => b = nI i ∧ FI Z M1 ∧ (i = 0 → M1.1 236 = upd (upd (fun _ => 0) 0 (nI 4)) 1 (nI 6) ∧ M1.2 240 = fun _ => 0) ∧
    (i = 1 → M1.1 236 = upd (upd (upd (upd (fun _ => 0) 0 (nI 4)) 1 (nI 6)) 3 (nm 5)) 5 (nm 5) ∧ M1.2 240 = vf_upd (vf_upd (fun _ => 0) 0 1082130432) 2 1086324736) ∧
    (i = 2 → M1.1 236 = upd (upd (upd (upd (upd (upd (fun _ => 0) 0 (nI 4)) 1 (nI 6)) 3 (nm 5)) 5 (nm 5)) 4 (nm 5)) 6 (nm 5) ∧ M1.2 240 = vf_upd (vf_upd (vf_upd (vf_upd (fun _ => 0) 0 1082130432) 2 1086324736) 1 1090519040) 3 1092616192)) (by omega) ⟨rfl, FI_1 (FI_1 ⟨fun _ _ => rfl, fun _ _ => rfl⟩), fun _ => ⟨by rw [w1_self, w1_self, h1], by rw [w1_2, w1_2, h2]⟩, fun q => absurd q (by decide), fun q => absurd q (by decide)⟩ ?_ ?_
  · rintro i b M1 rec hi ⟨rfl, g0, g1, g2, _⟩ kk
    rcases (show i = 0 ∨ i = 1 by omega) with rfl | rfl
    · obtain ⟨p1, p2⟩ := g1 rfl
      unfold FX9_init_97
      simp (disch := first | omega | (simp only [ln_3, ln_4, ln_5, ln_6, ln_7, ln_8, ln_9, ln_10, ln_11, ln_13, ln_15, ln_17, ln_18, ln_19, ln_20, ln_21, ln_22, ln_23, ln_25, ln_26, ln_27, ln_28, ln_29, ln_30, ln_31, ln_33, ln_234, ln_236, ln_237, ln_238, ln_239, ln_240, ln_241, ln_242, ln_243, ln_244]; omega)) only [nlit', nm_x, nI_add, nI_leI, Nat.reduceAdd, Nat.reduceLeDiff, if_false, ln_236, ln_240, inb_nI, nI_clamp, asr_x, bnd_x, fl_0, nn_s]
      refine kk _ _ ⟨rfl, FI_2 (FI_2 (FI_1 (FI_1 g0))), fun q => absurd q (by decide), fun _ => ⟨?_, ?_⟩, fun q => absurd q (by decide)⟩
      · rw [w2_1, w2_1, w1_self, w1_self, p1]
      · rw [w2_self, w2_self, w1_2, w1_2, p2]
    · obtain ⟨p1, p2⟩ := g2 rfl
      unfold FX9_init_97
      simp (disch := first | omega | (simp only [ln_3, ln_4, ln_5, ln_6, ln_7, ln_8, ln_9, ln_10, ln_11, ln_13, ln_15, ln_17, ln_18, ln_19, ln_20, ln_21, ln_22, ln_23, ln_25, ln_26, ln_27, ln_28, ln_29, ln_30, ln_31, ln_33, ln_234, ln_236, ln_237, ln_238, ln_239, ln_240, ln_241, ln_242, ln_243, ln_244]; omega)) only [nlit', nm_x, nI_add, nI_leI, Nat.reduceAdd, Nat.reduceLeDiff, if_false, ln_236, ln_240, inb_nI, nI_clamp, asr_x, bnd_x, fl_1, nn_s]
      refine kk _ _ ⟨rfl, FI_2 (FI_2 (FI_1 (FI_1 g0))), fun q => absurd q (by decide), fun q => absurd q (by decide), fun _ => ⟨?_, ?_⟩⟩
      · rw [w2_1, w2_1, w1_self, w1_self, p1]
      · rw [w2_self, w2_self, w1_2, w1_2, p2]
  · rintro b M1 rec ⟨rfl, g0, _, _, g3⟩
    obtain ⟨p1, p2⟩ := g3 rfl
    unfold FX9_init_97
    rw [if_pos (show (2 : Int32) ≤ nI 2 by decide)]
    simp only [ln_240, r_clear, cal_x, wp_some, bnd_x, Nat.reduceAdd]
    refine ⟨?_, ?_, ?_⟩
    · rw [wa_self, w2_1, w2_1, w2_1, p1]
      rfl
    · rw [wa_2, w2_self, w2_self, w2_self, p2]
      rfl
    · obtain ⟨q1, q2⟩ := FI_2 (i := 6) (x := 1048576000) (FI_2 (i := 5) (x := 1056964608) (FI_2 (i := 4) (x := 1040187392) g0))
      exact ⟨fun k hk => by rw [wa_o hk]; exact q1 k hk, fun k hk => by rw [wa_2]; exact q2 k hk⟩
