/-! PURE: the invariant; undo, keep, restore -/
def NowR (N : Nat) (M : Mem) : Prop := RS N (vA M 1) (vB M 1) (M.1 236) (M.2 240)
def SN (N : Nat) (M : Mem) : Prop := (M.1 0 5 = nI 0 ∧ M.1 235 9 = nI 0) ∨ (M.1 0 5 = nI 1 ∧ M.1 235 9 = nI 1 ∧ RS N (vA M 67) (vB M 67) (M.1 238) (M.2 242))
def SC (M : Mem) : Prop := ∃ L, L ≤ 60 ∧ M.1 233 0 = nI L ∧ M.1 235 11 = nI L ∧ ∀ j, j < L → ∃ u, u < 65536 ∧ M.1 234 j = nI u ∧ M.1 244 j = nI u
def IV (N : Nat) (M : Mem) : Prop := NowR N M ∧ (∃ q st, HI q st N M) ∧ SN N M ∧ SC M
def Iv (n : Nat) (M : Mem) : Prop := IV (n * 20000) M
theorem SN_f {N : Nat} {M M1 : Mem} (h : SN N M) (g : (∀ k, 67 ≤ k → k < 100 → M1.1 k = M.1 k ∧ M1.2 k = M.2 k) ∧ M1.1 0 5 = M.1 0 5 ∧ M1.1 235 9 = M.1 235 9 ∧ M1.1 238 = M.1 238 ∧ M1.2 242 = M.2 242) : SN N M1 := by
  obtain ⟨g1, g2, g3, g4, g5⟩ := g
  unfold SN
  rw [g2, g3, g4, g5]
  rcases h with h | ⟨h1, h2, h3⟩
  · exact .inl h
  · exact .inr ⟨h1, h2, RS_v h3 (fun k hk => g1 _ (by omega) (by omega))⟩
theorem SC_f {M M1 : Mem} (h : SC M) (g : M1.1 233 0 = M.1 233 0 ∧ M1.1 235 11 = M.1 235 11 ∧ M1.1 234 = M.1 234 ∧ M1.1 244 = M.1 244) : SC M1 := by
  unfold SC
  rw [g.1, g.2.1, g.2.2.1, g.2.2.2]
  exact h
theorem NowR_f {N : Nat} {M M1 : Mem} (h : NowR N M) (g : (∀ k, 1 ≤ k → k < 34 → M1.1 k = M.1 k ∧ M1.2 k = M.2 k) ∧ M1.1 236 = M.1 236 ∧ M1.2 240 = M.2 240) : NowR N M1 := by
  unfold NowR
  rw [g.2.1, g.2.2]
  exact RS_v h (fun k hk => g.1 _ (by omega) (by omega))
theorem SN_mono {N N2 : Nat} {M : Mem} (h : SN N M) (hN : N ≤ N2) : SN N2 M := by
  rcases h with h | ⟨h1, h2, h3⟩
  · exact .inl h
  · exact .inr ⟨h1, h2, RS_mono h3 hN⟩
theorem IV_mono {N N2 : Nat} {M : Mem} (h : IV N M) (hN : N ≤ N2) : IV N2 M := by
  obtain ⟨h1, ⟨q, st, h2⟩, h3, h4⟩ := h
  exact ⟨RS_mono h1 hN, ⟨q, st, HI_mono h2 hN⟩, SN_mono h3 hN, h4⟩
/-- class and reference, one after the other, tell the same -/
def W2 (N : Nat) {α : Type} (x y : Mem → Option (α × Mem)) (M : Mem) : Prop := wp (x M) (fun r M1 => wp (y M1) (fun r2 M2 => r2 = r ∧ IV N M2))
theorem PSt_of {n : Nat} {α : Type} {x y : Mem → Option (α × Mem)} {M : Mem} (h : W2 ((n + 1) * 20000) x y M) : PSt Iv n x y M := by
  obtain ⟨r, M1, e, r2, M2, e2, rfl, h⟩ := h
  exact ⟨r2, M1, M2, e, e2, h⟩
theorem W2_mono {N N2 : Nat} {α : Type} {x y : Mem → Option (α × Mem)} {M : Mem} (h : W2 N x y M) (hN : N ≤ N2) : W2 N2 x y M := wp_mono h (fun _ _ h => wp_mono h (fun _ _ h => ⟨h.1, IV_mono h.2 hN⟩))
/-- neither changes anything -/
theorem W2_same {N : Nat} {α : Type} {x y : Mem → Option (α × Mem)} {M : Mem} {r : α} (h : IV N M) (hx : x M = some (r, M)) (hy : wp (y M) (fun r2 M2 => r2 = r ∧ (∀ k, k ≠ 235 → M2.1 k = M.1 k) ∧ (∀ j, j < 12 → M2.1 235 j = M.1 235 j) ∧ M2.2 = M.2)) : W2 N x y M := by
  refine wp_of hx (wp_mono hy (fun r2 M2 ⟨e, h1, h2, h3⟩ => ⟨e, ?_⟩))
  obtain ⟨g1, ⟨q, st, g2⟩, g3, g4⟩ := h
  have h1' : ∀ k, k ≠ 235 → M2.1 k = M.1 k ∧ M2.2 k = M.2 k := fun k hk => ⟨h1 k hk, by rw [h3]⟩
  exact ⟨NowR_f g1 ⟨fun k _ _ => h1' k (by omega), h1 _ (by omega), by rw [h3]⟩, ⟨q, st, HI_f g2 ⟨fun k _ _ => h1' k (by omega), h2 _ (by omega), h1 _ (by omega), by rw [h3]⟩⟩,
    SN_f g3 ⟨fun k _ _ => h1' k (by omega), by rw [h1 0 (by omega)], h2 _ (by omega), h1 _ (by omega), by rw [h3]⟩, SC_f g4 ⟨by rw [h1 _ (by omega)], h2 _ (by omega), h1 _ (by omega), h1 _ (by omega)⟩⟩
theorem st_undo {N : Nat} {M : Mem} (h : IV N M) : W2 N (fX8_undo 0) (fX9_undo 235) M := by
  have h0 := h
  obtain ⟨g1, ⟨q, st, g2⟩, g3, g4⟩ := h
  obtain ⟨a1, a2, a3, a4, a5⟩ := g2
  rcases st with _ | st
  · refine W2_same (r := nm 5) h0 ?_ ?_
    · unfold fX8_undo
      simp only [Nat.reduceAdd, a2, nlit, if_true, nm_def]
    · unfold fX9_undo
      simp only [a3, nlit, if_true, nm_def, wp_some, implies_true, and_self]
  · have hr := a5 0 (by omega)
    obtain ⟨M1, e, p1, p2, p3, p4⟩ := e_takeBack M (RS_bz hr) a4 a2 a1
    unfold W2 fX8_undo
    simp only [Nat.reduceAdd, a2, nlit, nI_eq (show st + 1 < 2 ^ 31 by omega) (show 0 < 2 ^ 31 by decide), show ¬ (st + 1 = 0) by omega, if_false, e, cal_e, wp_some]
    unfold fX9_undo
    have e8 : M1.1 235 8 = nI (st + 1) := by rw [(p4 235 (by omega) (by omega)).1]; exact a3
    simp only [e8, nlit, nI_eq (show st + 1 < 2 ^ 31 by omega) (show 0 < 2 ^ 31 by decide), show ¬ (st + 1 = 0) by omega, if_false, wp_bnd, nI_sub (show 1 ≤ st + 1 by omega), Nat.add_sub_cancel]
    refine l_und1 (st := st) (by simp [w1_1]) (by omega) (l_und2 (st := st) (by rw [wa_8 (by decide)]; simp [w1_1]) (by omega) ?_)
    refine ⟨p1.symm, ?_, ⟨q + 1, st, by omega, ?_, ?_, ?_, fun i hi => ?_⟩, SN_f g3 ⟨fun k _ _ => ⟨?_, ?_⟩, ?_, ?_, ?_, ?_⟩, SC_f g4 ⟨?_, ?_, ?_, ?_⟩⟩
    · refine RS_v (RS_c hr p3 (fun i hi => ?_) (fun i hi => ?_)) (fun k hk => ⟨?_, ?_⟩)
      · simp (disch := omega) only [wf_1, wf_self, wf_o, wa_o, wa_self, wa_2, w1_o, w1_2, w2_1, w2_o, cpv_lt, (p4 237 (by omega) (by omega)).1]
        exact congrArg _ (by omega)
      · simp (disch := omega) only [wf_1, wf_self, wf_o, wa_o, wa_self, wa_2, w1_o, w1_2, w2_1, w2_o, cpv_lt, (p4 241 (by omega) (by omega)).2]
        exact congrArg _ (by omega)
      · simp (disch := omega) only [vA, wf_1, wf_self, wf_o, wa_o, wa_self, wa_2, w1_o, w1_2, w2_1, w2_o, cpv_lt]
      · simp (disch := omega) only [vB, wf_1, wf_self, wf_o, wa_o, wa_self, wa_2, w1_o, w1_2, w2_1, w2_o, cpv_lt]
    · simp (disch := omega) only [wf_1, wf_self, wf_o, wa_o, wa_self, wa_2, w1_o, w1_2, w2_1, w2_o, cpv_lt]
      exact p1
    · simp (disch := omega) [wf_1, wf_self, wf_o, wa_o, wa_self, wa_2, w1_o, w1_2, w2_1, w2_o, cpv_lt, w1_1]
    · intro i hi
      simp (disch := omega) only [wf_1, wf_self, wf_o, wa_o, wa_self, wa_2, w1_o, w1_2, w2_1, w2_o, cpv_lt]
      exact p2 i hi
    · have hi2 := a5 (i + 1) (by omega)
      have rg := hb_rng (q + 1 + i)
      have e1 : q + (i + 1) = q + 1 + i := by omega
      rw [e1] at hi2
      refine RS_v (RS_s hi2 (fun j hj => ?_) (fun j hj => ?_)) (fun k hk => ⟨?_, ?_⟩)
      · simp (disch := omega) only [wf_1, wf_self, wf_o, wa_o, wa_self, wa_2, w1_o, w1_2, w2_1, w2_o, cpv_lt, (p4 237 (by omega) (by omega)).1]
        exact congrArg _ (by omega)
      · simp (disch := omega) only [wf_1, wf_self, wf_o, wa_o, wa_self, wa_2, w1_o, w1_2, w2_1, w2_o, cpv_lt, (p4 241 (by omega) (by omega)).2]
        exact congrArg _ (by omega)
      · simp (disch := omega) only [vA, wf_1, wf_self, wf_o, wa_o, wa_self, wa_2, w1_o, w1_2, w2_1, w2_o, cpv_lt]
        exact (p4 _ (by omega) (by omega)).1
      · simp (disch := omega) only [vB, wf_1, wf_self, wf_o, wa_o, wa_self, wa_2, w1_o, w1_2, w2_1, w2_o, cpv_lt]
        exact (p4 _ (by omega) (by omega)).2
    · simp (disch := omega) only [wf_1, wf_self, wf_o, wa_o, wa_self, wa_2, w1_o, w1_2, w2_1, w2_o, cpv_lt]
      exact (p4 k (by omega) (by omega)).1
    · simp (disch := omega) only [wf_1, wf_self, wf_o, wa_o, wa_self, wa_2, w1_o, w1_2, w2_1, w2_o, cpv_lt]
      exact (p4 k (by omega) (by omega)).2
    · simp (disch := omega) only [wf_1, wf_self, wf_o, wa_o, wa_self, wa_2, w1_o, w1_2, w2_1, w2_o, cpv_lt]
      rw [(p4 0 (by omega) (by omega)).1]
    · simp (disch := omega) [wf_1, wf_self, wf_o, wa_o, wa_self, wa_2, w1_o, w1_2, w2_1, w2_o, cpv_lt, w1_1]
      rw [(p4 235 (by omega) (by omega)).1]
    · simp (disch := omega) only [wf_1, wf_self, wf_o, wa_o, wa_self, wa_2, w1_o, w1_2, w2_1, w2_o, cpv_lt]
      exact (p4 _ (by omega) (by omega)).1
    · simp (disch := omega) only [wf_1, wf_self, wf_o, wa_o, wa_self, wa_2, w1_o, w1_2, w2_1, w2_o, cpv_lt]
      exact (p4 _ (by omega) (by omega)).2
    · simp (disch := omega) only [wf_1, wf_self, wf_o, wa_o, wa_self, wa_2, w1_o, w1_2, w2_1, w2_o, cpv_lt]
      rw [(p4 233 (by omega) (by omega)).1]
    · simp (disch := omega) [wf_1, wf_self, wf_o, wa_o, wa_self, wa_2, w1_o, w1_2, w2_1, w2_o, cpv_lt, w1_1]
      rw [(p4 235 (by omega) (by omega)).1]
    · simp (disch := omega) only [wf_1, wf_self, wf_o, wa_o, wa_self, wa_2, w1_o, w1_2, w2_1, w2_o, cpv_lt]
      exact (p4 _ (by omega) (by omega)).1
    · simp (disch := omega) only [wf_1, wf_self, wf_o, wa_o, wa_self, wa_2, w1_o, w1_2, w2_1, w2_o, cpv_lt]
      exact (p4 _ (by omega) (by omega)).1
theorem RS_t {N a : Nat} {M : Mem} {s : Nat → Int32} {φ : Nat → UInt32} (h : RS N (vA M a) (vB M a) s φ) : M.1 a 6 = s 2 := by
  obtain ⟨r, c, t, e, dt, h1, h2, h3, h4, h5, h6, h7, h8, h9, h10, h11, h12⟩ := h
  have := h12.2.1
  rw [h12.2.2.1]
  exact this
theorem st_keep {N : Nat} {M : Mem} (h : IV N M) : W2 N (fX8_keep 0) (fX9_keep 235) M := by
  obtain ⟨g1, ⟨q, st, g2⟩, g3, g4⟩ := h
  obtain ⟨M1, e, p1, p2⟩ := e_copySt (a := 67) (b := 1) M (by decide) (by decide) (by decide) (RS_bz g1)
  unfold W2 fX8_keep
  simp only [Nat.reduceAdd, e, wp_cal, wp_asr, wp_bnd, wp_some, cal_e]
  refine ⟨by decide, ?_⟩
  unfold fX9_keep
  refine l_keep1 (l_keep2 ?_)
  simp only [wp_asr, wp_bnd, wp_some, Nat.reduceAdd]
  refine ⟨by decide, by decide +kernel, ?_, ?_, ⟨q, st, HI_f g2 ⟨fun k _ _ => ⟨?_, ?_⟩, ?_, ?_, ?_⟩⟩, .inr ⟨?_, ?_, ?_⟩, SC_f g4 ⟨?_, ?_, ?_, ?_⟩⟩
  · simp (disch := omega) only [wf_1, wf_self, wf_o, wa_o, wa_self, wa_2, w1_o, w1_2, w2_1, w2_o, cpv_lt]
    rw [show (2 : Int32).toNatClampNeg = 2 from rfl, (p2 236 (by omega)).1, (p2 1 (by omega)).1]
    exact (RS_t g1).symm
  · refine NowR_f g1 ⟨fun k _ _ => ⟨?_, ?_⟩, ?_, ?_⟩
    · simp (disch := omega) only [wf_1, wf_self, wf_o, wa_o, wa_self, wa_2, w1_o, w1_2, w2_1, w2_o, cpv_lt]
      exact (p2 k (by omega)).1
    · simp (disch := omega) only [wf_1, wf_self, wf_o, wa_o, wa_self, wa_2, w1_o, w1_2, w2_1, w2_o, cpv_lt]
      exact (p2 k (by omega)).2
    · simp (disch := omega) only [wf_1, wf_self, wf_o, wa_o, wa_self, wa_2, w1_o, w1_2, w2_1, w2_o, cpv_lt]
      exact (p2 236 (by omega)).1
    · simp (disch := omega) only [wf_1, wf_self, wf_o, wa_o, wa_self, wa_2, w1_o, w1_2, w2_1, w2_o, cpv_lt]
      exact (p2 240 (by omega)).2
  · simp (disch := omega) only [wf_1, wf_self, wf_o, wa_o, wa_self, wa_2, w1_o, w1_2, w2_1, w2_o, cpv_lt]
    exact (p2 k (by omega)).1
  · simp (disch := omega) only [wf_1, wf_self, wf_o, wa_o, wa_self, wa_2, w1_o, w1_2, w2_1, w2_o, cpv_lt]
    exact (p2 k (by omega)).2
  · simp (disch := omega) [wf_1, wf_self, wf_o, wa_o, wa_self, wa_2, w1_o, w1_2, w2_1, w2_o, cpv_lt, w1_1]
    rw [(p2 235 (by omega)).1]
  · simp (disch := omega) only [wf_1, wf_self, wf_o, wa_o, wa_self, wa_2, w1_o, w1_2, w2_1, w2_o, cpv_lt]
    exact (p2 237 (by omega)).1
  · simp (disch := omega) only [wf_1, wf_self, wf_o, wa_o, wa_self, wa_2, w1_o, w1_2, w2_1, w2_o, cpv_lt]
    exact (p2 241 (by omega)).2
  · simp (disch := omega) [wf_1, wf_self, wf_o, wa_o, wa_self, wa_2, w1_o, w1_2, w2_1, w2_o, cpv_lt, w1_1, nlit]
  · simp (disch := omega) [wf_1, wf_self, wf_o, wa_o, wa_self, wa_2, w1_o, w1_2, w2_1, w2_o, cpv_lt, w1_1, nlit]
  · refine RS_v (RS_c g1 p1 (fun i hi => ?_) (fun i hi => ?_)) (fun k hk => ⟨?_, ?_⟩)
    · simp (disch := omega) only [wf_1, wf_self, wf_o, wa_o, wa_self, wa_2, w1_o, w1_2, w2_1, w2_o, cpv_lt]
      rw [(p2 236 (by omega)).1]
    · simp (disch := omega) only [wf_1, wf_self, wf_o, wa_o, wa_self, wa_2, w1_o, w1_2, w2_1, w2_o, cpv_lt]
      rw [(p2 240 (by omega)).2]
    · simp (disch := omega) only [vA, wf_1, wf_self, wf_o, wa_o, wa_self, wa_2, w1_o, w1_2, w2_1, w2_o, cpv_lt]
    · simp (disch := omega) only [vB, wf_1, wf_self, wf_o, wa_o, wa_self, wa_2, w1_o, w1_2, w2_1, w2_o, cpv_lt]
  · simp (disch := omega) only [wf_1, wf_self, wf_o, wa_o, wa_self, wa_2, w1_o, w1_2, w2_1, w2_o, cpv_lt]
    rw [(p2 233 (by omega)).1]
  · simp (disch := omega) [wf_1, wf_self, wf_o, wa_o, wa_self, wa_2, w1_o, w1_2, w2_1, w2_o, cpv_lt, w1_1]
    rw [(p2 235 (by omega)).1]
  · simp (disch := omega) only [wf_1, wf_self, wf_o, wa_o, wa_self, wa_2, w1_o, w1_2, w2_1, w2_o, cpv_lt]
    exact (p2 234 (by omega)).1
  · simp (disch := omega) only [wf_1, wf_self, wf_o, wa_o, wa_self, wa_2, w1_o, w1_2, w2_1, w2_o, cpv_lt]
    exact (p2 244 (by omega)).1
theorem st_restore {N : Nat} {M : Mem} (h : IV N M) : W2 N (fX8_restore 0) (fX9_restore 235) M := by
  have h0 := h
  obtain ⟨g1, ⟨q, st, g2⟩, g3, g4⟩ := h
  rcases g3 with ⟨s1, s2⟩ | ⟨s1, s2, s3⟩
  · refine W2_same (r := nm 5) h0 ?_ ?_
    · unfold fX8_restore
      simp only [s1, nlit, if_true, nm_def]
    · unfold fX9_restore
      simp only [s2, nlit, if_true, nm_def, wp_some, implies_true, and_self]
  · obtain ⟨M1, e, p1, p2⟩ := c_rec g2 (a := 1) (by decide) (by decide) g1
    have hz : bzb (M1.1 (67 + 11) 3) = true ∧ bzb (M1.1 (67 + 13) 3) = true := by
      rw [(p2 (67 + 11) (by omega)).1, (p2 (67 + 13) (by omega)).1]
      exact RS_bz s3
    obtain ⟨M2, e2, q1, q2⟩ := e_copySt (a := 1) (b := 67) M1 (by decide) (by decide) (by decide) hz
    have e236 : M2.1 236 = M.1 236 := by rw [(q2 _ (by omega)).1, (p2 _ (by omega)).1]
    have e240 : M2.2 240 = M.2 240 := by rw [(q2 _ (by omega)).2, (p2 _ (by omega)).2]
    have e238 : M2.1 238 = M.1 238 := by rw [(q2 _ (by omega)).1, (p2 _ (by omega)).1]
    have e242 : M2.2 242 = M.2 242 := by rw [(q2 _ (by omega)).2, (p2 _ (by omega)).2]
    have e235 : M2.1 235 = M.1 235 := by rw [(q2 _ (by omega)).1, (p2 _ (by omega)).1]
    have n01 : ¬ (nI 1 = nI 0) := by decide
    unfold W2 fX8_restore
    simp only [Nat.reduceAdd, s1, nlit, n01, if_false, e, e2, cal_e, wp_some]
    unfold fX9_restore
    simp only [e235, s2, nlit, n01, if_false, wp_cal]
    have hc : HC (q + 3) st N M2 (M2.1 236) (M2.2 240) := by
      rw [e236, e240]
      exact HC_f p1 ⟨fun k _ _ => q2 k (by omega), by rw [(q2 235 (by omega)).1], (q2 237 (by omega)).1, (q2 241 (by omega)).2⟩
    refine wp_mono (r_begin hc) (fun _ M3 ⟨b1, b2, b3, b4⟩ => ?_)
    refine l_res1 (l_res2 ?_)
    have hn : NowR N (wf (wa M3 236 (cpv (M3.1 236) (M3.1 238) 592)) 240 (cpv ((wa M3 236 (cpv (M3.1 236) (M3.1 238) 592)).2 240) ((wa M3 236 (cpv (M3.1 236) (M3.1 238) 592)).2 242) 7)) := by
      have s3' : RS N (vA M1 67) (vB M1 67) (M.1 238) (M.2 242) := RS_v s3 (fun k hk => p2 _ (by omega))
      refine RS_v (RS_c s3' q1 (fun i hi => ?_) (fun i hi => ?_)) (fun k hk => ⟨?_, ?_⟩)
      · simp (disch := omega) only [wf_1, wf_self, wf_o, wa_o, wa_self, wa_2, w1_o, w1_2, w2_1, w2_o, cpv_lt, b2, e238]
      · simp (disch := omega) only [wf_1, wf_self, wf_o, wa_o, wa_self, wa_2, w1_o, w1_2, w2_1, w2_o, cpv_lt, b4, e242]
      · simp (disch := omega) only [vA, wf_1, wf_self, wf_o, wa_o, wa_self, wa_2, w1_o, w1_2, w2_1, w2_o, cpv_lt, b2]
      · simp (disch := omega) only [vB, wf_1, wf_self, wf_o, wa_o, wa_self, wa_2, w1_o, w1_2, w2_1, w2_o, cpv_lt, b4]
    refine ⟨?_, hn, ⟨q + 3, _, HI_f b1 ⟨fun k _ _ => ⟨?_, ?_⟩, ?_, ?_, ?_⟩⟩, .inr ⟨?_, ?_, ?_⟩, SC_f g4 ⟨?_, ?_, ?_, ?_⟩⟩
    · have := RS_t hn
      simp (disch := omega) only [wf_1, wf_self, wf_o, wa_o, wa_self, wa_2, w1_o, w1_2, w2_1, w2_o, cpv_lt, b2] at this ⊢
      exact this.symm
    · simp (disch := omega) only [wf_1, wf_self, wf_o, wa_o, wa_self, wa_2, w1_o, w1_2, w2_1, w2_o, cpv_lt]
    · simp (disch := omega) only [wf_1, wf_self, wf_o, wa_o, wa_self, wa_2, w1_o, w1_2, w2_1, w2_o, cpv_lt]
    · simp (disch := omega) only [wf_1, wf_self, wf_o, wa_o, wa_self, wa_2, w1_o, w1_2, w2_1, w2_o, cpv_lt]
    · simp (disch := omega) only [wf_1, wf_self, wf_o, wa_o, wa_self, wa_2, w1_o, w1_2, w2_1, w2_o, cpv_lt]
    · simp (disch := omega) only [wf_1, wf_self, wf_o, wa_o, wa_self, wa_2, w1_o, w1_2, w2_1, w2_o, cpv_lt]
    · simp (disch := omega) only [wf_1, wf_self, wf_o, wa_o, wa_self, wa_2, w1_o, w1_2, w2_1, w2_o, cpv_lt, b2, (q2 _ _).1, (p2 _ _).1]
      exact s1
    · simp (disch := omega) only [wf_1, wf_self, wf_o, wa_o, wa_self, wa_2, w1_o, w1_2, w2_1, w2_o, cpv_lt, b3]
      rw [e235]
      exact s2
    · refine RS_v (RS_s s3 (fun i hi => ?_) (fun i hi => ?_)) (fun k hk => ⟨?_, ?_⟩)
      · simp (disch := omega) only [wf_1, wf_self, wf_o, wa_o, wa_self, wa_2, w1_o, w1_2, w2_1, w2_o, cpv_lt, b2, e238]
      · simp (disch := omega) only [wf_1, wf_self, wf_o, wa_o, wa_self, wa_2, w1_o, w1_2, w2_1, w2_o, cpv_lt, b4, e242]
      · simp (disch := omega) only [vA, wf_1, wf_self, wf_o, wa_o, wa_self, wa_2, w1_o, w1_2, w2_1, w2_o, cpv_lt, b2]
        rw [(q2 _ (by omega)).1, (p2 _ (by omega)).1]
      · simp (disch := omega) only [vB, wf_1, wf_self, wf_o, wa_o, wa_self, wa_2, w1_o, w1_2, w2_1, w2_o, cpv_lt, b4]
        rw [(q2 _ (by omega)).2, (p2 _ (by omega)).2]
    · simp (disch := omega) only [wf_1, wf_self, wf_o, wa_o, wa_self, wa_2, w1_o, w1_2, w2_1, w2_o, cpv_lt, b2]
      rw [(q2 _ (by omega)).1, (p2 _ (by omega)).1]
    · simp (disch := omega) only [wf_1, wf_self, wf_o, wa_o, wa_self, wa_2, w1_o, w1_2, w2_1, w2_o, cpv_lt, b3]
      rw [e235]
    · simp (disch := omega) only [wf_1, wf_self, wf_o, wa_o, wa_self, wa_2, w1_o, w1_2, w2_1, w2_o, cpv_lt, b2]
      rw [(q2 _ (by omega)).1, (p2 _ (by omega)).1]
    · simp (disch := omega) only [wf_1, wf_self, wf_o, wa_o, wa_self, wa_2, w1_o, w1_2, w2_1, w2_o, cpv_lt, b2]
      rw [(q2 _ (by omega)).1, (p2 _ (by omega)).1]
