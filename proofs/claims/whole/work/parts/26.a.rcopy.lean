/-! PURE: the copies of the reference -/
def cpo {α : Type} (g f : Nat → α) (off n : Nat) : Nat → α := fun j => if off ≤ j ∧ j < off + n then f (j - off) else g j
theorem cpv_0 {α : Type} (g f : Nat → α) : cpv g f 0 = g := by
  funext j
  simp [cpv]
theorem cpo_0 {α : Type} (g f : Nat → α) (off : Nat) : cpo g f off 0 = g := by
  funext j
  unfold cpo
  rw [if_neg (by omega)]
theorem cpv_succ (g f : Nat → Int32) (i : Nat) : upd (cpv g f i) i (f i) = cpv g f (i + 1) := by
  funext j
  unfold upd cpv
  by_cases h : j = i
  · subst h
    simp
  · by_cases h2 : j < i
    · simp [h, h2, show j < i + 1 by omega]
    · simp [h, h2, show ¬ j < i + 1 by omega]
theorem cpo_succ (g f : Nat → Int32) (off i : Nat) : upd (cpo g f off i) (off + i) (f i) = cpo g f off (i + 1) := by
  funext j
  unfold upd cpo
  by_cases h : j = off + i
  · subst h
    rw [if_pos rfl, if_pos (by omega)]
    exact congrArg f (by omega)
  · rw [if_neg h]
    by_cases h2 : off ≤ j ∧ j < off + i
    · rw [if_pos h2, if_pos (by omega)]
    · rw [if_neg h2, if_neg (by omega)]
theorem cpv_succF (g f : Nat → UInt32) (i : Nat) : vf_upd (cpv g f i) i (f i) = cpv g f (i + 1) := by
  funext j
  unfold vf_upd cpv
  by_cases h : j = i
  · subst h
    simp
  · by_cases h2 : j < i
    · simp [h, h2, show j < i + 1 by omega]
    · simp [h, h2, show ¬ j < i + 1 by omega]
theorem cpo_succF (g f : Nat → UInt32) (off i : Nat) : vf_upd (cpo g f off i) (off + i) (f i) = cpo g f off (i + 1) := by
  funext j
  unfold vf_upd cpo
  by_cases h : j = off + i
  · subst h
    rw [if_pos rfl, if_pos (by omega)]
    exact congrArg f (by omega)
  · rw [if_neg h]
    by_cases h2 : off ≤ j ∧ j < off + i
    · rw [if_pos h2, if_pos (by omega)]
    · rw [if_neg h2, if_neg (by omega)]
theorem wa_8 {M : Mem} {a : Nat} {f : Nat → Int32} (h : 235 ≠ a) : (wa M a f).1 235 8 = M.1 235 8 := by rw [wa_o h]
theorem wf_8 {M : Mem} {a : Nat} {f : Nat → UInt32} : (wf M a f).1 235 8 = M.1 235 8 := rfl
theorem l_rem1 {Q : Unit → Mem → Prop} {M : Mem} {K : Unit → Mem → Option (Unit × Mem)} (kk : wp (K () (wa M 239 (cpv (M.1 239) (M.1 236) 592))) Q) : wp (lp (FX9_remember_2 235 K) 1000000 0 M) Q := by
  refine lp_for 592 (fun i b M1 => b = nI i ∧ M1 = (wa M 239 (cpv (M.1 239) (M.1 236) i))) (by omega) ⟨rfl, by rw [cpv_0, wa_id rfl]⟩ ?_ ?_
  · rintro i b M1 rec hi ⟨rfl, rfl⟩ k2
    have := hi
    unfold FX9_remember_2
    simp (disch := first | omega | (simp only [ln_3, ln_4, ln_5, ln_6, ln_7, ln_8, ln_9, ln_10, ln_11, ln_13, ln_15, ln_17, ln_18, ln_19, ln_20, ln_21, ln_22, ln_23, ln_25, ln_26, ln_27, ln_28, ln_29, ln_30, ln_31, ln_33, ln_234, ln_236, ln_237, ln_238, ln_239, ln_240, ln_241, ln_242, ln_243, ln_244]; omega)) only [nlit, nI_add, nI_mul, nI_clamp, nI_leI, inb_nI, cal_e, bnd_e, asr_e, jn_e, if_true, Nat.reduceAdd, show ¬ (592 ≤ i) by omega, if_false, ln_236, ln_237, ln_238, ln_239, ln_240, ln_241, ln_242, ln_243, wa_o (show 236 ≠ 239 by decide)]
    refine k2 _ _ ⟨rfl, ?_⟩
    rw [w1_wa, ← cpv_succ]
  · rintro b M1 rec ⟨rfl, rfl⟩
    skip
    unfold FX9_remember_2
    simp (disch := first | omega | (simp only [ln_3, ln_4, ln_5, ln_6, ln_7, ln_8, ln_9, ln_10, ln_11, ln_13, ln_15, ln_17, ln_18, ln_19, ln_20, ln_21, ln_22, ln_23, ln_25, ln_26, ln_27, ln_28, ln_29, ln_30, ln_31, ln_33, ln_234, ln_236, ln_237, ln_238, ln_239, ln_240, ln_241, ln_242, ln_243, ln_244]; omega)) only [nlit, nI_leI, inb_nI, nI_clamp, cal_e, bnd_e, asr_e, jn_e, if_true, Nat.reduceAdd, Nat.le_refl, wp_some, ln_236]
    exact kk
theorem l_rem2 {Q : Unit → Mem → Prop} {M : Mem} (kk : Q () (wf M 243 (cpv (M.2 243) (M.2 240) 7))) : wp (lp (FX9_remember_29 235) 1000000 0 M) Q := by
  refine lp_for 7 (fun i b M1 => b = nI i ∧ M1 = (wf M 243 (cpv (M.2 243) (M.2 240) i))) (by omega) ⟨rfl, by rw [cpv_0, wf_id rfl]⟩ ?_ ?_
  · rintro i b M1 rec hi ⟨rfl, rfl⟩ k2
    have := hi
    unfold FX9_remember_29
    simp (disch := first | omega | (simp only [ln_3, ln_4, ln_5, ln_6, ln_7, ln_8, ln_9, ln_10, ln_11, ln_13, ln_15, ln_17, ln_18, ln_19, ln_20, ln_21, ln_22, ln_23, ln_25, ln_26, ln_27, ln_28, ln_29, ln_30, ln_31, ln_33, ln_234, ln_236, ln_237, ln_238, ln_239, ln_240, ln_241, ln_242, ln_243, ln_244]; omega)) only [nlit, nI_add, nI_mul, nI_clamp, nI_leI, inb_nI, cal_e, bnd_e, asr_e, jn_e, if_true, Nat.reduceAdd, show ¬ (7 ≤ i) by omega, if_false, ln_236, ln_237, ln_238, ln_239, ln_240, ln_241, ln_242, ln_243, wf_o (show 240 ≠ 243 by decide)]
    refine k2 _ _ ⟨rfl, ?_⟩
    rw [w2_wf, ← cpv_succF]
  · rintro b M1 rec ⟨rfl, rfl⟩
    skip
    unfold FX9_remember_29
    simp (disch := first | omega | (simp only [ln_3, ln_4, ln_5, ln_6, ln_7, ln_8, ln_9, ln_10, ln_11, ln_13, ln_15, ln_17, ln_18, ln_19, ln_20, ln_21, ln_22, ln_23, ln_25, ln_26, ln_27, ln_28, ln_29, ln_30, ln_31, ln_33, ln_234, ln_236, ln_237, ln_238, ln_239, ln_240, ln_241, ln_242, ln_243, ln_244]; omega)) only [nlit, nI_leI, inb_nI, nI_clamp, cal_e, bnd_e, asr_e, jn_e, if_true, Nat.reduceAdd, Nat.le_refl, wp_some, ln_236]
    exact kk
theorem l_back1 {Q : Unit → Mem → Prop} {M : Mem} {K : Unit → Mem → Option (Unit × Mem)} (kk : wp (K () (wa M 236 (cpv (M.1 236) (M.1 239) 592))) Q) : wp (lp (FX9_goBack_2 235 K) 1000000 0 M) Q := by
  refine lp_for 592 (fun i b M1 => b = nI i ∧ M1 = (wa M 236 (cpv (M.1 236) (M.1 239) i))) (by omega) ⟨rfl, by rw [cpv_0, wa_id rfl]⟩ ?_ ?_
  · rintro i b M1 rec hi ⟨rfl, rfl⟩ k2
    have := hi
    unfold FX9_goBack_2
    simp (disch := first | omega | (simp only [ln_3, ln_4, ln_5, ln_6, ln_7, ln_8, ln_9, ln_10, ln_11, ln_13, ln_15, ln_17, ln_18, ln_19, ln_20, ln_21, ln_22, ln_23, ln_25, ln_26, ln_27, ln_28, ln_29, ln_30, ln_31, ln_33, ln_234, ln_236, ln_237, ln_238, ln_239, ln_240, ln_241, ln_242, ln_243, ln_244]; omega)) only [nlit, nI_add, nI_mul, nI_clamp, nI_leI, inb_nI, cal_e, bnd_e, asr_e, jn_e, if_true, Nat.reduceAdd, show ¬ (592 ≤ i) by omega, if_false, ln_236, ln_237, ln_238, ln_239, ln_240, ln_241, ln_242, ln_243, wa_o (show 239 ≠ 236 by decide)]
    refine k2 _ _ ⟨rfl, ?_⟩
    rw [w1_wa, ← cpv_succ]
  · rintro b M1 rec ⟨rfl, rfl⟩
    skip
    unfold FX9_goBack_2
    simp (disch := first | omega | (simp only [ln_3, ln_4, ln_5, ln_6, ln_7, ln_8, ln_9, ln_10, ln_11, ln_13, ln_15, ln_17, ln_18, ln_19, ln_20, ln_21, ln_22, ln_23, ln_25, ln_26, ln_27, ln_28, ln_29, ln_30, ln_31, ln_33, ln_234, ln_236, ln_237, ln_238, ln_239, ln_240, ln_241, ln_242, ln_243, ln_244]; omega)) only [nlit, nI_leI, inb_nI, nI_clamp, cal_e, bnd_e, asr_e, jn_e, if_true, Nat.reduceAdd, Nat.le_refl, wp_some, ln_236]
    exact kk
theorem l_back2 {Q : Unit → Mem → Prop} {M : Mem} (kk : Q () (wf M 240 (cpv (M.2 240) (M.2 243) 7))) : wp (lp (FX9_goBack_29 235) 1000000 0 M) Q := by
  refine lp_for 7 (fun i b M1 => b = nI i ∧ M1 = (wf M 240 (cpv (M.2 240) (M.2 243) i))) (by omega) ⟨rfl, by rw [cpv_0, wf_id rfl]⟩ ?_ ?_
  · rintro i b M1 rec hi ⟨rfl, rfl⟩ k2
    have := hi
    unfold FX9_goBack_29
    simp (disch := first | omega | (simp only [ln_3, ln_4, ln_5, ln_6, ln_7, ln_8, ln_9, ln_10, ln_11, ln_13, ln_15, ln_17, ln_18, ln_19, ln_20, ln_21, ln_22, ln_23, ln_25, ln_26, ln_27, ln_28, ln_29, ln_30, ln_31, ln_33, ln_234, ln_236, ln_237, ln_238, ln_239, ln_240, ln_241, ln_242, ln_243, ln_244]; omega)) only [nlit, nI_add, nI_mul, nI_clamp, nI_leI, inb_nI, cal_e, bnd_e, asr_e, jn_e, if_true, Nat.reduceAdd, show ¬ (7 ≤ i) by omega, if_false, ln_236, ln_237, ln_238, ln_239, ln_240, ln_241, ln_242, ln_243, wf_o (show 243 ≠ 240 by decide)]
    refine k2 _ _ ⟨rfl, ?_⟩
    rw [w2_wf, ← cpv_succF]
  · rintro b M1 rec ⟨rfl, rfl⟩
    skip
    unfold FX9_goBack_29
    simp (disch := first | omega | (simp only [ln_3, ln_4, ln_5, ln_6, ln_7, ln_8, ln_9, ln_10, ln_11, ln_13, ln_15, ln_17, ln_18, ln_19, ln_20, ln_21, ln_22, ln_23, ln_25, ln_26, ln_27, ln_28, ln_29, ln_30, ln_31, ln_33, ln_234, ln_236, ln_237, ln_238, ln_239, ln_240, ln_241, ln_242, ln_243, ln_244]; omega)) only [nlit, nI_leI, inb_nI, nI_clamp, cal_e, bnd_e, asr_e, jn_e, if_true, Nat.reduceAdd, Nat.le_refl, wp_some, ln_236]
    exact kk
theorem l_keep1 {Q : Int32 → Mem → Prop} {M : Mem} {K : Unit → Mem → Option (Int32 × Mem)} (kk : wp (K () (wa M 238 (cpv (M.1 238) (M.1 236) 592))) Q) : wp (lp (FX9_keep_2 235 K) 1000000 0 M) Q := by
  refine lp_for 592 (fun i b M1 => b = nI i ∧ M1 = (wa M 238 (cpv (M.1 238) (M.1 236) i))) (by omega) ⟨rfl, by rw [cpv_0, wa_id rfl]⟩ ?_ ?_
  · rintro i b M1 rec hi ⟨rfl, rfl⟩ k2
    have := hi
    unfold FX9_keep_2
    simp (disch := first | omega | (simp only [ln_3, ln_4, ln_5, ln_6, ln_7, ln_8, ln_9, ln_10, ln_11, ln_13, ln_15, ln_17, ln_18, ln_19, ln_20, ln_21, ln_22, ln_23, ln_25, ln_26, ln_27, ln_28, ln_29, ln_30, ln_31, ln_33, ln_234, ln_236, ln_237, ln_238, ln_239, ln_240, ln_241, ln_242, ln_243, ln_244]; omega)) only [nlit, nI_add, nI_mul, nI_clamp, nI_leI, inb_nI, cal_e, bnd_e, asr_e, jn_e, if_true, Nat.reduceAdd, show ¬ (592 ≤ i) by omega, if_false, ln_236, ln_237, ln_238, ln_239, ln_240, ln_241, ln_242, ln_243, wa_o (show 236 ≠ 238 by decide)]
    refine k2 _ _ ⟨rfl, ?_⟩
    rw [w1_wa, ← cpv_succ]
  · rintro b M1 rec ⟨rfl, rfl⟩
    skip
    unfold FX9_keep_2
    simp (disch := first | omega | (simp only [ln_3, ln_4, ln_5, ln_6, ln_7, ln_8, ln_9, ln_10, ln_11, ln_13, ln_15, ln_17, ln_18, ln_19, ln_20, ln_21, ln_22, ln_23, ln_25, ln_26, ln_27, ln_28, ln_29, ln_30, ln_31, ln_33, ln_234, ln_236, ln_237, ln_238, ln_239, ln_240, ln_241, ln_242, ln_243, ln_244]; omega)) only [nlit, nI_leI, inb_nI, nI_clamp, cal_e, bnd_e, asr_e, jn_e, if_true, Nat.reduceAdd, Nat.le_refl, wp_some, ln_236]
    exact kk
theorem l_keep2 {Q : Int32 → Mem → Prop} {M : Mem} {K : Unit → Mem → Option (Int32 × Mem)} (kk : wp (K () (wf M 242 (cpv (M.2 242) (M.2 240) 7))) Q) : wp (lp (FX9_keep_29 235 K) 1000000 0 M) Q := by
  refine lp_for 7 (fun i b M1 => b = nI i ∧ M1 = (wf M 242 (cpv (M.2 242) (M.2 240) i))) (by omega) ⟨rfl, by rw [cpv_0, wf_id rfl]⟩ ?_ ?_
  · rintro i b M1 rec hi ⟨rfl, rfl⟩ k2
    have := hi
    unfold FX9_keep_29
    simp (disch := first | omega | (simp only [ln_3, ln_4, ln_5, ln_6, ln_7, ln_8, ln_9, ln_10, ln_11, ln_13, ln_15, ln_17, ln_18, ln_19, ln_20, ln_21, ln_22, ln_23, ln_25, ln_26, ln_27, ln_28, ln_29, ln_30, ln_31, ln_33, ln_234, ln_236, ln_237, ln_238, ln_239, ln_240, ln_241, ln_242, ln_243, ln_244]; omega)) only [nlit, nI_add, nI_mul, nI_clamp, nI_leI, inb_nI, cal_e, bnd_e, asr_e, jn_e, if_true, Nat.reduceAdd, show ¬ (7 ≤ i) by omega, if_false, ln_236, ln_237, ln_238, ln_239, ln_240, ln_241, ln_242, ln_243, wf_o (show 240 ≠ 242 by decide)]
    refine k2 _ _ ⟨rfl, ?_⟩
    rw [w2_wf, ← cpv_succF]
  · rintro b M1 rec ⟨rfl, rfl⟩
    skip
    unfold FX9_keep_29
    simp (disch := first | omega | (simp only [ln_3, ln_4, ln_5, ln_6, ln_7, ln_8, ln_9, ln_10, ln_11, ln_13, ln_15, ln_17, ln_18, ln_19, ln_20, ln_21, ln_22, ln_23, ln_25, ln_26, ln_27, ln_28, ln_29, ln_30, ln_31, ln_33, ln_234, ln_236, ln_237, ln_238, ln_239, ln_240, ln_241, ln_242, ln_243, ln_244]; omega)) only [nlit, nI_leI, inb_nI, nI_clamp, cal_e, bnd_e, asr_e, jn_e, if_true, Nat.reduceAdd, Nat.le_refl, wp_some, ln_236]
    exact kk
theorem l_res1 {Q : Int32 → Mem → Prop} {M : Mem} {K : Unit → Mem → Option (Int32 × Mem)} (kk : wp (K () (wa M 236 (cpv (M.1 236) (M.1 238) 592))) Q) : wp (lp (FX9_restore_16 235 K) 1000000 0 M) Q := by
  refine lp_for 592 (fun i b M1 => b = nI i ∧ M1 = (wa M 236 (cpv (M.1 236) (M.1 238) i))) (by omega) ⟨rfl, by rw [cpv_0, wa_id rfl]⟩ ?_ ?_
  · rintro i b M1 rec hi ⟨rfl, rfl⟩ k2
    have := hi
    unfold FX9_restore_16
    simp (disch := first | omega | (simp only [ln_3, ln_4, ln_5, ln_6, ln_7, ln_8, ln_9, ln_10, ln_11, ln_13, ln_15, ln_17, ln_18, ln_19, ln_20, ln_21, ln_22, ln_23, ln_25, ln_26, ln_27, ln_28, ln_29, ln_30, ln_31, ln_33, ln_234, ln_236, ln_237, ln_238, ln_239, ln_240, ln_241, ln_242, ln_243, ln_244]; omega)) only [nlit, nI_add, nI_mul, nI_clamp, nI_leI, inb_nI, cal_e, bnd_e, asr_e, jn_e, if_true, Nat.reduceAdd, show ¬ (592 ≤ i) by omega, if_false, ln_236, ln_237, ln_238, ln_239, ln_240, ln_241, ln_242, ln_243, wa_o (show 238 ≠ 236 by decide)]
    refine k2 _ _ ⟨rfl, ?_⟩
    rw [w1_wa, ← cpv_succ]
  · rintro b M1 rec ⟨rfl, rfl⟩
    skip
    unfold FX9_restore_16
    simp (disch := first | omega | (simp only [ln_3, ln_4, ln_5, ln_6, ln_7, ln_8, ln_9, ln_10, ln_11, ln_13, ln_15, ln_17, ln_18, ln_19, ln_20, ln_21, ln_22, ln_23, ln_25, ln_26, ln_27, ln_28, ln_29, ln_30, ln_31, ln_33, ln_234, ln_236, ln_237, ln_238, ln_239, ln_240, ln_241, ln_242, ln_243, ln_244]; omega)) only [nlit, nI_leI, inb_nI, nI_clamp, cal_e, bnd_e, asr_e, jn_e, if_true, Nat.reduceAdd, Nat.le_refl, wp_some, ln_236]
    exact kk
theorem l_res2 {Q : Int32 → Mem → Prop} {M : Mem} (kk : Q (M.1 236 2) (wf M 240 (cpv (M.2 240) (M.2 242) 7))) : wp (lp (FX9_restore_43 235) 1000000 0 M) Q := by
  refine lp_for 7 (fun i b M1 => b = nI i ∧ M1 = (wf M 240 (cpv (M.2 240) (M.2 242) i))) (by omega) ⟨rfl, by rw [cpv_0, wf_id rfl]⟩ ?_ ?_
  · rintro i b M1 rec hi ⟨rfl, rfl⟩ k2
    have := hi
    unfold FX9_restore_43
    simp (disch := first | omega | (simp only [ln_3, ln_4, ln_5, ln_6, ln_7, ln_8, ln_9, ln_10, ln_11, ln_13, ln_15, ln_17, ln_18, ln_19, ln_20, ln_21, ln_22, ln_23, ln_25, ln_26, ln_27, ln_28, ln_29, ln_30, ln_31, ln_33, ln_234, ln_236, ln_237, ln_238, ln_239, ln_240, ln_241, ln_242, ln_243, ln_244]; omega)) only [nlit, nI_add, nI_mul, nI_clamp, nI_leI, inb_nI, cal_e, bnd_e, asr_e, jn_e, if_true, Nat.reduceAdd, show ¬ (7 ≤ i) by omega, if_false, ln_236, ln_237, ln_238, ln_239, ln_240, ln_241, ln_242, ln_243, wf_o (show 242 ≠ 240 by decide)]
    refine k2 _ _ ⟨rfl, ?_⟩
    rw [w2_wf, ← cpv_succF]
  · rintro b M1 rec ⟨rfl, rfl⟩
    skip
    unfold FX9_restore_43
    simp (disch := first | omega | (simp only [ln_3, ln_4, ln_5, ln_6, ln_7, ln_8, ln_9, ln_10, ln_11, ln_13, ln_15, ln_17, ln_18, ln_19, ln_20, ln_21, ln_22, ln_23, ln_25, ln_26, ln_27, ln_28, ln_29, ln_30, ln_31, ln_33, ln_234, ln_236, ln_237, ln_238, ln_239, ln_240, ln_241, ln_242, ln_243, ln_244]; omega)) only [nlit, nI_leI, inb_nI, nI_clamp, cal_e, bnd_e, asr_e, jn_e, if_true, Nat.reduceAdd, Nat.le_refl, wp_some, ln_236]
    exact kk
theorem l_rec1 {Q : Unit → Mem → Prop} {M : Mem} {K : Unit → Mem → Option (Unit × Mem)} (kk : wp (K () (wa M 237 (cpv (M.1 237) (fun j => M.1 237 (592 + j)) 1776))) Q) : wp (lp (FX9_record_10 235 K) 1000000 0 M) Q := by
  refine lp_for 1776 (fun i b M1 => b = nI i ∧ M1 = (wa M 237 (cpv (M.1 237) (fun j => M.1 237 (592 + j)) i))) (by omega) ⟨rfl, by rw [cpv_0, wa_id rfl]⟩ ?_ ?_
  · rintro i b M1 rec hi ⟨rfl, rfl⟩ k2
    have := hi
    have rdself : ((wa M 237 (cpv (M.1 237) (fun j => M.1 237 (592 + j)) i))).1 237 (592 + i) = M.1 237 (592 + i) := by
      rw [wa_self]
      unfold cpv
      rw [if_neg (by omega)]
    unfold FX9_record_10
    simp (disch := first | omega | (simp only [ln_3, ln_4, ln_5, ln_6, ln_7, ln_8, ln_9, ln_10, ln_11, ln_13, ln_15, ln_17, ln_18, ln_19, ln_20, ln_21, ln_22, ln_23, ln_25, ln_26, ln_27, ln_28, ln_29, ln_30, ln_31, ln_33, ln_234, ln_236, ln_237, ln_238, ln_239, ln_240, ln_241, ln_242, ln_243, ln_244]; omega)) only [nlit, nI_add, nI_mul, nI_clamp, nI_leI, inb_nI, cal_e, bnd_e, asr_e, jn_e, if_true, Nat.reduceAdd, show ¬ (1776 ≤ i) by omega, if_false, ln_236, ln_237, ln_238, ln_239, ln_240, ln_241, ln_242, ln_243, rdself]
    refine k2 _ _ ⟨rfl, ?_⟩
    rw [w1_wa, ← cpv_succ]
  · rintro b M1 rec ⟨rfl, rfl⟩
    skip
    unfold FX9_record_10
    simp (disch := first | omega | (simp only [ln_3, ln_4, ln_5, ln_6, ln_7, ln_8, ln_9, ln_10, ln_11, ln_13, ln_15, ln_17, ln_18, ln_19, ln_20, ln_21, ln_22, ln_23, ln_25, ln_26, ln_27, ln_28, ln_29, ln_30, ln_31, ln_33, ln_234, ln_236, ln_237, ln_238, ln_239, ln_240, ln_241, ln_242, ln_243, ln_244]; omega)) only [nlit, nI_leI, inb_nI, nI_clamp, cal_e, bnd_e, asr_e, jn_e, if_true, Nat.reduceAdd, Nat.le_refl, wp_some, ln_236]
    exact kk
theorem l_rec2 {Q : Unit → Mem → Prop} {M : Mem} {K : Unit → Mem → Option (Unit × Mem)} (kk : wp (K () (wf M 241 (cpv (M.2 241) (fun j => M.2 241 (7 + j)) 21))) Q) : wp (lp (FX9_record_41 235 K) 1000000 0 M) Q := by
  refine lp_for 21 (fun i b M1 => b = nI i ∧ M1 = (wf M 241 (cpv (M.2 241) (fun j => M.2 241 (7 + j)) i))) (by omega) ⟨rfl, by rw [cpv_0, wf_id rfl]⟩ ?_ ?_
  · rintro i b M1 rec hi ⟨rfl, rfl⟩ k2
    have := hi
    have rdself : ((wf M 241 (cpv (M.2 241) (fun j => M.2 241 (7 + j)) i))).2 241 (7 + i) = M.2 241 (7 + i) := by
      rw [wf_self]
      unfold cpv
      rw [if_neg (by omega)]
    unfold FX9_record_41
    simp (disch := first | omega | (simp only [ln_3, ln_4, ln_5, ln_6, ln_7, ln_8, ln_9, ln_10, ln_11, ln_13, ln_15, ln_17, ln_18, ln_19, ln_20, ln_21, ln_22, ln_23, ln_25, ln_26, ln_27, ln_28, ln_29, ln_30, ln_31, ln_33, ln_234, ln_236, ln_237, ln_238, ln_239, ln_240, ln_241, ln_242, ln_243, ln_244]; omega)) only [nlit, nI_add, nI_mul, nI_clamp, nI_leI, inb_nI, cal_e, bnd_e, asr_e, jn_e, if_true, Nat.reduceAdd, show ¬ (21 ≤ i) by omega, if_false, ln_236, ln_237, ln_238, ln_239, ln_240, ln_241, ln_242, ln_243, rdself]
    refine k2 _ _ ⟨rfl, ?_⟩
    rw [w2_wf, ← cpv_succF]
  · rintro b M1 rec ⟨rfl, rfl⟩
    skip
    unfold FX9_record_41
    simp (disch := first | omega | (simp only [ln_3, ln_4, ln_5, ln_6, ln_7, ln_8, ln_9, ln_10, ln_11, ln_13, ln_15, ln_17, ln_18, ln_19, ln_20, ln_21, ln_22, ln_23, ln_25, ln_26, ln_27, ln_28, ln_29, ln_30, ln_31, ln_33, ln_234, ln_236, ln_237, ln_238, ln_239, ln_240, ln_241, ln_242, ln_243, ln_244]; omega)) only [nlit, nI_leI, inb_nI, nI_clamp, cal_e, bnd_e, asr_e, jn_e, if_true, Nat.reduceAdd, Nat.le_refl, wp_some, ln_236]
    exact kk
theorem l_rec3 {Q : Unit → Mem → Prop} {M : Mem} {K : Unit → Mem → Option (Unit × Mem)} {st : Nat} (hs : M.1 235 8 = nI st) (hs4 : st ≤ 3) (kk : wp (K () (wa M 237 (cpo (M.1 237) (M.1 239) (592 * st) 592))) Q) : wp (lp (FX9_record_80 235 K) 1000000 0 M) Q := by
  refine lp_for 592 (fun i b M1 => b = nI i ∧ M1 = (wa M 237 (cpo (M.1 237) (M.1 239) (592 * st) i))) (by omega) ⟨rfl, by rw [cpo_0, wa_id rfl]⟩ ?_ ?_
  · rintro i b M1 rec hi ⟨rfl, rfl⟩ k2
    have hs2 : ((wa M 237 (cpo (M.1 237) (M.1 239) (592 * st) i))).1 235 8 = nI st := by first | exact hs | (rw [wa_8 (by decide)]; exact hs)
    unfold FX9_record_80
    simp (disch := first | omega | (simp only [ln_3, ln_4, ln_5, ln_6, ln_7, ln_8, ln_9, ln_10, ln_11, ln_13, ln_15, ln_17, ln_18, ln_19, ln_20, ln_21, ln_22, ln_23, ln_25, ln_26, ln_27, ln_28, ln_29, ln_30, ln_31, ln_33, ln_234, ln_236, ln_237, ln_238, ln_239, ln_240, ln_241, ln_242, ln_243, ln_244]; omega)) only [nlit, nI_add, nI_mul, nI_clamp, nI_leI, inb_nI, cal_e, bnd_e, asr_e, jn_e, if_true, Nat.reduceAdd, show ¬ (592 ≤ i) by omega, if_false, ln_236, ln_237, ln_238, ln_239, ln_240, ln_241, ln_242, ln_243, hs2, wa_o (show 239 ≠ 237 by decide)]
    refine k2 _ _ ⟨rfl, ?_⟩
    rw [w1_wa, ← cpo_succ]
  · rintro b M1 rec ⟨rfl, rfl⟩
    have hs2 : ((wa M 237 (cpo (M.1 237) (M.1 239) (592 * st) 592))).1 235 8 = nI st := by first | exact hs | (rw [wa_8 (by decide)]; exact hs)
    unfold FX9_record_80
    simp (disch := first | omega | (simp only [ln_3, ln_4, ln_5, ln_6, ln_7, ln_8, ln_9, ln_10, ln_11, ln_13, ln_15, ln_17, ln_18, ln_19, ln_20, ln_21, ln_22, ln_23, ln_25, ln_26, ln_27, ln_28, ln_29, ln_30, ln_31, ln_33, ln_234, ln_236, ln_237, ln_238, ln_239, ln_240, ln_241, ln_242, ln_243, ln_244]; omega)) only [nlit, nI_leI, inb_nI, nI_clamp, cal_e, bnd_e, asr_e, jn_e, if_true, Nat.reduceAdd, Nat.le_refl, wp_some, ln_236]
    exact kk
theorem l_rec4 {Q : Unit → Mem → Prop} {M : Mem} {K : Unit → Mem → Option (Unit × Mem)} {st : Nat} (hs : M.1 235 8 = nI st) (hs4 : st ≤ 3) (kk : wp (K () (wf M 241 (cpo (M.2 241) (M.2 243) (7 * st) 7))) Q) : wp (lp (FX9_record_116 235 K) 1000000 0 M) Q := by
  refine lp_for 7 (fun i b M1 => b = nI i ∧ M1 = (wf M 241 (cpo (M.2 241) (M.2 243) (7 * st) i))) (by omega) ⟨rfl, by rw [cpo_0, wf_id rfl]⟩ ?_ ?_
  · rintro i b M1 rec hi ⟨rfl, rfl⟩ k2
    have hs2 : ((wf M 241 (cpo (M.2 241) (M.2 243) (7 * st) i))).1 235 8 = nI st := by first | exact hs | (rw [wa_8 (by decide)]; exact hs)
    unfold FX9_record_116
    simp (disch := first | omega | (simp only [ln_3, ln_4, ln_5, ln_6, ln_7, ln_8, ln_9, ln_10, ln_11, ln_13, ln_15, ln_17, ln_18, ln_19, ln_20, ln_21, ln_22, ln_23, ln_25, ln_26, ln_27, ln_28, ln_29, ln_30, ln_31, ln_33, ln_234, ln_236, ln_237, ln_238, ln_239, ln_240, ln_241, ln_242, ln_243, ln_244]; omega)) only [nlit, nI_add, nI_mul, nI_clamp, nI_leI, inb_nI, cal_e, bnd_e, asr_e, jn_e, if_true, Nat.reduceAdd, show ¬ (7 ≤ i) by omega, if_false, ln_236, ln_237, ln_238, ln_239, ln_240, ln_241, ln_242, ln_243, hs2, wf_o (show 243 ≠ 241 by decide)]
    refine k2 _ _ ⟨rfl, ?_⟩
    rw [w2_wf, ← cpo_succF]
  · rintro b M1 rec ⟨rfl, rfl⟩
    have hs2 : ((wf M 241 (cpo (M.2 241) (M.2 243) (7 * st) 7))).1 235 8 = nI st := by first | exact hs | (rw [wa_8 (by decide)]; exact hs)
    unfold FX9_record_116
    simp (disch := first | omega | (simp only [ln_3, ln_4, ln_5, ln_6, ln_7, ln_8, ln_9, ln_10, ln_11, ln_13, ln_15, ln_17, ln_18, ln_19, ln_20, ln_21, ln_22, ln_23, ln_25, ln_26, ln_27, ln_28, ln_29, ln_30, ln_31, ln_33, ln_234, ln_236, ln_237, ln_238, ln_239, ln_240, ln_241, ln_242, ln_243, ln_244]; omega)) only [nlit, nI_leI, inb_nI, nI_clamp, cal_e, bnd_e, asr_e, jn_e, if_true, Nat.reduceAdd, Nat.le_refl, wp_some, ln_236]
    exact kk
theorem l_und1 {Q : Int32 → Mem → Prop} {M : Mem} {K : Unit → Mem → Option (Int32 × Mem)} {st : Nat} (hs : M.1 235 8 = nI st) (hs4 : st ≤ 3) (kk : wp (K () (wa M 236 (cpv (M.1 236) (fun j => M.1 237 (592 * st + j)) 592))) Q) : wp (lp (FX9_undo_22 235 K) 1000000 0 M) Q := by
  refine lp_for 592 (fun i b M1 => b = nI i ∧ M1 = (wa M 236 (cpv (M.1 236) (fun j => M.1 237 (592 * st + j)) i))) (by omega) ⟨rfl, by rw [cpv_0, wa_id rfl]⟩ ?_ ?_
  · rintro i b M1 rec hi ⟨rfl, rfl⟩ k2
    have hs2 : ((wa M 236 (cpv (M.1 236) (fun j => M.1 237 (592 * st + j)) i))).1 235 8 = nI st := by first | exact hs | (rw [wa_8 (by decide)]; exact hs)
    unfold FX9_undo_22
    simp (disch := first | omega | (simp only [ln_3, ln_4, ln_5, ln_6, ln_7, ln_8, ln_9, ln_10, ln_11, ln_13, ln_15, ln_17, ln_18, ln_19, ln_20, ln_21, ln_22, ln_23, ln_25, ln_26, ln_27, ln_28, ln_29, ln_30, ln_31, ln_33, ln_234, ln_236, ln_237, ln_238, ln_239, ln_240, ln_241, ln_242, ln_243, ln_244]; omega)) only [nlit, nI_add, nI_mul, nI_clamp, nI_leI, inb_nI, cal_e, bnd_e, asr_e, jn_e, if_true, Nat.reduceAdd, show ¬ (592 ≤ i) by omega, if_false, ln_236, ln_237, ln_238, ln_239, ln_240, ln_241, ln_242, ln_243, hs2, wa_o (show 237 ≠ 236 by decide)]
    refine k2 _ _ ⟨rfl, ?_⟩
    rw [w1_wa, ← cpv_succ]
  · rintro b M1 rec ⟨rfl, rfl⟩
    have hs2 : ((wa M 236 (cpv (M.1 236) (fun j => M.1 237 (592 * st + j)) 592))).1 235 8 = nI st := by first | exact hs | (rw [wa_8 (by decide)]; exact hs)
    unfold FX9_undo_22
    simp (disch := first | omega | (simp only [ln_3, ln_4, ln_5, ln_6, ln_7, ln_8, ln_9, ln_10, ln_11, ln_13, ln_15, ln_17, ln_18, ln_19, ln_20, ln_21, ln_22, ln_23, ln_25, ln_26, ln_27, ln_28, ln_29, ln_30, ln_31, ln_33, ln_234, ln_236, ln_237, ln_238, ln_239, ln_240, ln_241, ln_242, ln_243, ln_244]; omega)) only [nlit, nI_leI, inb_nI, nI_clamp, cal_e, bnd_e, asr_e, jn_e, if_true, Nat.reduceAdd, Nat.le_refl, wp_some, ln_236]
    exact kk
theorem l_und2 {Q : Int32 → Mem → Prop} {M : Mem} {st : Nat} (hs : M.1 235 8 = nI st) (hs4 : st ≤ 3) (kk : Q (nI st) (wf M 240 (cpv (M.2 240) (fun j => M.2 241 (7 * st + j)) 7))) : wp (lp (FX9_undo_58 235) 1000000 0 M) Q := by
  refine lp_for 7 (fun i b M1 => b = nI i ∧ M1 = (wf M 240 (cpv (M.2 240) (fun j => M.2 241 (7 * st + j)) i))) (by omega) ⟨rfl, by rw [cpv_0, wf_id rfl]⟩ ?_ ?_
  · rintro i b M1 rec hi ⟨rfl, rfl⟩ k2
    have hs2 : ((wf M 240 (cpv (M.2 240) (fun j => M.2 241 (7 * st + j)) i))).1 235 8 = nI st := by first | exact hs | (rw [wa_8 (by decide)]; exact hs)
    unfold FX9_undo_58
    simp (disch := first | omega | (simp only [ln_3, ln_4, ln_5, ln_6, ln_7, ln_8, ln_9, ln_10, ln_11, ln_13, ln_15, ln_17, ln_18, ln_19, ln_20, ln_21, ln_22, ln_23, ln_25, ln_26, ln_27, ln_28, ln_29, ln_30, ln_31, ln_33, ln_234, ln_236, ln_237, ln_238, ln_239, ln_240, ln_241, ln_242, ln_243, ln_244]; omega)) only [nlit, nI_add, nI_mul, nI_clamp, nI_leI, inb_nI, cal_e, bnd_e, asr_e, jn_e, if_true, Nat.reduceAdd, show ¬ (7 ≤ i) by omega, if_false, ln_236, ln_237, ln_238, ln_239, ln_240, ln_241, ln_242, ln_243, hs2, wf_o (show 241 ≠ 240 by decide)]
    refine k2 _ _ ⟨rfl, ?_⟩
    rw [w2_wf, ← cpv_succF]
  · rintro b M1 rec ⟨rfl, rfl⟩
    have hs2 : ((wf M 240 (cpv (M.2 240) (fun j => M.2 241 (7 * st + j)) 7))).1 235 8 = nI st := by first | exact hs | (rw [wa_8 (by decide)]; exact hs)
    unfold FX9_undo_58
    simp (disch := first | omega | (simp only [ln_3, ln_4, ln_5, ln_6, ln_7, ln_8, ln_9, ln_10, ln_11, ln_13, ln_15, ln_17, ln_18, ln_19, ln_20, ln_21, ln_22, ln_23, ln_25, ln_26, ln_27, ln_28, ln_29, ln_30, ln_31, ln_33, ln_234, ln_236, ln_237, ln_238, ln_239, ln_240, ln_241, ln_242, ln_243, ln_244]; omega)) only [nlit, nI_leI, inb_nI, nI_clamp, cal_e, bnd_e, asr_e, jn_e, if_true, Nat.reduceAdd, Nat.le_refl, wp_some, ln_236, hs2]
    exact kk
