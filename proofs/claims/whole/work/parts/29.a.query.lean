/-! PURE: what is asked (1) -/
theorem W2_same' {N : Nat} {α : Type} {x y : Mem → Option (α × Mem)} {M : Mem} {r : α} (h : IV N M) (hx : x M = some (r, M)) (hy : y M = some (r, M)) : W2 N x y M :=
  W2_same h hx (wp_of hy ⟨rfl, fun _ _ => rfl, fun _ _ => rfl, rfl⟩)
theorem oN_eq {x y : Int32} {n k : Nat} (h : oN x y n) (hk : k < 2 ^ 31) : (x = nI k) = (y = nI k) := by
  rcases h with ⟨h1, h2⟩ | ⟨j, hj, h1, h2⟩
  · rw [h1, h2, nm_nI hk (by decide) (by decide), nm_nI hk (by decide) (by decide)]
  · rw [h1, h2]
theorem e_orNone {x y : Int32} {n : Nat} (M : Mem) (h : oN x y n) (hn : n ≤ 2 ^ 31) : fX8_orNone x M = some (y, M) := by
  unfold fX8_orNone
  rcases h with ⟨h1, h2⟩ | ⟨j, hj, h1, h2⟩
  · rw [h1, h2]
    simp only [nlit, nm_def, if_true]
  · rw [h1, h2]
    simp (disch := omega) only [nlit, nm_def, nI_nm, if_false]
theorem own_eq {r c t e dt N k : Nat} {M : Mem} (h : NF r c t e dt N M) (hk : k < 2 ^ 31) : oN (if M.1 11 0 = nI k then nI 0 else if M.1 11 1 = nI k then nI 1 else nm 1) (if M.1 236 5 = nI k then nI 0 else if M.1 236 6 = nI k then nI 1 else nm 5) 2 := by
  have e0 := oN_eq (h.shift (p := 0) (by omega)) hk
  have e1 := oN_eq (h.shift (p := 1) (by omega)) hk
  simp only [e0, e1, Nat.add_zero, Nat.reduceAdd]
  by_cases h1 : M.1 236 5 = nI k
  · simp only [h1, if_true]
    exact .inr ⟨0, by omega, rfl, rfl⟩
  · by_cases h2 : M.1 236 6 = nI k
    · simp only [h1, h2, if_true, if_false]
      exact .inr ⟨1, by omega, rfl, rfl⟩
    · simp only [h1, h2, if_false]
      exact .inl ⟨rfl, rfl⟩
theorem neg_nI {x : Int32} : x < nI 0 ∨ ∃ j, j < 2 ^ 31 ∧ x = nI j := by
  by_cases h : x < nI 0
  · exact .inl h
  · exact .inr (nI_of (x := x) h)
theorem b2_if {b : Bool} {γ : Type} {x y : γ} : (if b2 b = nI 0 then x else y) = if b = false then x else y := by
  cases b
  · rfl
  · rw [if_neg (by decide), if_neg (by decide)]
theorem n10 : ¬ (nI 1 = nI 0) := by decide
theorem n20 : ¬ (nI 2 = nI 0) := by decide
theorem fin9 : ∀ a, a < 10 → ∀ b, b < 10 → a ≠ b → ¬ (nI a = nI b) := by decide +kernel
theorem NF.seen {r c t e dt N k : Nat} {M : Mem} (h : NF r c t e dt N M) (hN : N < 2 ^ 30) (hk : k < r * c) : (M.1 236 (68 + k) < nI 0 ∧ M.1 236 (68 + k) = nm 5 ∧ M.1 236 (116 + k) = nI 0) ∨ (¬ M.1 236 (68 + k) < nI 0 ∧ M.1 236 (68 + k) = M.1 5 k ∧ (M.1 236 (116 + k) = nI 0 ∨ M.1 236 (116 + k) = nI 1)) := by
  rcases h.key hk with ⟨g1, g2⟩ | ⟨⟨u, hu, g1, g2⟩, g3, _⟩
  · refine .inl ⟨?_, g1, g2⟩
    rw [g1]
    exact nm_lt0 (by decide) (by decide)
  · refine .inr ⟨?_, g1.trans g2.symm, g3⟩
    rw [g1]
    have := h.tN
    exact nI_nlt0 (by omega)
/-- key, without what is sensed -/
theorem st_key {N : Nat} {M : Mem} {a1 a2 : Int32} (h : IV N M) (hN : N < 2 ^ 30) (h6 : a2 ≠ nI 6) : W2 N (fX8_key 0 a1 a2) (fX9_key 235 a1 a2) M := by
  obtain ⟨r, c, t, e, dt, H⟩ := h.nf
  have hd := H.hd
  have m31 := H.m31
  have m48 := H.m48
  rcases pk_ix a1 m31 with hx | hx | ⟨k, hk, rfl⟩
  · refine W2_same' (r := nm 1) h ?_ ?_
    · unfold fX8_key
      simp only [Nat.reduceAdd, e_hasn H.hr H.hc (.inl hx), cal_e, nlit, nm_def, if_true]
    · unfold fX9_key
      simp only [r_noKeyn H.sr H.sc (.inl hx) H.m0 m48, cal_e, nlit, nm_def, n10, if_false]
  · refine W2_same' (r := nm 1) h ?_ ?_
    · unfold fX8_key
      simp only [Nat.reduceAdd, e_hasn H.hr H.hc (.inr hx), cal_e, nlit, nm_def, if_true]
    · unfold fX9_key
      simp only [r_noKeyn H.sr H.sc (.inr hx) H.m0 m48, cal_e, nlit, nm_def, n10, if_false]
  have hkr := divr hk
  obtain ⟨b7, b8, b9⟩ := H.bits hk
  obtain ⟨s1, s2, s3⟩ := e_isBit H.hc (by omega) (by omega) (show k / c < 6 by omega) (show k < 2 ^ 31 by omega)
  have k48 : k < 48 := by omega
  have k31 : k < 2 ^ 31 := by omega
  have e0 := e_has H.hr H.hc hk m31
  have f0 := r_noKey H.sr H.sc hk m48
  have hk68 := H.seen hN hk
  by_cases q0 : a2 = nI 0
  · subst q0
    refine W2_same' (r := M.1 236 (20 + k)) h ?_ ?_
    · unfold fX8_key
      simp (disch := omega) only [Nat.reduceAdd, if_true, if_false, e0, cal_e, nlit, nm_def, n10, (e_leaf (M := M) k48).1, e_orNone M (H.hold hk) (show 2 ≤ 2 ^ 31 by decide)]
    · unfold fX9_key
      simp (disch := first | omega | (simp only [ln_3, ln_4, ln_5, ln_6, ln_7, ln_8, ln_9, ln_10, ln_11, ln_13, ln_15, ln_17, ln_18, ln_19, ln_20, ln_21, ln_22, ln_23, ln_25, ln_26, ln_27, ln_28, ln_29, ln_30, ln_31, ln_33, ln_234, ln_236, ln_237, ln_238, ln_239, ln_240, ln_241, ln_242, ln_243, ln_244]; omega)) only [Nat.reduceAdd, if_true, if_false, f0, cal_e, nlit, nm_def, n10, nlit, nm_def, nI_add, nI_mul, nI_sub, nI_div, nI_rem, nI_clamp, nI_leI, nI_ltI, nI_eq, inb_nI, nzb_nI, nI_nm, nm_nI, nI_le_nm, nI_lt_nm, nm_le_nI, nm_lt_nI, cal_e, bnd_e, asr_e, jn_e, if_true, ln_236]
  by_cases q1 : a2 = nI 1
  · subst q1
    refine W2_same' (r := b2 (!decide (M.1 236 (68 + k) < nI 0))) h ?_ ?_
    · unfold fX8_key
      simp (disch := omega) only [Nat.reduceAdd, if_true, if_false, e0, cal_e, nlit, nm_def, n10, q0, s2, b2_if, b8]
      cases decide (M.1 236 (68 + k) < nI 0) <;> rfl
    · unfold fX9_key
      simp (disch := omega) only [Nat.reduceAdd, if_true, if_false, f0, cal_e, nlit, nm_def, n10, q0, r_isSeen, b2_if]
      cases decide (M.1 236 (68 + k) < nI 0) <;> rfl
  by_cases q2 : a2 = nI 2
  · subst q2
    refine W2_same' (r := M.1 236 (68 + k)) h ?_ ?_
    · unfold fX8_key
      simp (disch := omega) only [Nat.reduceAdd, if_true, if_false, e0, cal_e, nlit, nm_def, n10, q0, q1, s2, b2_if, (e_leaf (M := M) k48).2.2.1, b8]
      rcases hk68 with ⟨g1, g2, g3⟩ | ⟨g1, g2, g3⟩
      · rw [if_pos (by simp [g1]), g2]
      · rw [if_neg (by simp [g1]), g2]
    · unfold fX9_key
      simp (disch := first | omega | (simp only [ln_3, ln_4, ln_5, ln_6, ln_7, ln_8, ln_9, ln_10, ln_11, ln_13, ln_15, ln_17, ln_18, ln_19, ln_20, ln_21, ln_22, ln_23, ln_25, ln_26, ln_27, ln_28, ln_29, ln_30, ln_31, ln_33, ln_234, ln_236, ln_237, ln_238, ln_239, ln_240, ln_241, ln_242, ln_243, ln_244]; omega)) only [Nat.reduceAdd, if_true, if_false, f0, cal_e, nlit, nm_def, n10, q0, q1, nlit, nm_def, nI_add, nI_mul, nI_sub, nI_div, nI_rem, nI_clamp, nI_leI, nI_ltI, nI_eq, inb_nI, nzb_nI, nI_nm, nm_nI, nI_le_nm, nI_lt_nm, nm_le_nI, nm_lt_nI, cal_e, bnd_e, asr_e, jn_e, if_true, ln_236]
  by_cases q3 : a2 = nI 3
  · subst q3
    refine W2_same' (r := b2 (decide (M.1 236 (116 + k) = nI 1))) h ?_ ?_
    · unfold fX8_key
      simp (disch := omega) only [Nat.reduceAdd, if_true, if_false, e0, cal_e, nlit, nm_def, n10, q0, q1, q2, s3, b2_if, b9]
      cases decide (M.1 236 (116 + k) = nI 1) <;> rfl
    · unfold fX9_key
      simp (disch := first | omega | (simp only [ln_3, ln_4, ln_5, ln_6, ln_7, ln_8, ln_9, ln_10, ln_11, ln_13, ln_15, ln_17, ln_18, ln_19, ln_20, ln_21, ln_22, ln_23, ln_25, ln_26, ln_27, ln_28, ln_29, ln_30, ln_31, ln_33, ln_234, ln_236, ln_237, ln_238, ln_239, ln_240, ln_241, ln_242, ln_243, ln_244]; omega)) only [Nat.reduceAdd, if_true, if_false, f0, cal_e, nlit, nm_def, n10, q0, q1, q2, r_isSeen, b2_if, nlit, nm_def, nI_add, nI_mul, nI_sub, nI_div, nI_rem, nI_clamp, nI_leI, nI_ltI, nI_eq, inb_nI, nzb_nI, nI_nm, nm_nI, nI_le_nm, nI_lt_nm, nm_le_nI, nm_lt_nI, cal_e, bnd_e, asr_e, jn_e, if_true, ln_236]
      rcases hk68 with ⟨g1, g2, g3⟩ | ⟨g1, g2, g3 | g3⟩
      · simp [g1, g3, b2, fin9]
      · simp [g1, g3, b2, fin9]
      · simp [g1, g3, b2]
  by_cases q4 : a2 = nI 4
  · subst q4
    refine W2_same' (r := M.1 236 (260 + k)) h ?_ ?_
    · unfold fX8_key
      simp (disch := omega) only [Nat.reduceAdd, if_true, if_false, e0, cal_e, nlit, nm_def, n10, q0, q1, q2, q3, e_signOf H.hr H.hc m48 hk, H.sign hk]
    · unfold fX9_key
      simp (disch := first | omega | (simp only [ln_3, ln_4, ln_5, ln_6, ln_7, ln_8, ln_9, ln_10, ln_11, ln_13, ln_15, ln_17, ln_18, ln_19, ln_20, ln_21, ln_22, ln_23, ln_25, ln_26, ln_27, ln_28, ln_29, ln_30, ln_31, ln_33, ln_234, ln_236, ln_237, ln_238, ln_239, ln_240, ln_241, ln_242, ln_243, ln_244]; omega)) only [Nat.reduceAdd, if_true, if_false, f0, cal_e, nlit, nm_def, n10, q0, q1, q2, q3, nlit, nm_def, nI_add, nI_mul, nI_sub, nI_div, nI_rem, nI_clamp, nI_leI, nI_ltI, nI_eq, inb_nI, nzb_nI, nI_nm, nm_nI, nI_le_nm, nI_lt_nm, nm_le_nI, nm_lt_nI, cal_e, bnd_e, asr_e, jn_e, if_true, ln_236]
  by_cases q5 : a2 = nI 5
  · subst q5
    refine W2_same' (r := if M.1 236 5 = nI k then nI 0 else if M.1 236 6 = nI k then nI 1 else nm 5) h ?_ ?_
    · unfold fX8_key
      simp (disch := omega) only [Nat.reduceAdd, if_true, if_false, e0, cal_e, nlit, nm_def, n10, q0, q1, q2, q3, q4, e_shiftOwner, e_orNone M (own_eq H k31) (show 2 ≤ 2 ^ 31 by decide)]
    · unfold fX9_key
      simp (disch := omega) only [Nat.reduceAdd, if_true, if_false, f0, cal_e, nlit, nm_def, n10, q0, q1, q2, q3, q4, r_shiftOf]
  refine W2_same' (r := nm 2) h ?_ ?_
  · unfold fX8_key
    simp only [Nat.reduceAdd, if_true, if_false, e0, cal_e, nlit, nm_def, n10, q0, q1, q2, q3, q4, q5, h6]
  · unfold fX9_key
    simp only [Nat.reduceAdd, if_true, if_false, f0, cal_e, nlit, nm_def, n10, q0, q1, q2, q3, q4, q5, h6]
