/-! PURE: the law judges as the class does -/
section JU
variable {r c t e dt N : Nat} {M : Mem} {s s2 : Nat → Int32} {φ : Nat → UInt32}
theorem b2_1 {b : Bool} : (b2 b = nI 1) = (b = true) := by cases b <;> simp [b2, fin9]
theorem a_judged (H : CV r c t e dt N M s φ) (hN : N < 2 ^ 30) (f4 : φ 4 = 1040187392) (f5 : φ 5 = 1056964608) {k : Nat} (hk : k < r * c) : fL_judged 0 (nI k) M = some (nI 1, M) := by
  have m48 := H.m48
  have tN := H.tN
  have d20 := H.d20
  obtain ⟨k0, k1, k2, k3, k4, k5, k6, k7⟩ := a_key H hN hk
  have hv := a_verd H hN hk
  obtain ⟨cc0, _, _, _, _, _, _, _, _, _, cc10, _⟩ := a_count H hN
  have hse := H.seen hN hk
  unfold fL_judged
  by_cases g : s (68 + k) < nI 0
  · obtain ⟨g1, g2⟩ : s (68 + k) = nm 5 ∧ s (116 + k) = nI 0 := by
      rcases hse with ⟨_, g1, g2⟩ | ⟨g1, _⟩
      · exact ⟨g1, g2⟩
      · exact absurd g g1
    rw [if_pos g] at hv
    rw [decide_eq_true g] at k1
    rw [g1] at k2
    rw [g2, decide_eq_false (show ¬ nI 0 = nI 1 by decide)] at k3
    have k1' : fX8_key 0 (nI k) (nI 1) M = some (nI 0, M) := k1
    have k3' : fX8_key 0 (nI k) (nI 3) M = some (nI 0, M) := k3
    simp only [nlit', nm_x, k1', cal_x, if_true, hv, k2, k3']
  · rw [if_neg g] at hv
    obtain ⟨u, hu, g1⟩ : ∃ u, u ≤ t ∧ s (68 + k) = nI u := by
      rcases H.key hk with ⟨q, _⟩ | ⟨⟨u, hu, q, _⟩, _⟩
      · rw [q] at g
        exact absurd (nm_lt0 (by decide) (by decide)) g
      · exact ⟨u, hu, q⟩
    have hsub : nI t - nI u = nI (t - u) := nI_sub hu
    rw [decide_eq_false g] at k1
    rw [g1] at k2
    have k1' : fX8_key 0 (nI k) (nI 1) M = some (nI 1, M) := k1
    obtain ⟨b, hb⟩ : ∃ b, decide (s (116 + k) = nI 1) = b := ⟨_, rfl⟩
    have hbb : (s (116 + k) = nI 1) = (b = true) := by rw [← hb, decide_eq_true_eq]
    rw [hb] at k3
    simp only [nlit', nm_x, k1', cal_x, n10, if_false, k2, cc0, k5, k3, jn_ite, hsub]
    have eb : (if b2 b = nI 1 then nI 1 else nI 0) = b2 b := by cases b <;> rfl
    rw [eb]
    have hj : jS s φ k t dt = if s 5 = nI k then (if b = true then nI 2 else nI 0) else if s 6 = nI k then (if b = true then nI 2 else nI 1) else jvv (offS s φ 0 u (nI (t - u))) (offS s φ 1 u (nI (t - u))) (φ 4) (φ 5) b dt := by
      unfold jS
      simp (disch := omega) only [hb, hbb, g1, nI_clamp, Bool.decide_eq_true]
    rw [hj] at hv
    unfold ownS
    by_cases o1 : s 5 = nI k
    · rw [if_pos o1] at hv
      rw [if_pos o1, if_neg (show ¬ nI 0 < nI 0 by decide), hv, cal_x]
      cases b
      · rw [if_pos (show b2 false = nI 0 from rfl), if_neg (show ¬ (false = true) by decide), if_pos rfl]
      · rw [if_neg (show ¬ b2 true = nI 0 from n10), if_pos (show true = true from rfl), if_pos rfl]
    by_cases o2 : s 6 = nI k
    · rw [if_neg o1, if_pos o2] at hv
      rw [if_neg o1, if_pos o2, if_neg (show ¬ nI 1 < nI 0 by decide), hv, cal_x]
      cases b
      · rw [if_pos (show b2 false = nI 0 from rfl), if_neg (show ¬ (false = true) by decide), if_pos rfl]
      · rw [if_neg (show ¬ b2 true = nI 0 from n10), if_pos (show true = true from rfl), if_pos rfl]
    rw [if_neg o1, if_neg o2] at hv
    rw [if_neg o1, if_neg o2, if_pos (nm_lt0 (by decide) (by decide))]
    by_cases h9 : t - u ≤ 9999
    · rw [if_pos (show nI (t - u) ≤ nI 9999 by rw [nI_leI (by omega) (by decide)]; exact h9)]
      have d0 := a_dist H hN (p := 0) (j := u) (w := t - u) (by omega) (by omega) h9
      have d1 := a_dist H hN (p := 1) (j := u) (w := t - u) (by omega) (by omega) h9
      have z0 := H.ty0.1
      have z1 := H.ty1.1
      have K0 := offS_K (s := s) (since := u) (dwell := nI (t - u)) z0.2.2.1 z0.2.2.2
      have K1 := offS_K (s := s) (since := u) (dwell := nI (t - u)) z1.2.2.1 z1.2.2.2
      have fm : FP.Core.FFin (1040187392 : UInt32) := (zv_bits (x := (1040187392 : UInt32)) (by decide)).2.1
      obtain ⟨p1, p2, p3⟩ := apart_eq (mar := 1040187392) K0 K1 fm
      rw [d0, cal_x, d1, cal_x]
      rw [f4, f5] at hv
      generalize offS s φ 0 u (nI (t - u)) = z at *
      generalize offS s φ 1 u (nI (t - u)) = o at *
      have hnear : (if nI 0 ≤ fcg o z then nI 0 else nI 1) = nearF z o := rfl
      have e20 : (nI dt = nI 20) = (dt = 20) := by rw [nI_eq (by omega) (by decide)]
      simp only [hnear, p1, p2, asr_x, bnd_x, jn_ite]
      simp only [jn_x, cc10, cal_x, b2_0, e20, hv]
      generalize (if nI 0 ≤ fcg z o then FP.fsub z o else FP.fsub o z) = ap at *
      unfold jvv
      cases b
      · simp only [if_true, if_false, Bool.false_eq_true]
        by_cases q3 : nI 0 ≤ fcg ap 1040187392
        · rw [if_pos q3, if_pos (p3.mp q3), if_pos rfl]
        · rw [if_neg q3, if_neg (fun q => q3 (p3.mpr q))]
          by_cases q5 : dt = 20
          · rw [if_pos q5, if_pos q5, if_pos rfl]
          · rw [if_neg q5, if_neg q5, if_pos rfl]
      · simp only [if_true, if_false, Bool.true_eq_false]
        by_cases q3 : nI 0 < fcg (if nearF z o = nI 0 then z else o) 1056964608
        · rw [if_pos q3, if_pos q3, if_pos rfl]
        · rw [if_neg q3, if_neg q3, if_pos rfl]
    · rw [if_neg (show ¬ nI (t - u) ≤ nI 9999 by rw [nI_leI (by omega) (by decide)]; exact h9)]
end JU
