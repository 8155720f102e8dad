/-! PURE: the law looks at the strokes -/
section SK
variable {r c t e dt N T : Nat} {M : Mem} {s s2 : Nat → Int32} {φ : Nat → UInt32}
theorem a_strokes (H : CV r c t e dt N M s φ) (hN : N < 2 ^ 24) (X : EX (r * c) e dt t s φ) : fL_strokes 0 M = some (nI 1, M) := by
  have hN30 : N < 2 ^ 30 := by omega
  have d20 := H.d20
  have eN := H.eN
  have tN := H.tN
  obtain ⟨_, ⟨m, ⟨c0, r0, g0, c1, r1, g1, g, gb, t0, t1, g14, g15, hgb, hm⟩, he⟩, ⟨E, E1, E2, E3⟩, _⟩ := X
  obtain ⟨cc0, _, _, _, _, _, cc6, cc7, cc8, cc9, cc10, _, cc12, _⟩ := a_count H hN30
  rw [t0.1, t1.1, nI_add] at cc7
  rw [g14] at cc8
  rw [g15] at cc12
  have n51 : ¬ nm 5 < nm 5 := by decide
  have n52 : ¬ nI 1 < nm 5 := by decide
  unfold fL_strokes
  simp only [nlit', nm_x]
  refine wp_eq (lp_for dt (fun d b M1 => M1 = M ∧ b = (nI (opn d s), nI d)) (by omega) ⟨rfl, rfl⟩ ?_ ?_)
  · rintro d b M1 rec hd ⟨rfl, rfl⟩ kk
    obtain ⟨q0, q5⟩ := a_dis H hd
    obtain ⟨_, _, ⟨v, hv, _, h2⟩, h3, h4, _, _⟩ := H.dis hd
    have y2 := q0 2 (by omega)
    have y3 := q0 3 (by omega)
    have y4 := q0 4 (by omega)
    rw [h2] at y2
    unfold FL_strokes_4
    simp only [nlit', nm_x]
    rw [cc10, cal_x, if_neg (show ¬ nI dt ≤ nI d by rw [nI_leI (by omega) (by omega)]; omega), y3, cal_x, jn_ite, y2, cal_x, if_neg (nI_nlt0 (by omega)), y4, cal_x]
    have l4 : ¬ s (404 + 7 * d + 4) < nm 5 ∧ ¬ nI 1 < s (404 + 7 * d + 4) := by
      rcases h4 with ⟨_, z⟩ | ⟨j, hj, _, z⟩
      · rw [z]
        exact ⟨n51, n52⟩
      · rw [z]
        rcases (show j = 0 ∨ j = 1 by omega) with rfl | rfl
        · exact ⟨by decide, by decide⟩
        · exact ⟨by decide, by decide⟩
    rw [if_neg l4.1, y4, cal_x, if_neg l4.2, q5, cal_x, if_pos rfl]
    refine kk _ _ ⟨rfl, ?_⟩
    have e3 : (if s (404 + 7 * d + 3) = nm 5 then nI 1 else nI 0) = b2 (decide (s (404 + 7 * d + 3) < nI 0)) := by
      rcases h3 with ⟨_, z⟩ | ⟨w, hw, _, z⟩
      · rw [z, if_pos rfl, decide_eq_true (nm_lt0 (by decide) (by decide))]
        rfl
      · rw [z, if_neg (show ¬ nI w = nm 5 by rw [nI_nm (by omega) (by decide) (by decide)]; exact not_false), decide_eq_false (nI_nlt0 (by omega))]
        rfl
    rw [e3, nI_add]
    exact congrArg (fun z => (z, nI (d + 1))) (cnt_b2 d (fun d => decide (s (404 + 7 * d + 3) < nI 0)))
  · rintro b M1 rec ⟨rfl, rfl⟩
    unfold FL_strokes_4
    simp only [nlit', nm_x]
    rw [cc10, cal_x, if_pos (nI_le (Nat.le_refl _) (by omega)), cc6, cal_x]
    refine lp_for 18 (fun j b M2 => M2 = M1 ∧ b = nI j) (by omega) ⟨rfl, rfl⟩ ?_ ?_
    · rintro j b M2 rec2 hj ⟨rfl, rfl⟩ k2
      have done : wp (rec2 (nI (j + 1)) M2) (fun v1 M3 => v1 = nI 1 ∧ M3 = M2) := k2 _ _ ⟨rfl, rfl⟩
      have st := fun w (hw : w < 6) => a_stroke H hN30 (j := j) (w := w) (by omega) hw
      have s3 := st 3 (by omega)
      unfold FL_strokes_91
      simp only [nlit', nm_x]
      rw [if_neg (show ¬ nI 18 ≤ nI j by rw [nI_leI (by omega) (by omega)]; omega), nI_add]
      by_cases h1 : j < e ∧ j < 16
      · obtain ⟨u, d, w, q, a1, a2, a3, a5, hw, hq, hE⟩ := E3 (e - 1 - j) (by omega) (by omega)
        have hlt := E1 (e - 1 - j) (by omega)
        have z1 := st 1 (by omega)
        have z2 := st 2 (by omega)
        have z5 := st 5 (by omega)
        rw [if_pos h1, a1] at z1
        rw [if_pos h1, a2] at z2
        rw [if_pos h1, a3] at s3
        rw [if_pos h1, a5] at z5
        rw [jn_x, jn_x, if_neg (show ¬ nI e ≤ nI j by rw [nI_leI (by omega) (by omega)]; omega), if_neg (show ¬ nI 16 ≤ nI j by rw [nI_leI (by omega) (by omega)]; omega)]
        dsimp only
        rw [s3, cal_x, jn_x, if_neg n10, if_neg (nI_nlt0 (by omega)), if_neg (show ¬ nI 3 < nI w by rw [nI_ltI (by omega) (by omega)]; omega), z2, cal_x, if_neg (nI_nlt0 (by omega)), z5, cal_x, if_neg (nI_nlt0 (by omega)), z5, cal_x, if_neg (show ¬ nI 3 < nI q by rw [nI_ltI (by omega) (by omega)]; omega), z1, cal_x, z2, cal_x, cc0, cal_x, nI_add, if_pos (show nI (u + d) < nI t by rw [nI_ltI (by omega) (by omega)]; omega)]
        dsimp only
        rw [jn_x]
        by_cases h0 : j = 0
        · subst h0
          rw [if_pos (show nI 0 ≤ nI 0 by decide)]
          exact done
        · rw [if_neg (show ¬ nI j ≤ nI 0 by rw [nI_leI (by omega) (by omega)]; omega), if_neg n10, z1, cal_x, z2, cal_x, nI_sub (by omega)]
          obtain ⟨u', d', _, _, a1', a2', _, _, _, _, hE'⟩ := E3 (e - 1 - (j - 1)) (by omega) (by omega)
          have hle := E2 (e - 1 - j) (by omega)
          rw [show e - 1 - j + 1 = e - 1 - (j - 1) by omega] at hle
          have hlt' := E1 (e - 1 - (j - 1)) (by omega)
          have w1 := a_stroke H hN30 (j := j - 1) (w := 1) (by omega) (by omega)
          have w2 := a_stroke H hN30 (j := j - 1) (w := 2) (by omega) (by omega)
          rw [if_pos (by omega), a1'] at w1
          rw [if_pos (by omega), a2'] at w2
          rw [w1, cal_x, w2, cal_x, nI_add, nI_add, if_pos (nI_le (by omega) (by omega))]
          exact done
      · rw [if_neg h1] at s3
        have fin : wp (cal (fX8_stroke 0 (nI j) (nI 3) M2) (fun v4 M5 => if v4 = nm 5 then rec2 (nI (j + 1)) M5 else some (nI 0, M5))) (fun v1 M3 => v1 = nI 1 ∧ M3 = M2) := by
          rw [s3, cal_x, if_pos rfl]
          exact done
        have step : wp ((fun (b1 : Int32) (M3 : Mem) => cal (fX8_stroke 0 (nI j) (nI 3) M3) (fun v4 M5 => if v4 = nm 5 then rec2 (nI (j + 1)) M5 else some (nI 0, M5))) (nI 0) M2) (fun v1 M3 => v1 = nI 1 ∧ M3 = M2) := fin
        have hcond : nI e ≤ nI j ∨ (¬ nI e ≤ nI j ∧ nI 16 ≤ nI j) := by
          by_cases h2 : e ≤ j
          · exact .inl (nI_le h2 (by omega))
          · exact .inr ⟨by rw [nI_leI (by omega) (by omega)]; omega, nI_le (by omega) (by omega)⟩
        rw [jn_x, jn_x]
        rcases hcond with h2 | ⟨h2, h3⟩
        · rw [if_pos h2]
          dsimp only
          rw [s3, cal_x, jn_x, if_pos rfl, if_pos rfl]
          dsimp only
          rw [jn_x]
          by_cases h0 : nI j ≤ nI 0
          · rw [if_pos h0]
            exact done
          · rw [if_neg h0, if_pos rfl]
            exact done
        · rw [if_neg h2, if_pos h3]
          dsimp only
          rw [s3, cal_x, jn_x, if_pos rfl, if_pos rfl]
          dsimp only
          rw [jn_x]
          by_cases h0 : nI j ≤ nI 0
          · rw [if_pos h0]
            exact done
          · rw [if_neg h0, if_pos rfl]
            exact done
    · rintro b M2 rec2 ⟨rfl, rfl⟩
      obtain ⟨sn1, sn2⟩ := a_strokeN M2
      have e9 : fX8_count 0 (nI 9) M2 = some (nI (opn dt s), M2) := cc9
      unfold FL_strokes_91
      simp only [nlit', nm_x]
      rw [if_pos (nI_le (Nat.le_refl _) (by omega)), e9, cal_x, if_pos rfl, cc7, cal_x, cc8, cal_x, nI_add, nI_add, if_pos (show nI e = nI (c0 + c1 + g + opn dt s) by rw [he, hm]), cc12, cal_x, cc8, cal_x, if_neg (show ¬ nI g < nI gb by rw [nI_ltI (by omega) (by omega)]; omega), sn1, cal_x, if_pos rfl, sn2, cal_x, if_pos rfl, wp_some]
      exact ⟨rfl, rfl⟩
end SK
