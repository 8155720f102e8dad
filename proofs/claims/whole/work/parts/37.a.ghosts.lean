/-! PURE: ghostsBy -/
theorem i32_1 (x y : Int32) : (x - y) + 1 = (x + 1) - y := by grind
theorem i32_2 (x y : Int32) : (x - y) + (-1) = x - (y + 1) := by grind
theorem i32_3 (x y : Int32) : (x + 1) - (y + 1) = x - y := by grind
theorem i32_4 (x : Int32) : x + 0 = x := by grind
theorem e_beside {r c t e dt N k : Nat} {M : Mem} {fl : Int32} {S : Nat → Int32} (H : NF r c t e dt N M) (hk : k < r * c) (hS : ∀ i, i < r → fX0_sensed 2 (nI i) fl M = some (S i, M)) (hSc : ∀ i d, bt (S i) d = true → d < c) :
    fX0_ghostsBeside 2 (nI k) fl M = some (nI (cnt (r * c) (fun j => bt (S (j / c)) (j % c) && (decide (j ≠ k) && decide (M.1 236 (20 + j) < nI 0)))), M) := by
  have hd := H.hd
  have m48 := H.m48
  have hkr := divr hk
  have hkc : k % c < c := Nat.mod_lt k (by omega)
  unfold fX0_ghostsBeside
  rw [cnt_mul]
  refine wp_eq (lp_for r (fun i b M1 => M1 = M ∧ b = (nI (sm i (fun i => cnt c (fun d => bt (S ((i * c + d) / c)) ((i * c + d) % c) && (decide (i * c + d ≠ k) && decide (M.1 236 (20 + (i * c + d)) < nI 0))))), nI i)) (by omega) ⟨rfl, rfl⟩ ?_ ?_)
  · rintro i b M1 rec hi ⟨rfl, rfl⟩ kk
    have hup : ∀ u : Int32, (∀ d, d < c → bt u d = (decide (i * c + d ≠ k) && decide (M1.1 236 (20 + (i * c + d)) < nI 0))) → fJ6_bitCount_0f7a4 (S i &&& u) M1 = some (nI (cnt c (fun d => bt (S ((i * c + d) / c)) ((i * c + d) % c) && (decide (i * c + d ≠ k) && decide (M1.1 236 (20 + (i * c + d)) < nI 0)))), M1) := fun u hu => by
      have hz : ∀ d, c ≤ d → bt (S i &&& u) d = false := fun d hcd => by
        rw [bt_and]
        cases hb : bt (S i) d
        · rfl
        · have := hSc i d hb
          omega
      rw [e_bitCount M1 (fun d h8 => hz d (by omega)), cnt_cut (n := c) (by omega) (fun d h1 _ => hz d h1)]
      refine congrArg (fun z => some (nI z, M1)) (cnt_congr (fun d hd2 => ?_))
      rw [bt_and, hu d hd2, ixdiv hd2, ixmod hd2]
    have hdn : ∀ d, d < c → bt (M1.1 8 i ^^^ nm 1) d = decide (M1.1 236 (20 + (i * c + d)) < nI 0) := fun d hd2 => by
      rw [bt_not, (H.bitid hi hd2).1, decide_eq_true (show d < 32 by omega), Bool.not_not, Bool.true_and]
    unfold FX0_ghostsBeside_5
    simp (disch := first | omega | (simp only [ln_3, ln_4, ln_5, ln_6, ln_7, ln_8, ln_9, ln_10, ln_11, ln_13, ln_15, ln_17, ln_18, ln_19, ln_20, ln_21, ln_22, ln_23, ln_25, ln_26, ln_27, ln_28, ln_29, ln_30, ln_31, ln_33, ln_234, ln_236, ln_237, ln_238, ln_239, ln_240, ln_241, ln_242, ln_243, ln_244]; omega)) only [H.hr, nlit, nm_def, nI_add, nI_leI, show ¬ (r ≤ i) by omega, if_false, Nat.reduceAdd, e_at, cal_e, e_rowOf H.hc (by omega) hd.2.2.2 (show k < 2 ^ 31 by omega), jn_e, nI_eq, e_bitOf H.hc (by omega) hd.2.2.2 (show k < 2 ^ 31 by omega), bnd_e, hS i hi]
    by_cases hik : i = k / c
    · rw [if_pos hik, hup _ (fun d hd2 => by
        rw [bt_and, hdn d hd2, bt_not, bt_pw (by omega), decide_eq_true (show d < 32 by omega), Bool.true_and, Bool.and_comm]
        congr 1
        by_cases hkd : k % c = d
        · rw [decide_eq_true hkd, decide_eq_false (show ¬ i * c + d ≠ k from fun q => q ((k_id hd2).mpr ⟨hik.symm, hkd⟩))]
          rfl
        · rw [decide_eq_false hkd, decide_eq_true (show i * c + d ≠ k from fun q => hkd ((k_id hd2).mp q).2)]
          rfl), cal_e]
      exact kk _ _ ⟨rfl, by rw [sm_succ, nI_add]⟩
    · rw [if_neg hik, hup _ (fun d hd2 => by
        rw [hdn d hd2, decide_eq_true (show i * c + d ≠ k from fun q => hik ((k_id hd2).mp q).1.symm), Bool.true_and]), cal_e]
      exact kk _ _ ⟨rfl, by rw [sm_succ, nI_add]⟩
  · rintro b M1 rec ⟨rfl, rfl⟩
    unfold FX0_ghostsBeside_5
    rw [H.hr, if_pos (nI_le (Nat.le_refl _) (by omega)), wp_some]
    exact ⟨rfl, rfl⟩
theorem st_ghostsBy {N : Nat} {M : Mem} {x : Int32} (h : IV N M) (hN : N < 2 ^ 30) : W2 N (fX8_ghostsBy 0 x) (fX9_ghostsBy 235 x) M := by
  obtain ⟨r, c, t, e, dt, H⟩ := h.nf
  have hd := H.hd
  have m48 := H.m48
  have hn : ∀ x : Int32, (x < nI 0 ∨ nI (r * c) ≤ x) → W2 N (fX8_ghostsBy 0 x) (fX9_ghostsBy 235 x) M := fun x hx => by
    refine W2_same' (r := nm 1) h ?_ ?_
    · unfold fX8_ghostsBy
      simp only [Nat.reduceAdd, e_hasn H.hr H.hc hx, cal_e, nlit, nm_def, if_true]
    · unfold fX9_ghostsBy
      simp only [r_noKeyn H.sr H.sc hx H.m0 m48, cal_e, nlit, nm_def, n10, if_false]
  rcases pk_ix x H.m31 with hx | hx | ⟨k, hk, rfl⟩
  · exact hn _ (.inl hx)
  · exact hn _ (.inr hx)
  have e0 := e_has H.hr H.hc hk H.m31
  have f0 := r_noKey H.sr H.sc hk m48
  -- the row with the key the other way
  have hoth : ∃ o : Int32, (∀ (K : Int32 → Mem → Option (Int32 × Mem)) (M2 : Mem), (if 0 ≤ M.1 236 (20 + k) then K (-5) M2 else K 0 M2) = K o M2) ∧ ((o < nI 0) ↔ ¬ (M.1 236 (20 + k) < nI 0)) := by
    by_cases q : M.1 236 (20 + k) < nI 0
    · refine ⟨0, fun K M2 => ?_, ⟨fun q2 => absurd q2 (by decide), fun q2 => absurd q q2⟩⟩
      rw [if_neg (show ¬ (0 : Int32) ≤ M.1 236 (20 + k) from by
        rw [Int32.le_iff_toInt_le]
        rw [Int32.lt_iff_toInt_lt] at q
        have : (nI 0).toInt = (0 : Int32).toInt := rfl
        omega)]
    · refine ⟨-5, fun K M2 => ?_, ⟨fun _ => q, fun _ => by decide⟩⟩
      rw [if_pos (show (0 : Int32) ≤ M.1 236 (20 + k) from by
        rw [Int32.le_iff_toInt_le]
        rw [Int32.lt_iff_toInt_lt] at q
        have : (nI 0).toInt = (0 : Int32).toInt := rfl
        omega)]
  obtain ⟨o, ho, ho2⟩ := hoth
  have c1 := e_beside H hk (fl := nm 1) (S := fun i => sw (Dm (M.1 236) r c) i) (fun i hi => H.sens hi) (fun i d hb => sw_c hd.2.2.2 hb)
  have c2 := e_beside H hk (fl := nI k) (S := fun i => sw (Dm (upd (M.1 236) (20 + k) o) r c) i) (fun i hi => H.sensF hi hk (fun j hj hjk => upd_o (by omega)) (by rw [upd_self]; exact ho2)) (fun i d hb => sw_c hd.2.2.2 hb)
  refine W2_same (r := nI (100 + cnt (r * c) (fun j => bt (sw (Dm (M.1 236) r c) (j / c)) (j % c) && (decide (j ≠ k) && decide (M.1 236 (20 + j) < nI 0)))) - nI (cnt (r * c) (fun j => bt (sw (Dm (upd (M.1 236) (20 + k) o) r c) (j / c)) (j % c) && (decide (j ≠ k) && decide (M.1 236 (20 + j) < nI 0))))) h ?_ ?_
  · unfold fX8_ghostsBy
    simp only [Nat.reduceAdd, if_true, if_false, e0, cal_e, nlit, nm_def, n10, c1, c2, nI_add]
  · unfold fX9_ghostsBy
    have hjn : ∀ K : Int32 → Mem → Option (Int32 × Mem), jn K (fun j5 => if 0 ≤ M.1 236 (20 + k) then j5 (-5) M else j5 0 M) = K o M := fun K => ho K M
    rw [f0, cal_e, if_pos (show nI 0 = (0 : Int32) from rfl)]
    simp (disch := first | omega | (simp only [ln_3, ln_4, ln_5, ln_6, ln_7, ln_8, ln_9, ln_10, ln_11, ln_13, ln_15, ln_17, ln_18, ln_19, ln_20, ln_21, ln_22, ln_23, ln_25, ln_26, ln_27, ln_28, ln_29, ln_30, ln_31, ln_33, ln_234, ln_236, ln_237, ln_238, ln_239, ln_240, ln_241, ln_242, ln_243, ln_244]; omega)) only [show (20 : Int32) + nI k = nI (20 + k) from nI_add 20 k, inb_nI, nI_clamp, asr_e, bnd_e, Nat.reduceAdd, ln_236, hjn]
    refine lp_for (r * c) (fun j b M1 => FD M M1 ∧ b = (nI (100 + cnt j (fun j => bt (sw (Dm (M.1 236) r c) (j / c)) (j % c) && (decide (j ≠ k) && decide (M.1 236 (20 + j) < nI 0)))) - nI (cnt j (fun j => bt (sw (Dm (upd (M.1 236) (20 + k) o) r c) (j / c)) (j % c) && (decide (j ≠ k) && decide (M.1 236 (20 + j) < nI 0)))), nI j)) (by omega) ⟨FD_refl M, by rw [cnt_0, cnt_0]; exact Prod.ext (by decide) rfl⟩ ?_ ?_
    · rintro j b M1 rec hj ⟨g1, rfl⟩ kk
      have s1 : M1.1 236 = M.1 236 := g1.1 236 (by decide)
      have hr1 : M1.1 236 0 = nI r := by rw [s1]; exact H.sr
      have hc1 : M1.1 236 1 = nI c := by rw [s1]; exact H.sc
      unfold FX9_ghostsBy_38
      rw [r_keys hr1 hc1, cal_e, if_neg (by rw [nI_leI (by omega) (by omega)]; omega), jn_e]
      dsimp only
      by_cases hjk : j = k
      · subst hjk
        rw [if_pos rfl]
        refine kk _ _ ⟨g1, ?_⟩
        rw [cnt_succ, cnt_succ]
        simp [nlit, nI_add]
      · rw [if_neg (show ¬ nI j = nI k by rw [nI_eq (by omega) (by omega)]; exact hjk), r_isDown M1 (show j < 48 by omega), cal_e, s1]
        by_cases hdn : M.1 236 (20 + j) < nI 0
        · rw [decide_eq_true hdn, Bool.not_true]
          refine wp_ite.mpr ⟨fun _ => ?_, fun q => absurd rfl q⟩
          rw [wp_cal]
          refine wp_mono (r_would hd hr1 hc1 hj) (fun v8 M2 ⟨g2, e2⟩ => ?_)
          have s2 : M2.1 236 = M.1 236 := by rw [g2.1 236 (by decide), s1]
          simp (disch := first | omega | (simp only [ln_3, ln_4, ln_5, ln_6, ln_7, ln_8, ln_9, ln_10, ln_11, ln_13, ln_15, ln_17, ln_18, ln_19, ln_20, ln_21, ln_22, ln_23, ln_25, ln_26, ln_27, ln_28, ln_29, ln_30, ln_31, ln_33, ln_234, ln_236, ln_237, ln_238, ln_239, ln_240, ln_241, ln_242, ln_243, ln_244]; omega)) only [show (20 : Int32) + nI k = nI (20 + k) from nI_add 20 k, inb_nI, nI_clamp, asr_e, bnd_e, Nat.reduceAdd, ln_236, wp_cal]
          have hr3 : (w1 M2 236 (20 + k) o).1 236 0 = nI r := by rw [w1_1, if_neg (by omega), s2]; exact H.sr
          have hc3 : (w1 M2 236 (20 + k) o).1 236 1 = nI c := by rw [w1_1, if_neg (by omega), s2]; exact H.sc
          refine wp_mono (r_would hd hr3 hc3 hj) (fun v11 M3 ⟨g3, e3⟩ => ?_)
          have g4 : FD M (w1 M3 236 (20 + k) (M.1 236 (20 + k))) := by
            refine ⟨fun i hi => ?_, fun i h1 h2 => ?_, ?_⟩
            · by_cases hi2 : i = 236
              · subst hi2
                rw [w1_self, g3.1 236 (by decide), w1_self, s2]
                funext z
                unfold upd
                by_cases hz : z = 20 + k
                · simp [hz]
                · simp [hz]
              · rw [w1_o hi2, g3.1 i hi, w1_o hi2, g2.1 i hi, g1.1 i hi]
            · rw [w1_o (by decide), g3.2.1 i h1 h2, w1_o (by decide), g2.2.1 i h1 h2, g1.2.1 i h1 h2]
            · rw [w1_2, g3.2.2, w1_2, g2.2.2, g1.2.2]
          rw [s1] at e2
          rw [w1_self, s2] at e3
          subst e2 e3
          generalize hA : cnt j (fun j => bt (sw (Dm (M.1 236) r c) (j / c)) (j % c) && (decide (j ≠ k) && decide (M.1 236 (20 + j) < nI 0))) = a at *
          generalize hB : cnt j (fun j => bt (sw (Dm (upd (M.1 236) (20 + k) o) r c) (j / c)) (j % c) && (decide (j ≠ k) && decide (M.1 236 (20 + j) < nI 0))) = b at *
          have fin : ∀ v : Int32, v = nI (100 + (a + if bt (sw (Dm (M.1 236) r c) (j / c)) (j % c) = true then 1 else 0)) - nI (b + if bt (sw (Dm (upd (M.1 236) (20 + k) o) r c) (j / c)) (j % c) = true then 1 else 0) → wp (rec (v, nI j + 1) (w1 M3 236 (20 + k) (M.1 236 (20 + k)))) _ := fun v hv => kk _ _ ⟨g4, by
            rw [hv, cnt_succ, cnt_succ, hA, hB]
            simp only [hjk, hdn, ne_eq, not_false_eq_true, decide_true, Bool.and_true]
            rw [nI_1]⟩
          cases h8 : bt (sw (Dm (M.1 236) r c) (j / c)) (j % c) <;> cases h11 : bt (sw (Dm (upd (M.1 236) (20 + k) o) r c) (j / c)) (j % c)
          · refine fin _ ?_
            rw [h8, h11]
            exact i32_4 _
          · refine fin _ ?_
            rw [h8, h11]
            exact (i32_2 _ _).trans (by rw [nI_1 b]; rfl)
          · refine fin _ ?_
            rw [h8, h11]
            exact (i32_1 _ _).trans (by rw [nI_1 (100 + a)]; rfl)
          · refine fin _ ?_
            rw [h8, h11]
            exact (i32_4 _).trans ((i32_3 (nI (100 + a)) (nI b)).symm.trans (by rw [nI_1 (100 + a), nI_1 b]; rfl))
        · rw [decide_eq_false hdn, Bool.not_false]
          refine wp_ite.mpr ⟨fun q => absurd q (by decide), fun _ => kk _ _ ⟨g1, ?_⟩⟩
          rw [cnt_succ, cnt_succ]
          simp [nlit, nI_add, hdn]
    · rintro b M1 rec ⟨g1, rfl⟩
      have s1 : M1.1 236 = M.1 236 := g1.1 236 (by decide)
      unfold FX9_ghostsBy_38
      rw [r_keys (r := r) (c := c) (by rw [s1]; exact H.sr) (by rw [s1]; exact H.sc), cal_e, if_pos (nI_le (Nat.le_refl _) (by omega)), wp_some]
      exact ⟨rfl, FD_same g1⟩
