/-! PURE: ghostsBy -/
theorem i32_1 (x y : Int32) : (x - y) + 1 = (x + 1) - y := by grind
theorem i32_2 (x y : Int32) : (x - y) + (-1) = x - (y + 1) := by grind
theorem i32_3 (x y : Int32) : (x + 1) - (y + 1) = x - y := by grind
theorem i32_4 (x : Int32) : x + 0 = x := by grind
theorem e_beside {r c t e dt N k : Nat} {M : Mem} {fl : Int32} {S : Nat → Int32} (H : NF r c t e dt N M) (hk : k < r * c) (hS : ∀ i, i < r → fX0_sensed 2 (nI i) fl M = some (S i, M)) (hSc : ∀ i d, bt (S i) d = true → d < c) :
    fX0_ghostsBeside 2 (nI k) fl M = some (nI (cnt (r * c) (fun j => bt (S (j / c)) (j % c) && (decide (j ≠ k) && decide (M.1 236 (20 + j) < nI 0)))), M) := by
  have hd := H.hd
  have m48 := H.m48
  have hkr := divr hk
  have hkc : k % c < c := Nat.mod_lt k (by omega)
  unfold fX0_ghostsBeside
  rw [cnt_mul]
  refine wp_eq (lp_for r (fun i b M1 => M1 = M ∧ b = (nI (sm i (fun i => cnt c (fun d => bt (S ((i * c + d) / c)) ((i * c + d) % c) && (decide (i * c + d ≠ k) && decide (M.1 236 (20 + (i * c + d)) < nI 0))))), nI i)) (by omega) ⟨rfl, rfl⟩ ?_ ?_)
  · rintro i b M1 rec hi ⟨rfl, rfl⟩ kk
    have hup : ∀ u : Int32, (∀ d, d < c → bt u d = (decide (i * c + d ≠ k) && decide (M1.1 236 (20 + (i * c + d)) < nI 0))) → fJ6_bitCount_0f7a4 (S i &&& u) M1 = some (nI (cnt c (fun d => bt (S ((i * c + d) / c)) ((i * c + d) % c) && (decide (i * c + d ≠ k) && decide (M1.1 236 (20 + (i * c + d)) < nI 0)))), M1) := fun u hu => by
      have hz : ∀ d, c ≤ d → bt (S i &&& u) d = false := fun d hcd => by
        rw [bt_and]
        cases hb : bt (S i) d
        · rfl
        · have := hSc i d hb
          omega
      rw [e_bitCount M1 (fun d h8 => hz d (by omega)), cnt_cut (n := c) (by omega) (fun d h1 _ => hz d h1)]
      refine congrArg (fun z => some (nI z, M1)) (cnt_congr (fun d hd2 => ?_))
      rw [bt_and, hu d hd2, ixdiv hd2, ixmod hd2]
    have hdn : ∀ d, d < c → bt (M1.1 8 i ^^^ nm 1) d = decide (M1.1 236 (20 + (i * c + d)) < nI 0) := fun d hd2 => by
      rw [bt_not, (H.bitid hi hd2).1, decide_eq_true (show d < 32 by omega), Bool.not_not, Bool.true_and]
    unfold FX0_ghostsBeside_5
    simp (disch := first | omega | (simp only [ln_3, ln_4, ln_5, ln_6, ln_7, ln_8, ln_9, ln_10, ln_11, ln_13, ln_15, ln_17, ln_18, ln_19, ln_20, ln_21, ln_22, ln_23, ln_25, ln_26, ln_27, ln_28, ln_29, ln_30, ln_31, ln_33, ln_234]; omega)) only [H.hr, nlit, nm_def, nI_add, nI_leI, show ¬ (r ≤ i) by omega, if_false, Nat.reduceAdd, e_at, cal_e, e_rowOf H.hc (by omega) hd.2.2.2 (show k < 2 ^ 31 by omega), jn_e, nI_eq, e_bitOf H.hc (by omega) hd.2.2.2 (show k < 2 ^ 31 by omega), bnd_e, hS i hi]
    by_cases hik : i = k / c
    · rw [if_pos hik, hup _ (fun d hd2 => by
        rw [bt_and, hdn d hd2, bt_not, bt_pw (by omega), decide_eq_true (show d < 32 by omega), Bool.true_and, Bool.and_comm]
        congr 1
        by_cases hkd : k % c = d
        · rw [decide_eq_true hkd, decide_eq_false (show ¬ i * c + d ≠ k from fun q => q ((k_id hd2).mpr ⟨hik.symm, hkd⟩))]
          rfl
        · rw [decide_eq_false hkd, decide_eq_true (show i * c + d ≠ k from fun q => hkd ((k_id hd2).mp q).2)]
          rfl), cal_e]
      exact kk _ _ ⟨rfl, by rw [sm_succ, nI_add]⟩
    · rw [if_neg hik, hup _ (fun d hd2 => by
        rw [hdn d hd2, decide_eq_true (show i * c + d ≠ k from fun q => hik ((k_id hd2).mp q).1.symm), Bool.true_and]), cal_e]
      exact kk _ _ ⟨rfl, by rw [sm_succ, nI_add]⟩
  · rintro b M1 rec ⟨rfl, rfl⟩
    unfold FX0_ghostsBeside_5
    rw [H.hr, if_pos (nI_le (Nat.le_refl _) (by omega)), wp_some]
    exact ⟨rfl, rfl⟩
