/-! PURE: what the class tells, beside any row -/
theorem own_eqC {r c t e dt N k : Nat} {M : Mem} {s : Nat → Int32} {φ : Nat → UInt32} (h : CV r c t e dt N M s φ) (hk : k < 2 ^ 31) : oN (if M.1 11 0 = nI k then nI 0 else if M.1 11 1 = nI k then nI 1 else nm 1) (if s 5 = nI k then nI 0 else if s 6 = nI k then nI 1 else nm 5) 2 := by
  have e0 := oN_eq (h.shift (p := 0) (by omega)) hk
  have e1 := oN_eq (h.shift (p := 1) (by omega)) hk
  simp only [e0, e1, Nat.add_zero, Nat.reduceAdd]
  by_cases h1 : s 5 = nI k
  · simp only [h1, if_true]
    exact .inr ⟨0, by omega, rfl, rfl⟩
  · by_cases h2 : s 6 = nI k
    · simp only [h1, h2, if_true, if_false]
      exact .inr ⟨1, by omega, rfl, rfl⟩
    · simp only [h1, h2, if_false]
      exact .inl ⟨rfl, rfl⟩
theorem CV.seen {r c t e dt N k : Nat} {M : Mem} {s : Nat → Int32} {φ : Nat → UInt32} (h : CV r c t e dt N M s φ) (hN : N < 2 ^ 30) (hk : k < r * c) : (s (68 + k) < nI 0 ∧ s (68 + k) = nm 5 ∧ s (116 + k) = nI 0) ∨ (¬ s (68 + k) < nI 0 ∧ s (68 + k) = M.1 5 k ∧ (s (116 + k) = nI 0 ∨ s (116 + k) = nI 1)) := by
  rcases h.key hk with ⟨g1, g2⟩ | ⟨⟨u, hu, g1, g2⟩, g3, _⟩
  · refine .inl ⟨?_, g1, g2⟩
    rw [g1]
    exact nm_lt0 (by decide) (by decide)
  · refine .inr ⟨?_, g1.trans g2.symm, g3⟩
    rw [g1]
    have := h.tN
    exact nI_nlt0 (by omega)
theorem CV.counts {r c t e dt N : Nat} {M : Mem} {s : Nat → Int32} {φ : Nat → UInt32} (H : CV r c t e dt N M s φ) :
    fX0_downKeys 2 M = some (nI (cnt (r * c) (fun k => !decide (s (20 + k) < nI 0))), M) ∧ fX0_seenKeys 2 M = some (nI (cnt (r * c) (fun k => !decide (s (68 + k) < nI 0))), M) ∧ fX0_doubtfulKeys 2 M = some (nI (cnt (r * c) (fun k => decide (s (116 + k) = nI 1))), M) := by
  have hd := H.hd
  have z : ∀ i, i < 6 → ∀ d, 8 ≤ d → bt (M.1 8 i) d = false ∧ bt (M.1 9 i) d = false ∧ bt (M.1 10 i) d = false := fun i hi d h8 => H.bit0 hi (by omega)
  refine ⟨?_, ?_, ?_⟩
  · unfold fX0_downKeys
    rw [e_bitsIn (a := 2 + 6) rfl (fun i hi d h8 => (z i hi d h8).1), cal_e, ← words_eq hd (w := M.1 8) (fun k hk => (H.bits hk).1) (fun i hi d hd => (H.bit0 hi hd).1)]
  · unfold fX0_seenKeys
    rw [e_bitsIn (a := 2 + 7) rfl (fun i hi d h8 => (z i hi d h8).2.1), cal_e, ← words_eq hd (w := M.1 9) (fun k hk => (H.bits hk).2.1) (fun i hi d hd => (H.bit0 hi hd).2.1)]
  · unfold fX0_doubtfulKeys
    rw [e_bitsIn (a := 2 + 8) rfl (fun i hi d h8 => (z i hi d h8).2.2), cal_e, ← words_eq hd (w := M.1 10) (fun k hk => (H.bits hk).2.2) (fun i hi d hd => (H.bit0 hi hd).2.2)]
theorem e_drivenC {r c t e dt N : Nat} {M : Mem} {s : Nat → Int32} {φ : Nat → UInt32} (H : CV r c t e dt N M s φ) (hN : N < 2 ^ 30) : fX5_drivenRow 1 M = some (nI (t % r), M) := by
  have hd := H.hd
  have := H.tN
  unfold fX5_drivenRow
  simp (disch := omega) only [nlit, Nat.reduceAdd, H.hr, H.t1, nI_leI, show ¬ (r ≤ 0) by omega, if_false, e_fmod, cal_e]

theorem e_meanOfC {r c t e dt N p w : Nat} {M : Mem} {s : Nat → Int32} {φ : Nat → UInt32} (H : CV r c t e dt N M s φ) (hp : p < 2) (hw : w < 2) : fX8_meanOf 0 (nI p) (nI w) M = some (φ (2 * w + p), M) ∧ gm (φ (2 * w + p)) := by
  obtain ⟨⟨⟨v1, v2, v3, v4⟩, _⟩, ek, _⟩ := H.ty hp
  unfold fX8_meanOf
  rcases (show w = 0 ∨ w = 1 by omega) with rfl | rfl
  · refine ⟨?_, by simpa using v3⟩
    simp only [Nat.reduceAdd, e_typOf M hp, cal_e, ek, asr_e, nlit, if_true, v1, Nat.mul_zero, Nat.zero_add]
  · refine ⟨?_, by simpa using v4⟩
    simp only [Nat.reduceAdd, e_typOf M hp, cal_e, ek, asr_e, nlit, n10, if_false, v2, Nat.mul_one]
/-- with one key the other way -/
theorem CV.sensF {r c t e dt N f k : Nat} {M : Mem} {s s2 : Nat → Int32} {φ : Nat → UInt32} (H : CV r c t e dt N M s φ) (hf : f < r) (hk : k < r * c) (hs : ∀ j, j < r * c → j ≠ k → s2 (20 + j) = s (20 + j)) (hss : (s2 (20 + k) < nI 0) ↔ ¬ (s (20 + k) < nI 0)) :
    fX0_sensed 2 (nI f) (nI k) M = some (sw (Dm s2 r c) f, M) := by
  have hd := H.hd
  have m48 := H.m48
  have hkc : k % c < c := Nat.mod_lt k (by omega)
  obtain ⟨w, e, h⟩ := c_sensed (W := fun i => if k / c = i then M.1 8 i ^^^ pw (k % c) else M.1 8 i) (fl := nI k) H.hr hd.2.1 (fun i hi => e_joinedF H.hc (by omega) hd.2.2.2 (by omega) (by omega)) hf
  have eD : (fun i d => decide (i < r) && bt (if k / c = i then M.1 8 i ^^^ pw (k % c) else M.1 8 i) d) = Dm s2 r c := by
    funext i d
    unfold Dm
    by_cases hi : i < r
    · rw [decide_eq_true hi, Bool.true_and, Bool.true_and]
      by_cases hd2 : d < c
      · rw [decide_eq_true hd2, Bool.true_and]
        by_cases hki : k / c = i
        · rw [if_pos hki, bt_xor, bt_pw (by omega), (H.bitid hi hd2).1]
          by_cases hkd : k % c = d
          · have ek : i * c + d = k := by rw [← hki, ← hkd]; exact divmod k c
            rw [ek, decide_eq_true hkd]
            by_cases q : s (20 + k) < nI 0
            · have q2 : ¬ s2 (20 + k) < nI 0 := fun h => hss.mp h q
              simp [q, q2]
            · have q2 : s2 (20 + k) < nI 0 := hss.mpr q
              simp [q, q2]
          · have ek : i * c + d ≠ k := fun h => hkd (by rw [← h, ixmod hd2])
            rw [decide_eq_false hkd, Bool.xor_false, hs _ (ixlt hi hd2) ek]
        · have ek : i * c + d ≠ k := fun h => hki (by rw [← h, ixdiv hd2])
          rw [if_neg hki, (H.bitid hi hd2).1, hs _ (ixlt hi hd2) ek]
      · rw [decide_eq_false hd2, Bool.false_and]
        have h0 := (H.bit0 (i := i) (d := d) (by omega) (by omega)).1
        split
        · rw [bt_xor, bt_pw (by omega), h0, decide_eq_false (by omega)]
          rfl
        · exact h0
    · rw [decide_eq_false hi, Bool.false_and, Bool.false_and]
  rw [eD] at h
  rw [e, sw_eq (Dm_8' hd.2.2.2) h]
theorem e_besideC {r c t e dt N k : Nat} {M : Mem} {s : Nat → Int32} {φ : Nat → UInt32} {fl : Int32} {S : Nat → Int32} (H : CV r c t e dt N M s φ) (hk : k < r * c) (hS : ∀ i, i < r → fX0_sensed 2 (nI i) fl M = some (S i, M)) (hSc : ∀ i d, bt (S i) d = true → d < c) :
    fX0_ghostsBeside 2 (nI k) fl M = some (nI (cnt (r * c) (fun j => bt (S (j / c)) (j % c) && (decide (j ≠ k) && decide (s (20 + j) < nI 0)))), M) := by
  have hd := H.hd
  have m48 := H.m48
  have hkr := divr hk
  have hkc : k % c < c := Nat.mod_lt k (by omega)
  unfold fX0_ghostsBeside
  rw [cnt_mul]
  refine wp_eq (lp_for r (fun i b M1 => M1 = M ∧ b = (nI (sm i (fun i => cnt c (fun d => bt (S ((i * c + d) / c)) ((i * c + d) % c) && (decide (i * c + d ≠ k) && decide (s (20 + (i * c + d)) < nI 0))))), nI i)) (by omega) ⟨rfl, rfl⟩ ?_ ?_)
  · rintro i b M1 rec hi ⟨rfl, rfl⟩ kk
    have hup : ∀ u : Int32, (∀ d, d < c → bt u d = (decide (i * c + d ≠ k) && decide (s (20 + (i * c + d)) < nI 0))) → fJ6_bitCount_0f7a4 (S i &&& u) M1 = some (nI (cnt c (fun d => bt (S ((i * c + d) / c)) ((i * c + d) % c) && (decide (i * c + d ≠ k) && decide (s (20 + (i * c + d)) < nI 0)))), M1) := fun u hu => by
      have hz : ∀ d, c ≤ d → bt (S i &&& u) d = false := fun d hcd => by
        rw [bt_and]
        cases hb : bt (S i) d
        · rfl
        · have := hSc i d hb
          omega
      rw [e_bitCount M1 (fun d h8 => hz d (by omega)), cnt_cut (n := c) (by omega) (fun d h1 _ => hz d h1)]
      refine congrArg (fun z => some (nI z, M1)) (cnt_congr (fun d hd2 => ?_))
      rw [bt_and, hu d hd2, ixdiv hd2, ixmod hd2]
    have hdn : ∀ d, d < c → bt (M1.1 8 i ^^^ nm 1) d = decide (s (20 + (i * c + d)) < nI 0) := fun d hd2 => by
      rw [bt_not, (H.bitid hi hd2).1, decide_eq_true (show d < 32 by omega), Bool.not_not, Bool.true_and]
    unfold FX0_ghostsBeside_5
    simp (disch := first | omega | (simp only [ln_3, ln_4, ln_5, ln_6, ln_7, ln_8, ln_9, ln_10, ln_11, ln_13, ln_15, ln_17, ln_18, ln_19, ln_20, ln_21, ln_22, ln_23, ln_25, ln_26, ln_27, ln_28, ln_29, ln_30, ln_31, ln_33, ln_234]; omega)) only [H.hr, nlit, nm_def, nI_add, nI_leI, show ¬ (r ≤ i) by omega, if_false, Nat.reduceAdd, e_at, cal_e, e_rowOf H.hc (by omega) hd.2.2.2 (show k < 2 ^ 31 by omega), jn_e, nI_eq, e_bitOf H.hc (by omega) hd.2.2.2 (show k < 2 ^ 31 by omega), bnd_e, hS i hi]
    by_cases hik : i = k / c
    · rw [if_pos hik, hup _ (fun d hd2 => by
        rw [bt_and, hdn d hd2, bt_not, bt_pw (by omega), decide_eq_true (show d < 32 by omega), Bool.true_and, Bool.and_comm]
        congr 1
        by_cases hkd : k % c = d
        · rw [decide_eq_true hkd, decide_eq_false (show ¬ i * c + d ≠ k from fun q => q ((k_id hd2).mpr ⟨hik.symm, hkd⟩))]
          rfl
        · rw [decide_eq_false hkd, decide_eq_true (show i * c + d ≠ k from fun q => hkd ((k_id hd2).mp q).2)]
          rfl), cal_e]
      exact kk _ _ ⟨rfl, by rw [sm_succ, nI_add]⟩
    · rw [if_neg hik, hup _ (fun d hd2 => by
        rw [hdn d hd2, decide_eq_true (show i * c + d ≠ k from fun q => hik ((k_id hd2).mp q).1.symm), Bool.true_and]), cal_e]
      exact kk _ _ ⟨rfl, by rw [sm_succ, nI_add]⟩
  · rintro b M1 rec ⟨rfl, rfl⟩
    unfold FX0_ghostsBeside_5
    rw [H.hr, if_pos (nI_le (Nat.le_refl _) (by omega)), wp_some]
    exact ⟨rfl, rfl⟩
theorem CV.on {r c t e dt N p : Nat} {M : Mem} {s : Nat → Int32} {φ : Nat → UInt32} (H : CV r c t e dt N M s φ) (hp : p < 2) : fX0_isShiftOn 2 (nI p) M = some (b2 (onv s p), M) :=
  e_isOn H.hd H.hc hp (H.shift hp) (fun k hk => (H.bits hk).2) (fun k hk => by
    rcases H.key hk with ⟨_, g⟩ | ⟨_, g, _⟩
    · exact .inl g
    · exact g)
