/-! PURE: the law's small words: low, keys; what it senses for itself -/
theorem a_low (M : Mem) (x : Int32) {n : Nat} (h0 : 0 < n) (hn : n < 2 ^ 31) : ∃ m, m < n ∧ fL_low x (nI n) M = some (nI m, M) := by
  have hx : x &&& nI 2147483647 = nI (x.toBitVec.toNat % 2 ^ 31) := by
    apply Int32.toBitVec_inj.mp
    apply BitVec.eq_of_toNat_eq
    have h1 : (nI (x.toBitVec.toNat % 2 ^ 31)).toBitVec.toNat = x.toBitVec.toNat % 2 ^ 31 := pk_tn (by omega)
    have h2 : (nI 2147483647).toBitVec.toNat = 2147483647 := pk_tn (by omega)
    rw [h1, Int32.toBitVec_and, BitVec.toNat_and, h2]
    exact Nat.and_two_pow_sub_one_eq_mod _ 31
  refine ⟨x.toBitVec.toNat % 2 ^ 31 % n, Nat.mod_lt _ h0, ?_⟩
  unfold fL_low
  rw [nzb_nI h0 hn, asr_x, nlit', hx, nI_rem (Nat.mod_lt _ (by decide)) h0 hn]
section SENS
variable {r c t e dt N : Nat} {M : Mem} {s s2 : Nat → Int32} {φ : Nat → UInt32}
theorem a_keys (H : CV r c t e dt N M s φ) (hN : N < 2 ^ 30) : fL_keys 0 M = some (nI (r * c), M) := by
  obtain ⟨_, h1, h2, _⟩ := a_count H hN
  unfold fL_keys
  simp only [nlit', h1, h2, cal_x, nI_mul]
theorem a_sensed (H : CV r c t e dt N M s φ) (hN : N < 2 ^ 30) (h12 : r + c ≤ 12) {f : Nat} (hf : f < r) {fl : Int32}
    (hD : ∀ k, k < r * c → ((if s (20 + k) < nI 0 then nI 0 else nI 1) = (if nI k = fl then nI 1 else nI 0) ↔ s2 (20 + k) < nI 0)) : fL_sensed 0 (nI f) fl M = some (sw (Dm s2 r c) f, M) := by
  have hd := H.hd
  obtain ⟨m48, m0⟩ := mul48 hd
  obtain ⟨_, _, h2, _⟩ := a_count H hN
  have hkeys := a_keys H hN
  unfold fL_sensed
  simp only [nlit', h2, cal_x, bnd_x, pw_def]
  refine wp_eq (lp_for 12 (fun i b M1 => M1 = M ∧ ∃ R C, b = (R, C, nI i) ∧ sbR s2 r c f R ∧ sbC s2 r c f C ∧ bt R f = true ∧ (clD s2 r c R C (r * c) ∨ i + 1 ≤ cnt r (bt R) + cnt c (bt C))) (by omega) ⟨rfl, _, _, rfl, ?_, ?_, ?_, .inr ?_⟩ ?_ ?_)
  · intro i hi
    rw [bt_pw (by omega), decide_eq_true_eq] at hi
    subst hi
    exact ⟨hf, fun R C p1 _ _ => p1⟩
  · intro d hd
    rw [bt_0] at hd
    cases hd
  · rw [bt_pw (by omega), decide_eq_true rfl]
  · have := cnt_pos (n := r) (j := f) (p := bt (pw f)) hf (by rw [bt_pw (by omega), decide_eq_true rfl])
    omega
  · rintro i b M1 rec hi ⟨rfl, R0, C0, rfl, h3, h4, h5, h6⟩ kk
    unfold FL_sensed_17
    simp (disch := omega) only [nlit', nI_leI, show ¬ 12 ≤ i by omega, if_false]
    refine lp_for (r * c) (fun k b M2 => M2 = M1 ∧ ∃ R C, b = (R, C, nI k) ∧ sbR s2 r c f R ∧ sbC s2 r c f C ∧ sbs R0 R ∧ sbs C0 C ∧ (R = R0 → C = C0 → clD s2 r c R0 C0 k) ∧ (clD s2 r c R0 C0 (r * c) → R = R0 ∧ C = C0)) (by omega) ⟨rfl, R0, C0, rfl, h3, h4, sbs_refl _, sbs_refl _, fun _ _ k hk => absurd hk (Nat.not_lt_zero k), fun _ => ⟨rfl, rfl⟩⟩ ?_ ?_
    · rintro k b M2 rec2 hk ⟨rfl, R, C, rfl, g2, g3, g4, g5, g6, g7⟩ k2
      have hir := divr hk
      have hic : k % c < c := Nat.mod_lt k (by omega)
      have hkey := (a_key H hN hk).1
      have hb : (if (if s (20 + k) < nI 0 then nI 0 else nI 1) = (if nI k = fl then nI 1 else nI 0) then nI 0 else nI 1) = b2 (!decide (s2 (20 + k) < nI 0)) := by
        by_cases q : s2 (20 + k) < nI 0
        · rw [if_pos ((hD k hk).mpr q), decide_eq_true q]
          rfl
        · rw [if_neg (fun q2 => q ((hD k hk).mp q2)), decide_eq_false q]
          rfl
      unfold FL_sensed_27
      simp (disch := omega) only [nlit', hkeys, cal_x, nI_leI, show ¬ r * c ≤ k by omega, if_false, hkey, jn_ite, hb, nzb_nI, asr_x, nI_div, nI_rem, nI_add, shr_1, pw_def, b2_if]
      have same : (¬ ((!decide (s2 (20 + k) < nI 0)) = true ∧ (bt R (k / c) = true ∨ bt C (k % c) = true))) → R = R0 → C = C0 → clD s2 r c R0 C0 (k + 1) := fun hn e1 e2 j hj hDj hB => by
        by_cases e : j = k
        · subst e
          rw [← e1, ← e2] at hB
          exact absurd ⟨hDj, hB⟩ hn
        · exact g6 e1 e2 j (by omega) hDj hB
      have join : (!decide (s2 (20 + k) < nI 0)) = true → (bt R (k / c) = true ∨ bt C (k % c) = true) → sbR s2 r c f (R ||| pw (k / c)) ∧ sbC s2 r c f (C ||| pw (k % c)) ∧ (R ||| pw (k / c) = R0 → C ||| pw (k % c) = C0 → clD s2 r c R0 C0 (k + 1)) ∧ (clD s2 r c R0 C0 (r * c) → R ||| pw (k / c) = R0 ∧ C ||| pw (k % c) = C0) := fun hDk hB => by
        have hDm := Dm_k hk (by omega) hDk
        have hR : SensR (Dm s2 r c) f (k / c) := fun R' C' p1 p2 p3 => by
          rcases hB with hB | hB
          · exact (g2 _ hB).2 R' C' p1 p2 p3
          · exact p3 _ _ hDm ((g3 _ hB).2 R' C' p1 p2 p3)
        have hC : SensC (Dm s2 r c) f (k % c) := fun R' C' p1 p2 p3 => p2 _ _ hDm (hR R' C' p1 p2 p3)
        refine ⟨fun j hj => ?_, fun d hd2 => ?_, fun e1 e2 j hj hDj hBj => ?_, fun hcl => ?_⟩
        · rw [bt_or, bt_pw (by omega)] at hj
          cases hx : bt R j
          · rw [hx, Bool.false_or, decide_eq_true_eq] at hj
            subst hj
            exact ⟨hir, hR⟩
          · exact g2 j hx
        · rw [bt_or, bt_pw (by omega)] at hd2
          cases hx : bt C d
          · rw [hx, Bool.false_or, decide_eq_true_eq] at hd2
            subst hd2
            exact ⟨hic, hC⟩
          · exact g3 d hx
        · by_cases e : j = k
          · subst e
            rw [← e1, ← e2, bt_or, bt_or, bt_pw (by omega), bt_pw (by omega), decide_eq_true rfl, decide_eq_true rfl, Bool.or_true, Bool.or_true]
            exact ⟨rfl, rfl⟩
          · refine g6 (sbs_anti ?_ g4) (sbs_anti ?_ g5) j (by omega) hDj hBj
            · rw [← e1]
              exact sbs_or _ _
            · rw [← e2]
              exact sbs_or _ _
        · obtain ⟨e1, e2⟩ := g7 hcl
          subst e1 e2
          obtain ⟨q1, q2⟩ := hcl k hk hDk hB
          exact ⟨sbs_or3 (fun d h => by rw [bt_pw (by omega), decide_eq_true_eq] at h; rw [← h]; exact q1), sbs_or3 (fun d h => by rw [bt_pw (by omega), decide_eq_true_eq] at h; rw [← h]; exact q2)⟩
      cases hDk : !decide (s2 (20 + k) < nI 0)
      · simp only [if_true, jn_x]
        refine k2 _ _ ⟨rfl, _, _, rfl, ?_⟩
        rw [or_0, or_0]
        exact ⟨g2, g3, g4, g5, same (fun h => by rw [hDk] at h; cases h.1), g7⟩
      · simp only [if_false, Bool.true_eq_false]
        cases hB1 : bt R (k / c)
        · simp only [if_false, Bool.false_eq_true]
          cases hB2 : bt C (k % c)
          · simp only [if_false, if_true, Bool.false_eq_true, jn_x]
            refine k2 _ _ ⟨rfl, _, _, rfl, ?_⟩
            rw [or_0, or_0]
            exact ⟨g2, g3, g4, g5, same (fun h => by rw [hB1, hB2] at h; rcases h.2 with h | h <;> cases h), g7⟩
          · simp only [if_true, if_false, jn_x, n10]
            obtain ⟨p1, p2, p3, p4⟩ := join hDk (.inr hB2)
            exact k2 _ _ ⟨rfl, _, _, rfl, p1, p2, sbs_trans g4 (sbs_or _ _), sbs_trans g5 (sbs_or _ _), p3, p4⟩
        · simp only [if_true, if_false, jn_x, n10]
          obtain ⟨p1, p2, p3, p4⟩ := join hDk (.inl hB1)
          exact k2 _ _ ⟨rfl, _, _, rfl, p1, p2, sbs_trans g4 (sbs_or _ _), sbs_trans g5 (sbs_or _ _), p3, p4⟩
    · rintro b M2 rec2 ⟨rfl, R, C, rfl, g2, g3, g4, g5, g6, g7⟩
      unfold FL_sensed_27
      simp (disch := omega) only [nlit', hkeys, cal_x, nI_leI, Nat.le_refl, if_true, nI_add]
      refine kk _ _ ⟨rfl, _, _, rfl, g2, g3, g4 f h5, ?_⟩
      by_cases e1 : R = R0
      · by_cases e2 : C = C0
        · rw [e1, e2]
          exact .inl (g6 e1 e2)
        · obtain ⟨d, _, q1, q2⟩ := sbs_ne g5 e2
          have := cnt_strict (n := c) (j := d) (fun i _ h => g5 i h) (g3 d q2).1 q1 q2
          rcases h6 with h6 | h6
          · exact absurd (g7 h6).2 e2
          · rw [e1]
            exact .inr (by omega)
      · obtain ⟨d, _, q1, q2⟩ := sbs_ne g4 e1
        have := cnt_strict (n := r) (j := d) (fun i _ h => g4 i h) (g2 d q2).1 q1 q2
        have hmonC : cnt c (bt C0) ≤ cnt c (bt C) := cnt_mono (fun i _ h => g5 i h)
        rcases h6 with h6 | h6
        · exact absurd (g7 h6).1 e1
        · exact .inr (by omega)
  · rintro b M1 rec ⟨rfl, R, C, rfl, h3, h4, h5, h6⟩
    have l1 := cnt_le r (bt R)
    have l2 := cnt_le c (bt C)
    have hcl : clD s2 r c R C (r * c) := by
      rcases h6 with h6 | h6
      · exact h6
      · omega
    unfold FL_sensed_17
    simp (disch := omega) only [nlit', nI_leI, Nat.le_refl, if_true, wp_some, and_true]
    refine sw_eq (Dm_8' hd.2.2.2) (fun d => ⟨fun h => (h4 d h).2, fun h => ?_⟩)
    refine h (fun i => bt R i = true) (fun d => bt C d = true) h5 (fun i d hD hR => ?_) (fun i d hD hC => ?_)
    · obtain ⟨q1, q2, q3⟩ := Dm_d hD
      have := hcl (i * c + d) (ixlt q1 q2) q3 (by rw [ixdiv q2, ixmod q2]; exact .inl hR)
      rw [ixdiv q2, ixmod q2] at this
      exact this.2
    · obtain ⟨q1, q2, q3⟩ := Dm_d hD
      have := hcl (i * c + d) (ixlt q1 q2) q3 (by rw [ixdiv q2, ixmod q2]; exact .inr hC)
      rw [ixdiv q2, ixmod q2] at this
      exact this.1
end SENS
