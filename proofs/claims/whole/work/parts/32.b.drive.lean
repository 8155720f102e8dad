/-! PURE: the reference's drive -/
def FD (M M2 : Mem) : Prop := (∀ k, k ≠ 235 → M2.1 k = M.1 k) ∧ (∀ j, j ≠ 13 → j ≠ 14 → M2.1 235 j = M.1 235 j) ∧ M2.2 = M.2
theorem FD_refl (M : Mem) : FD M M := ⟨fun _ _ => rfl, fun _ _ _ => rfl, rfl⟩
theorem FD_trans {M M1 M2 : Mem} (h : FD M M1) (g : FD M1 M2) : FD M M2 := ⟨fun k hk => by rw [g.1 k hk, h.1 k hk], fun j h1 h2 => by rw [g.2.1 j h1 h2, h.2.1 j h1 h2], by rw [g.2.2, h.2.2]⟩
theorem FD_w {M M1 : Mem} {x : Int32} {j : Nat} (h : FD M M1) (hj : j = 13 ∨ j = 14) : FD M (w1 M1 235 j x) := ⟨fun k hk => by rw [w1_o hk, h.1 k hk], fun i h1 h2 => by rw [w1_1, if_neg (by omega)]; exact h.2.1 i h1 h2, h.2.2⟩
def Dm (s : Nat → Int32) (r c : Nat) (i d : Nat) : Bool := decide (i < r) && (decide (d < c) && !decide (s (20 + (i * c + d)) < nI 0))
def sbR (s : Nat → Int32) (r c f : Nat) (x : Int32) : Prop := ∀ i, bt x i = true → i < r ∧ SensR (Dm s r c) f i
def sbC (s : Nat → Int32) (r c f : Nat) (x : Int32) : Prop := ∀ d, bt x d = true → d < c ∧ SensC (Dm s r c) f d
def clD (s : Nat → Int32) (r c : Nat) (x y : Int32) (n : Nat) : Prop := ∀ k, k < n → (!decide (s (20 + k) < nI 0)) = true → (bt x (k / c) = true ∨ bt y (k % c) = true) → bt x (k / c) = true ∧ bt y (k % c) = true
theorem or_0 (x : Int32) : x ||| nI 0 = x := sbs_or3 (fun d h => by rw [bt_0] at h; cases h)
theorem ixdiv {c i d : Nat} (hd : d < c) : (i * c + d) / c = i := by rw [Nat.mul_comm, Nat.mul_add_div (by omega), Nat.div_eq_of_lt hd, Nat.add_zero]
theorem ixmod {c i d : Nat} (hd : d < c) : (i * c + d) % c = d := by rw [Nat.mul_comm, Nat.mul_add_mod, Nat.mod_eq_of_lt hd]
theorem Dm_k {s : Nat → Int32} {r c k : Nat} (hk : k < r * c) (hc : 0 < c) (h : (!decide (s (20 + k) < nI 0)) = true) : Dm s r c (k / c) (k % c) = true := by
  unfold Dm
  rw [divmod, h, decide_eq_true (divr hk), decide_eq_true (Nat.mod_lt k hc)]
  rfl
theorem Dm_d {s : Nat → Int32} {r c i d : Nat} (h : Dm s r c i d = true) : i < r ∧ d < c ∧ (!decide (s (20 + (i * c + d)) < nI 0)) = true := by
  unfold Dm at h
  simp only [Bool.and_eq_true, decide_eq_true_eq] at h
  exact h
set_option maxHeartbeats 1000000 in
theorem r_drive {M : Mem} {r c f : Nat} (hd : 2 ≤ r ∧ r ≤ 6 ∧ 2 ≤ c ∧ c ≤ 8) (hr : M.1 236 0 = nI r) (hc : M.1 236 1 = nI c) (hf : f < r) :
    wp (fX9_drive 235 (nI f) M) (fun _ M2 => FD M M2 ∧ ∀ d, bt (M2.1 235 13) d = true ↔ SensC (Dm (M.1 236) r c) f d) := by
  obtain ⟨m48, m0⟩ := mul48 hd
  unfold fX9_drive
  simp only [wp_bnd, nlit, pw_def]
  refine lp_down (fun j b M1 => FD M M1 ∧ sbR (M.1 236) r c f (M1.1 235 14) ∧ sbC (M.1 236) r c f (M1.1 235 13) ∧ bt (M1.1 235 14) f = true ∧
    ((b = nI 0 ∧ clD (M.1 236) r c (M1.1 235 14) (M1.1 235 13) (r * c)) ∨ (b = nI 1 ∧ r + c + 1 ≤ j + (cnt r (bt (M1.1 235 14)) + cnt c (bt (M1.1 235 13)))))) ?_ 1000000 (r + c + 1) _ _ (by omega) ⟨FD_w (FD_w (FD_refl M) (.inr rfl)) (.inl rfl), ?_, ?_, ?_, .inr ⟨rfl, by omega⟩⟩
  · rintro j b M1 rec ⟨h1, h2, h3, h4, h5⟩ kk
    unfold FX9_drive_14
    rcases h5 with ⟨rfl, h5⟩ | ⟨rfl, h5⟩
    · simp only [nlit, if_true, wp_some]
      refine ⟨h1, fun d => ⟨fun h => (h3 d h).2, fun h => ?_⟩⟩
      refine h (fun i => bt (M1.1 235 14) i = true) (fun d => bt (M1.1 235 13) d = true) h4 (fun i d hD hR => ?_) (fun i d hD hC => ?_)
      · obtain ⟨q1, q2, q3⟩ := Dm_d hD
        have := h5 (i * c + d) (ixlt q1 q2) q3 (by rw [ixdiv q2, ixmod q2]; exact .inl hR)
        rw [ixdiv q2, ixmod q2] at this
        exact this.2
      · obtain ⟨q1, q2, q3⟩ := Dm_d hD
        have := h5 (i * c + d) (ixlt q1 q2) q3 (by rw [ixdiv q2, ixmod q2]; exact .inr hC)
        rw [ixdiv q2, ixmod q2] at this
        exact this.1
    · simp only [nlit, n10, if_false]
      generalize hR0 : M1.1 235 14 = R0 at *
      generalize hC0 : M1.1 235 13 = C0 at *
      refine lp_for (r * c) (fun i b M2 => b = nI i ∧ FD M M2 ∧ sbR (M.1 236) r c f (M2.1 235 14) ∧ sbC (M.1 236) r c f (M2.1 235 13) ∧ sbs R0 (M2.1 235 14) ∧ sbs C0 (M2.1 235 13) ∧ (M2.1 235 14 = R0 → M2.1 235 13 = C0 → clD (M.1 236) r c R0 C0 i)) (by omega) ⟨rfl, h1, by rw [hR0]; exact h2, by rw [hC0]; exact h3, by rw [hR0]; exact sbs_refl _, by rw [hC0]; exact sbs_refl _, fun _ _ k hk => absurd hk (Nat.not_lt_zero k)⟩ ?_ ?_
      · rintro i b M2 rec2 hi ⟨rfl, g1, g2, g3, g4, g5, g6⟩ k2
        have hr2 : M2.1 236 0 = nI r := by rw [g1.1 236 (by decide)]; exact hr
        have hc2 : M2.1 236 1 = nI c := by rw [g1.1 236 (by decide)]; exact hc
        have hir := divr hi
        have hic : i % c < c := Nat.mod_lt i (by omega)
        unfold FX9_drive_32
        rw [r_keys hr2 hc2, cal_e, if_neg (by rw [nI_leI (by omega) (by omega)]; omega)]
        simp (disch := first | omega | (simp only [ln_3, ln_4, ln_5, ln_6, ln_7, ln_8, ln_9, ln_10, ln_11, ln_13, ln_15, ln_17, ln_18, ln_19, ln_20, ln_21, ln_22, ln_23, ln_25, ln_26, ln_27, ln_28, ln_29, ln_30, ln_31, ln_33, ln_234, ln_236, ln_237, ln_238, ln_239, ln_240, ln_241, ln_242, ln_243, ln_244]; omega)) only [nlit, nI_add, inb_nI, nI_clamp, nzb_nI, hc2, cal_e, bnd_e, asr_e, jn_e, if_true, Nat.reduceAdd, ln_236, nI_div, nI_rem, r_isDown, b2_if, shr_1, pw_def, n10, if_false]
        rw [g1.1 236 (by decide)]
        have J2 : ∀ R' C' : Int32, sbR (M.1 236) r c f R' → sbC (M.1 236) r c f C' → sbs R0 R' → sbs C0 C' → (R' = R0 → C' = C0 → clD (M.1 236) r c R0 C0 (i + 1)) →
            (nI (i + 1) = nI (i + 1) ∧ FD M (w1 (w1 M2 235 14 R') 235 13 C') ∧ sbR (M.1 236) r c f ((w1 (w1 M2 235 14 R') 235 13 C').1 235 14) ∧ sbC (M.1 236) r c f ((w1 (w1 M2 235 14 R') 235 13 C').1 235 13) ∧ sbs R0 ((w1 (w1 M2 235 14 R') 235 13 C').1 235 14) ∧ sbs C0 ((w1 (w1 M2 235 14 R') 235 13 C').1 235 13) ∧ ((w1 (w1 M2 235 14 R') 235 13 C').1 235 14 = R0 → (w1 (w1 M2 235 14 R') 235 13 C').1 235 13 = C0 → clD (M.1 236) r c R0 C0 (i + 1))) := by
          intro R' C' q1 q2 q3 q4 q5
          have x1 : (w1 (w1 M2 235 14 R') 235 13 C').1 235 14 = R' := by simp [w1_1]
          have x2 : (w1 (w1 M2 235 14 R') 235 13 C').1 235 13 = C' := by simp [w1_1]
          rw [x1, x2]
          exact ⟨rfl, FD_w (FD_w g1 (.inr rfl)) (.inl rfl), q1, q2, q3, q4, q5⟩
        have x3 : ∀ x, (w1 M2 235 14 x).1 235 13 = M2.1 235 13 := fun x => by simp [w1_1]
        simp only [x3, or_0]
        have same : (¬ ((!decide (M.1 236 (20 + i) < nI 0)) = true ∧ (bt (M2.1 235 14) (i / c) = true ∨ bt (M2.1 235 13) (i % c) = true))) → M2.1 235 14 = R0 → M2.1 235 13 = C0 → clD (M.1 236) r c R0 C0 (i + 1) := fun hn e1 e2 k hk hD hB => by
          by_cases e : k = i
          · subst e
            rw [← e1, ← e2] at hB
            exact absurd ⟨hD, hB⟩ hn
          · exact g6 e1 e2 k (by omega) hD hB
        have join : (!decide (M.1 236 (20 + i) < nI 0)) = true → (bt (M2.1 235 14) (i / c) = true ∨ bt (M2.1 235 13) (i % c) = true) → sbR (M.1 236) r c f (M2.1 235 14 ||| pw (i / c)) ∧ sbC (M.1 236) r c f (M2.1 235 13 ||| pw (i % c)) ∧ (M2.1 235 14 ||| pw (i / c) = R0 → M2.1 235 13 ||| pw (i % c) = C0 → clD (M.1 236) r c R0 C0 (i + 1)) := fun hD hB => by
          have hDm := Dm_k hi (by omega) hD
          have hR : SensR (Dm (M.1 236) r c) f (i / c) := fun R C p1 p2 p3 => by
            rcases hB with hB | hB
            · exact (g2 _ hB).2 R C p1 p2 p3
            · exact p3 _ _ hDm ((g3 _ hB).2 R C p1 p2 p3)
          have hC : SensC (Dm (M.1 236) r c) f (i % c) := fun R C p1 p2 p3 => p2 _ _ hDm (hR R C p1 p2 p3)
          refine ⟨fun k hk => ?_, fun d hd => ?_, fun e1 e2 k hk hDk hBk => ?_⟩
          · rw [bt_or, bt_pw (by omega)] at hk
            cases hx : bt (M2.1 235 14) k
            · rw [hx, Bool.false_or, decide_eq_true_eq] at hk
              subst hk
              exact ⟨hir, hR⟩
            · exact g2 k hx
          · rw [bt_or, bt_pw (by omega)] at hd
            cases hx : bt (M2.1 235 13) d
            · rw [hx, Bool.false_or, decide_eq_true_eq] at hd
              subst hd
              exact ⟨hic, hC⟩
            · exact g3 d hx
          · by_cases e : k = i
            · subst e
              rw [← e1, ← e2, bt_or, bt_or, bt_pw (by omega), bt_pw (by omega), decide_eq_true rfl, decide_eq_true rfl, Bool.or_true, Bool.or_true]
              exact ⟨rfl, rfl⟩
            · refine g6 (sbs_anti ?_ g4) (sbs_anti ?_ g5) k (by omega) hDk hBk
              · rw [← e1]
                exact sbs_or _ _
              · rw [← e2]
                exact sbs_or _ _
        cases hD : !decide (M.1 236 (20 + i) < nI 0)
        · simp only [if_true]
          exact k2 _ _ (J2 _ _ g2 g3 g4 g5 (same (fun h => by rw [hD] at h; cases h.1)))
        · simp only [if_false, Bool.true_eq_false]
          cases hB1 : bt (M2.1 235 14) (i / c)
          · simp only [if_false, Bool.false_eq_true]
            cases hB2 : bt (M2.1 235 13) (i % c)
            · simp only [if_false, Bool.false_eq_true]
              exact k2 _ _ (J2 _ _ g2 g3 g4 g5 (same (fun h => by rw [hB1, hB2] at h; rcases h.2 with h | h <;> cases h)))
            · simp only [if_true]
              obtain ⟨p1, p2, p3⟩ := join hD (.inr hB2)
              exact k2 _ _ (J2 _ _ p1 p2 (sbs_trans g4 (sbs_or _ _)) (sbs_trans g5 (sbs_or _ _)) p3)
          · simp only [if_true]
            obtain ⟨p1, p2, p3⟩ := join hD (.inl hB1)
            exact k2 _ _ (J2 _ _ p1 p2 (sbs_trans g4 (sbs_or _ _)) (sbs_trans g5 (sbs_or _ _)) p3)
      · rintro b M2 rec2 ⟨rfl, g1, g2, g3, g4, g5, g6⟩
        have hr2 : M2.1 236 0 = nI r := by rw [g1.1 236 (by decide)]; exact hr
        have hc2 : M2.1 236 1 = nI c := by rw [g1.1 236 (by decide)]; exact hc
        have hmon : cnt r (bt R0) ≤ cnt r (bt (M2.1 235 14)) := cnt_mono (fun i _ h => g4 i h)
        have hmonC : cnt c (bt C0) ≤ cnt c (bt (M2.1 235 13)) := cnt_mono (fun i _ h => g5 i h)
        have l1 := cnt_le r (bt R0)
        have l2 := cnt_le c (bt C0)
        unfold FX9_drive_32
        rw [r_keys hr2 hc2, cal_e, if_pos (nI_le (Nat.le_refl _) (by omega))]
        simp only [nlit, jn_e]
        have go1 : r + c + 1 ≤ j - 1 + (cnt r (bt (M2.1 235 14)) + cnt c (bt (M2.1 235 13))) → wp (rec (nI 1) M2) (fun x M2 => FD M M2 ∧ ∀ (d : Nat), bt (M2.1 235 13) d = true ↔ SensC (Dm (M.1 236) r c) f d) := fun hm =>
          kk (j - 1) _ _ (by omega) ⟨g1, g2, g3, g4 f h4, .inr ⟨rfl, hm⟩⟩
        by_cases e2 : C0 = M2.1 235 13
        · rw [if_pos e2]
          by_cases e1 : R0 = M2.1 235 14
          · rw [if_pos e1]
            refine kk (j - 1) _ _ (by omega) ⟨g1, g2, g3, g4 f h4, .inl ⟨rfl, ?_⟩⟩
            rw [← e1, ← e2]
            exact g6 e1.symm e2.symm
          · rw [if_neg e1]
            obtain ⟨d, _, q1, q2⟩ := sbs_ne g4 (fun h => e1 h.symm)
            have := cnt_strict (n := r) (j := d) (fun i _ h => g4 i h) (g2 d q2).1 q1 q2
            exact go1 (by omega)
        · rw [if_neg e2]
          obtain ⟨d, _, q1, q2⟩ := sbs_ne g5 (fun h => e2 h.symm)
          have := cnt_strict (n := c) (j := d) (fun i _ h => g5 i h) (g3 d q2).1 q1 q2
          exact go1 (by omega)
  · intro i hi
    rw [show (w1 (w1 M 235 14 (pw f)) 235 13 (nI 0)).1 235 14 = pw f from by simp [w1_1], bt_pw (by omega), decide_eq_true_eq] at hi
    subst hi
    exact ⟨hf, fun R C p1 _ _ => p1⟩
  · intro d hd
    rw [show (w1 (w1 M 235 14 (pw f)) 235 13 (nI 0)).1 235 13 = nI 0 from by simp [w1_1], bt_0] at hd
    cases hd
  · rw [show (w1 (w1 M 235 14 (pw f)) 235 13 (nI 0)).1 235 14 = pw f from by simp [w1_1], bt_pw (by omega), decide_eq_true_eq]
