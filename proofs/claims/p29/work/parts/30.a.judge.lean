/-! PURE: distances and what becomes of a stroke -/
def gapN (a b : Nat) : Nat := if b ≤ a then a - b else b - a
theorem nI_sub2 {a b : Nat} (h : a < b) : nI a - nI b = nm (b - a) := by
  unfold nm
  rw [← pk_sub (show a ≤ b by omega), Int32.neg_sub]
theorem nm_neg (n : Nat) : -(nm n) = nI n := by
  unfold nm
  rw [Int32.neg_neg]
theorem e_abs {a b : Nat} (M : Mem) (ha : a < 2 ^ 31) (hb : b < 2 ^ 31) : fJ9_abs_0f7a4 (nI a - nI b) M = some (nI (gapN a b), M) := by
  unfold fJ9_abs_0f7a4 gapN
  by_cases h : b ≤ a
  · rw [if_pos h, nI_sub h, nlit, if_pos (nI_le (Nat.zero_le _) (by omega))]
  · rw [if_neg h, nI_sub2 (by omega), nlit, if_neg (by rw [nI_le_nm (by omega) (by omega) (by omega)]; exact not_false), nm_neg]
def offS (s : Nat → Int32) (φ : Nat → UInt32) (p : Nat) (since : Nat) (dwell : Int32) : UInt32 :=
  if s (3 + p) < nI 0 then ofn dwell (φ p) else off1 (ofn dwell (φ p)) (ofn (nI (gapN since (s (3 + p)).toNatClampNeg)) (φ (2 + p)))
theorem offS_K {s : Nat → Int32} {φ : Nat → UInt32} {p since : Nat} {dwell : Int32} (h1 : gm (φ p)) (h2 : gm (φ (2 + p))) : (offS s φ p since dwell).toNat % 2 ^ 31 < 167 * 2 ^ 23 := by
  unfold offS
  have g1 := (ofn_K dwell h1).2.2
  split
  · omega
  · exact (off1_K g1 (ofn_K _ h2).2.2).2.2
theorem e_dist {s : Nat → Int32} {φ : Nat → UInt32} {p a n since : Nat} {dwell : Int32} {M : Mem} (h0 : M.2 a 0 = φ p) (h1 : M.2 a 1 = φ (2 + p)) (g1 : gm (φ p)) (g2 : gm (φ (2 + p))) (hl : oN (M.1 a 2) (s (3 + p)) n) (hn : n ≤ 2 ^ 31) (hs : since < 2 ^ 31) :
    fX7_distanceOf a (nI since) dwell M = some (offS s φ p since dwell, M) := by
  obtain ⟨k1, k2, k3⟩ := ofn_K dwell g1
  unfold fX7_distanceOf offS
  simp only [h0, h1, bnd_e, e_uns, cal_e]
  rw [k1, asr_e, show FP.fdiv (szf (FP.fsub (FP.i2f dwell) (φ p))) (φ p) = ofn dwell (φ p) from rfl, k2, asr_e]
  rcases hl with ⟨e1, e2⟩ | ⟨l, hl, e1, e2⟩
  · rw [e1, nlit, nm_def, if_pos rfl, e2, if_pos (nm_lt0 (by decide) (by decide))]
  · obtain ⟨k4, k5, k6⟩ := ofn_K (nI (gapN since l)) g2
    obtain ⟨k7, k8, _⟩ := off1_K k3 k6
    rw [e1, nlit, nm_def, if_neg (by rw [nI_nm (by omega) (by decide) (by decide)]; exact not_false), e2, if_neg (nI_nlt0 (by omega)), e_abs M hs (by omega), cal_e, nI_clamp (by omega)]
    simp only [h1]
    rw [k4, asr_e, show FP.fdiv (szf (FP.fsub (FP.i2f (nI (gapN since l))) (φ (2 + p)))) (φ (2 + p)) = ofn (nI (gapN since l)) (φ (2 + p)) from rfl, k5, asr_e, k7, asr_e]
    rw [show FP.fadd (ofn dwell (φ p)) (FP.fmul (ofn (nI (gapN since l)) (φ (2 + p))) 1056964608) = off1 (ofn dwell (φ p)) (ofn (nI (gapN since l)) (φ (2 + p))) from rfl, k8, asr_e]
def nearF (z o : UInt32) : Int32 := if nI 0 ≤ fcg o z then nI 0 else nI 1
def jvv (z o mar tru : UInt32) (dbt : Bool) (dt : Nat) : Int32 := if dbt = true then (if nI 0 < fcg (if nearF z o = nI 0 then z else o) tru then nI 2 else nearF z o) else if nI 0 ≤ fcg (szf (FP.fsub z o)) mar then nearF z o else if dt = 20 then nI 2 else nI 3
def jS (s : Nat → Int32) (φ : Nat → UInt32) (k t dt : Nat) : Int32 :=
  if s 5 = nI k then (if s (116 + k) = nI 1 then nI 2 else nI 0) else if s 6 = nI k then (if s (116 + k) = nI 1 then nI 2 else nI 1) else
    jvv (offS s φ 0 (s (68 + k)).toNatClampNeg (nI (t - (s (68 + k)).toNatClampNeg))) (offS s φ 1 (s (68 + k)).toNatClampNeg (nI (t - (s (68 + k)).toNatClampNeg))) (φ 4) (φ 5) (decide (s (116 + k) = nI 1)) dt
theorem near_c (z o : UInt32) : nearF z o = nI 0 ∨ nearF z o = nI 1 := by
  unfold nearF
  split
  · exact .inl rfl
  · exact .inr rfl
theorem jvv_c (z o mar tru : UInt32) (dbt : Bool) (dt : Nat) : ∃ w, w < 4 ∧ jvv z o mar tru dbt dt = nI w ∧ (w = 3 → dt ≠ 20) := by
  unfold jvv
  generalize (if nearF z o = nI 0 then z else o) = l
  have hn := near_c z o
  generalize nearF z o = y at *
  split
  · split
    · exact ⟨2, by decide, rfl, fun q => absurd q (by decide)⟩
    · rcases hn with h | h
      · exact ⟨0, by decide, h, fun q => absurd q (by decide)⟩
      · exact ⟨1, by decide, h, fun q => absurd q (by decide)⟩
  · split
    · rcases hn with h | h
      · exact ⟨0, by decide, h, fun q => absurd q (by decide)⟩
      · exact ⟨1, by decide, h, fun q => absurd q (by decide)⟩
    · split
      · exact ⟨2, by decide, rfl, fun q => absurd q (by decide)⟩
      · rename_i h
        exact ⟨3, by decide, rfl, fun _ => h⟩
theorem jS_c (s : Nat → Int32) (φ : Nat → UInt32) (k t dt : Nat) : ∃ w, w < 4 ∧ jS s φ k t dt = nI w ∧ (w = 3 → dt ≠ 20) ∧ (w = 3 → ¬ s 5 = nI k ∧ ¬ s 6 = nI k) := by
  unfold jS
  by_cases h1 : s 5 = nI k
  · rw [if_pos h1]
    split
    · exact ⟨2, by decide, rfl, fun q => absurd q (by decide), fun q => absurd q (by decide)⟩
    · exact ⟨0, by decide, rfl, fun q => absurd q (by decide), fun q => absurd q (by decide)⟩
  · rw [if_neg h1]
    by_cases h2 : s 6 = nI k
    · rw [if_pos h2]
      split
      · exact ⟨2, by decide, rfl, fun q => absurd q (by decide), fun q => absurd q (by decide)⟩
      · exact ⟨1, by decide, rfl, fun q => absurd q (by decide), fun q => absurd q (by decide)⟩
    · rw [if_neg h2]
      obtain ⟨w, a, b, c⟩ := jvv_c (offS s φ 0 (s (68 + k)).toNatClampNeg (nI (t - (s (68 + k)).toNatClampNeg))) (offS s φ 1 (s (68 + k)).toNatClampNeg (nI (t - (s (68 + k)).toNatClampNeg))) (φ 4) (φ 5) (decide (s (116 + k) = nI 1)) dt
      exact ⟨w, a, b, c, fun _ => ⟨h1, h2⟩⟩
theorem e_fate {r c t e dt N k : Nat} {M : Mem} (H : NF r c t e dt N M) (hN : N < 2 ^ 30) (hk : k < r * c) (hs : ¬ M.1 236 (68 + k) < nI 0) : fX5_fateNow 1 (nI k) M = some (jS (M.1 236) (M.2 240) k t dt, M) := by
  have hd := H.hd
  have m48 := H.m48
  have hkr := divr hk
  have tN := H.tN
  have d20 := H.d20
  obtain ⟨b7, b8, b9⟩ := H.bits hk
  obtain ⟨s1, s2, s3⟩ := e_isBit H.hc (by omega) (by omega) (show k / c < 6 by omega) (show k < 2 ^ 31 by omega)
  obtain ⟨⟨u, hu, g1, g2⟩, _, _, _⟩ : (∃ u, u ≤ t ∧ M.1 236 (68 + k) = nI u ∧ M.1 5 k = nI u) ∧ _ ∧ _ ∧ _ := by
    rcases H.key hk with ⟨g, _⟩ | g
    · rw [g] at hs
      exact absurd (nm_lt0 (by decide) (by decide)) hs
    · exact g
  have e0 := oN_eq (H.shift (p := 0) (by omega)) (show k < 2 ^ 31 by omega)
  have e1 := oN_eq (H.shift (p := 1) (by omega)) (show k < 2 ^ 31 by omega)
  obtain ⟨⟨v1, v2, v3, v4⟩, v5, _⟩ := H.ty0
  obtain ⟨⟨w1, w2, w3, w4⟩, w5, _⟩ := H.ty1
  have x0 := e_dist (s := M.1 236) (φ := M.2 240) (p := 0) (a := 12) (since := u) (dwell := nI (t - u)) (M := M) v1 v2 v3 v4 v5 (by omega) (by omega)
  have x1 := e_dist (s := M.1 236) (φ := M.2 240) (p := 1) (a := 14) (since := u) (dwell := nI (t - u)) (M := M) w1 w2 w3 w4 w5 (by omega) (by omega)
  have K0 := offS_K (s := M.1 236) (since := u) (dwell := nI (t - u)) v3 v4
  have K1 := offS_K (s := M.1 236) (since := u) (dwell := nI (t - u)) w3 w4
  have K2 := FP.Core.fsub_mag K0 K1 (by decide)
  unfold fX5_fateNow jS
  simp (disch := first | omega | (simp only [ln_3, ln_4, ln_5, ln_6, ln_7, ln_8, ln_9, ln_10, ln_11, ln_13, ln_15, ln_17, ln_18, ln_19, ln_20, ln_21, ln_22, ln_23, ln_25, ln_26, ln_27, ln_28, ln_29, ln_30, ln_31, ln_33, ln_234]; omega)) only [Nat.reduceAdd, s3, b9, cal_e, e_shiftOwner, Nat.add_zero] at e0 e1 ⊢
  by_cases h1 : M.1 236 5 = nI k
  · have h1' : M.1 11 0 = nI k := by rw [e0]; exact h1
    simp (disch := first | omega | (simp only [ln_3, ln_4, ln_5, ln_6, ln_7, ln_8, ln_9, ln_10, ln_11, ln_13, ln_15, ln_17, ln_18, ln_19, ln_20, ln_21, ln_22, ln_23, ln_25, ln_26, ln_27, ln_28, ln_29, ln_30, ln_31, ln_33, ln_234]; omega)) only [h1, h1', if_true, nlit, nm_def, nI_nm, if_false, b2_if, e0]
    by_cases q : M.1 236 (116 + k) = nI 1
    · simp [q]
    · simp [q]
  have h1' : ¬ M.1 11 0 = nI k := by rw [e0]; exact h1
  by_cases h2 : M.1 236 6 = nI k
  · have h2' : M.1 11 1 = nI k := by rw [e1]; exact h2
    simp (disch := first | omega | (simp only [ln_3, ln_4, ln_5, ln_6, ln_7, ln_8, ln_9, ln_10, ln_11, ln_13, ln_15, ln_17, ln_18, ln_19, ln_20, ln_21, ln_22, ln_23, ln_25, ln_26, ln_27, ln_28, ln_29, ln_30, ln_31, ln_33, ln_234]; omega)) only [h1, h1', h2, h2', if_true, nlit, nm_def, nI_nm, if_false, b2_if]
    by_cases q : M.1 236 (116 + k) = nI 1
    · simp [q]
    · simp [q]
  have h2' : ¬ M.1 11 1 = nI k := by rw [e1]; exact h2
  simp (disch := first | omega | (simp only [ln_3, ln_4, ln_5, ln_6, ln_7, ln_8, ln_9, ln_10, ln_11, ln_13, ln_15, ln_17, ln_18, ln_19, ln_20, ln_21, ln_22, ln_23, ln_25, ln_26, ln_27, ln_28, ln_29, ln_30, ln_31, ln_33, ln_234]; omega)) only [h1, h1', h2, h2', if_true, nlit, nm_def, if_false, b2_if, (e_leaf (M := M) (show k < 48 by omega)).2.2.1, cal_e, g1, g2, H.t1, nI_sub, x0, x1, jn_e, nI_clamp, e_uns, bnd_e, H.set0.2, H.set1.2, H.d1]
  generalize offS (M.1 236) (M.2 240) 0 u (nI (t - u)) = z at *
  generalize offS (M.1 236) (M.2 240) 1 u (nI (t - u)) = o at *
  have kn : nnb (FP.fsub z o) = true := nnb_K K2 (by decide)
  have e20 : (nI 20 ≤ nI dt) = (dt = 20) := by
    rw [nI_leI (by decide) (by omega)]
    exact propext ⟨fun h => by omega, fun h => by omega⟩
  unfold jvv nearF
  simp only [kn, asr_e, e20]
  by_cases q0 : nI 0 ≤ fcg o z <;> by_cases q1 : M.1 236 (116 + k) = nI 1 <;> by_cases q2 : nI 0 ≤ fcg (szf (FP.fsub z o)) (M.2 240 4) <;> by_cases q3 : dt = 20 <;> by_cases q4 : nI 0 < fcg z (M.2 240 5) <;> by_cases q5 : nI 0 < fcg o (M.2 240 5) <;> simp only [q0, q1, q2, q3, q4, q5, n10, if_true, if_false, decide_true, decide_false, Bool.true_eq_false, Bool.false_eq_true]
