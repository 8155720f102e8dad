/-! PURE: the face, asked -/
section FACE
variable {r c t e dt N : Nat} {M : Mem} {s : Nat → Int32} {φ : Nat → UInt32}
def ownS (s : Nat → Int32) (k : Nat) : Int32 := if s 5 = nI k then nI 0 else if s 6 = nI k then nI 1 else nm 5
theorem f16 : ∀ a, a < 16 → ∀ b, b < 16 → (nI a = nI b) = (a = b) := fun a ha b hb => by rw [nI_eq (by omega) (by omega)]
theorem a_key (H : CV r c t e dt N M s φ) (hN : N < 2 ^ 30) {k : Nat} (hk : k < r * c) :
    fX8_key 0 (nI k) (nI 0) M = some (s (20 + k), M) ∧ fX8_key 0 (nI k) (nI 1) M = some (b2 (!decide (s (68 + k) < nI 0)), M) ∧ fX8_key 0 (nI k) (nI 2) M = some (s (68 + k), M) ∧
    fX8_key 0 (nI k) (nI 3) M = some (b2 (decide (s (116 + k) = nI 1)), M) ∧ fX8_key 0 (nI k) (nI 4) M = some (s (260 + k), M) ∧ fX8_key 0 (nI k) (nI 5) M = some (ownS s k, M) ∧
    fX8_key 0 (nI k) (nI 6) M = some (b2 (bt (sw (Dm s r c) (k / c)) (k % c)), M) ∧ fX8_key 0 (nI k) (nI 7) M = some (nm 2, M) := by
  have hd := H.hd
  have m31 := H.m31
  have m48 := H.m48
  have hkr := divr hk
  obtain ⟨b7, b8, b9⟩ := H.bits hk
  obtain ⟨s1, s2, s3⟩ := e_isBit H.hc (by omega) (by omega) (show k / c < 6 by omega) (show k < 2 ^ 31 by omega)
  have hkc : k % c < c := Nat.mod_lt k (by omega)
  have k48 : k < 48 := by omega
  have k31 : k < 2 ^ 31 := by omega
  have e0 := e_has H.hr H.hc hk m31
  have hk68 := H.seen hN hk
  refine ⟨?_, ?_, ?_, ?_, ?_, ?_, ?_, ?_⟩
  · unfold fX8_key
    simp (disch := omega) only [Nat.reduceAdd, if_true, if_false, e0, cal_e, nlit, nm_def, n10, (e_leaf (M := M) k48).1, e_orNone M (H.hold hk) (show 2 ≤ 2 ^ 31 by decide)]
  · unfold fX8_key
    simp (disch := omega) only [Nat.reduceAdd, if_true, if_false, e0, cal_e, nlit, nm_def, n10, s2, b2_if, b8]
    cases decide (s (68 + k) < nI 0) <;> rfl
  · unfold fX8_key
    simp (disch := omega) only [Nat.reduceAdd, if_true, if_false, e0, cal_e, nlit, nm_def, n10, f16, Nat.reduceEqDiff, s2, b2_if, (e_leaf (M := M) k48).2.2.1, b8]
    rcases hk68 with ⟨g1, g2, g3⟩ | ⟨g1, g2, g3⟩
    · rw [if_pos (by simp [g1]), g2]
    · rw [if_neg (by simp [g1]), g2]
  · unfold fX8_key
    simp (disch := omega) only [Nat.reduceAdd, if_true, if_false, e0, cal_e, nlit, nm_def, n10, f16, Nat.reduceEqDiff, s3, b2_if, b9]
    cases decide (s (116 + k) = nI 1) <;> rfl
  · unfold fX8_key
    simp (disch := omega) only [Nat.reduceAdd, if_true, if_false, e0, cal_e, nlit, nm_def, n10, f16, Nat.reduceEqDiff, e_signOf H.hr H.hc m48 hk, H.sign hk]
  · unfold fX8_key
    simp (disch := omega) only [Nat.reduceAdd, if_true, if_false, e0, cal_e, nlit, nm_def, n10, f16, Nat.reduceEqDiff, e_shiftOwner, e_orNone M (own_eqC H k31) (show 2 ≤ 2 ^ 31 by decide)]
    rfl
  · unfold fX8_key
    simp (disch := omega) only [Nat.reduceAdd, if_true, if_false, e0, cal_e, nlit, nm_def, n10, f16, Nat.reduceEqDiff, e_rowOf H.hc (by omega) hd.2.2.2 k31, H.sens hkr, e_bitOf H.hc (by omega) hd.2.2.2 k31, and_pw]
    cases bt (sw (Dm s r c) (k / c)) (k % c) <;> rfl
  · unfold fX8_key
    simp (disch := omega) only [Nat.reduceAdd, if_true, if_false, e0, cal_e, nlit, nm_def, n10, f16, Nat.reduceEqDiff]
theorem a_keyN (H : CV r c t e dt N M s φ) {x : Int32} (w : Int32) (hx : x < nI 0 ∨ nI (r * c) ≤ x) : fX8_key 0 x w M = some (nm 1, M) := by
  unfold fX8_key
  simp only [Nat.reduceAdd, e_hasn H.hr H.hc hx, cal_e, nlit, nm_def, if_true]
theorem a_typ (H : CV r c t e dt N M s φ) (hN : N < 2 ^ 30) {p : Nat} (hp : p < 2) :
    fX8_typist 0 (nI p) (nI 0) M = some (nI (cnt (r * c) (fun k => decide (s (20 + k) = nI p))), M) ∧ fX8_typist 0 (nI p) (nI 1) M = some (s (5 + p), M) ∧ fX8_typist 0 (nI p) (nI 2) M = some (b2 (onv s p), M) ∧
    fX8_typist 0 (nI p) (nI 4) M = some (s (10 + p), M) ∧ fX8_typist 0 (nI p) (nI 5) M = some (s (12 + p), M) ∧ fX8_typist 0 (nI p) (nI 6) M = some (s (17 + p), M) ∧ fX8_typist 0 (nI p) (nI 7) M = some (s (3 + p), M) ∧ fX8_typist 0 (nI p) (nI 8) M = some (nm 2, M) := by
  have e0 := e_isTyp M hp
  have e1 := e_typOf M hp
  obtain ⟨⟨_, t2, _, t4, t5, ⟨m, hm, t6, t6'⟩, _⟩, ek, _⟩ := H.ty hp
  refine ⟨?_, ?_, ?_, ?_, ?_, ?_, ?_, ?_⟩
  · unfold fX8_typist
    simp (disch := omega) only [Nat.reduceAdd, if_true, if_false, e0, cal_e, nlit, nm_def, n10, e1, ek, asr_e, e_heldBy, held_eqC H hp]
  · unfold fX8_typist
    simp (disch := omega) only [Nat.reduceAdd, if_true, if_false, e0, cal_e, nlit, nm_def, n10, e1, ek, asr_e, f16, Nat.reduceEqDiff, e_shiftOf hp, e_orNone M (H.shift hp) (by have := H.m48; omega)]
  · unfold fX8_typist
    simp (disch := omega) only [Nat.reduceAdd, if_true, if_false, e0, cal_e, nlit, nm_def, n10, e1, ek, asr_e, f16, Nat.reduceEqDiff, H.on hp, b2_if]
    cases onv s p <;> rfl
  · unfold fX8_typist
    simp (disch := omega) only [Nat.reduceAdd, if_true, if_false, e0, cal_e, nlit, nm_def, n10, e1, ek, asr_e, f16, Nat.reduceEqDiff, t4]
  · unfold fX8_typist
    simp (disch := omega) only [Nat.reduceAdd, if_true, if_false, e0, cal_e, nlit, nm_def, n10, e1, ek, asr_e, f16, Nat.reduceEqDiff, t5]
  · unfold fX8_typist
    simp (disch := omega) only [Nat.reduceAdd, if_true, if_false, e0, cal_e, nlit, nm_def, n10, e1, ek, asr_e, f16, Nat.reduceEqDiff, t6, t6']
  · unfold fX8_typist
    simp (disch := omega) only [Nat.reduceAdd, if_true, if_false, e0, cal_e, nlit, nm_def, n10, e1, ek, asr_e, f16, Nat.reduceEqDiff, e_orNone M t2 (show N + 1 ≤ 2 ^ 31 by omega)]
  · unfold fX8_typist
    simp (disch := omega) only [Nat.reduceAdd, if_true, if_false, e0, cal_e, nlit, nm_def, n10, e1, ek, asr_e, f16, Nat.reduceEqDiff]
theorem a_typN {x : Int32} (w : Int32) (hx : x < nI 0 ∨ nI 2 ≤ x) : fX8_typist 0 x w M = some (nm 1, M) := by
  unfold fX8_typist
  simp only [e_isTypn M hx, cal_e, nlit, nm_def, if_true]
theorem a_style (H : CV r c t e dt N M s φ) {p w : Nat} (hp : p < 2) (hw : w < 2) : fX8_style 0 (nI p) (nI w) M = some (φ (2 * w + p), M) ∧ nnb (FP.fmul (φ (2 * w + p)) 1120403456) = true ∧ fX8_hundredths 0 (nI p) (nI w) M = some (FP.f2i (FP.fmul (φ (2 * w + p)) 1120403456), M) := by
  have e0 := e_isTyp M hp
  obtain ⟨k1, k2⟩ := e_meanOfC H hp hw
  have k3 := FP.Core.fmul_mag (a := φ (2 * w + p)) (b := 1120403456) (Ka := 153) (Kb := 134) (gm_K k2).1 (by decide) (by decide) (by decide)
  have k4 : nnb (FP.fmul (φ (2 * w + p)) 1120403456) = true := nnb_K k3 (by decide)
  refine ⟨?_, k4, ?_⟩
  · unfold fX8_style
    simp only [Nat.reduceAdd, if_true, if_false, e0, cal_e, nlit, nm_def, n10, e_isMean M hw, k1]
  · unfold fX8_hundredths
    simp only [Nat.reduceAdd, if_true, if_false, e0, cal_e, nlit, nm_def, n10, e_isMean M hw, k1, k4, asr_e, bnd_e]
theorem a_styleN {x : Int32} (w : Int32) (hx : x < nI 0 ∨ nI 2 ≤ x) : fX8_style 0 x w M = some (2143289344, M) := by
  unfold fX8_style
  simp only [e_isTypn M hx, cal_e, nlit, if_true]
theorem a_hunN {p : Nat} {x : Int32} (hp : p < 2) (hx : x < nI 0 ∨ nI 2 ≤ x) : fX8_hundredths 0 (nI p) x M = some (nm 2, M) := by
  have e0 := e_isTyp M hp
  unfold fX8_hundredths
  simp only [Nat.reduceAdd, if_true, if_false, e0, cal_e, nlit, nm_def, n10, e_isMeann M hx]
theorem a_typed (H : CV r c t e dt N M s φ) (hN : N < 2 ^ 30) {p m j : Nat} (hp : p < 2) (hm : s (17 + p) = nI m) (hmN : m ≤ N) (hj : j < 2 ^ 31) :
    fX8_typed 0 (nI p) (nI j) M = some (if j < m ∧ j < 24 then s (544 + 24 * p + (m - 1 - j) % 24) else nm 5, M) := by
  have e0 := e_isTyp M hp
  have e1 := e_typOf M hp
  obtain ⟨⟨_, _, _, _, _, ⟨m2, hm2, t6, t6'⟩, t7⟩, ek, el⟩ := H.ty hp
  have em : m2 = m := by
    rw [hm, nI_eq (by omega) (by omega)] at t6'
    exact t6'.symm
  subst em
  by_cases h1 : m2 ≤ j
  · rw [if_neg (by omega)]
    unfold fX8_typed
    simp (disch := omega) only [Nat.reduceAdd, if_true, if_false, e0, cal_e, nlit, nm_def, n10, e1, ek, asr_e, t6, nI_leI, Nat.zero_le, h1]
  by_cases h2 : j < 24
  · have hl : (m2 - 1 - j) % 24 < 24 := Nat.mod_lt _ (by decide)
    rw [if_pos (by omega)]
    unfold fX8_typed fX7_signBack
    simp (disch := omega) only [Nat.reduceAdd, if_true, if_false, e0, cal_e, nlit, nm_def, n10, e1, ek, asr_e, t6, nI_leI, nI_ltI, nI_sub, Nat.zero_le, h1, h2, e_fmod, show 12 + 2 * p + 1 = 13 + 2 * p by omega]
    rw [e_at M (by rw [el]; exact hl), cal_e, cal_e, t7 _ hl]
  · rw [if_neg (by omega)]
    unfold fX8_typed
    simp (disch := omega) only [Nat.reduceAdd, if_true, if_false, e0, cal_e, nlit, nm_def, n10, e1, ek, asr_e, t6, nI_leI, nI_ltI, Nat.zero_le, h1, h2]
theorem a_stroke (H : CV r c t e dt N M s φ) (hN : N < 2 ^ 30) {j w : Nat} (hj : j < 2 ^ 31) (hw : w < 6) :
    fX8_stroke 0 (nI j) (nI w) M = some (if j < e ∧ j < 16 then s (308 + 6 * ((e - 1 - j) % 16) + w) else nm 5, M) := by
  have he := H.eN
  have hj0 : ¬ (nI j < nI 0) := nI_nlt0 hj
  have hw0 : ¬ (nI w < nI 0) := nI_nlt0 (by omega)
  by_cases h1 : e ≤ j
  · rw [if_neg (by omega)]
    unfold fX8_stroke
    simp (disch := omega) only [Nat.reduceAdd, nlit, nm_def, hj0, hw0, if_false, nI_leI, show w ≤ 5 by omega, if_true, H.e1, h1]
  by_cases h2 : j < 16
  · obtain ⟨g1, g2, g3, g4, g5, g6⟩ := H.en (i := e - 1 - j) (by omega) (by omega)
    have hl : (e - 1 - j) % 16 < 16 := Nat.mod_lt _ (by decide)
    obtain ⟨k1, k2, k3, k4, k5, k6, _⟩ := e_strk (a := e - 1 - j) M (.inl rfl) (by omega)
    rw [if_pos (by omega)]
    unfold fX8_stroke
    simp (disch := omega) only [Nat.reduceAdd, nlit, nm_def, hj0, hw0, if_false, nI_leI, nI_ltI, show w ≤ 5 by omega, if_true, H.e1, h1, h2, bnd_e, nI_sub, k1, k2, k3, k4, k5, k6, cal_e, e_orNone M g5 (show 2 ≤ 2 ^ 31 by decide), nI_eq, g1, g2, g3, g4, g6]
    rcases (show w = 0 ∨ w = 1 ∨ w = 2 ∨ w = 3 ∨ w = 4 ∨ w = 5 by omega) with rfl | rfl | rfl | rfl | rfl | rfl <;> simp
  · rw [if_neg (by omega)]
    unfold fX8_stroke
    simp (disch := omega) only [Nat.reduceAdd, nlit, nm_def, hj0, hw0, if_false, nI_leI, nI_ltI, show w ≤ 5 by omega, if_true, H.e1, h1, h2]
theorem a_strokeN (M : Mem) : fX8_stroke 0 (nI 0) (nI 6) M = some (nm 2, M) ∧ fX8_stroke 0 (nm 1) (nI 0) M = some (nm 2, M) := by
  have h1 : nm 1 < nI 0 := nm_lt0 (by decide) (by decide)
  have h2 : ¬ nI 6 ≤ nI 5 := by decide
  have h3 : ¬ nI 6 < nI 0 := by decide
  have h4 : ¬ nI 0 < nI 0 := by decide
  constructor
  · unfold fX8_stroke
    simp only [nlit, nm_def, h2, h3, h4, if_false]
  · unfold fX8_stroke
    simp only [nlit, nm_def, h1, if_true]
theorem a_dis (H : CV r c t e dt N M s φ) {d : Nat} (hd : d < dt) : (∀ w, w < 5 → fX8_dispute 0 (nI d) (nI w) M = some (s (404 + 7 * d + w), M)) ∧ fX8_dispute 0 (nI d) (nI 5) M = some (nm 2, M) := by
  have d20 := H.d20
  have hd0 : ¬ (nI d < nI 0) := nI_nlt0 (by omega)
  have e0 : fX5_hasDispute 1 (nI d) M = some (nI 1, M) := by
    unfold fX5_hasDispute
    simp (disch := omega) only [nlit, Nat.reduceAdd, hd0, if_false, H.d1, nI_leI, show ¬ (dt ≤ d) by omega]
  obtain ⟨⟨k, hk, a, a'⟩, ⟨u, hu, b, b'⟩, ⟨v, hv, g, g'⟩, fa, ho, _⟩ := H.dis hd
  obtain ⟨k1, k2, k3, k4, k5, _, _⟩ := e_strk (a := d) (x := 24) M (.inr rfl) (by omega)
  rw [Nat.mod_eq_of_lt (show d < 20 by omega)] at k1 k2 k3 k4 k5
  constructor
  · intro w hw
    unfold fX8_dispute
    rcases (show w = 0 ∨ w = 1 ∨ w = 2 ∨ w = 3 ∨ w = 4 by omega) with rfl | rfl | rfl | rfl | rfl
    · simp only [Nat.reduceAdd, if_true, if_false, e0, cal_e, nlit, nm_def, n10, k1, a, a', Nat.add_zero]
    · simp only [Nat.reduceAdd, if_true, if_false, e0, cal_e, nlit, nm_def, n10, k2, b, b']
    · simp only [Nat.reduceAdd, if_true, if_false, e0, cal_e, nlit, nm_def, n10, n20, fin9 2 (by decide) 1 (by decide) (by decide), k3, g, g']
    · simp only [Nat.reduceAdd, if_true, if_false, e0, cal_e, nlit, nm_def, n10, fin9 3 (by decide) 0 (by decide) (by decide), fin9 3 (by decide) 1 (by decide) (by decide), fin9 3 (by decide) 2 (by decide) (by decide), k4]
      rcases fa with ⟨q1, q2⟩ | ⟨w, hw, q1, q2⟩
      · simp only [q1, q2, if_true]
      · simp only [q1, q2, fin9 w (by omega) 3 (by decide) (by omega), if_false]
    · simp only [Nat.reduceAdd, if_true, if_false, e0, cal_e, nlit, nm_def, n10, fin9 4 (by decide) 0 (by decide) (by decide), fin9 4 (by decide) 1 (by decide) (by decide), fin9 4 (by decide) 2 (by decide) (by decide), fin9 4 (by decide) 3 (by decide) (by decide), k5, e_orNone M ho (show 2 ≤ 2 ^ 31 by decide)]
  · unfold fX8_dispute
    simp (disch := omega) only [Nat.reduceAdd, if_true, if_false, e0, cal_e, nlit, nm_def, n10, f16, Nat.reduceEqDiff]
theorem a_dist (H : CV r c t e dt N M s φ) (hN : N < 2 ^ 30) {p j w : Nat} (hp : p < 2) (hj : j < 2 ^ 31) (hw : w ≤ 9999) : fX8_distance 0 (nI p) (nI j) (nI w) M = some (offS s φ p j (nI w), M) := by
  have e0 := e_isTyp M hp
  have hj0 : ¬ (nI j < nI 0) := nI_nlt0 hj
  have hw0 : ¬ (nI w < nI 0) := nI_nlt0 (by omega)
  obtain ⟨⟨⟨v1, v2, v3, v4⟩, v5, _⟩, ek, _⟩ := H.ty hp
  unfold fX8_distance
  simp (disch := omega) only [Nat.reduceAdd, if_true, if_false, e0, cal_e, nlit, nm_def, n10, hj0, hw0, nI_leI, show w ≤ 9999 by omega, e_typOf M hp, ek, asr_e, e_dist (s := s) (φ := φ) (dwell := nI w) v1 v2 v3 v4 v5 (by omega) hj]
theorem a_distN : fX8_distance 0 (nI 0) (nm 1) (nI 0) M = some (2143289344, M) := by
  have e0 := e_isTyp M (show 0 < 2 by omega)
  have h1 : nm 1 < nI 0 := nm_lt0 (by decide) (by decide)
  unfold fX8_distance
  simp only [Nat.reduceAdd, if_true, if_false, e0, cal_e, nlit, nm_def, n10, h1]
theorem a_verd (H : CV r c t e dt N M s φ) (hN : N < 2 ^ 30) {k : Nat} (hk : k < r * c) : fX8_verdict 0 (nI k) M = some (if s (68 + k) < nI 0 then nm 5 else jS s φ k t dt, M) := by
  have hd := H.hd
  have m31 := H.m31
  have m48 := H.m48
  have hkr := divr hk
  obtain ⟨b7, b8, b9⟩ := H.bits hk
  obtain ⟨s1, s2, s3⟩ := e_isBit H.hc (by omega) (by omega) (show k / c < 6 by omega) (show k < 2 ^ 31 by omega)
  have e0 := e_has H.hr H.hc hk m31
  by_cases g : s (68 + k) < nI 0
  · rw [if_pos g]
    unfold fX8_verdict
    simp only [Nat.reduceAdd, if_true, if_false, e0, cal_e, nlit, nm_def, n10, s2, b8, b2_if, g, decide_true, Bool.not_true, b2_f, b2_t]
  · rw [if_neg g]
    unfold fX8_verdict
    simp only [Nat.reduceAdd, if_true, if_false, e0, cal_e, nlit, nm_def, n10, s2, b8, b2_if, g, decide_false, Bool.not_false, Bool.true_eq_false, b2_f, b2_t, e_fateC H hN hk g]
end FACE
