/-! PURE: calls that change -/
theorem mut_rec {N : Nat} {M : Mem} (h : IV N M) : ∃ q st M1, fX2_remember 100 1 M = some ((), M1) ∧ HC q st N M1 (M.1 236) (M.2 240) ∧ (∀ k, (k < 100 ∨ 233 ≤ k) → M1.1 k = M.1 k ∧ M1.2 k = M.2 k) := by
  obtain ⟨g1, ⟨q, st, g2⟩, _⟩ := h
  obtain ⟨M1, e, p1, p2⟩ := c_rec g2 (a := 1) (by decide) (by decide) g1
  exact ⟨q + 3, st, M1, e, p1, p2⟩
theorem mut_ref {N N2 q st : Nat} {M M1 M2 : Mem} {α : Type} {K : Unit → Mem → Option (α × Mem)} {v : α} (h : IV N M) (hN : N ≤ N2) (hc : HC q st N M1 (M.1 236) (M.2 240)) (f1 : ∀ k, (k < 100 ∨ 233 ≤ k) → M1.1 k = M.1 k ∧ M1.2 k = M.2 k)
    (f2 : ∀ k, (k < 1 ∨ 34 ≤ k) → M2.1 k = M1.1 k ∧ M2.2 k = M1.2 k)
    (kk : ∀ M3 : Mem, (∀ k, k ≠ 235 → k ≠ 237 → k ≠ 239 → M3.1 k = M2.1 k) → (∀ k, k ≠ 241 → k ≠ 243 → M3.2 k = M2.2 k) → wp (K () M3) (fun v2 M4 => v2 = v ∧ NowR N2 M4 ∧ (∀ k, (k < 1 ∨ 34 ≤ k) → k ≠ 235 → k ≠ 236 → M4.1 k = M3.1 k) ∧ (∀ j, j < 12 → M4.1 235 j = M3.1 235 j) ∧ (∀ k, (k < 1 ∨ 34 ≤ k) → k ≠ 240 → M4.2 k = M3.2 k))) :
    wp (cal (fX9_begin 235 M2) K) (fun v2 M4 => v2 = v ∧ IV N2 M4) := by
  obtain ⟨_, _, g3, g4⟩ := h
  have e236 : M2.1 236 = M.1 236 := by rw [(f2 _ (by omega)).1, (f1 _ (by omega)).1]
  have e240 : M2.2 240 = M.2 240 := by rw [(f2 _ (by omega)).2, (f1 _ (by omega)).2]
  have hc2 : HC q st N M2 (M2.1 236) (M2.2 240) := by
    rw [e236, e240]
    exact HC_f hc ⟨fun k _ _ => f2 k (by omega), by rw [(f2 235 (by omega)).1], (f2 237 (by omega)).1, (f2 241 (by omega)).2⟩
  rw [wp_cal]
  refine wp_mono (r_begin hc2) (fun _ M3 ⟨b1, b2, b3, b4⟩ => ?_)
  refine wp_mono (kk M3 b2 b4) (fun v2 M4 ⟨c1, c2, c3, c4, c5⟩ => ⟨c1, c2, ⟨q, _, HI_f (HI_mono b1 hN) ⟨fun k _ _ => ⟨c3 k (by omega) (by omega) (by omega), c5 k (by omega) (by omega)⟩, c4 8 (by omega), c3 237 (by omega) (by omega) (by omega), c5 241 (by omega) (by omega)⟩⟩, ?_, ?_⟩)
  · refine SN_mono (SN_f g3 ⟨fun k _ _ => ⟨?_, ?_⟩, ?_, ?_, ?_, ?_⟩) hN
    · rw [c3 k (by omega) (by omega) (by omega), b2 k (by omega) (by omega) (by omega), (f2 k (by omega)).1, (f1 k (by omega)).1]
    · rw [c5 k (by omega) (by omega), b4 k (by omega) (by omega), (f2 k (by omega)).2, (f1 k (by omega)).2]
    · rw [c3 0 (by omega) (by omega) (by omega), b2 0 (by omega) (by omega) (by omega), (f2 0 (by omega)).1, (f1 0 (by omega)).1]
    · rw [c4 9 (by omega), b3 9 (by omega), (f2 235 (by omega)).1, (f1 235 (by omega)).1]
    · rw [c3 _ (by omega) (by omega) (by omega), b2 _ (by omega) (by omega) (by omega), (f2 _ (by omega)).1, (f1 _ (by omega)).1]
    · rw [c5 _ (by omega) (by omega), b4 _ (by omega) (by omega), (f2 _ (by omega)).2, (f1 _ (by omega)).2]
  · refine SC_f g4 ⟨?_, ?_, ?_, ?_⟩
    · rw [c3 233 (by omega) (by omega) (by omega), b2 233 (by omega) (by omega) (by omega), (f2 233 (by omega)).1, (f1 233 (by omega)).1]
    · rw [c4 11 (by omega), b3 11 (by omega), (f2 235 (by omega)).1, (f1 235 (by omega)).1]
    · rw [c3 _ (by omega) (by omega) (by omega), b2 _ (by omega) (by omega) (by omega), (f2 _ (by omega)).1, (f1 _ (by omega)).1]
    · rw [c3 _ (by omega) (by omega) (by omega), b2 _ (by omega) (by omega) (by omega), (f2 _ (by omega)).1, (f1 _ (by omega)).1]
/-- what is against pressing, on both sides -/
def agP (s : Nat → Int32) (n p k : Nat) : Int32 := if s (20 + k) < nI 0 then (if cnt n (fun j => decide (s (20 + j) = nI p)) = 5 then nm 3 else nI 0) else nm 4
def agR (s : Nat → Int32) (p k : Nat) : Int32 := if s (20 + k) = nI p then nI 0 else nm 4
section AG
variable {r c t e dt N : Nat} {M : Mem}
theorem cp_out {x y : Int32} (H : NF r c t e dt N M) (h : (x < nI 0 ∨ nI 2 ≤ x) ∨ (y < nI 0 ∨ nI (r * c) ≤ y)) : fX5_pressError 1 x y M = some (nm 1, M) ∧ fX5_releaseError 1 x y M = some (nm 1, M) := by
  rcases pk_ix x (show 2 < 2 ^ 31 by decide) with hx | hx | ⟨p, hp, rfl⟩
  · have hx' : x < nI 0 ∨ nI 2 ≤ x := .inl hx
    unfold fX5_pressError fX5_releaseError
    simp only [e_isTypn M hx', cal_e, nlit, nm_def, if_true, and_self]
  · have hx' : x < nI 0 ∨ nI 2 ≤ x := .inr hx
    unfold fX5_pressError fX5_releaseError
    simp only [e_isTypn M hx', cal_e, nlit, nm_def, if_true, and_self]
  · have hy : y < nI 0 ∨ nI (r * c) ≤ y := by
      rcases h with h | h
      · exact absurd rfl (out_ne h hp (by decide))
      · exact h
    unfold fX5_pressError fX5_releaseError
    simp only [e_isTyp M hp, Nat.reduceAdd, e_hasn H.hr H.hc hy, cal_e, nlit, nm_def, n10, if_true, if_false, and_self]
theorem rp_out {x y : Int32} {M : Mem} (hd : 2 ≤ r ∧ r ≤ 6 ∧ 2 ≤ c ∧ c ≤ 8) (hr : M.1 236 0 = nI r) (hc : M.1 236 1 = nI c) (h : (x < nI 0 ∨ nI 2 ≤ x) ∨ (y < nI 0 ∨ nI (r * c) ≤ y)) : fX9_againstPress 235 x y M = some (nm 1, M) ∧ fX9_againstRelease 235 x y M = some (nm 1, M) := by
  obtain ⟨m48, m0⟩ := mul48 hd
  rcases pk_ix x (show 2 < 2 ^ 31 by decide) with hx | hx | ⟨p, hp, rfl⟩
  · have hx' : x < nI 0 ∨ nI 2 ≤ x := .inl hx
    unfold fX9_againstPress fX9_againstRelease
    simp only [r_noTypn M hx', cal_e, nlit, nm_def, n10, if_false, and_self]
  · have hx' : x < nI 0 ∨ nI 2 ≤ x := .inr hx
    unfold fX9_againstPress fX9_againstRelease
    simp only [r_noTypn M hx', cal_e, nlit, nm_def, n10, if_false, and_self]
  · have hy : y < nI 0 ∨ nI (r * c) ≤ y := by
      rcases h with h | h
      · exact absurd rfl (out_ne h hp (by decide))
      · exact h
    unfold fX9_againstPress fX9_againstRelease
    simp only [r_noTyp M hp, r_noKeyn hr hc hy m0 m48, cal_e, nlit, nm_def, n10, if_true, if_false, and_self]
theorem cp_in {p k : Nat} (H : NF r c t e dt N M) (hp : p < 2) (hk : k < r * c) : fX5_pressError 1 (nI p) (nI k) M = some (agP (M.1 236) (r * c) p k, M) ∧ fX5_releaseError 1 (nI p) (nI k) M = some (agR (M.1 236) p k, M) := by
  have hd := H.hd
  have m48 := H.m48
  have m31 := H.m31
  have hkr := divr hk
  have h5 := H.held5 hp
  obtain ⟨b7, b8, b9⟩ := H.bits hk
  obtain ⟨s1, s2, s3⟩ := e_isBit H.hc (by omega) (by omega) (show k / c < 6 by omega) (show k < 2 ^ 31 by omega)
  have e0 := e_has H.hr H.hc hk m31
  constructor
  · unfold fX5_pressError agP
    simp (disch := omega) only [Nat.reduceAdd, if_true, if_false, e0, cal_e, nlit, nm_def, n10, e_isTyp M hp, s1, b7, b2_if, e_heldBy, held_eq H hp, nI_ltI]
    by_cases q : M.1 236 (20 + k) < nI 0
    · simp only [q, decide_true, Bool.not_true, if_true]
      by_cases q2 : cnt (r * c) (fun k => decide (M.1 236 (20 + k) = nI p)) = 5
      · rw [if_neg (by omega), if_pos q2]
      · rw [if_pos (by omega), if_neg q2]
    · simp only [q, decide_false, Bool.not_false, Bool.true_eq_false, if_false]
  · unfold fX5_releaseError agR
    simp (disch := omega) only [Nat.reduceAdd, if_true, if_false, e0, cal_e, nlit, nm_def, n10, e_isTyp M hp, (e_leaf (M := M) (show k < 48 by omega)).1, oN_eq (H.hold hk) (show p < 2 ^ 31 by omega)]
    split <;> rfl
theorem rp_in {p k : Nat} {M : Mem} (hd : 2 ≤ r ∧ r ≤ 6 ∧ 2 ≤ c ∧ c ≤ 8) (hr : M.1 236 0 = nI r) (hc : M.1 236 1 = nI c) (hp : p < 2) (hk : k < r * c) : fX9_againstPress 235 (nI p) (nI k) M = some (agP (M.1 236) (r * c) p k, M) ∧ fX9_againstRelease 235 (nI p) (nI k) M = some (agR (M.1 236) p k, M) := by
  obtain ⟨m48, m0⟩ := mul48 hd
  have hl := cnt_le (r * c) (fun j => decide (M.1 236 (20 + j) = nI p))
  have f0 := r_noKey hr hc hk m48
  constructor
  · unfold fX9_againstPress agP
    simp (disch := omega) only [Nat.reduceAdd, if_true, if_false, f0, cal_e, nlit, nm_def, n10, r_noTyp M hp, r_isDown, b2_if, r_held (nI p) hr hc m48, nI_eq]
    by_cases q : M.1 236 (20 + k) < nI 0
    · simp only [q, decide_true, Bool.not_true, if_true]
      split <;> rfl
    · simp only [q, decide_false, Bool.not_false, Bool.true_eq_false, if_false]
  · unfold fX9_againstRelease agR
    simp (disch := first | omega | (simp only [ln_3, ln_4, ln_5, ln_6, ln_7, ln_8, ln_9, ln_10, ln_11, ln_13, ln_15, ln_17, ln_18, ln_19, ln_20, ln_21, ln_22, ln_23, ln_25, ln_26, ln_27, ln_28, ln_29, ln_30, ln_31, ln_33, ln_234, ln_236, ln_237, ln_238, ln_239, ln_240, ln_241, ln_242, ln_243, ln_244]; omega)) only [Nat.reduceAdd, if_true, if_false, f0, cal_e, nlit, nm_def, n10, r_noTyp M hp, nlit, nm_def, nI_add, nI_mul, nI_sub, nI_div, nI_rem, nI_clamp, nI_leI, nI_ltI, nI_eq, inb_nI, nzb_nI, nI_nm, nm_nI, nI_le_nm, nI_lt_nm, nm_le_nI, nm_lt_nI, cal_e, bnd_e, asr_e, jn_e, if_true, ln_236]
    split <;> rfl
end AG
