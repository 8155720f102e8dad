/-! PURE: the law's start -/
def s0 (R C : Nat) : Nat → Int32 := ck (upd (upd (upd (upd rz 0 (nI R)) 1 (nI C)) 5 (nm 5)) 6 (nm 5)) 48
section BEG
theorem s0_o {R C i : Nat} (h0 : i ≠ 0) (h1 : i ≠ 1) (h5 : i ≠ 5) (h6 : i ≠ 6) (h : i < 20 ∨ 308 ≤ i) : s0 R C i = rz i := by
  unfold s0
  rw [show ck (upd (upd (upd (upd rz 0 (nI R)) 1 (nI C)) 5 (nm 5)) 6 (nm 5)) 48 i = upd (upd (upd (upd rz 0 (nI R)) 1 (nI C)) 5 (nm 5)) 6 (nm 5) i from (by
    rcases h with h | h
    · exact ck_lo h
    · exact ck_hi h), upd_ne h6, upd_ne h5, upd_ne h1, upd_ne h0]
theorem s0_h (R C : Nat) : s0 R C 0 = nI R ∧ s0 R C 1 = nI C ∧ s0 R C 5 = nm 5 ∧ s0 R C 6 = nm 5 := by
  unfold s0
  refine ⟨?_, ?_, ?_, ?_⟩
  · rw [ck_lo (by omega), upd_ne (by omega), upd_ne (by omega), upd_ne (by omega), upd_eq rfl]
  · rw [ck_lo (by omega), upd_ne (by omega), upd_ne (by omega), upd_eq rfl]
  · rw [ck_lo (by omega), upd_ne (by omega), upd_eq rfl]
  · rw [ck_lo (by omega), upd_eq rfl]
theorem s0_EX (R C : Nat) (h48 : R * C ≤ 48) : EX (R * C) 0 0 0 (s0 R C) pz := by
  obtain ⟨_, _, h5, h6⟩ := s0_h R C
  have hk : ∀ k, k < R * C → s0 R C (260 + k) = nI 46 := fun k hk => by
    unfold s0
    exact (ck_k (by omega)).2.2.2.2.2
  have hn : ∀ k, k < R * C → ¬ (s0 R C 5 = nI k) ∧ ¬ (s0 R C 6 = nI k) := fun k hk => by
    rw [h5, h6, nm_nI (by omega) (by decide) (by decide)]
    exact ⟨not_false, not_false⟩
  have hz : ∀ i, 7 ≤ i ∧ i < 20 ∨ 308 ≤ i → s0 R C i = nI 0 := fun i hi => by
    rw [s0_o (by omega) (by omega) (by omega) (by omega) (by omega)]
    exact rz_0 (by omega)
  have hT : ∀ p, p < 2 → XT p 0 0 0 (s0 R C) := fun p hp => ⟨hz _ (by omega), hz _ (by omega), hz _ (by omega), Nat.le_refl 0, Nat.le_refl 0, fun j _ hj => absurd hj (Nat.not_lt_zero j)⟩
  refine ⟨⟨fun k h => ⟨46, hk k h, .inl rfl⟩, fun k h _ => hk k h, fun k h q => (hn k h).1 q.1⟩, ⟨0, ⟨0, 0, 0, 0, 0, 0, 0, 0, hT 0 (by omega), hT 1 (by omega), hz _ (by omega), hz _ (by omega), Nat.le_refl 0, rfl⟩, rfl⟩, ⟨fun _ => 0, fun i hi => absurd hi (Nat.not_lt_zero i), fun i hi => absurd hi (by omega), fun i hi => absurd hi (Nat.not_lt_zero i)⟩, ?_⟩
  unfold XS pz
  refine ⟨?_, ?_, ?_⟩
  · simp [vf_upd]
  · simp [vf_upd]
  · simp [vf_upd]
theorem a_begin {R C : Nat} (hR : 2 ≤ R ∧ R ≤ 4) (hC : 2 ≤ C ∧ C ≤ 5) : fX8_undo 0 Mz = some (nm 5, Mz) ∧ fX8_restore 0 Mz = some (nm 5, Mz) ∧ ∃ M2, fX8_build 0 (nI R) (nI C) Mz = some (nI (R * C), M2) ∧ JN 0 M2 := by
  have z100 : Mz.1 100 0 = nI 0 := rfl
  have z5 : Mz.1 0 5 = nI 0 := rfl
  have h48 : R * C ≤ 48 := Nat.le_trans (Nat.mul_le_mul hR.2 hC.2) (by omega)
  have H : CV 4 6 0 0 0 0 Mz rz pz := start_RS
  have hx : HX 0 Mz := ⟨0, 0, by omega, z100, fun i hi => by
    rw [z_100]
    rcases (show i = 0 ∨ i = 1 ∨ i = 2 ∨ i = 3 by omega) with rfl | rfl | rfl | rfl <;> rfl, fun h => absurd h (Nat.not_lt_zero 0)⟩
  have fr : ∀ k, k < 4 * 6 → rz (20 + k) < nI 0 ∧ rz (68 + k) < nI 0 := fun k hk => by
    obtain ⟨a, b, _⟩ := rz_k (show k < 48 by omega)
    rw [a, b]
    exact ⟨nm_lt0 (by decide) (by decide), nm_lt0 (by decide) (by decide)⟩
  obtain ⟨c1, c2, _⟩ := H.counts
  rw [cnt_zero.mpr (fun k hk => by rw [decide_eq_true (fr k hk).1]; rfl)] at c1
  rw [cnt_zero.mpr (fun k hk => by rw [decide_eq_true (fr k hk).2]; rfl)] at c2
  refine ⟨?_, ?_, ?_⟩
  · unfold fX8_undo
    simp only [Nat.reduceAdd, nlit', nm_x, z100, if_true]
  · unfold fX8_restore
    simp only [nlit', nm_x, z5, if_true]
  obtain ⟨M1, e1, hx1, H1, f1⟩ := h_rem H hx
  have fw : ∀ k, k ≠ 2 → k ≠ 4 → k ≠ 11 → (wa (wa (w1 (w1 M1 2 0 (nI R)) 2 1 (nI C)) 4 (cpv (M1.1 4) (fun _ => nI 46) 48)) 11 (cpv (M1.1 11) (fun _ => nm 1) 2)).1 k = M1.1 k := fun k h2 h4 h11 => by rw [wa_o h11, wa_o h4, w1_o h2, w1_o h2]
  have g2 : (wa (wa (w1 (w1 M1 2 0 (nI R)) 2 1 (nI C)) 4 (cpv (M1.1 4) (fun _ => nI 46) 48)) 11 (cpv (M1.1 11) (fun _ => nm 1) 2)).1 2 0 = nI R ∧ (wa (wa (w1 (w1 M1 2 0 (nI R)) 2 1 (nI C)) 4 (cpv (M1.1 4) (fun _ => nI 46) 48)) 11 (cpv (M1.1 11) (fun _ => nm 1) 2)).1 2 1 = nI C := by
    rw [wa_o (by decide), wa_o (by decide), w1_self, w1_self]
    exact ⟨by rw [upd_ne (by omega), upd_eq rfl], upd_eq rfl⟩
  have g4 : ∀ j, j < 48 → (wa (wa (w1 (w1 M1 2 0 (nI R)) 2 1 (nI C)) 4 (cpv (M1.1 4) (fun _ => nI 46) 48)) 11 (cpv (M1.1 11) (fun _ => nm 1) 2)).1 4 j = nI 46 := fun j hj => by
    rw [wa_o (by decide), wa_self, cpv_lt hj]
  have g11 : ∀ p, p < 2 → (wa (wa (w1 (w1 M1 2 0 (nI R)) 2 1 (nI C)) 4 (cpv (M1.1 4) (fun _ => nI 46) 48)) 11 (cpv (M1.1 11) (fun _ => nm 1) 2)).1 11 p = nm 1 := fun p hp => by
    rw [wa_self, cpv_lt hp]
  have gB : (wa (wa (w1 (w1 M1 2 0 (nI R)) 2 1 (nI C)) 4 (cpv (M1.1 4) (fun _ => nI 46) 48)) 11 (cpv (M1.1 11) (fun _ => nm 1) 2)).2 = M1.2 := rfl
  have e2 := e_rebuild (M := M1) (x := nI R) (y := nI C)
  generalize (wa (wa (w1 (w1 M1 2 0 (nI R)) 2 1 (nI C)) 4 (cpv (M1.1 4) (fun _ => nI 46) 48)) 11 (cpv (M1.1 11) (fun _ => nm 1) 2)) = M2 at *
  have H2 : CV R C 0 0 0 0 M2 (s0 R C) pz := by
    refine RS_build (A := vA M1 1) (B := vB M1 1) (s := rz) (φ := pz) H1 (by omega) (by omega) fr (fun k hk hk2 => ?_) g2 g4 g11 (fun k _ _ => ?_) (s0_h R C) (fun i i0 i1 i5 i6 hi => s0_o i0 i1 i5 i6 hi) (fun k hk => ?_) (fun i _ => rfl)
    · simp only [Bool.or_eq_false_iff, beq_eq_false_iff_ne] at hk2
      exact fw _ (by omega) (by omega) (by omega)
    · show M2.2 (1 + k) = M1.2 (1 + k)
      rw [gB]
    · unfold s0
      exact ck_k hk
  refine ⟨M2, ?_, R, C, 0, 0, 0, s0 R C, pz, H2, s0_EX R C h48, HX_f hx1 (fun k h1 h2 => fw k (by omega) (by omega) (by omega)) (Nat.le_refl 0), ?_, by omega⟩
  · have a1 : ¬ nI R < nI 2 := by rw [nI_ltI (by omega) (by decide)]; omega
    have a2 : ¬ nI 6 < nI R := by rw [nI_ltI (by omega) (by omega)]; omega
    have a3 : ¬ nI C < nI 2 := by rw [nI_ltI (by omega) (by decide)]; omega
    have a4 : nI C ≤ nI 8 := by rw [nI_leI (by omega) (by decide)]; omega
    have a5 : ¬ nI 0 < nI 0 := by decide
    have a6 : nI 0 ≤ nI 0 := by decide
    have a7 : ¬ Mz.1 2 1 = nI C := by
      rw [H.hc, nI_eq (by omega) (by omega)]
      omega
    unfold fX8_build
    simp only [Nat.reduceAdd, nlit', nm_x, a1, a2, a3, a4, a5, a6, a7, if_true, if_false, c1, c2, cal_x, jn_x, e1, e2, ite_self, e_size H2.hr H2.hc]
  · rw [fw 233 (by omega) (by omega) (by omega), (f1 233 (by omega)).1]
    rfl
end BEG
