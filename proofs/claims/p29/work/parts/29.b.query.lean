/-! PURE: what is asked (2) -/
theorem e_isTyp {p : Nat} (M : Mem) (hp : p < 2) : fX5_isTypist (nI p) M = some (nI 1, M) := by
  rcases (show p = 0 ∨ p = 1 by omega) with rfl | rfl
  · rfl
  · rfl
theorem out_ne {x : Int32} {n k : Nat} (hx : x < nI 0 ∨ nI n ≤ x) (hk : k < n) (hn : n < 2 ^ 31) : ¬ x = nI k := by
  rintro rfl
  rcases hx with h | h
  · exact nI_nlt0 (by omega) h
  · rw [nI_leI (by omega) (by omega)] at h
    omega
theorem e_isTypn {x : Int32} (M : Mem) (hx : x < nI 0 ∨ nI 2 ≤ x) : fX5_isTypist x M = some (nI 0, M) := by
  have h0 := out_ne (k := 0) hx (by omega) (by omega)
  have h1 := out_ne (k := 1) hx (by omega) (by omega)
  unfold fX5_isTypist
  simp only [nlit, jn_e, h0, h1, if_false]
theorem e_typOf {p : Nat} (M : Mem) (hp : p < 2) : fX5_typistOf 1 (nI p) M = some (12 + 2 * p, M) := by
  rcases (show p = 0 ∨ p = 1 by omega) with rfl | rfl
  · rfl
  · rfl
theorem kdb6 : kdb 12 6 = true ∧ kdb 14 6 = true := by decide +kernel
theorem held_eq {r c t e dt N p : Nat} {M : Mem} (H : NF r c t e dt N M) (hp : p < 2) : cnt 48 (fun k => decide (M.1 3 k = nI p)) = cnt (r * c) (fun k => decide (M.1 236 (20 + k) = nI p)) := by
  rw [cnt_cut H.m48 (fun i h1 h2 => decide_eq_false (by rw [H.hold48 h1 h2, nm_nI (by omega) (by decide) (by decide)]; exact not_false))]
  exact cnt_congr (fun i hi => by simp only [oN_eq (H.hold hi) (show p < 2 ^ 31 by omega)])
def onv (s : Nat → Int32) (p : Nat) : Bool := !decide (s (5 + p) < nI 0) && (!decide (s (68 + (s (5 + p)).toNatClampNeg) < nI 0) && decide (s (116 + (s (5 + p)).toNatClampNeg) = nI 0))
theorem e_isOn {r c p : Nat} {M : Mem} {s : Nat → Int32} (hd : 2 ≤ r ∧ r ≤ 6 ∧ 2 ≤ c ∧ c ≤ 8) (hc : M.1 2 1 = nI c) (hp : p < 2) (hs : oN (M.1 11 p) (s (5 + p)) (r * c)) (hb : ∀ k, k < r * c → bt (M.1 9 (k / c)) (k % c) = !decide (s (68 + k) < nI 0) ∧ bt (M.1 10 (k / c)) (k % c) = decide (s (116 + k) = nI 1)) (h01 : ∀ k, k < r * c → s (116 + k) = nI 0 ∨ s (116 + k) = nI 1) :
    fX0_isShiftOn 2 (nI p) M = some (b2 (onv s p), M) := by
  have m48 := (mul48 hd).1
  unfold fX0_isShiftOn onv
  rcases hs with ⟨g1, g2⟩ | ⟨k, hk, g1, g2⟩
  · simp only [e_shiftOf hp, cal_e, g1, nlit, nm_def, if_true, g2]
    rw [show decide (nm 5 < nI 0) = true from decide_eq_true (nm_lt0 (by decide) (by decide))]
    rfl
  · have hkr := divr hk
    obtain ⟨_, s2, s3⟩ := e_isBit (M := M) hc (by omega) (by omega) (show k / c < 6 by omega) (show k < 2 ^ 31 by omega)
    simp (disch := omega) only [e_shiftOf hp, cal_e, g1, nlit, nm_def, nI_nm, if_false, g2, s2, s3, b2_if, nI_clamp, (hb k hk).1, (hb k hk).2]
    rw [show decide (nI k < nI 0) = false from decide_eq_false (nI_nlt0 (by omega))]
    cases h1 : decide (s (68 + k) < nI 0)
    · rcases h01 k hk with g | g
      · simp [g, fin9, b2]
      · simp [g, fin9, b2]
    · simp [b2]
