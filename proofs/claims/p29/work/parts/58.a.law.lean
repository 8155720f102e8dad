/-! PURE: the law -/
section LAW
theorem e_cell {Ln j : Nat} {xs : Nat → Int32} (M : Mem) (hj : j < 2 ^ 31) : fL_cell Ln xs (nI j) M = some (cv Ln xs (nI j), M) := by
  unfold fL_cell
  rw [decide_eq_true (show 0 ≤ (nI j).toInt by rw [nI_toInt hj]; omega), asr_x]
theorem law_loop {Ln : Nat} {xs : Nat → Int32} {K : Unit → Mem → Option Unit} (hK : ∀ M, JN 7200 M → K () M = some ()) : ∀ (n i fuel : Nat) (M : Mem), i + n = 36 → n < fuel → JN (200 * i) M → lp (FL_law_85 Ln xs 0 K) fuel (nI i) M = some () := by
  intro n
  induction n with
  | zero =>
    intro i fuel M hin hfu hJ
    obtain ⟨k, _, _, el⟩ := lp_1 (F := FL_law_85 Ln xs 0 K) hfu
    have : i = 36 := by omega
    subst this
    rw [el]
    unfold FL_law_85
    rw [if_pos (show (36 : Int32) ≤ nI 36 by decide)]
    exact hK M hJ
  | succ n ih =>
    intro i fuel M hin hfu hJ
    obtain ⟨k, _, hk, el⟩ := lp_1 (F := FL_law_85 Ln xs 0 K) hfu
    obtain ⟨r, c, t, e, dt, s, φ, J⟩ := hJ
    rw [el]
    unfold FL_law_85
    simp only [nlit', nI_mul, nI_add]
    obtain ⟨M2, e2, J2⟩ := a_acts J (by omega) (cv Ln xs (nI (1 + 2 * i))) (cv Ln xs (nI (2 + 2 * i)))
    have J2' : JN (200 * (i + 1)) M2 := by rw [Nat.mul_add]; exact J2
    obtain ⟨r2, c2, t2, d2, dt2, s2, φ2, H2, X2, _, _, h12⟩ := J2
    rw [if_neg (show ¬ nI 36 ≤ nI i by rw [nI_leI (by decide) (by omega)]; omega), e_cell M (by omega), cal_x, e_cell M (by omega), cal_x, e2, cal_x, if_neg n10, a_keyboard H2 (by omega) h12 X2, cal_x, if_neg n10, a_typists H2 (by omega) X2, cal_x, if_neg n10, a_strokes H2 (by omega) X2, cal_x, if_neg n10]
    exact ih (i + 1) k M2 (by omega) (by omega) J2'
theorem a_law {Ln : Nat} {xs : Nat → Int32} : fL_law Ln xs = some () := by
  obtain ⟨a, ha, ea⟩ := a_low Mz (cv Ln xs (nI 0)) (show 0 < 3 by omega) (by omega)
  obtain ⟨b, hb, eb⟩ := a_low Mz (cv Ln xs (nI 0) >>> (nI 4 &&& nI 31)) (show 0 < 4 by omega) (by omega)
  obtain ⟨u1, u2, M2, e2, J2⟩ := a_begin (R := 2 + a) (C := 2 + b) (by omega) (by omega)
  unfold fL_law
  simp only [nlit', nm_x]
  rw [e_cell Mz (by omega), cal_x, ea, cal_x, e_cell Mz (by omega), cal_x, eb, cal_x, u1, cal_x, if_pos rfl, u2, cal_x, if_pos rfl, nI_add, nI_add, e2, cal_x, nI_mul]
  have n6 : ¬ nI (2 + b) = nI 6 := by rw [nI_eq (by omega) (by decide)]; omega
  rw [jn_x, jn_x, if_neg n6]
  simp only [ite_self]
  rw [if_pos trivial]
  refine law_loop (fun M hJ => ?_) 36 0 1000000 M2 (by omega) (by omega) J2
  obtain ⟨r, c, t, e, dt, s, φ, J⟩ := hJ
  have H := J.1
  have m0 := H.m0
  have m31 := H.m31
  obtain ⟨q, hq, eq⟩ := a_low M (cv Ln xs (nI 1)) m0 m31
  obtain ⟨v, hv, ev⟩ := a_low M (cv Ln xs (nI 2)) m0 m31
  obtain ⟨M3, e3⟩ := a_errors J (by omega)
  have h12 := J.2.2.2.2
  try dsimp only
  rw [e_cell M (by omega), cal_x, a_keys H (by omega), cal_x, eq, cal_x, a_ghosts H (by omega) h12 hq, cal_x, if_neg n10, e_cell M (by omega), cal_x, a_keys H (by omega), cal_x, ev, cal_x, a_ghosts H (by omega) h12 hv, cal_x, if_neg n10, e3, cal_x, if_neg n10, decide_eq_true trivial, asr_x]
end LAW
