/-! PURE: settle, as the law asks for it -/
section ST
variable {r c t e dt N : Nat} {M : Mem} {s : Nat → Int32} {φ : Nat → UInt32}
theorem e_hasDis (H : CV r c t e dt N M s φ) {d : Nat} (hd : d < dt) : fX5_hasDispute 1 (nI d) M = some (nI 1, M) := by
  have d20 := H.d20
  have hd0 : ¬ (nI d < nI 0) := nI_nlt0 (by omega)
  unfold fX5_hasDispute
  simp (disch := omega) only [nlit, Nat.reduceAdd, hd0, if_false, H.d1, nI_leI, show ¬ (dt ≤ d) by omega]
theorem j_noDis (H : CV r c t e dt N M s φ) {d : Nat} (hd : dt ≤ d) (hd2 : d < 2 ^ 31) (x : Int32) : fX8_settle 0 (nI d) x M = some (nm 1, M) := by
  have d20 := H.d20
  have h0 : ¬ (nI d < nI 0) := nI_nlt0 (by omega)
  have h1 : nI dt ≤ nI d := nI_le hd hd2
  unfold fX8_settle fX5_hasDispute
  simp only [nlit', nm_x, Nat.reduceAdd, h0, if_true, if_false, H.d1, h1, cal_x]
theorem j_settled (H : CV r c t e dt N M s φ) {d w w2 : Nat} (hd : d < dt) (hw : w < 3) (hw2 : w2 < 3) (hs : s (404 + 7 * d + 3) = nI w2) : fX8_settle 0 (nI d) (nI w) M = some (nm 4, M) := by
  have d20 := H.d20
  have e0 := e_hasDis H hd
  obtain ⟨_, _, _, fa, _⟩ := H.dis hd
  obtain ⟨_, _, _, k4, _⟩ := e_strk (a := d) (x := 24) M (.inr rfl) (by omega)
  rw [Nat.mod_eq_of_lt (show d < 20 by omega)] at k4
  have hw0 : ¬ (nI w < nI 0) := nI_nlt0 (by omega)
  have hw2' : nI w ≤ nI 2 := by rw [nI_leI (by omega) (by decide)]; omega
  rcases fa with ⟨a, a'⟩ | ⟨w', hw', a, a'⟩
  · rw [hs] at a'
    exact absurd a' (by rw [nI_nm (by omega) (by decide) (by decide)]; exact not_false)
  · have n3 : ¬ nI w' = nI 3 := by rw [nI_eq (by omega) (by decide)]; omega
    unfold fX8_settle
    simp only [Nat.reduceAdd, if_true, if_false, e0, cal_e, nlit, nm_def, n10, hw0, hw2', k4, a, n3]
theorem j_settle (h : JS N r c t e dt M s φ) (hN : N < 2 ^ 24) {d w : Nat} (hd : d < dt) (hw : w < 3) (hop : s (404 + 7 * d + 3) = nm 5) :
    ∃ M2 s2 φ2 k u dw, s (404 + 7 * d) = nI k ∧ s (404 + 7 * d + 2) = nI dw ∧ dw ≤ N ∧ fX8_settle 0 (nI d) (nI w) M = some (nI k, M2) ∧ JS (N + 1) r c t e dt M2 s2 φ2 ∧ s2 (404 + 7 * d + 3) = nI w ∧ s2 (404 + 7 * d + 1) = nI u ∧
      (w = 2 → s2 14 = s 14 + nI 1) ∧ (w < 2 → s2 (10 + w) = s (10 + w) + nI 1 ∧ s2 (3 + w) = nI u ∧ φ2 w = lrn (φ w) (nI dw) (φ 6) ∧ φ2 (1 - w) = φ (1 - w)) := by
  obtain ⟨H, X, hx, h233, h12⟩ := h
  have m48 := H.m48
  have d20 := H.d20
  have eN := H.eN
  obtain ⟨M1, e1, hx1, H1, f1⟩ := h_rem H hx
  obtain ⟨k, u, dw, hh, q, o, hk, hu, hdw, hq, ho, p0, p1, p2, p4, p5, p6, hwp, HF⟩ := c_byHand H1 hN hd hw hop
  have X2 := EX_fate (k := k) (u := u) (d := dw) (q := q) (h := hh) X m48 d20 (by omega) hd ho hw hop
  have s3 : ∀ i, 19 ≤ i → i < 544 → finS (r * c) w k u q hh true (rwF s d o e w) i = rwF s d o e w i := fun i a b => fin_hi hw a b
  have e0 := e_hasDis H hd
  obtain ⟨_, _, _, fa, _⟩ := H.dis hd
  obtain ⟨_, _, _, k4, _⟩ := e_strk (a := d) (x := 24) M (.inr rfl) (by omega)
  rw [Nat.mod_eq_of_lt (show d < 20 by omega)] at k4
  have hw0 : ¬ (nI w < nI 0) := nI_nlt0 (by omega)
  have hw2 : nI w ≤ nI 2 := by rw [nI_leI (by omega) (by decide)]; omega
  have a28 : M.1 28 d = nI 3 := by
    rcases fa with ⟨a, _⟩ | ⟨w', hw', _, a'⟩
    · exact a
    · rw [hop] at a'
      exact absurd a' (by rw [nm_nI (by omega) (by decide) (by decide)]; exact not_false)
  obtain ⟨_, M2, e2, F2, H2⟩ := hwp
  refine ⟨M2, finS (r * c) w k u q hh true (rwF s d o e w), finF w u dw hh true (rwF s d o e w) φ, k, u, dw, p0, p2, hdw, ?_, ⟨H2, X2, HX_f hx1 (fun j a b => (F2 j (by omega)).1) (Nat.le_refl t), by rw [(F2 233 (by omega)).1, (f1 233 (by omega)).1, h233], h12⟩, ?_, ?_, fun h2 => ?_, fun h2 => ⟨?_, ?_, ?_, ?_⟩⟩
  · have k0 := (e_strk (a := d) (x := 24) M2 (.inr rfl) (by omega)).1
    rw [Nat.mod_eq_of_lt (show d < 20 by omega)] at k0
    obtain ⟨⟨k', _, b0, b0'⟩, _⟩ := H2.dis hd
    rw [s3 _ (by omega) (by omega), rwF_o (by omega) (by omega), p0] at b0'
    unfold fX8_settle
    simp (disch := omega) only [nlit', Nat.reduceAdd, e0, cal_x, n10, if_false, hw0, hw2, if_true, k4, a28, e1, e2]
    simp only [Nat.reduceAdd] at k0
    rw [k0, cal_x, b0, ← b0']
  · rw [s3 _ (by omega) (by omega), rwF_d]
  · rw [s3 _ (by omega) (by omega), rwF_o (by omega) (by omega), p1]
  · subst h2
    unfold finS rwC
    rw [if_pos rfl, if_pos rfl, upd_ne (by omega), upd_eq rfl, rwF_o (by omega) (by omega)]
  · unfold finS
    rw [if_neg (by omega), rwG_o (by omega) (by omega), if_pos rfl, upd_ne (by omega)]
    unfold rwC
    rw [if_neg (by omega), upd_ne (by omega), upd_eq rfl, rwF_o (by omega) (by omega)]
  · unfold finS
    rw [if_neg (by omega), rwG_o (by omega) (by omega), if_pos rfl, upd_eq rfl]
  · unfold finF
    rw [if_neg (by omega), if_pos rfl]
    unfold lrF
    split
    · rw [vfu_eq rfl]
    · rw [vfu_ne (by omega), vfu_eq rfl]
  · unfold finF
    rw [if_neg (by omega), if_pos rfl]
    unfold lrF
    split
    · rw [vfu_ne (by omega)]
    · rw [vfu_ne (by omega), vfu_ne (by omega)]
theorem a_settles (h : JS N r c t e dt M s φ) (hN : N + 2 < 2 ^ 24) {d w : Nat} (hd2 : d < 100) (hw : w < 3) : ∃ M2 s2 φ2, fL_settles 0 (nI d) (nI w) M = some (nI 1, M2) ∧ JS (N + 1) r c t e dt M2 s2 φ2 := by
  have hJ := h
  have hN30 : N < 2 ^ 30 := by omega
  obtain ⟨H, X, hx, h233, h12⟩ := h
  have d20 := H.d20
  have mono : ∀ {M2 s2 φ2}, JS N r c t e dt M2 s2 φ2 → JS (N + 1) r c t e dt M2 s2 φ2 := fun h => ⟨h.1.mono (Nat.le_succ N), h.2⟩
  obtain ⟨_, _, _, _, _, _, _, _, cc8, _, cc10, _⟩ := a_count H hN30
  unfold fL_settles
  simp only [nlit', nm_x]
  by_cases hd : ¬ d < dt
  · refine ⟨M, s, φ, ?_, mono hJ⟩
    rw [cc10, cal_x, if_neg (show ¬ nI d < nI dt by rw [nI_ltI (by omega) (by omega)]; exact hd), j_noDis H (by omega) (by omega), cal_x, if_pos rfl]
  replace hd := Decidable.not_not.mp hd
  obtain ⟨q0, _⟩ := a_dis H hd
  have y0 := q0 0 (by omega)
  have y2 := q0 2 (by omega)
  have y3 := q0 3 (by omega)
  rw [Nat.add_zero] at y0
  obtain ⟨_, _, _, fa, _⟩ := H.dis hd
  rcases fa.symm with ⟨w', hw', _, hcl⟩ | ⟨_, hop⟩
  · refine ⟨M, s, φ, ?_, mono hJ⟩
    rw [cc10, cal_x, if_pos (show nI d < nI dt by rw [nI_ltI (by omega) (by omega)]; exact hd), y3, cal_x, hcl, if_neg (nI_nlt0 (by omega)), j_settled H hd hw hw' hcl, cal_x, if_pos rfl]
  obtain ⟨M2, s2, φ2, k, u, dw, p0, p2, hdw, es, J2, z3, z1, z2, z4⟩ := j_settle hJ (by omega) hd hw hop
  refine ⟨M2, s2, φ2, ?_, J2⟩
  have H2 := J2.1
  rw [p0] at y0
  rw [p2] at y2
  rw [cc10, cal_x, if_pos (show nI d < nI dt by rw [nI_ltI (by omega) (by omega)]; exact hd), y3, cal_x, hop, if_pos (nm_lt0 (by decide) (by decide)), y0, cal_x, y2, cal_x, cc8, cal_x]
  obtain ⟨_, _, _, _, _, _, _, _, dd8, _⟩ := a_count H2 (by omega)
  obtain ⟨r0, _⟩ := a_dis H2 hd
  have x3 := r0 3 (by omega)
  have x1 := r0 1 (by omega)
  by_cases hw2 : w = 2
  · subst hw2
    rw [if_pos rfl, es, cal_x, if_pos rfl, dd8, cal_x, if_pos (z2 rfl), x3, cal_x, if_pos z3]
  · have hp : w < 2 := by omega
    obtain ⟨g10, g3, gφ, gφ2⟩ := z4 hp
    have hq : 1 - w < 2 := by omega
    obtain ⟨st, _⟩ := a_style H (w := 0) hp (by omega)
    obtain ⟨su, _⟩ := a_style H (w := 0) hq (by omega)
    obtain ⟨st2, _⟩ := a_style H2 (w := 0) hp (by omega)
    obtain ⟨su2, _⟩ := a_style H2 (w := 0) hq (by omega)
    simp only [Nat.mul_zero, Nat.zero_add] at st su st2 su2
    obtain ⟨_, _, _, ty4, _⟩ := a_typ H hN30 hp
    obtain ⟨_, _, _, tz4, _, _, tz7, _⟩ := a_typ H2 (by omega) hp
    have hmean : gm (φ w) := by
      have := (e_meanOfC H (w := 0) hp (by omega)).2
      simpa using this
    have hmean1 : gm (φ (1 - w)) := by
      have := (e_meanOfC H (w := 0) hq (by omega)).2
      simpa using this
    have hmean2 : gm (φ2 w) := by
      have := (e_meanOfC H2 (w := 0) hp (by omega)).2
      simpa using this
    have hr6 : φ 6 = 1048576000 := X.2.2.2.2.2
    obtain ⟨n1, n2, n3, _⟩ := lrn_gm (v := dw) hmean (show dw ≤ 2 ^ 24 by omega) (rate_ok H)
    rw [hr6] at n2 n3 gφ
    have hsub : nI 1 - nI w = nI (1 - w) := nI_sub (by omega)
    have hlr : (if nI 0 ≤ fcg (FP.fadd (φ w) (FP.fmul (FP.fsub (FP.i2f (nI dw)) (φ w)) 1048576000)) 1056964608 then FP.fadd (φ w) (FP.fmul (FP.fsub (FP.i2f (nI dw)) (φ w)) 1048576000) else 1056964608) = φ2 w := gφ.symm
    rw [if_neg (show ¬ nI w = nI 2 by rw [nI_eq (by omega) (by omega)]; exact hw2), st, cal_x, hsub, su, cal_x, n1, asr_x, bnd_x, n2, asr_x, bnd_x, n3, asr_x, bnd_x, ty4, cal_x, es, cal_x, jn_x, jn_x, if_pos rfl, st2, cal_x, jn_ite, hlr, if_pos (gm_self hmean2), su2, cal_x, gφ2, if_pos (gm_self hmean1)]
    dsimp only
    rw [if_neg n10, tz4, cal_x, g10, if_pos rfl, tz7, cal_x, x1, cal_x, g3, z1, if_pos rfl, j_settled H2 hd hw hw z3, cal_x, if_pos rfl]
end ST
