/-! PURE: the law looks at the typists -/
section TY
variable {r c t e dt N T : Nat} {M : Mem} {s s2 : Nat → Int32} {φ : Nat → UInt32}
theorem gm_half {x : UInt32} (h : gm x) : ¬ fcl x 1056964608 < nI 0 := by
  have h1 : x.toNat ≤ 2139095040 := by have := h.2; omega
  rw [(fcl_nn (y := 1056964608) h1 (by decide)).2.1]
  have h2 : (1056964608 : UInt32).toNat = 126 * 2 ^ 23 := rfl
  rw [h2]
  have := h.1
  omega
theorem gm_self {x : UInt32} (h : gm x) : fcl x x = nI 0 := by
  have h1 : x.toNat ≤ 2139095040 := by have := h.2; omega
  exact (fcl_nn (x := x) (y := x) h1 h1).1.mpr rfl
theorem l_typed (H : CV r c t e dt N M s φ) (hN : N < 2 ^ 30) {p m : Nat} (hp : p < 2) (hm : s (17 + p) = nI m) (hmN : m ≤ N) (hl : ∀ j, j < 24 → j < m → lett (s (544 + 24 * p + j))) {x1 x2 : Int32} {k1 k2 : Unit → Mem → Option (Int32 × Mem)} {Q : Int32 → Mem → Prop} (kk : wp (k1 () M) Q) :
    wp (lp (FL_typists_207 0 x1 x2 (nI p) (nI m) k1 k2) 1000000 (nI 0) M) Q := by
  refine lp_for 26 (fun i b M1 => b = nI i ∧ M1 = M) (by omega) ⟨rfl, rfl⟩ ?_ ?_
  · rintro j b M1 rec hj ⟨rfl, rfl⟩ k
    have ht := a_typed H hN (j := j) hp hm hmN (by omega)
    unfold FL_typists_207
    simp only [nlit', nm_x]
    rw [if_neg (show ¬ nI 26 ≤ nI j by rw [nI_leI (by omega) (by omega)]; omega), ht, cal_x, nI_add]
    have done : wp (rec (nI (j + 1)) M1) Q := k _ _ ⟨rfl, rfl⟩
    by_cases h1 : j < m ∧ j < 24
    · rw [if_pos h1]
      have hlt : (m - 1 - j) % 24 < m := by
        by_cases h2 : m - 1 - j < 24
        · rw [Nat.mod_eq_of_lt h2]
          omega
        · have := Nat.mod_lt (m - 1 - j) (show 0 < 24 by decide)
          omega
      obtain ⟨v, ev, hv⟩ := hl ((m - 1 - j) % 24) (Nat.mod_lt _ (by decide)) hlt
      rw [ev, jn_x, jn_x, jn_x]
      have n1 : ¬ nI m ≤ nI j := by rw [nI_leI (by omega) (by omega)]; omega
      have n2 : ¬ nI 24 ≤ nI j := by rw [nI_leI (by omega) (by omega)]; omega
      rcases hv with hv | hv
      · rw [if_neg (show ¬ nI v < nI 97 by rw [nI_ltI (by omega) (by omega)]; omega), if_pos (show nI v ≤ nI 122 by rw [nI_leI (by omega) (by omega)]; omega)]
        dsimp only
        rw [jn_x, jn_x, if_neg n1, if_neg n2, if_neg n10]
        exact done
      · rw [if_pos (show nI v < nI 97 by rw [nI_ltI (by omega) (by omega)]; omega)]
        dsimp only
        rw [jn_x, if_neg (show ¬ nI v < nI 65 by rw [nI_ltI (by omega) (by omega)]; omega), if_neg (show ¬ nI 90 < nI v by rw [nI_ltI (by omega) (by omega)]; omega)]
        rw [jn_x, jn_x, if_neg n1, if_neg n2, if_neg n10]
        exact done
    · rw [if_neg h1, jn_x, jn_x, jn_x, if_pos (show nm 5 < nI 97 by decide)]
      dsimp only
      rw [jn_x, if_pos (show nm 5 < nI 65 by decide)]
      dsimp only
      rw [jn_x, jn_x]
      by_cases h2 : m ≤ j
      · rw [if_pos (nI_le h2 (by omega))]
        dsimp only
        rw [if_pos rfl]
        exact done
      · rw [if_neg (show ¬ nI m ≤ nI j by rw [nI_leI (by omega) (by omega)]; omega), if_pos (nI_le (show 24 ≤ j by omega) (by omega))]
        dsimp only
        rw [if_pos rfl]
        exact done
  · rintro b M1 rec ⟨rfl, rfl⟩
    unfold FL_typists_207
    simp only [nlit']
    rw [if_pos (nI_le (Nat.le_refl _) (by omega))]
    exact kk
theorem a_typists (H : CV r c t e dt N M s φ) (hN : N < 2 ^ 24) (X : EX (r * c) e dt T s φ) : fL_typists 0 M = some (nI 1, M) := by
  have hN30 : N < 2 ^ 30 := by omega
  have m48 := H.m48
  have eN := H.eN
  obtain ⟨_, ⟨m, ⟨c0, r0, g0, c1, r1, g1, g, gb, t0, t1, _, _, _, hm⟩, he⟩, _⟩ := X
  obtain ⟨_, _, _, _, _, _, _, cc7, _, _, _, cc11, _⟩ := a_count H hN30
  rw [t0.1, t1.1, nI_add] at cc7
  rw [t0.2.1, t1.2.1, nI_add] at cc11
  have hT : ∀ p, p < 2 → XT p (if p = 0 then c0 else c1) (if p = 0 then r0 else r1) (if p = 0 then g0 else g1) s := fun p hp => by
    rcases (show p = 0 ∨ p = 1 by omega) with rfl | rfl
    · exact t0
    · exact t1
  unfold fL_typists
  simp only [nlit']
  refine wp_eq (lp_for 2 (fun p b M1 => M1 = M ∧ b = (nI (sm p (fun p => if p = 0 then c0 else c1)), nI (sm p (fun p => if p = 0 then r0 else r1)), nI p)) (by omega) ⟨rfl, rfl⟩ ?_ ?_)
  · rintro p b M1 rec hp ⟨rfl, rfl⟩ kk
    obtain ⟨_, y1, y2, y4, y5, y6, _, y8⟩ := a_typ H hN30 hp
    obtain ⟨x1, x2, x3, x4, x5, x6⟩ := hT p hp
    obtain ⟨a1, a2, a3⟩ := a_style H (w := 0) hp (by omega)
    obtain ⟨b1, b2', b3⟩ := a_style H (w := 1) hp (by omega)
    have gm0 := (e_meanOfC H (w := 0) hp (by omega)).2
    have gm1 := (e_meanOfC H (w := 1) hp (by omega)).2
    generalize hcr : (if p = 0 then c0 else c1) = cr at *
    generalize hri : (if p = 0 then r0 else r1) = ri at *
    generalize hsg : (if p = 0 then g0 else g1) = sg at *
    have hcrN : cr ≤ N := by rw [← hcr]; split <;> omega
    rw [x1] at y4
    rw [x2] at y5
    rw [x3] at y6
    have hon : ∀ (K : Int32 → Mem → Option (Int32 × Mem)), jn K (fun j4 => jn (fun (_ : Unit) M71 => j4 (nI 0) M71) (fun j70 => if s (5 + p) < nI 0 then j70 () M1 else cal (fX8_key 0 (s (5 + p)) (nI 1) M1) (fun v72 M73 => if v72 = nI 1 then cal (fX8_key 0 (s (5 + p)) (nI 3) M73) (fun v74 M75 => if v74 = nI 0 then j4 (nI 1) M75 else j70 () M75) else j70 () M73))) = K (b2 (onv s p)) M1 := fun K => by
      rw [jn_x, jn_x]
      unfold onv
      rcases H.shift hp with ⟨_, q⟩ | ⟨k, hk, _, q⟩
      · rw [q, if_pos (nm_lt0 (by decide) (by decide)), decide_eq_true (nm_lt0 (by decide) (by decide))]
        rfl
      · obtain ⟨_, k1, _, k3, _⟩ := a_key H hN30 hk
        rw [q, if_neg (nI_nlt0 (by omega)), decide_eq_false (nI_nlt0 (by omega)), nI_clamp (by omega), k1, cal_x]
        by_cases h1 : s (68 + k) < nI 0
        · rw [decide_eq_true h1, if_neg (show ¬ b2 (!true) = nI 1 by decide)]
          rfl
        · rw [decide_eq_false h1, if_pos (show b2 (!false) = nI 1 from rfl), k3, cal_x]
          rcases h01_s H hk with h2 | h2
          · rw [h2, decide_eq_false (show ¬ nI 0 = nI 1 by decide), if_pos (show b2 false = nI 0 from rfl), decide_eq_true rfl]
            rfl
          · rw [h2, decide_eq_true rfl, if_neg (show ¬ b2 true = nI 0 from n10), decide_eq_false (show ¬ nI 1 = nI 0 from n10)]
            rfl
    unfold FL_typists_6
    simp only [nlit', nm_x]
    rw [if_neg (show ¬ nI 2 ≤ nI p by rw [nI_leI (by omega) (by omega)]; omega), y1, cal_x, hon, y6, cal_x, y4, cal_x, y5, cal_x, a1, cal_x, jn_x, jn_x, if_neg (gm_half gm0), b1, cal_x, if_neg (gm_half gm1), a3, cal_x, a1, cal_x, a2, asr_x, bnd_x, if_pos rfl, b3, cal_x, b1, cal_x, b2', asr_x, bnd_x, if_pos rfl]
    dsimp only
    rw [y2, cal_x, if_pos rfl, y4, cal_x, if_neg (show ¬ nI cr < nI sg by rw [nI_ltI (by omega) (by omega)]; omega), y5, cal_x, y4, cal_x, if_neg (show ¬ nI cr < nI ri by rw [nI_ltI (by omega) (by omega)]; omega), if_neg n10, y8, cal_x, if_pos rfl]
    refine l_typed H hN30 hp x3 (by omega) x6 ?_
    rw [nI_add, nI_add, nI_add]
    refine kk _ _ ⟨rfl, ?_⟩
    rw [sm_succ, sm_succ, hcr, hri]
  · rintro b M1 rec ⟨rfl, rfl⟩
    unfold FL_typists_6
    simp only [nlit']
    rw [if_pos (nI_le (Nat.le_refl _) (by omega)), cc7, cal_x]
    have e1 : sm 2 (fun p => if p = 0 then c0 else c1) = c0 + c1 := by simp [sm]
    have e2 : sm 2 (fun p => if p = 0 then r0 else r1) = r0 + r1 := by simp [sm]
    rw [e1, if_pos rfl, cc11, cal_x, e2, if_pos rfl, wp_some]
    exact ⟨rfl, rfl⟩
end TY
