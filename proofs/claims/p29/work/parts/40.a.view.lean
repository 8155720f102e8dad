/-! PURE: the class beside any row; the reference's row put into a memory -/
def put (M : Mem) (s : Nat → Int32) (φ : Nat → UInt32) : Mem := wf (wa M 236 s) 240 φ
section PUT
variable {M : Mem} {s : Nat → Int32} {φ : Nat → UInt32} {i k : Nat} {x : Int32} {y : UInt32}
theorem put_s : (put M s φ).1 236 = s := by rw [put, wf_1, wa_self]
theorem put_f : (put M s φ).2 240 = φ := by rw [put, wf_self]
theorem put_1 (h : k ≠ 236) : (put M s φ).1 k = M.1 k := by rw [put, wf_1, wa_o h]
theorem put_2 (h : k ≠ 240) : (put M s φ).2 k = M.2 k := by rw [put, wf_o h, wa_2]
theorem put_w1 : w1 (put M s φ) 236 i x = put M (upd s i x) φ := by
  refine Prod.ext (funext fun b => ?_) rfl
  by_cases h : b = 236
  · subst h
    rw [w1_self, put_s, put_s]
  · rw [w1_o h, put_1 h, put_1 h]
theorem put_w2 : w2 (put M s φ) 240 i y = put M s (vf_upd φ i y) := by
  refine Prod.ext rfl (funext fun b => ?_)
  by_cases h : b = 240
  · subst h
    rw [w2_self, put_f, put_f]
  · rw [w2_o h, put_2 h, put_2 h]
theorem put_id : put M (M.1 236) (M.2 240) = M := by
  refine Prod.ext (funext fun b => ?_) (funext fun b => ?_)
  · by_cases h : b = 236
    · subst h
      rw [put_s]
    · rw [put_1 h]
  · by_cases h : b = 240
    · subst h
      rw [put_f]
    · rw [put_2 h]
theorem put_eq (h1 : M.1 236 = s) (h2 : M.2 240 = φ) : M = put M s φ := by
  subst h1 h2
  exact put_id.symm
end PUT
def CV (r c t e dt N : Nat) (M : Mem) (s : Nat → Int32) (φ : Nat → UInt32) : Prop := RSp r c t e dt N (vA M 1) (vB M 1) s φ
def tyG (p a b N : Nat) (M : Mem) (s : Nat → Int32) (φ : Nat → UInt32) : Prop := (M.2 a 0 = φ p ∧ M.2 a 1 = φ (2 + p) ∧ gm (φ p) ∧ gm (φ (2 + p))) ∧ oN (M.1 a 2) (s (3 + p)) (N + 1) ∧
  (∃ b, b < 2 ∧ M.1 a 3 = nI b ∧ s (7 + p) = nI b) ∧ M.1 a 4 = s (10 + p) ∧ M.1 a 5 = s (12 + p) ∧
  (∃ m, m ≤ N ∧ M.1 a 6 = nI m ∧ s (17 + p) = nI m) ∧ ∀ j, j < 24 → M.1 b j = s (544 + 24 * p + j)
section CVS
variable {r c t e dt N : Nat} {M : Mem} {s : Nat → Int32} {φ : Nat → UInt32}
theorem CV.hd (h : CV r c t e dt N M s φ) : 2 ≤ r ∧ r ≤ 6 ∧ 2 ≤ c ∧ c ≤ 8 := h.1.1
theorem CV.hr (h : CV r c t e dt N M s φ) : M.1 2 0 = nI r := h.1.2.1
theorem CV.hc (h : CV r c t e dt N M s φ) : M.1 2 1 = nI c := h.1.2.2.1
theorem CV.sr (h : CV r c t e dt N M s φ) : s 0 = nI r := h.1.2.2.2.1
theorem CV.sc (h : CV r c t e dt N M s φ) : s 1 = nI c := h.1.2.2.2.2
theorem CV.m48 (h : CV r c t e dt N M s φ) : r * c ≤ 48 := (mul48 h.hd).1
theorem CV.m0 (h : CV r c t e dt N M s φ) : 0 < r * c := (mul48 h.hd).2
theorem CV.m31 (h : CV r c t e dt N M s φ) : r * c < 2 ^ 31 := by have := h.m48; omega
theorem CV.shift (h : CV r c t e dt N M s φ) {p : Nat} (hp : p < 2) : oN (M.1 11 p) (s (5 + p)) (r * c) := h.2.1 p hp
theorem CV.hold (h : CV r c t e dt N M s φ) {k : Nat} (hk : k < r * c) : oN (M.1 3 k) (s (20 + k)) 2 := h.2.2.1.1 k hk
theorem CV.hold48 (h : CV r c t e dt N M s φ) {k : Nat} (hk : r * c ≤ k) (hk2 : k < 48) : M.1 3 k = nm 1 := h.2.2.1.2.1 k hk hk2
theorem CV.held5 (h : CV r c t e dt N M s φ) {p : Nat} (hp : p < 2) : cnt (r * c) (fun k => decide (s (20 + k) = nI p)) ≤ 5 := h.2.2.1.2.2 p hp
theorem CV.bits (h : CV r c t e dt N M s φ) {k : Nat} (hk : k < r * c) : bt (M.1 8 (k / c)) (k % c) = !decide (s (20 + k) < nI 0) ∧ bt (M.1 9 (k / c)) (k % c) = !decide (s (68 + k) < nI 0) ∧ bt (M.1 10 (k / c)) (k % c) = decide (s (116 + k) = nI 1) := bits_at h.hd h.2.2.2.1 hk
theorem CV.bitid (h : CV r c t e dt N M s φ) {i d : Nat} (hi : i < r) (hd : d < c) : bt (M.1 8 i) d = !decide (s (20 + (i * c + d)) < nI 0) ∧ bt (M.1 9 i) d = !decide (s (68 + (i * c + d)) < nI 0) ∧ bt (M.1 10 i) d = decide (s (116 + (i * c + d)) = nI 1) := h.2.2.2.1.1 i (by have := h.hd; omega) d ⟨hi, hd⟩
theorem CV.bit0 (h : CV r c t e dt N M s φ) {i d : Nat} (hi : i < 6) (hd : ¬ (i < r ∧ d < c)) : bt (M.1 8 i) d = false ∧ bt (M.1 9 i) d = false ∧ bt (M.1 10 i) d = false := h.2.2.2.1.2 i hi d hd
theorem CV.key (h : CV r c t e dt N M s φ) {k : Nat} (hk : k < r * c) : (s (68 + k) = nm 5 ∧ s (116 + k) = nI 0) ∨
  ((∃ u, u ≤ t ∧ s (68 + k) = nI u ∧ M.1 5 k = nI u) ∧ (s (116 + k) = nI 0 ∨ s (116 + k) = nI 1) ∧ (∃ q, q < 4 ∧ s (164 + k) = nI q ∧ M.1 6 k = nI q) ∧ oN (M.1 7 k) (s (212 + k)) 2) := h.2.2.2.2.1 k hk
theorem CV.sign (h : CV r c t e dt N M s φ) {k : Nat} (hk : k < r * c) : M.1 4 k = s (260 + k) := h.2.2.2.2.2.1 k hk
theorem CV.ty0 (h : CV r c t e dt N M s φ) : tyG 0 12 13 N M s φ := h.2.2.2.2.2.2.1
theorem CV.ty1 (h : CV r c t e dt N M s φ) : tyG 1 14 15 N M s φ := h.2.2.2.2.2.2.2.1
theorem CV.eN (h : CV r c t e dt N M s φ) : e ≤ N := h.2.2.2.2.2.2.2.2.1.1
theorem CV.e1 (h : CV r c t e dt N M s φ) : M.1 16 0 = nI e := h.2.2.2.2.2.2.2.2.1.2.1
theorem CV.e2 (h : CV r c t e dt N M s φ) : s 9 = nI e := h.2.2.2.2.2.2.2.2.1.2.2.1
theorem CV.en (h : CV r c t e dt N M s φ) {i : Nat} (hi : i < e) (hi2 : e ≤ i + 16) : M.1 17 (i % 20) = s (308 + 6 * (i % 16)) ∧ M.1 18 (i % 20) = s (308 + 6 * (i % 16) + 1) ∧ M.1 19 (i % 20) = s (308 + 6 * (i % 16) + 2) ∧ M.1 20 (i % 20) = s (308 + 6 * (i % 16) + 3) ∧ oN (M.1 21 (i % 20)) (s (308 + 6 * (i % 16) + 4)) 2 ∧ M.1 22 (i % 20) = s (308 + 6 * (i % 16) + 5) := h.2.2.2.2.2.2.2.2.1.2.2.2 i hi hi2
theorem CV.d20 (h : CV r c t e dt N M s φ) : dt ≤ 20 := h.2.2.2.2.2.2.2.2.2.1.1
theorem CV.d1 (h : CV r c t e dt N M s φ) : M.1 24 0 = nI dt := h.2.2.2.2.2.2.2.2.2.1.2.1
theorem CV.d2 (h : CV r c t e dt N M s φ) : s 16 = nI dt := h.2.2.2.2.2.2.2.2.2.1.2.2.1
theorem CV.dis (h : CV r c t e dt N M s φ) {d : Nat} (hd : d < dt) : (∃ k, k < 48 ∧ M.1 25 d = nI k ∧ s (404 + 7 * d) = nI k) ∧ (∃ u, u ≤ N ∧ M.1 26 d = nI u ∧ s (404 + 7 * d + 1) = nI u) ∧ (∃ u, u ≤ N ∧ M.1 27 d = nI u ∧ s (404 + 7 * d + 2) = nI u) ∧
    ((M.1 28 d = nI 3 ∧ s (404 + 7 * d + 3) = nm 5) ∨ ∃ w, w < 3 ∧ M.1 28 d = nI w ∧ s (404 + 7 * d + 3) = nI w) ∧ oN (M.1 29 d) (s (404 + 7 * d + 4)) 2 ∧ (∃ q, q < 4 ∧ M.1 30 d = nI q ∧ s (404 + 7 * d + 5) = nI q) ∧ (∃ o, o < e ∧ M.1 31 d = nI o ∧ s (404 + 7 * d + 6) = nI o) := h.2.2.2.2.2.2.2.2.2.1.2.2.2.1 d hd
theorem CV.opn (h : CV r c t e dt N M s φ) : M.1 1 9 = nI (cnt dt (fun d => decide (s (404 + 7 * d + 3) < nI 0))) := h.2.2.2.2.2.2.2.2.2.1.2.2.2.2
theorem CV.set0 (h : CV r c t e dt N M s φ) : (∃ b, b < 1073741825 ∧ M.1 33 0 = nI b ∧ φ 4 = (nI b).toUInt32) ∧ M.2 32 1 = φ 4 := h.2.2.2.2.2.2.2.2.2.2.1 0 (by omega)
theorem CV.set1 (h : CV r c t e dt N M s φ) : (∃ b, b < 1082130433 ∧ M.1 33 1 = nI b ∧ φ 5 = (nI b).toUInt32) ∧ M.2 32 2 = φ 5 := h.2.2.2.2.2.2.2.2.2.2.1 1 (by omega)
theorem CV.set2 (h : CV r c t e dt N M s φ) : (∃ b, b < 1065353217 ∧ M.1 33 2 = nI b ∧ φ 6 = (nI b).toUInt32) ∧ M.2 32 3 = φ 6 := h.2.2.2.2.2.2.2.2.2.2.1 2 (by omega)
theorem CV.tN (h : CV r c t e dt N M s φ) : t ≤ N := h.2.2.2.2.2.2.2.2.2.2.2.1
theorem CV.t1 (h : CV r c t e dt N M s φ) : M.1 1 6 = nI t := h.2.2.2.2.2.2.2.2.2.2.2.2.1
theorem CV.t2 (h : CV r c t e dt N M s φ) : s 2 = nI t := h.2.2.2.2.2.2.2.2.2.2.2.2.2.1
theorem CV.gh (h : CV r c t e dt N M s φ) : M.1 1 7 = s 14 := h.2.2.2.2.2.2.2.2.2.2.2.2.2.2.1
theorem CV.gb (h : CV r c t e dt N M s φ) : M.1 1 8 = s 15 := h.2.2.2.2.2.2.2.2.2.2.2.2.2.2.2
end CVS
theorem CV.ty {r c t e dt N p : Nat} {M : Mem} {s : Nat → Int32} {φ : Nat → UInt32} (H : CV r c t e dt N M s φ) (hp : p < 2) : tyG p (12 + 2 * p) (13 + 2 * p) N M s φ ∧ kdb (12 + 2 * p) 6 = true ∧ ln (13 + 2 * p) = 24 := by
  rcases (show p = 0 ∨ p = 1 by omega) with rfl | rfl
  · exact ⟨H.ty0, kdb6.1, rfl⟩
  · exact ⟨H.ty1, kdb6.2, rfl⟩
theorem e_fateC {r c t e dt N k : Nat} {M : Mem} {s : Nat → Int32} {φ : Nat → UInt32} (H : CV r c t e dt N M s φ) (hN : N < 2 ^ 30) (hk : k < r * c) (hs : ¬ s (68 + k) < nI 0) : fX5_fateNow 1 (nI k) M = some (jS (s) (φ) k t dt, M) := by
  have hd := H.hd
  have m48 := H.m48
  have hkr := divr hk
  have tN := H.tN
  have d20 := H.d20
  obtain ⟨b7, b8, b9⟩ := H.bits hk
  obtain ⟨s1, s2, s3⟩ := e_isBit H.hc (by omega) (by omega) (show k / c < 6 by omega) (show k < 2 ^ 31 by omega)
  obtain ⟨⟨u, hu, g1, g2⟩, _, _, _⟩ : (∃ u, u ≤ t ∧ s (68 + k) = nI u ∧ M.1 5 k = nI u) ∧ _ ∧ _ ∧ _ := by
    rcases H.key hk with ⟨g, _⟩ | g
    · rw [g] at hs
      exact absurd (nm_lt0 (by decide) (by decide)) hs
    · exact g
  have e0 := oN_eq (H.shift (p := 0) (by omega)) (show k < 2 ^ 31 by omega)
  have e1 := oN_eq (H.shift (p := 1) (by omega)) (show k < 2 ^ 31 by omega)
  obtain ⟨⟨v1, v2, v3, v4⟩, v5, _⟩ := H.ty0
  obtain ⟨⟨w1, w2, w3, w4⟩, w5, _⟩ := H.ty1
  have x0 := e_dist (s := s) (φ := φ) (p := 0) (a := 12) (since := u) (dwell := nI (t - u)) (M := M) v1 v2 v3 v4 v5 (by omega) (by omega)
  have x1 := e_dist (s := s) (φ := φ) (p := 1) (a := 14) (since := u) (dwell := nI (t - u)) (M := M) w1 w2 w3 w4 w5 (by omega) (by omega)
  have K0 := offS_K (s := s) (since := u) (dwell := nI (t - u)) v3 v4
  have K1 := offS_K (s := s) (since := u) (dwell := nI (t - u)) w3 w4
  have K2 := FP.Core.fsub_mag K0 K1 (by decide)
  unfold fX5_fateNow jS
  simp (disch := first | omega | (simp only [ln_3, ln_4, ln_5, ln_6, ln_7, ln_8, ln_9, ln_10, ln_11, ln_13, ln_15, ln_17, ln_18, ln_19, ln_20, ln_21, ln_22, ln_23, ln_25, ln_26, ln_27, ln_28, ln_29, ln_30, ln_31, ln_33, ln_234]; omega)) only [Nat.reduceAdd, s3, b9, cal_e, e_shiftOwner, Nat.add_zero] at e0 e1 ⊢
  by_cases h1 : s 5 = nI k
  · have h1' : M.1 11 0 = nI k := by rw [e0]; exact h1
    simp (disch := first | omega | (simp only [ln_3, ln_4, ln_5, ln_6, ln_7, ln_8, ln_9, ln_10, ln_11, ln_13, ln_15, ln_17, ln_18, ln_19, ln_20, ln_21, ln_22, ln_23, ln_25, ln_26, ln_27, ln_28, ln_29, ln_30, ln_31, ln_33, ln_234]; omega)) only [h1, h1', if_true, nlit, nm_def, nI_nm, if_false, b2_if, e0]
    by_cases q : s (116 + k) = nI 1
    · simp [q]
    · simp [q]
  have h1' : ¬ M.1 11 0 = nI k := by rw [e0]; exact h1
  by_cases h2 : s 6 = nI k
  · have h2' : M.1 11 1 = nI k := by rw [e1]; exact h2
    simp (disch := first | omega | (simp only [ln_3, ln_4, ln_5, ln_6, ln_7, ln_8, ln_9, ln_10, ln_11, ln_13, ln_15, ln_17, ln_18, ln_19, ln_20, ln_21, ln_22, ln_23, ln_25, ln_26, ln_27, ln_28, ln_29, ln_30, ln_31, ln_33, ln_234]; omega)) only [h1, h1', h2, h2', if_true, nlit, nm_def, nI_nm, if_false, b2_if]
    by_cases q : s (116 + k) = nI 1
    · simp [q]
    · simp [q]
  have h2' : ¬ M.1 11 1 = nI k := by rw [e1]; exact h2
  simp (disch := first | omega | (simp only [ln_3, ln_4, ln_5, ln_6, ln_7, ln_8, ln_9, ln_10, ln_11, ln_13, ln_15, ln_17, ln_18, ln_19, ln_20, ln_21, ln_22, ln_23, ln_25, ln_26, ln_27, ln_28, ln_29, ln_30, ln_31, ln_33, ln_234]; omega)) only [h1, h1', h2, h2', if_true, nlit, nm_def, if_false, b2_if, (e_leaf (M := M) (show k < 48 by omega)).2.2.1, cal_e, g1, g2, H.t1, nI_sub, x0, x1, jn_e, nI_clamp, e_uns, bnd_e, H.set0.2, H.set1.2, H.d1]
  generalize offS (s) (φ) 0 u (nI (t - u)) = z at *
  generalize offS (s) (φ) 1 u (nI (t - u)) = o at *
  have kn : nnb (FP.fsub z o) = true := nnb_K K2 (by decide)
  have e20 : (nI 20 ≤ nI dt) = (dt = 20) := by
    rw [nI_leI (by decide) (by omega)]
    exact propext ⟨fun h => by omega, fun h => by omega⟩
  unfold jvv nearF
  simp only [kn, asr_e, e20]
  by_cases q0 : nI 0 ≤ fcg o z <;> by_cases q1 : s (116 + k) = nI 1 <;> by_cases q2 : nI 0 ≤ fcg (szf (FP.fsub z o)) (φ 4) <;> by_cases q3 : dt = 20 <;> by_cases q4 : nI 0 < fcg z (φ 5) <;> by_cases q5 : nI 0 < fcg o (φ 5) <;> simp only [q0, q1, q2, q3, q4, q5, n10, if_true, if_false, decide_true, decide_false, Bool.true_eq_false, Bool.false_eq_true]
