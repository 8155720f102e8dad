/-! PURE: one typist's part of a State changes; what is counted -/
theorem le0 {x : Int32} : (nI 0 ≤ x) = ¬ (x < nI 0) := by
  rw [Int32.le_iff_toInt_le, Int32.lt_iff_toInt_lt]
  exact propext Int.not_lt.symm
theorem jn_ite {α β : Type} {c : Prop} [Decidable c] {K : α → Mem → Option (β × Mem)} {a b : α} {M : Mem} : jn K (fun j => if c then j a M else j b M) = K (if c then a else b) M := by
  unfold jn
  split <;> rfl
theorem RSp_mono {r c t e dt N N2 : Nat} {A : Nat → Nat → Int32} {B : Nat → Nat → UInt32} {s : Nat → Int32} {φ : Nat → UInt32} (h : RSp r c t e dt N A B s φ) (hN : N ≤ N2) : RSp r c t e dt N2 A B s φ := by
  obtain ⟨h1, h2, h3, h4, h5, h6, h7, h8, h9, h10, h11, h12⟩ := h
  have ty : ∀ p, rTyp p N A B s φ → rTyp p N2 A B s φ := fun p h => ⟨h.1, oN_mono h.2.1 (by omega), h.2.2.1, h.2.2.2.1, h.2.2.2.2.1, (by obtain ⟨m, hm, q⟩ := h.2.2.2.2.2.1; exact ⟨m, by omega, q⟩), h.2.2.2.2.2.2⟩
  refine ⟨h1, h2, h3, h4, h5, h6, ty 0 h7, ty 1 h8, ⟨by have := h9.1; omega, h9.2⟩, ⟨h10.1, h10.2.1, h10.2.2.1, fun d hd => ?_, h10.2.2.2.2⟩, h11, ⟨by have := h12.1; omega, h12.2⟩⟩
  obtain ⟨q1, ⟨u, hu, q2⟩, ⟨v, hv, q3⟩, q4⟩ := h10.2.2.2.1 d hd
  exact ⟨q1, ⟨u, by omega, q2⟩, ⟨v, by omega, q3⟩, q4⟩
theorem CV.mono {r c t e dt N N2 : Nat} {M : Mem} {s : Nat → Int32} {φ : Nat → UInt32} (h : CV r c t e dt N M s φ) (hN : N ≤ N2) : CV r c t e dt N2 M s φ := RSp_mono h hN
theorem RS_ty0 {A A2 : Nat → Nat → Int32} {B B2 : Nat → Nat → UInt32} {s s2 : Nat → Int32} {φ φ2 : Nat → UInt32} {r c t e dt N : Nat} (H : RSp r c t e dt N A B s φ)
    (eA : ∀ k, k < 33 → (k == 11 || k == 12) = false → A2 k = A k) (eB : ∀ k, k < 33 → (k == 11) = false → B2 k = B k)
    (eS : ∀ i, i ≠ 3 → i ≠ 10 → i ≠ 12 → i ≠ 17 → (i < 544 ∨ 568 ≤ i) → s2 i = s i) (eF : ∀ i, (i == 0 || i == 2) = false → φ2 i = φ i) (hT : rTyp 0 N A2 B2 s2 φ2) : RSp r c t e dt N A2 B2 s2 φ2 := by
  have hd := H.1.1
  obtain ⟨m48, m0⟩ := mul48 hd
  exact ⟨rDim_c H.1 (congrFun (eA 1 (by decide) rfl) 0) (congrFun (eA 1 (by decide) rfl) 1) (eS 0 (by omega) (by omega) (by omega) (by omega) (by omega)) (eS 1 (by omega) (by omega) (by omega) (by omega) (by omega)), rShift_c H.2.1 (fun p hp => congrFun (eA 10 (by decide) rfl) p) (fun p hp => eS _ (by omega) (by omega) (by omega) (by omega) (by omega)), rHold_c H.2.2.1 (fun k hk => congrFun (eA 2 (by decide) rfl) k) (fun k hk => eS _ (by omega) (by omega) (by omega) (by omega) (by omega)) m48, rBits_c H.2.2.2.1 (fun i hi => ⟨congrFun (eA 7 (by decide) rfl) i, congrFun (eA 8 (by decide) rfl) i, congrFun (eA 9 (by decide) rfl) i⟩) (fun k hk => ⟨eS _ (by omega) (by omega) (by omega) (by omega) (by omega), eS _ (by omega) (by omega) (by omega) (by omega) (by omega), eS _ (by omega) (by omega) (by omega) (by omega) (by omega)⟩), rKey_c H.2.2.2.2.1 (fun k hk => ⟨congrFun (eA 4 (by decide) rfl) k, congrFun (eA 5 (by decide) rfl) k, congrFun (eA 6 (by decide) rfl) k⟩) (fun k hk => ⟨eS _ (by omega) (by omega) (by omega) (by omega) (by omega), eS _ (by omega) (by omega) (by omega) (by omega) (by omega), eS _ (by omega) (by omega) (by omega) (by omega) (by omega), eS _ (by omega) (by omega) (by omega) (by omega) (by omega)⟩), rSign_c H.2.2.2.2.2.1 (fun k hk => congrFun (eA 3 (by decide) rfl) k) (fun k hk => eS _ (by omega) (by omega) (by omega) (by omega) (by omega)), hT, rTyp_c H.2.2.2.2.2.2.2.1 (fun j _ _ => congrFun (eA 13 (by decide) rfl) j) (fun j _ => congrFun (eA 14 (by decide) rfl) j) (fun j _ => congrFun (eB 13 (by decide) rfl) j) ⟨eS _ (by omega) (by omega) (by omega) (by omega) (by omega), eS _ (by omega) (by omega) (by omega) (by omega) (by omega), eS _ (by omega) (by omega) (by omega) (by omega) (by omega), eS _ (by omega) (by omega) (by omega) (by omega) (by omega), eS _ (by omega) (by omega) (by omega) (by omega) (by omega)⟩ (fun j hj => eS _ (by omega) (by omega) (by omega) (by omega) (by omega)) ⟨eF 1 rfl, eF 3 rfl⟩, rEnd_c H.2.2.2.2.2.2.2.2.1 (congrFun (eA 15 (by decide) rfl) 0) (fun j hj => ⟨congrFun (eA 16 (by decide) rfl) j, congrFun (eA 17 (by decide) rfl) j, congrFun (eA 18 (by decide) rfl) j, congrFun (eA 19 (by decide) rfl) j, congrFun (eA 20 (by decide) rfl) j, congrFun (eA 21 (by decide) rfl) j⟩) (eS 9 (by omega) (by omega) (by omega) (by omega) (by omega)) (fun j _ _ => eS _ (by omega) (by omega) (by omega) (by omega) (by omega)), rDis_c H.2.2.2.2.2.2.2.2.2.1 (congrFun (eA 23 (by decide) rfl) 0) (congrFun (eA 0 (by decide) rfl) 9) (fun j hj => ⟨congrFun (eA 24 (by decide) rfl) j, congrFun (eA 25 (by decide) rfl) j, congrFun (eA 26 (by decide) rfl) j, congrFun (eA 27 (by decide) rfl) j, congrFun (eA 28 (by decide) rfl) j, congrFun (eA 29 (by decide) rfl) j, congrFun (eA 30 (by decide) rfl) j⟩) (eS 16 (by omega) (by omega) (by omega) (by omega) (by omega)) (fun j _ _ => eS _ (by omega) (by omega) (by omega) (by omega) (by omega)), rSet_c H.2.2.2.2.2.2.2.2.2.2.1 (fun j hj => ⟨congrFun (eA 32 (by decide) rfl) j, congrFun (eB 31 (by decide) rfl) _⟩) (fun j hj => eF _ (by rcases (show j = 0 ∨ j = 1 ∨ j = 2 by omega) with rfl | rfl | rfl <;> rfl)), rCnt_c H.2.2.2.2.2.2.2.2.2.2.2 ⟨congrFun (eA 0 (by decide) rfl) 6, congrFun (eA 0 (by decide) rfl) 7, congrFun (eA 0 (by decide) rfl) 8⟩ ⟨eS 2 (by omega) (by omega) (by omega) (by omega) (by omega), eS 14 (by omega) (by omega) (by omega) (by omega) (by omega), eS 15 (by omega) (by omega) (by omega) (by omega) (by omega)⟩⟩
theorem RS_ty1 {A A2 : Nat → Nat → Int32} {B B2 : Nat → Nat → UInt32} {s s2 : Nat → Int32} {φ φ2 : Nat → UInt32} {r c t e dt N : Nat} (H : RSp r c t e dt N A B s φ)
    (eA : ∀ k, k < 33 → (k == 13 || k == 14) = false → A2 k = A k) (eB : ∀ k, k < 33 → (k == 13) = false → B2 k = B k)
    (eS : ∀ i, i ≠ 4 → i ≠ 11 → i ≠ 13 → i ≠ 18 → (i < 568 ∨ 592 ≤ i) → s2 i = s i) (eF : ∀ i, (i == 1 || i == 3) = false → φ2 i = φ i) (hT : rTyp 1 N A2 B2 s2 φ2) : RSp r c t e dt N A2 B2 s2 φ2 := by
  have hd := H.1.1
  obtain ⟨m48, m0⟩ := mul48 hd
  exact ⟨rDim_c H.1 (congrFun (eA 1 (by decide) rfl) 0) (congrFun (eA 1 (by decide) rfl) 1) (eS 0 (by omega) (by omega) (by omega) (by omega) (by omega)) (eS 1 (by omega) (by omega) (by omega) (by omega) (by omega)), rShift_c H.2.1 (fun p hp => congrFun (eA 10 (by decide) rfl) p) (fun p hp => eS _ (by omega) (by omega) (by omega) (by omega) (by omega)), rHold_c H.2.2.1 (fun k hk => congrFun (eA 2 (by decide) rfl) k) (fun k hk => eS _ (by omega) (by omega) (by omega) (by omega) (by omega)) m48, rBits_c H.2.2.2.1 (fun i hi => ⟨congrFun (eA 7 (by decide) rfl) i, congrFun (eA 8 (by decide) rfl) i, congrFun (eA 9 (by decide) rfl) i⟩) (fun k hk => ⟨eS _ (by omega) (by omega) (by omega) (by omega) (by omega), eS _ (by omega) (by omega) (by omega) (by omega) (by omega), eS _ (by omega) (by omega) (by omega) (by omega) (by omega)⟩), rKey_c H.2.2.2.2.1 (fun k hk => ⟨congrFun (eA 4 (by decide) rfl) k, congrFun (eA 5 (by decide) rfl) k, congrFun (eA 6 (by decide) rfl) k⟩) (fun k hk => ⟨eS _ (by omega) (by omega) (by omega) (by omega) (by omega), eS _ (by omega) (by omega) (by omega) (by omega) (by omega), eS _ (by omega) (by omega) (by omega) (by omega) (by omega), eS _ (by omega) (by omega) (by omega) (by omega) (by omega)⟩), rSign_c H.2.2.2.2.2.1 (fun k hk => congrFun (eA 3 (by decide) rfl) k) (fun k hk => eS _ (by omega) (by omega) (by omega) (by omega) (by omega)), rTyp_c H.2.2.2.2.2.2.1 (fun j _ _ => congrFun (eA 11 (by decide) rfl) j) (fun j _ => congrFun (eA 12 (by decide) rfl) j) (fun j _ => congrFun (eB 11 (by decide) rfl) j) ⟨eS _ (by omega) (by omega) (by omega) (by omega) (by omega), eS _ (by omega) (by omega) (by omega) (by omega) (by omega), eS _ (by omega) (by omega) (by omega) (by omega) (by omega), eS _ (by omega) (by omega) (by omega) (by omega) (by omega), eS _ (by omega) (by omega) (by omega) (by omega) (by omega)⟩ (fun j hj => eS _ (by omega) (by omega) (by omega) (by omega) (by omega)) ⟨eF 0 rfl, eF 2 rfl⟩, hT, rEnd_c H.2.2.2.2.2.2.2.2.1 (congrFun (eA 15 (by decide) rfl) 0) (fun j hj => ⟨congrFun (eA 16 (by decide) rfl) j, congrFun (eA 17 (by decide) rfl) j, congrFun (eA 18 (by decide) rfl) j, congrFun (eA 19 (by decide) rfl) j, congrFun (eA 20 (by decide) rfl) j, congrFun (eA 21 (by decide) rfl) j⟩) (eS 9 (by omega) (by omega) (by omega) (by omega) (by omega)) (fun j _ _ => eS _ (by omega) (by omega) (by omega) (by omega) (by omega)), rDis_c H.2.2.2.2.2.2.2.2.2.1 (congrFun (eA 23 (by decide) rfl) 0) (congrFun (eA 0 (by decide) rfl) 9) (fun j hj => ⟨congrFun (eA 24 (by decide) rfl) j, congrFun (eA 25 (by decide) rfl) j, congrFun (eA 26 (by decide) rfl) j, congrFun (eA 27 (by decide) rfl) j, congrFun (eA 28 (by decide) rfl) j, congrFun (eA 29 (by decide) rfl) j, congrFun (eA 30 (by decide) rfl) j⟩) (eS 16 (by omega) (by omega) (by omega) (by omega) (by omega)) (fun j _ _ => eS _ (by omega) (by omega) (by omega) (by omega) (by omega)), rSet_c H.2.2.2.2.2.2.2.2.2.2.1 (fun j hj => ⟨congrFun (eA 32 (by decide) rfl) j, congrFun (eB 31 (by decide) rfl) _⟩) (fun j hj => eF _ (by rcases (show j = 0 ∨ j = 1 ∨ j = 2 by omega) with rfl | rfl | rfl <;> rfl)), rCnt_c H.2.2.2.2.2.2.2.2.2.2.2 ⟨congrFun (eA 0 (by decide) rfl) 6, congrFun (eA 0 (by decide) rfl) 7, congrFun (eA 0 (by decide) rfl) 8⟩ ⟨eS 2 (by omega) (by omega) (by omega) (by omega) (by omega), eS 14 (by omega) (by omega) (by omega) (by omega) (by omega), eS 15 (by omega) (by omega) (by omega) (by omega) (by omega)⟩⟩
section CVT
variable {r c t e dt N : Nat} {M M1 : Mem} {s s2 : Nat → Int32} {φ φ2 : Nat → UInt32}
/-- the class's typist p (cells 12 + 2p, 13 + 2p) and the row's change together -/
theorem CV_ty {p : Nat} (H : CV r c t e dt N M s φ) (hp : p < 2) (a : ∀ k, k ≠ 12 + 2 * p → k ≠ 13 + 2 * p → M1.1 k = M.1 k) (b : ∀ k, k ≠ 12 + 2 * p → M1.2 k = M.2 k)
    (eS : ∀ i, i ≠ 3 + p → i ≠ 10 + p → i ≠ 12 + p → i ≠ 17 + p → (i < 544 + 24 * p ∨ 568 + 24 * p ≤ i) → s2 i = s i) (eF : ∀ i, i ≠ p → i ≠ 2 + p → φ2 i = φ i) (hT : tyG p (12 + 2 * p) (13 + 2 * p) N M1 s2 φ2) : CV r c t e dt N M1 s2 φ2 := by
  rcases (show p = 0 ∨ p = 1 by omega) with rfl | rfl
  · refine RS_ty0 H (fun k _ hx => ?_) (fun k _ hx => ?_) (fun i a1 a2 a3 a4 a5 => eS i a1 a2 a3 a4 a5) (fun i hx => ?_) hT
    · simp only [Bool.or_eq_false_iff, beq_eq_false_iff_ne] at hx
      exact a (1 + k) (by omega) (by omega)
    · simp only [beq_eq_false_iff_ne] at hx
      exact b (1 + k) (by omega)
    · simp only [Bool.or_eq_false_iff, beq_eq_false_iff_ne] at hx
      exact eF i (by omega) (by omega)
  · refine RS_ty1 H (fun k _ hx => ?_) (fun k _ hx => ?_) (fun i a1 a2 a3 a4 a5 => eS i a1 a2 a3 a4 a5) (fun i hx => ?_) hT
    · simp only [Bool.or_eq_false_iff, beq_eq_false_iff_ne] at hx
      exact a (1 + k) (by omega) (by omega)
    · simp only [beq_eq_false_iff_ne] at hx
      exact b (1 + k) (by omega)
    · simp only [Bool.or_eq_false_iff, beq_eq_false_iff_ne] at hx
      exact eF i (by omega) (by omega)
theorem w2_ne {a i b j : Nat} {x : UInt32} (h : ¬ (b = a ∧ j = i)) : (w2 M a i x).2 b j = M.2 b j := by rw [w2_2, if_neg h]
theorem w1_ne {a i b j : Nat} {x : Int32} (h : ¬ (b = a ∧ j = i)) : (w1 M a i x).1 b j = M.1 b j := by rw [w1_1, if_neg h]
theorem w1_eq {a i b j : Nat} {x : Int32} (h : b = a ∧ j = i) : (w1 M a i x).1 b j = x := by rw [w1_1, if_pos h]
theorem w2_eq {a i b j : Nat} {x : UInt32} (h : b = a ∧ j = i) : (w2 M a i x).2 b j = x := by rw [w2_2, if_pos h]
theorem upd_ne {f : Nat → Int32} {i j : Nat} {x : Int32} (h : ¬ j = i) : upd f i x j = f j := by rw [upd_at, if_neg h]
theorem upd_eq {f : Nat → Int32} {i j : Nat} {x : Int32} (h : j = i) : upd f i x j = x := by rw [upd_at, if_pos h]
theorem vfu_ne {f : Nat → UInt32} {i j : Nat} {x : UInt32} (h : ¬ j = i) : vf_upd f i x j = f j := by rw [vfu_at, if_neg h]
theorem vfu_eq {f : Nat → UInt32} {i j : Nat} {x : UInt32} (h : j = i) : vf_upd f i x j = x := by rw [vfu_at, if_pos h]
theorem CV_cnt {p : Nat} {x : Int32} (H : CV r c t e dt N M s φ) (hp : p < 2) :
    CV r c t e dt N (w1 (w1 M (12 + 2 * p) 4 (M.1 (12 + 2 * p) 4 + nI 1)) (12 + 2 * p) 5 (M.1 (12 + 2 * p) 5 + x)) (upd (upd s (10 + p) (s (10 + p) + nI 1)) (12 + p) (s (12 + p) + x)) φ := by
  obtain ⟨⟨y1, y2, y3, y4, y5, y6, y7⟩, _, _⟩ := H.ty hp
  refine CV_ty H hp (fun k h1 h2 => by rw [w1_o h1, w1_o h1]) (fun k _ => rfl) (fun i h1 h2 h3 h4 h5 => by rw [upd_ne h3, upd_ne h2]) (fun i _ _ => rfl) ⟨y1, ?_, ?_, ?_, ?_, ?_, fun j hj => ?_⟩
  · rw [w1_ne (by omega), w1_ne (by omega), upd_ne (by omega), upd_ne (by omega)]
    exact y2
  · rw [w1_ne (by omega), w1_ne (by omega), upd_ne (by omega), upd_ne (by omega)]
    exact y3
  · rw [w1_ne (by omega), w1_eq ⟨rfl, rfl⟩, upd_ne (by omega), upd_eq rfl, y4]
  · rw [w1_eq ⟨rfl, rfl⟩, upd_eq rfl, y5]
  · rw [w1_ne (by omega), w1_ne (by omega), upd_ne (by omega), upd_ne (by omega)]
    exact y6
  · rw [w1_ne (by omega), w1_ne (by omega), upd_ne (by omega), upd_ne (by omega)]
    exact y7 j hj
theorem CV_sign {p m : Nat} {x : Int32} (H : CV r c t e dt N M s φ) (hp : p < 2) (hm : s (17 + p) = nI m) (hm1 : m ≤ N) :
    CV r c t e dt (N + 1) (w1 (w1 M (13 + 2 * p) (m % 24) x) (12 + 2 * p) 6 (nI (m + 1))) (upd (upd s (544 + 24 * p + m % 24) x) (17 + p) (nI (m + 1))) φ := by
  have h24 : m % 24 < 24 := Nat.mod_lt _ (by decide)
  have H2 := H.mono (show N ≤ N + 1 by omega)
  obtain ⟨⟨y1, y2, y3, y4, y5, y6, y7⟩, _, _⟩ := H2.ty hp
  refine CV_ty H2 hp (fun k h1 h2 => by rw [w1_o h1, w1_o h2]) (fun k _ => rfl) (fun i h1 h2 h3 h4 h5 => by rw [upd_ne h4, upd_ne (by omega)]) (fun i _ _ => rfl) ⟨y1, ?_, ?_, ?_, ?_, ?_, fun j hj => ?_⟩
  · rw [w1_ne (by omega), w1_ne (by omega), upd_ne (by omega), upd_ne (by omega)]
    exact y2
  · rw [w1_ne (by omega), w1_ne (by omega), upd_ne (by omega), upd_ne (by omega)]
    exact y3
  · rw [w1_ne (by omega), w1_ne (by omega), upd_ne (by omega), upd_ne (by omega), y4]
  · rw [w1_ne (by omega), w1_ne (by omega), upd_ne (by omega), upd_ne (by omega), y5]
  · exact ⟨m + 1, by omega, w1_eq ⟨rfl, rfl⟩, upd_eq rfl⟩
  · rw [w1_ne (by omega), upd_ne (by omega)]
    by_cases h : j = m % 24
    · rw [w1_eq ⟨rfl, h⟩, upd_eq (by omega)]
    · rw [w1_ne (by omega), upd_ne (by omega)]
      exact y7 j hj
/-! learning -/
def lrF (p u d : Nat) (s : Nat → Int32) (φ : Nat → UInt32) : Nat → UInt32 := if s (3 + p) < nI 0 then vf_upd φ p (lrn (φ p) (nI d) (φ 6)) else vf_upd (vf_upd φ p (lrn (φ p) (nI d) (φ 6))) (2 + p) (lrn (φ (2 + p)) (nI (gapN u (s (3 + p)).toNatClampNeg)) (φ 6))
theorem gapN_le {a b n : Nat} (h1 : a ≤ n) (h2 : b ≤ n) : gapN a b ≤ n := by
  unfold gapN
  split <;> omega
theorem e_alh {m rate : UInt32} {v : Int32} : fX7_atLeastHalf (FP.fadd m (FP.fmul (FP.fsub (FP.i2f v) m) rate)) M = some (lrn m v rate, M) := by
  unfold fX7_atLeastHalf lrn
  split <;> rfl
theorem rate_ok (H : CV r c t e dt N M s φ) : (φ 6).toNat ≤ 127 * 2 ^ 23 := by
  obtain ⟨⟨b, hb, _, h⟩, _⟩ := H.set2
  rw [h, toU_n (by omega)]
  omega
theorem CV_learn {p u d : Nat} (H : CV r c t e dt N M s φ) (hN : N < 2 ^ 24) (hp : p < 2) (hu : u ≤ N) (hd : d ≤ N) :
    ∃ M1, fX7_learn (12 + 2 * p) (nI u) (nI d) (φ 6) M = some ((), M1) ∧ CV r c t e dt N M1 (upd s (3 + p) (nI u)) (lrF p u d s φ) ∧ (∀ k, k ≠ 12 + 2 * p → M1.1 k = M.1 k ∧ M1.2 k = M.2 k) := by
  obtain ⟨⟨⟨y1a, y1b, y1c, y1d⟩, y2, y3, y4, y5, y6, y7⟩, _, _⟩ := H.ty hp
  have hr := rate_ok H
  obtain ⟨k1, k2, k3, k4⟩ := lrn_gm (v := d) y1c (by omega) hr
  rcases y2 with ⟨l1, l2⟩ | ⟨l, hl, l1, l2⟩
  · refine ⟨w1 (w2 M (12 + 2 * p) 0 (lrn (φ p) (nI d) (φ 6))) (12 + 2 * p) 2 (nI u), ?_, ?_, fun k hk => ⟨by rw [w1_o hk, w2_1], by rw [w1_2, w2_o hk]⟩⟩
    · unfold fX7_learn
      simp only [y1a, bnd_e, k1, k2, k3, asr_e, e_alh, cal_e, jn_e, w2_1, l1, nlit', nm_def, if_true]
    · have e : lrF p u d s φ = vf_upd φ p (lrn (φ p) (nI d) (φ 6)) := by
        unfold lrF
        rw [l2, if_pos (nm_lt0 (by decide) (by decide))]
      rw [e]
      refine CV_ty H hp (fun k h1 h2 => by rw [w1_o h1, w2_1]) (fun k h1 => by rw [w1_2, w2_o h1]) (fun i h1 h2 h3 h4 h5 => by rw [upd_ne h1]) (fun i h1 h2 => by rw [vfu_ne h1]) ⟨⟨?_, ?_, ?_, ?_⟩, ?_, ?_, ?_, ?_, ?_, fun j hj => ?_⟩
      · rw [w1_2, w2_eq ⟨rfl, rfl⟩, vfu_eq rfl]
      · rw [w1_2, w2_ne (by omega), vfu_ne (by omega), y1b]
      · rw [vfu_eq rfl]
        exact k4
      · rw [vfu_ne (by omega)]
        exact y1d
      · rw [w1_eq ⟨rfl, rfl⟩, upd_eq rfl]
        exact .inr ⟨u, by omega, rfl, rfl⟩
      · rw [w1_ne (by omega), w2_1, upd_ne (by omega)]
        exact y3
      · rw [w1_ne (by omega), w2_1, upd_ne (by omega)]
        exact y4
      · rw [w1_ne (by omega), w2_1, upd_ne (by omega)]
        exact y5
      · rw [w1_ne (by omega), w2_1, upd_ne (by omega)]
        exact y6
      · rw [w1_ne (by omega), w2_1, upd_ne (by omega)]
        exact y7 j hj
  · obtain ⟨g1, g2, g3, g4⟩ := lrn_gm (v := gapN u l) y1d (by have := gapN_le (n := N) hu (show l ≤ N by omega); omega) hr
    refine ⟨w1 (w2 (w2 M (12 + 2 * p) 0 (lrn (φ p) (nI d) (φ 6))) (12 + 2 * p) 1 (lrn (φ (2 + p)) (nI (gapN u l)) (φ 6))) (12 + 2 * p) 2 (nI u), ?_, ?_, fun k hk => ⟨by rw [w1_o hk, w2_1, w2_1], by rw [w1_2, w2_o hk, w2_o hk]⟩⟩
    · unfold fX7_learn
      have q : (w2 M (12 + 2 * p) 0 (lrn (φ p) (nI d) (φ 6))).2 (12 + 2 * p) 1 = φ (2 + p) := by rw [w2_ne (by omega), y1b]
      simp only [y1a, bnd_e, k1, k2, k3, asr_e, e_alh, cal_e, jn_e, w2_1, l1, nlit', nm_def, nI_nm (show l < 2 ^ 31 by omega) (show 0 < 1 by decide) (show 1 < 2 ^ 31 by decide), if_false, e_abs _ (show u < 2 ^ 31 by omega) (show l < 2 ^ 31 by omega), q, g1, g2, g3]
    · have e : lrF p u d s φ = vf_upd (vf_upd φ p (lrn (φ p) (nI d) (φ 6))) (2 + p) (lrn (φ (2 + p)) (nI (gapN u l)) (φ 6)) := by
        unfold lrF
        rw [l2, if_neg (nI_nlt0 (by omega)), nI_clamp (by omega)]
      rw [e]
      refine CV_ty H hp (fun k h1 h2 => by rw [w1_o h1, w2_1, w2_1]) (fun k h1 => by rw [w1_2, w2_o h1, w2_o h1]) (fun i h1 h2 h3 h4 h5 => by rw [upd_ne h1]) (fun i h1 h2 => by rw [vfu_ne h2, vfu_ne h1]) ⟨⟨?_, ?_, ?_, ?_⟩, ?_, ?_, ?_, ?_, ?_, fun j hj => ?_⟩
      · rw [w1_2, w2_ne (by omega), w2_eq ⟨rfl, rfl⟩, vfu_ne (by omega), vfu_eq rfl]
      · rw [w1_2, w2_eq ⟨rfl, rfl⟩, vfu_eq rfl]
      · rw [vfu_ne (by omega), vfu_eq rfl]
        exact k4
      · rw [vfu_eq rfl]
        exact g4
      · rw [w1_eq ⟨rfl, rfl⟩, upd_eq rfl]
        exact .inr ⟨u, by omega, rfl, rfl⟩
      · rw [w1_ne (by omega), w2_1, w2_1, upd_ne (by omega)]
        exact y3
      · rw [w1_ne (by omega), w2_1, w2_1, upd_ne (by omega)]
        exact y4
      · rw [w1_ne (by omega), w2_1, w2_1, upd_ne (by omega)]
        exact y5
      · rw [w1_ne (by omega), w2_1, w2_1, upd_ne (by omega)]
        exact y6
      · rw [w1_ne (by omega), w2_1, w2_1, upd_ne (by omega)]
        exact y7 j hj
/-- a ghost is counted -/
theorem CV_ghost {x : Int32} (H : CV r c t e dt N M s φ) :
    CV r c t e dt N (w1 (w1 M 1 7 (M.1 1 7 + nI 1)) 1 8 (M.1 1 8 + x)) (upd (upd s 14 (s 14 + nI 1)) 15 (s 15 + x)) φ := by
  have hd := H.1.1
  obtain ⟨m48, m0⟩ := mul48 hd
  have eA : ∀ k, k < 33 → (k == 0) = false → vA (w1 (w1 M 1 7 (M.1 1 7 + nI 1)) 1 8 (M.1 1 8 + x)) 1 k = vA M 1 k := fun k _ hx => by
    simp only [beq_eq_false_iff_ne] at hx
    show (w1 _ 1 8 _).1 (1 + k) = _
    rw [w1_o (by omega), w1_o (by omega)]
    rfl
  have eB : ∀ k, k < 33 → false = false → vB (w1 (w1 M 1 7 (M.1 1 7 + nI 1)) 1 8 (M.1 1 8 + x)) 1 k = vB M 1 k := fun k _ _ => rfl
  have eS : ∀ i, i ≠ 14 → i ≠ 15 → upd (upd s 14 (s 14 + nI 1)) 15 (s 15 + x) i = s i := fun i h1 h2 => by rw [upd_ne h2, upd_ne h1]
  have eF : ∀ i, false = false → φ i = φ i := fun _ _ => rfl
  have e9 : vA (w1 (w1 M 1 7 (M.1 1 7 + nI 1)) 1 8 (M.1 1 8 + x)) 1 0 9 = vA M 1 0 9 := by
    show (w1 _ 1 8 _).1 1 9 = _
    rw [w1_ne (by omega), w1_ne (by omega)]
    rfl
  refine ⟨rDim_c H.1 (congrFun (eA 1 (by decide) rfl) 0) (congrFun (eA 1 (by decide) rfl) 1) (eS 0 (by omega) (by omega)) (eS 1 (by omega) (by omega)), rShift_c H.2.1 (fun p hp => congrFun (eA 10 (by decide) rfl) p) (fun p hp => eS _ (by omega) (by omega)), rHold_c H.2.2.1 (fun k hk => congrFun (eA 2 (by decide) rfl) k) (fun k hk => eS _ (by omega) (by omega)) m48, rBits_c H.2.2.2.1 (fun i hi => ⟨congrFun (eA 7 (by decide) rfl) i, congrFun (eA 8 (by decide) rfl) i, congrFun (eA 9 (by decide) rfl) i⟩) (fun k hk => ⟨eS _ (by omega) (by omega), eS _ (by omega) (by omega), eS _ (by omega) (by omega)⟩), rKey_c H.2.2.2.2.1 (fun k hk => ⟨congrFun (eA 4 (by decide) rfl) k, congrFun (eA 5 (by decide) rfl) k, congrFun (eA 6 (by decide) rfl) k⟩) (fun k hk => ⟨eS _ (by omega) (by omega), eS _ (by omega) (by omega), eS _ (by omega) (by omega), eS _ (by omega) (by omega)⟩), rSign_c H.2.2.2.2.2.1 (fun k hk => congrFun (eA 3 (by decide) rfl) k) (fun k hk => eS _ (by omega) (by omega)), rTyp_c H.2.2.2.2.2.2.1 (fun j _ _ => congrFun (eA 11 (by decide) rfl) j) (fun j _ => congrFun (eA 12 (by decide) rfl) j) (fun j _ => congrFun (eB 11 (by decide) rfl) j) ⟨eS _ (by omega) (by omega), eS _ (by omega) (by omega), eS _ (by omega) (by omega), eS _ (by omega) (by omega), eS _ (by omega) (by omega)⟩ (fun j hj => eS _ (by omega) (by omega)) ⟨eF 0 rfl, eF 2 rfl⟩, rTyp_c H.2.2.2.2.2.2.2.1 (fun j _ _ => congrFun (eA 13 (by decide) rfl) j) (fun j _ => congrFun (eA 14 (by decide) rfl) j) (fun j _ => congrFun (eB 13 (by decide) rfl) j) ⟨eS _ (by omega) (by omega), eS _ (by omega) (by omega), eS _ (by omega) (by omega), eS _ (by omega) (by omega), eS _ (by omega) (by omega)⟩ (fun j hj => eS _ (by omega) (by omega)) ⟨eF 1 rfl, eF 3 rfl⟩, rEnd_c H.2.2.2.2.2.2.2.2.1 (congrFun (eA 15 (by decide) rfl) 0) (fun j hj => ⟨congrFun (eA 16 (by decide) rfl) j, congrFun (eA 17 (by decide) rfl) j, congrFun (eA 18 (by decide) rfl) j, congrFun (eA 19 (by decide) rfl) j, congrFun (eA 20 (by decide) rfl) j, congrFun (eA 21 (by decide) rfl) j⟩) (eS 9 (by omega) (by omega)) (fun j _ _ => eS _ (by omega) (by omega)), rDis_c H.2.2.2.2.2.2.2.2.2.1 (congrFun (eA 23 (by decide) rfl) 0) e9 (fun j hj => ⟨congrFun (eA 24 (by decide) rfl) j, congrFun (eA 25 (by decide) rfl) j, congrFun (eA 26 (by decide) rfl) j, congrFun (eA 27 (by decide) rfl) j, congrFun (eA 28 (by decide) rfl) j, congrFun (eA 29 (by decide) rfl) j, congrFun (eA 30 (by decide) rfl) j⟩) (eS 16 (by omega) (by omega)) (fun j _ _ => eS _ (by omega) (by omega)), rSet_c H.2.2.2.2.2.2.2.2.2.2.1 (fun j hj => ⟨congrFun (eA 32 (by decide) rfl) j, congrFun (eB 31 (by decide) rfl) _⟩) (fun j hj => eF _ (by rcases (show j = 0 ∨ j = 1 ∨ j = 2 by omega) with rfl | rfl | rfl <;> rfl)), ⟨H.tN, ?_, ?_, ?_, ?_⟩⟩
  · show (w1 _ 1 8 _).1 1 6 = _
    rw [w1_ne (by omega), w1_ne (by omega)]
    exact H.t1
  · rw [eS _ (by omega) (by omega)]
    exact H.t2
  · show (w1 _ 1 8 _).1 1 7 = _
    rw [w1_ne (by omega), w1_eq ⟨rfl, rfl⟩, upd_ne (by omega), upd_eq rfl, H.gh]
  · show (w1 _ 1 8 _).1 1 8 = _
    rw [w1_eq ⟨rfl, rfl⟩, upd_eq rfl, H.gb]
end CVT

