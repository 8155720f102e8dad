/-! PURE: a stroke is credited, on both sides -/
def FC (M M1 : Mem) : Prop := ∀ k, (k < 1 ∨ 34 ≤ k) → M1.1 k = M.1 k ∧ M1.2 k = M.2 k
theorem FC_refl (M : Mem) : FC M M := fun _ _ => ⟨rfl, rfl⟩
theorem FC_trans {M M1 M2 : Mem} (h : FC M M1) (g : FC M1 M2) : FC M M2 := fun k hk => ⟨by rw [(g k hk).1, (h k hk).1], by rw [(g k hk).2, (h k hk).2]⟩
theorem FC_1 {M : Mem} {a i : Nat} {x : Int32} (h : 1 ≤ a ∧ a < 34) : FC M (w1 M a i x) := fun k hk => ⟨w1_o (by omega), rfl⟩
theorem jn_1 {α β : Type} {K : α → Mem → Option (β × Mem)} {a : α} {M : Mem} : jn K (fun j => j a M) = K a M := rfl
def capB (s : Nat → Int32) (p q : Nat) : Bool := q.testBit p || (decide (s (7 + p) = nI 1) && q.testBit (1 - p))
def rwG (n p k q : Nat) (s : Nat → Int32) : Nat → Int32 := if k < n then (if s (260 + k) = nI 46 then s else upd (upd s (544 + 24 * p + (s (17 + p)).toNatClampNeg % 24) (s (260 + k) - (if capB s p q = true then nI 32 else nI 0))) (17 + p) (nI ((s (17 + p)).toNatClampNeg + 1))) else s
def rwC (w : Nat) (h : Int32) (s : Nat → Int32) : Nat → Int32 := if w = 2 then upd (upd s 14 (s 14 + nI 1)) 15 (s 15 + (if h < nI 0 then nI 1 else nI 0)) else upd (upd s (10 + w) (s (10 + w) + nI 1)) (12 + w) (s (12 + w) + (if h = nI w then nI 1 else nI 0))
def finS (n w k u q : Nat) (h : Int32) (tb : Bool) (s : Nat → Int32) : Nat → Int32 := if w = 2 then rwC 2 h s else rwG n w k q (if tb = true then upd (rwC w h s) (3 + w) (nI u) else rwC w h s)
def finF (w u d : Nat) (h : Int32) (tb : Bool) (s : Nat → Int32) (φ : Nat → UInt32) : Nat → UInt32 := if w = 2 then φ else if tb = true then lrF w u d (rwC w h s) φ else φ
theorem sub_n0 (x : Int32) : x - nI 0 = x := by
  rw [show nI 0 = (0 : Int32) from rfl]
  grind
theorem cap_c : ∀ q, q < 4 → ∀ p, p < 2 → (nI q &&& nI 3 = nI 0 ↔ (q.testBit p || q.testBit (1 - p)) = false) := by decide +kernel
section FIN
variable {r c t e dt N : Nat} {M Mc : Mem} {s : Nat → Int32} {φ : Nat → UInt32}
theorem CV.z260 (H : CV r c t e dt N M s φ) {k : Nat} (hk : k < r * c) : fX0_signOf 2 (nI k) M = some (s (260 + k), M) := by
  rw [e_signOf H.hr H.hc H.m48 hk, H.sign hk]
theorem CV.z260n (H : CV r c t e dt N M s φ) {k : Nat} (hk : ¬ k < r * c) (h48 : k < 48) : fX0_signOf 2 (nI k) M = some (nI 46, M) :=
  e_signOfn H.hr H.hc (.inr (by rw [nI_leI (by have := H.m48; omega) (by omega)]; omega))
theorem e_addSign {a m : Nat} {x : Int32} (h6 : M.1 a 6 = nI m) (hm : m < 2 ^ 30) (hl : ln (a + 1) = 24) : fX7_addSign a x M = some ((), w1 (w1 M (a + 1) (m % 24) x) a 6 (nI (m + 1))) := by
  have h24 : m % 24 < 24 := Nat.mod_lt _ (by decide)
  have q : (w1 M (a + 1) (m % 24) x).1 a 6 = nI m := by rw [w1_ne (by omega), h6]
  unfold fX7_addSign
  simp only [h6, nlit', e_fmod M (show m < 2 ^ 31 by omega) (show 0 < 24 by decide) (show 24 < 2 ^ 31 by decide), cal_e, e_put M (show m % 24 < ln (a + 1) by omega), bnd_e, q, nI_add]
theorem c_sign {p a j k q : Nat} (H : CV r c t e dt N M s φ) (hN : N < 2 ^ 24) (ha : a = 16 ∨ a = 24) (hj : j < 2 ^ 31) (hp : p < 2) (f0 : M.1 (a + 1) (j % 20) = nI k) (hk : k < 48) (f5 : M.1 (a + 6) (j % 20) = nI q) (hq : q < 4) :
    wp (cal (fX6_keyOf a (nI j) M) (fun v14 M15 => cal (fX0_signOf 2 v14 M15) (fun v16 M17 => if v16 = nI 46 then some ((), M17) else cal (fX6_notedOf a (nI j) M17) (fun v21 M22 => cal (fX7_addSign (12 + 2 * p) (if (if (v21 &&& (if M17.1 (12 + 2 * p) 3 = nI 0 then nI 1 <<< (nI p &&& nI 31) else nI 3)) = nI 0 then nI 0 else nI 1) = nI 0 then v16 else v16 - nI 32) M22) (fun v29 M30 => some ((), M30))))))
      (fun _ M1 => FC M M1 ∧ CV r c t e dt (N + 1) M1 (rwG (r * c) p k q s) φ) := by
  obtain ⟨⟨y1, y2, ⟨b, hb, y3, y3'⟩, y4, y5, ⟨m, hm, y6, y6'⟩, y7⟩, _, hl⟩ := H.ty hp
  have ek := e_strk M ha hj
  rw [ek.1, f0, cal_e]
  by_cases hkn : k < r * c
  · rw [H.z260 hkn, cal_e]
    by_cases h46 : s (260 + k) = nI 46
    · rw [if_pos h46, wp_some]
      refine ⟨FC_refl M, ?_⟩
      unfold rwG
      rw [if_pos hkn, if_pos h46]
      exact H.mono (by omega)
    · rw [if_neg h46]
      have fin : ∀ x : Int32, x = s (260 + k) - (if capB s p q = true then nI 32 else nI 0) → wp (cal (fX7_addSign (12 + 2 * p) x M) (fun v29 M30 => some ((), M30))) (fun _ M1 => FC M M1 ∧ CV r c t e dt (N + 1) M1 (rwG (r * c) p k q s) φ) := fun x hx => by
        rw [e_addSign y6 (by omega) (by rw [← hl]; exact congrArg ln (by omega)), cal_e, wp_some]
        refine ⟨FC_trans (FC_1 (by omega)) (FC_1 (by omega)), ?_⟩
        have g := CV_sign (x := x) H hp y6' hm
        unfold rwG
        rw [if_pos hkn, if_neg h46, y6', nI_clamp (by omega), ← hx]
        rw [show 12 + 2 * p + 1 = 13 + 2 * p by omega]
        exact g
      have c3 := cap_c q hq p hp
      rcases (show b = 0 ∨ b = 1 by omega) with rfl | rfl
      · have c1 : capB s p q = q.testBit p := by
          unfold capB
          rw [y3', decide_eq_false (show ¬ nI 0 = nI 1 by decide), Bool.false_and, Bool.or_false]
        simp only [y3, if_true, ek.2.2.2.2.2.1, f5, cal_e, pw_def, and_pw (show p < 32 by omega), bt_nI p (show q < 2 ^ 32 by omega)]
        refine fin _ ?_
        rw [c1]
        cases q.testBit p
        · simp only [if_true, Bool.false_eq_true, if_false]
          exact (sub_n0 _).symm
        · simp only [Bool.true_eq_false, n10, if_true, if_false]
      · have c1 : capB s p q = (q.testBit p || q.testBit (1 - p)) := by
          unfold capB
          rw [y3', decide_eq_true rfl, Bool.true_and]
        simp only [y3, n10, if_false, ek.2.2.2.2.2.1, f5, cal_e]
        refine fin _ ?_
        rw [c1]
        by_cases h0 : nI q &&& nI 3 = nI 0
        · rw [if_pos h0, if_pos rfl, c3.mp h0, if_neg (by decide)]
          exact (sub_n0 _).symm
        · rw [if_neg h0, if_neg n10]
          cases h1 : (q.testBit p || q.testBit (1 - p))
          · exact absurd (c3.mpr h1) h0
          · rw [if_pos rfl]
  · rw [H.z260n hkn hk, cal_e, if_pos rfl, wp_some]
    refine ⟨FC_refl M, ?_⟩
    unfold rwG
    rw [if_neg hkn]
    exact H.mono (by omega)
theorem c_finish {a j w k u d q : Nat} {h : Int32} {tb : Bool} (H : CV r c t e dt N M s φ) (hN : N < 2 ^ 24) (ha : a = 16 ∨ a = 24) (hj : j < 2 ^ 31) (hw : w < 3)
    (f0 : M.1 (a + 1) (j % 20) = nI k) (hk : k < 48) (f1 : M.1 (a + 2) (j % 20) = nI u) (hu : u ≤ N) (f2 : M.1 (a + 3) (j % 20) = nI d) (hd : d ≤ N) (f4 : oN (M.1 (a + 5) (j % 20)) h 2) (f5 : M.1 (a + 6) (j % 20) = nI q) (hq : q < 4) :
    wp (fX5_finish 1 a (nI j) (nI w) (b2 tb) M) (fun _ M1 => FC M M1 ∧ CV r c t e dt (N + 1) M1 (finS (r * c) w k u q h tb s) (finF w u d h tb s φ)) := by
  have ek := e_strk M ha hj
  have hm1 : (M.1 (a + 5) (j % 20) = nm 1) = (h < nI 0) := by
    rcases f4 with ⟨q1, q2⟩ | ⟨l, hl, q1, q2⟩
    · rw [q1, q2]
      exact propext ⟨fun _ => nm_lt0 (by decide) (by decide), fun _ => rfl⟩
    · rw [q1, q2, nI_nm (by omega) (by decide) (by decide)]
      exact propext ⟨fun h => h.elim, fun h => nI_nlt0 (by omega) h⟩
  unfold fX5_finish
  rw [ek.2.2.2.2.1, cal_e]
  by_cases h2 : w = 2
  · subst h2
    have e7 : (w1 M 1 7 (M.1 1 7 + nI 1)).1 1 8 = M.1 1 8 := w1_ne (by omega)
    simp only [nlit', if_true, bnd_e, jn_ite, nm_def, hm1, e7, wp_some]
    refine ⟨FC_trans (FC_1 (by omega)) (FC_1 (by omega)), ?_⟩
    unfold finS finF rwC
    rw [if_pos rfl, if_pos rfl, if_pos rfl]
    exact (CV_ghost H).mono (by omega)
  · have hp : w < 2 := by omega
    have n2 : ¬ nI w = nI 2 := by rw [nI_eq (by omega) (by decide)]; omega
    have ehw : (M.1 (a + 5) (j % 20) = nI w) = (h = nI w) := oN_eq f4 (by omega)
    have e45 : (w1 M (12 + 2 * w) 4 (M.1 (12 + 2 * w) 4 + nI 1)).1 (12 + 2 * w) 5 = M.1 (12 + 2 * w) 5 := w1_ne (by omega)
    have H1 := CV_cnt (x := if h = nI w then nI 1 else nI 0) H hp
    have es : rwC w h s = upd (upd s (10 + w) (s (10 + w) + nI 1)) (12 + w) (s (12 + w) + (if h = nI w then nI 1 else nI 0)) := by
      unfold rwC
      rw [if_neg h2]
    rw [← es] at H1
    simp only [nlit', n2, if_false, e_typOf M hp, cal_e, (H.ty hp).2.1, asr_e, bnd_e, jn_ite, ehw, e45]
    have R : ∀ i, 1 ≤ i → (w1 (w1 M (12 + 2 * w) 4 (M.1 (12 + 2 * w) 4 + nI 1)) (12 + 2 * w) 5 (M.1 (12 + 2 * w) 5 + if h = nI w then nI 1 else nI 0)).1 (a + i) = M.1 (a + i) := fun i hi => by
      rw [w1_o (by omega), w1_o (by omega)]
    have F1 : FC M (w1 (w1 M (12 + 2 * w) 4 (M.1 (12 + 2 * w) 4 + nI 1)) (12 + 2 * w) 5 (M.1 (12 + 2 * w) 5 + if h = nI w then nI 1 else nI 0)) := FC_trans (FC_1 (by omega)) (FC_1 (by omega))
    generalize (w1 (w1 M (12 + 2 * w) 4 (M.1 (12 + 2 * w) 4 + nI 1)) (12 + 2 * w) 5 (M.1 (12 + 2 * w) 5 + if h = nI w then nI 1 else nI 0)) = M1 at *
    unfold finS finF
    rw [if_neg h2, if_neg h2]
    cases tb
    · simp only [b2_f, jn_e, if_true, Bool.false_eq_true, if_false]
      exact wp_mono (c_sign H1 hN ha hj hp (by rw [R _ (by omega)]; exact f0) hk (by rw [R _ (by omega)]; exact f5) hq) (fun _ M2 ⟨g1, g2⟩ => ⟨FC_trans F1 g1, g2⟩)
    · have ek1 := e_strk M1 ha hj
      obtain ⟨M2, e2, H2, g2⟩ := CV_learn H1 hN hp hu hd
      have e3 : M1.2 32 3 = φ 6 := H1.set2.2
      simp only [b2_t, jn_e, n10, if_true, if_false, ek1.2.1, ek1.2.2.1, R _ (show 1 ≤ 2 by decide), R _ (show 1 ≤ 3 by decide), f1, f2, cal_e, Nat.reduceAdd, e3, e2]
      exact wp_mono (c_sign H2 hN ha hj hp (by rw [(g2 _ (by omega)).1, R _ (by omega)]; exact f0) hk (by rw [(g2 _ (by omega)).1, R _ (by omega)]; exact f5) hq) (fun _ M3 ⟨g3, g4⟩ => ⟨FC_trans (FC_trans F1 (fun k hk => g2 k (by omega))) g3, g4⟩)
/-! the reference -/
end FIN

