/-! PURE: settle -/
theorem RSp_v {A A2 : Nat → Nat → Int32} {B B2 : Nat → Nat → UInt32} {s : Nat → Int32} {φ : Nat → UInt32} {r c t e dt N : Nat} (H : RSp r c t e dt N A B s φ) (eA : ∀ k, k < 33 → true = true → A2 k = A k) (eB : ∀ k, k < 33 → true = true → B2 k = B k) : RSp r c t e dt N A2 B2 s φ := by
  have hd := H.1.1
  obtain ⟨m48, m0⟩ := mul48 hd
  have eS : ∀ i, s i = s i := fun _ => rfl
  have eF : ∀ i, true = true → φ i = φ i := fun _ _ => rfl
  exact ⟨rDim_c H.1 (congrFun (eA 1 (by decide) rfl) 0) (congrFun (eA 1 (by decide) rfl) 1) (eS 0) (eS 1), rShift_c H.2.1 (fun p hp => congrFun (eA 10 (by decide) rfl) p) (fun p hp => eS _), rHold_c H.2.2.1 (fun k hk => congrFun (eA 2 (by decide) rfl) k) (fun k hk => eS _) m48, rBits_c H.2.2.2.1 (fun i hi => ⟨congrFun (eA 7 (by decide) rfl) i, congrFun (eA 8 (by decide) rfl) i, congrFun (eA 9 (by decide) rfl) i⟩) (fun k hk => ⟨eS _, eS _, eS _⟩), rKey_c H.2.2.2.2.1 (fun k hk => ⟨congrFun (eA 4 (by decide) rfl) k, congrFun (eA 5 (by decide) rfl) k, congrFun (eA 6 (by decide) rfl) k⟩) (fun k hk => ⟨eS _, eS _, eS _, eS _⟩), rSign_c H.2.2.2.2.2.1 (fun k hk => congrFun (eA 3 (by decide) rfl) k) (fun k hk => eS _), rTyp_c H.2.2.2.2.2.2.1 (fun j _ _ => congrFun (eA 11 (by decide) rfl) j) (fun j _ => congrFun (eA 12 (by decide) rfl) j) (fun j _ => congrFun (eB 11 (by decide) rfl) j) ⟨eS _, eS _, eS _, eS _, eS _⟩ (fun j hj => eS _) ⟨eF 0 rfl, eF 2 rfl⟩, rTyp_c H.2.2.2.2.2.2.2.1 (fun j _ _ => congrFun (eA 13 (by decide) rfl) j) (fun j _ => congrFun (eA 14 (by decide) rfl) j) (fun j _ => congrFun (eB 13 (by decide) rfl) j) ⟨eS _, eS _, eS _, eS _, eS _⟩ (fun j hj => eS _) ⟨eF 1 rfl, eF 3 rfl⟩, rEnd_c H.2.2.2.2.2.2.2.2.1 (congrFun (eA 15 (by decide) rfl) 0) (fun j hj => ⟨congrFun (eA 16 (by decide) rfl) j, congrFun (eA 17 (by decide) rfl) j, congrFun (eA 18 (by decide) rfl) j, congrFun (eA 19 (by decide) rfl) j, congrFun (eA 20 (by decide) rfl) j, congrFun (eA 21 (by decide) rfl) j⟩) (eS 9) (fun j _ _ => eS _), rDis_c H.2.2.2.2.2.2.2.2.2.1 (congrFun (eA 23 (by decide) rfl) 0) (congrFun (eA 0 (by decide) rfl) 9) (fun j hj => ⟨congrFun (eA 24 (by decide) rfl) j, congrFun (eA 25 (by decide) rfl) j, congrFun (eA 26 (by decide) rfl) j, congrFun (eA 27 (by decide) rfl) j, congrFun (eA 28 (by decide) rfl) j, congrFun (eA 29 (by decide) rfl) j, congrFun (eA 30 (by decide) rfl) j⟩) (eS 16) (fun j _ _ => eS _), rSet_c H.2.2.2.2.2.2.2.2.2.2.1 (fun j hj => ⟨congrFun (eA 32 (by decide) rfl) j, congrFun (eB 31 (by decide) rfl) _⟩) (fun j hj => eF _ (by rcases (show j = 0 ∨ j = 1 ∨ j = 2 by omega) with rfl | rfl | rfl <;> rfl)), rCnt_c H.2.2.2.2.2.2.2.2.2.2.2 ⟨congrFun (eA 0 (by decide) rfl) 6, congrFun (eA 0 (by decide) rfl) 7, congrFun (eA 0 (by decide) rfl) 8⟩ ⟨eS 2, eS 14, eS 15⟩⟩
section SETTLE
variable {r c t e dt N N2 : Nat} {M M1 M2 Mc : Mem} {s s2 : Nat → Int32} {φ φ2 : Nat → UInt32}
theorem CV.v (H : CV r c t e dt N M s φ) (g : ∀ k, 1 ≤ k → k < 34 → M1.1 k = M.1 k ∧ M1.2 k = M.2 k) : CV r c t e dt N M1 s φ := RSp_v H (fun k hk _ => (g (1 + k) (by omega) (by omega)).1) (fun k hk _ => (g (1 + k) (by omega) (by omega)).2)
theorem cnt_dec {n d : Nat} {p q : Nat → Bool} (hd : d < n) (hp : p d = true) (hq : q d = false) (h : ∀ i, i < n → i ≠ d → q i = p i) : cnt n p = cnt n q + 1 := by
  have h1 := (cnt_le1 (n := n) (k := d) (p := p) (q := q) (fun i hi hi2 => (h i hi hi2).symm)).1
  have h2 := cnt_strict (n := n) (j := d) (p := q) (q := p) (fun i hi hh => by
    by_cases e : i = d
    · subst e
      exact hp
    · rw [← h i hi e]
      exact hh) hd hq hp
  omega
/-- the fate of a dispute is changed, in both rings -/
def rwF (s : Nat → Int32) (d o e w : Nat) : Nat → Int32 := if 16 < e - o then upd s (404 + 7 * d + 3) (nI w) else upd (upd s (404 + 7 * d + 3) (nI w)) (308 + 6 * (o % 16) + 3) (nI w)
def fM (M : Mem) (d o e w : Nat) : Mem := w1 (if 20 < e - o then w1 M 28 d (nI w) else w1 (w1 M 28 d (nI w)) 20 (o % 20) (nI w)) 1 9 (M.1 1 9 - nI 1)
theorem fM_o {d o e w b : Nat} (h1 : b ≠ 1) (h2 : b ≠ 28) (h3 : b ≠ 20) : (fM M d o e w).1 b = M.1 b := by
  unfold fM
  rw [w1_o h1]
  split
  · rw [w1_o h2]
  · rw [w1_o h3, w1_o h2]
theorem fM_1 {d o e w j : Nat} (h1 : j ≠ 9) : (fM M d o e w).1 1 j = M.1 1 j := by
  unfold fM
  rw [w1_ne (by omega)]
  split
  · rw [w1_o (by omega)]
  · rw [w1_o (by omega), w1_o (by omega)]
theorem fM_2 {d o e w : Nat} : (fM M d o e w).2 = M.2 := by
  unfold fM
  rw [w1_2]
  split <;> rfl
theorem fM_28 {d o e w : Nat} : (fM M d o e w).1 28 = upd (M.1 28) d (nI w) := by
  unfold fM
  rw [w1_o (by omega)]
  split
  · rw [w1_self]
  · rw [w1_o (by omega), w1_self]
theorem rwF_o {d o e w i : Nat} (h1 : i ≠ 404 + 7 * d + 3) (h2 : i ≠ 308 + 6 * (o % 16) + 3) : rwF s d o e w i = s i := by
  unfold rwF
  split
  · rw [upd_ne h1]
  · rw [upd_ne h2, upd_ne h1]
theorem rwF_d {d o e w : Nat} : rwF s d o e w (404 + 7 * d + 3) = nI w := by
  unfold rwF
  split
  · rw [upd_eq rfl]
  · rw [upd_ne (by omega), upd_eq rfl]
theorem CV_fate {d o w : Nat} (H : CV r c t e dt N M s φ) (hd : d < dt) (ho : o < e) (hw : w < 3) (hop : s (404 + 7 * d + 3) = nm 5) : CV r c t e dt N (fM M d o e w) (rwF s d o e w) φ := by
  have hd0 := H.1.1
  obtain ⟨m48, m0⟩ := mul48 hd0
  have d20 := H.d20
  have eA : ∀ k1, k1 < 33 → (k1 == 0 || (k1 == 27 || k1 == 19)) = false → vA (fM M d o e w) 1 k1 = vA M 1 k1 := fun k1 _ hx => by
    simp only [Bool.or_eq_false_iff, beq_eq_false_iff_ne] at hx
    exact fM_o (by omega) (by omega) (by omega)
  have eB : ∀ k1, k1 < 33 → false = false → vB (fM M d o e w) 1 k1 = vB M 1 k1 := fun k1 _ _ => congrFun fM_2 (1 + k1)
  have eS : ∀ i, (i < 308 ∨ 544 ≤ i) → rwF s d o e w i = s i := fun i h1 => rwF_o (by omega) (by omega)
  have eF : ∀ i, false = false → φ i = φ i := fun _ _ => rfl
  refine ⟨rDim_c H.1 (congrFun (eA 1 (by decide) rfl) 0) (congrFun (eA 1 (by decide) rfl) 1) (eS 0 (by omega)) (eS 1 (by omega)), rShift_c H.2.1 (fun p hp => congrFun (eA 10 (by decide) rfl) p) (fun p hp => eS _ (by omega)), rHold_c H.2.2.1 (fun k hk => congrFun (eA 2 (by decide) rfl) k) (fun k hk => eS _ (by omega)) m48, rBits_c H.2.2.2.1 (fun i hi => ⟨congrFun (eA 7 (by decide) rfl) i, congrFun (eA 8 (by decide) rfl) i, congrFun (eA 9 (by decide) rfl) i⟩) (fun k hk => ⟨eS _ (by omega), eS _ (by omega), eS _ (by omega)⟩), rKey_c H.2.2.2.2.1 (fun k hk => ⟨congrFun (eA 4 (by decide) rfl) k, congrFun (eA 5 (by decide) rfl) k, congrFun (eA 6 (by decide) rfl) k⟩) (fun k hk => ⟨eS _ (by omega), eS _ (by omega), eS _ (by omega), eS _ (by omega)⟩), rSign_c H.2.2.2.2.2.1 (fun k hk => congrFun (eA 3 (by decide) rfl) k) (fun k hk => eS _ (by omega)), rTyp_c H.2.2.2.2.2.2.1 (fun j _ _ => congrFun (eA 11 (by decide) rfl) j) (fun j _ => congrFun (eA 12 (by decide) rfl) j) (fun j _ => congrFun (eB 11 (by decide) rfl) j) ⟨eS _ (by omega), eS _ (by omega), eS _ (by omega), eS _ (by omega), eS _ (by omega)⟩ (fun j hj => eS _ (by omega)) ⟨eF 0 rfl, eF 2 rfl⟩, rTyp_c H.2.2.2.2.2.2.2.1 (fun j _ _ => congrFun (eA 13 (by decide) rfl) j) (fun j _ => congrFun (eA 14 (by decide) rfl) j) (fun j _ => congrFun (eB 13 (by decide) rfl) j) ⟨eS _ (by omega), eS _ (by omega), eS _ (by omega), eS _ (by omega), eS _ (by omega)⟩ (fun j hj => eS _ (by omega)) ⟨eF 1 rfl, eF 3 rfl⟩, ⟨H.eN, ?_, ?_, fun i hi hi2 => ?_⟩, ⟨d20, ?_, ?_, fun j hj => ?_, ?_⟩, rSet_c H.2.2.2.2.2.2.2.2.2.2.1 (fun j hj => ⟨congrFun (eA 32 (by decide) rfl) j, congrFun (eB 31 (by decide) rfl) _⟩) (fun j hj => eF _ (by rcases (show j = 0 ∨ j = 1 ∨ j = 2 by omega) with rfl | rfl | rfl <;> rfl)), ⟨H.tN, ?_, ?_, ?_, ?_⟩⟩
  · rw [eA 15 (by decide) rfl]
    exact H.e1
  · rw [eS _ (by omega)]
    exact H.e2
  · obtain ⟨a0, a1, a2, a3, a4, a5⟩ := H.en hi hi2
    rw [eA 16 (by decide) rfl, eA 17 (by decide) rfl, eA 18 (by decide) rfl, eA 20 (by decide) rfl, eA 21 (by decide) rfl]
    rw [rwF_o (show 308 + 6 * (i % 16) ≠ _ by omega) (by omega), rwF_o (show 308 + 6 * (i % 16) + 1 ≠ _ by omega) (by omega), rwF_o (show 308 + 6 * (i % 16) + 2 ≠ _ by omega) (by omega), rwF_o (show 308 + 6 * (i % 16) + 4 ≠ _ by omega) (by omega), rwF_o (show 308 + 6 * (i % 16) + 5 ≠ _ by omega) (by omega)]
    refine ⟨a0, a1, a2, ?_, a4, a5⟩
    show (fM M d o e w).1 20 (i % 20) = _
    unfold fM rwF
    rw [w1_o (by omega)]
    by_cases hio : i = o
    · subst hio
      rw [if_neg (by omega), if_neg (by omega), w1_eq ⟨rfl, rfl⟩, upd_eq rfl]
    · have z1 : (if 16 < e - o then upd s (404 + 7 * d + 3) (nI w) else upd (upd s (404 + 7 * d + 3) (nI w)) (308 + 6 * (o % 16) + 3) (nI w)) (308 + 6 * (i % 16) + 3) = s (308 + 6 * (i % 16) + 3) := by
        split
        · rw [upd_ne (by omega)]
        · rw [upd_ne (by omega), upd_ne (by omega)]
      rw [z1]
      split
      · rw [w1_o (by omega)]
        exact a3
      · rw [w1_ne (by omega), w1_o (by omega)]
        exact a3
  · rw [eA 23 (by decide) rfl]
    exact H.d1
  · rw [eS _ (by omega)]
    exact H.d2
  · obtain ⟨q1, q2, q3, q4, q5, q6, q7⟩ := H.dis hj
    rw [eA 24 (by decide) rfl, eA 25 (by decide) rfl, eA 26 (by decide) rfl, eA 28 (by decide) rfl, eA 29 (by decide) rfl, eA 30 (by decide) rfl]
    rw [rwF_o (show 404 + 7 * j ≠ _ by omega) (by omega), rwF_o (show 404 + 7 * j + 1 ≠ _ by omega) (by omega), rwF_o (show 404 + 7 * j + 2 ≠ _ by omega) (by omega), rwF_o (show 404 + 7 * j + 4 ≠ _ by omega) (by omega), rwF_o (show 404 + 7 * j + 5 ≠ _ by omega) (by omega), rwF_o (show 404 + 7 * j + 6 ≠ _ by omega) (by omega)]
    refine ⟨q1, q2, q3, ?_, q5, q6, q7⟩
    show ((fM M d o e w).1 28 j = nI 3 ∧ _) ∨ ∃ w1, w1 < 3 ∧ (fM M d o e w).1 28 j = nI w1 ∧ _
    rw [fM_28]
    by_cases hjd : j = d
    · subst hjd
      rw [upd_self, rwF_d]
      exact .inr ⟨w, hw, rfl, rfl⟩
    · rw [upd_ne hjd, rwF_o (by omega) (by omega)]
      exact q4
  · show (fM M d o e w).1 1 9 = _
    have ec := cnt_dec (n := dt) (d := d) (p := fun d => decide (s (404 + 7 * d + 3) < nI 0)) (q := fun i => decide (rwF s d o e w (404 + 7 * i + 3) < nI 0)) hd (by rw [hop]; exact decide_eq_true (nm_lt0 (by decide) (by decide))) (by rw [rwF_d]; exact decide_eq_false (nI_nlt0 (by omega))) (fun i hi hid => by rw [rwF_o (by omega) (by omega)])
    have e9 : (fM M d o e w).1 1 9 = M.1 1 9 - nI 1 := by
      unfold fM
      rw [w1_eq ⟨rfl, rfl⟩]
    rw [e9, H.opn, ec, nI_sub (by omega), Nat.add_sub_cancel]
  · show (fM M d o e w).1 1 6 = _
    rw [fM_1 (by omega)]
    exact H.t1
  · rw [eS _ (by omega)]
    exact H.t2
  · show (fM M d o e w).1 1 7 = _
    rw [fM_1 (by omega), eS _ (by omega)]
    exact H.gh
  · show (fM M d o e w).1 1 8 = _
    rw [fM_1 (by omega), eS _ (by omega)]
    exact H.gb
theorem c_change (M : Mem) {a d n w : Nat} (ha : a = 16 ∨ a = 24) (h0 : M.1 a 0 = nI n) (hn : n < 2 ^ 30) (hd : d < n) : fX6_changeFate a (nI d) (nI w) M = some ((), if 20 < n - d then M else w1 M (a + 4) (d % 20) (nI w)) := by
  have hl : d % 20 < ln (a + 4) := by
    have : d % 20 < 20 := Nat.mod_lt _ (by decide)
    rcases ha with rfl | rfl
    · exact this
    · exact this
  have hh : fX6_holds a (nI d) M = some (if 20 < n - d then nI 0 else nI 1, M) := by
    unfold fX6_holds
    rw [h0, nlit', if_neg (nI_nlt0 (by omega)), if_neg (by rw [nI_leI (by omega) (by omega)]; omega)]
    by_cases hn20 : 20 ≤ n
    · rw [nlit', nI_sub hn20]
      by_cases hx : d < n - 20
      · rw [if_pos (by rw [nI_ltI (by omega) (by omega)]; exact hx), if_pos (by omega)]
        all_goals rfl
      · rw [if_neg (by rw [nI_ltI (by omega) (by omega)]; exact hx), if_neg (by omega)]
        all_goals rfl
    · rw [nlit', nI_sub2 (by omega), if_neg (by rw [nI_lt_nm (by omega) (by omega)]; exact not_false), if_neg (by omega)]
      all_goals rfl
  unfold fX6_changeFate
  rw [hh, cal_x]
  by_cases hx : 20 < n - d
  · rw [if_pos hx, if_pos hx, if_pos (show nI 0 = 0 from rfl)]
  · rw [if_neg hx, if_neg hx, if_neg (show ¬ nI 1 = 0 from n10), e_slot M (by omega), cal_x, e_put _ hl, cal_x]
theorem c_byHand {d w : Nat} (H : CV r c t e dt N M s φ) (hN : N < 2 ^ 24) (hd : d < dt) (hw : w < 3) (hop : s (404 + 7 * d + 3) = nm 5) : ∃ k u dw h q o, k < 48 ∧ u ≤ N ∧ dw ≤ N ∧ q < 4 ∧ o < e ∧ s (404 + 7 * d) = nI k ∧ s (404 + 7 * d + 1) = nI u ∧ s (404 + 7 * d + 2) = nI dw ∧ s (404 + 7 * d + 4) = h ∧ s (404 + 7 * d + 5) = nI q ∧ s (404 + 7 * d + 6) = nI o ∧
    wp (fX5_settleByHand 1 (nI d) (nI w) M) (fun _ M1 => FC M M1 ∧ CV r c t e dt (N + 1) M1 (finS (r * c) w k u q h true (rwF s d o e w)) (finF w u dw h true (rwF s d o e w) φ)) ∧ CV r c t e dt N (fM M d o e w) (rwF s d o e w) φ := by
  have eN := H.eN
  have d20 := H.d20
  obtain ⟨⟨k, hk, p0, p0'⟩, ⟨u, hu, p1, p1'⟩, ⟨dw, hdw, p2, p2'⟩, _, p4, ⟨q, hq, p5, p5'⟩, ⟨o, ho, p6, p6'⟩⟩ := H.dis hd
  have HF := CV_fate H hd ho hw hop
  refine ⟨k, u, dw, _, q, o, hk, hu, hdw, hq, ho, p0', p1', p2', rfl, p5', p6', ?_, HF⟩
  have hm : d % 20 = d := Nat.mod_eq_of_lt (by omega)
  have e1 := c_change M (w := w) (.inr rfl) H.d1 (by omega) hd
  rw [if_neg (by omega), hm] at e1
  have e2 := (e_strk (w1 M 28 d (nI w)) (.inr rfl) (show d < 2 ^ 31 by omega)).2.2.2.2.2.2
  simp only [Nat.reduceAdd] at e2
  rw [w1_o (by decide), hm, p6] at e2
  have e3 := c_change (w1 M 28 d (nI w)) (w := w) (n := e) (d := o) (.inl rfl) (by rw [w1_o (by decide)]; exact H.e1) (by omega) ho
  have e9 : (if 20 < e - o then w1 M 28 d (nI w) else w1 (w1 M 28 d (nI w)) 20 (o % 20) (nI w)).1 1 9 = M.1 1 9 := by
    split
    · rw [w1_o (by decide)]
    · rw [w1_o (by decide), w1_o (by decide)]
  have efM : w1 (if 20 < e - o then w1 M 28 d (nI w) else w1 (w1 M 28 d (nI w)) 20 (o % 20) (nI w)) 1 9 (M.1 1 9 - nI 1) = fM M d o e w := rfl
  unfold fX5_settleByHand
  simp only [Nat.reduceAdd] at e3 ⊢
  simp only [e1, cal_x, e2, e3, bnd_x, e9, nlit', efM, Nat.reduceAdd]
  rw [wp_cal]
  refine wp_mono (c_finish (h := s (404 + 7 * d + 4)) (k := k) (u := u) (d := dw) (q := q) (tb := true) HF hN (.inr rfl) (show d < 2 ^ 31 by omega) hw (by rw [fM_o (by omega) (by omega) (by omega), hm]; exact p0) hk (by rw [fM_o (by omega) (by omega) (by omega), hm]; exact p1) hu (by rw [fM_o (by omega) (by omega) (by omega), hm]; exact p2) hdw (by rw [fM_o (by omega) (by omega) (by omega), hm]; exact p4) (by rw [fM_o (by omega) (by omega) (by omega), hm]; exact p5) hq) (fun _ M1 ⟨f1, f2⟩ => ?_)
  rw [wp_some]
  exact ⟨FC_trans (fun b hb => ⟨fM_o (by omega) (by omega) (by omega), by rw [fM_2]⟩) f1, f2⟩
theorem fin_hi {n w k u q i : Nat} {h : Int32} {tb : Bool} {sx : Nat → Int32} (hw : w < 3) (h1 : 19 ≤ i) (h2 : i < 544) : finS n w k u q h tb sx i = sx i := by
  have r1 : rwC w h sx i = sx i := by
    unfold rwC
    split
    · rw [upd_ne (by omega), upd_ne (by omega)]
    · rw [upd_ne (by omega), upd_ne (by omega)]
  unfold finS
  by_cases hw2 : w = 2
  · subst hw2
    rw [if_pos rfl, r1]
  · have r2 : ∀ sy : Nat → Int32, rwG n w k q sy i = sy i := fun sy => by
      unfold rwG
      split
      · split
        · rfl
        · rw [upd_ne (by omega), upd_ne (by omega)]
      · rfl
    rw [if_neg hw2, r2]
    split
    · rw [upd_ne (by omega), r1]
    · exact r1
end SETTLE

