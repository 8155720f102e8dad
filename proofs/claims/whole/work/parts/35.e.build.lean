theorem nlit' (n : Nat) : (OfNat.ofNat n : Int32) = nI (OfNat.ofNat n) := Eq.trans (nlit n) rfl
def busy (s : Nat → Int32) (k : Nat) : Bool := !decide (s (20 + k) < nI 0) || !decide (s (68 + k) < nI 0)
theorem r_bfree {M : Mem} {r c : Nat} {x y : Int32} {K : Int32 → Mem → Option (Int32 × Mem)} {Q : Int32 → Mem → Prop} (hd : 2 ≤ r ∧ r ≤ 6 ∧ 2 ≤ c ∧ c ≤ 8) (hr : M.1 236 0 = nI r) (hc : M.1 236 1 = nI c)
    (kk : wp (K (b2 (decide (cnt (r * c) (busy (M.1 236)) = 0))) M) Q) : wp (lp (FX9_build_28 235 x y K) 1000000 (1, 0) M) Q := by
  obtain ⟨m48, m0⟩ := mul48 hd
  refine lp_for (r * c) (fun i b M1 => b = (b2 (decide (cnt i (busy (M.1 236)) = 0)), nI i) ∧ M1 = M) (by omega) ⟨rfl, rfl⟩ ?_ ?_
  · rintro i b M1 rec hi ⟨rfl, rfl⟩ k2
    have fin : ∀ v, v = b2 (decide (cnt (i + 1) (busy (M1.1 236)) = 0)) → wp (rec (v, nI (i + 1)) M1) Q := fun v hv => k2 _ _ ⟨by rw [hv], rfl⟩
    unfold FX9_build_28
    rw [r_keys hr hc, cal_e, if_neg (by rw [nI_leI (by omega) (by omega)]; omega), jn_e, jn_e]
    simp (disch := first | omega | (simp only [ln_3, ln_4, ln_5, ln_6, ln_7, ln_8, ln_9, ln_10, ln_11, ln_13, ln_15, ln_17, ln_18, ln_19, ln_20, ln_21, ln_22, ln_23, ln_25, ln_26, ln_27, ln_28, ln_29, ln_30, ln_31, ln_33, ln_234, ln_236, ln_237, ln_238, ln_239, ln_240, ln_241, ln_242, ln_243, ln_244]; omega)) only [nlit, nI_add, r_isDown, r_isSeen, cal_e]
    by_cases h0 : cnt i (busy (M1.1 236)) = 0
    · rw [decide_eq_true h0]
      refine wp_ite.mpr ⟨fun q => absurd q (by decide), fun _ => ?_⟩
      by_cases h1 : M1.1 236 (20 + i) < nI 0
      · rw [decide_eq_true h1]
        refine wp_ite.mpr ⟨fun _ => ?_, fun q => absurd rfl q⟩
        by_cases h2 : M1.1 236 (68 + i) < nI 0
        · rw [decide_eq_true h2]
          refine wp_ite.mpr ⟨fun _ => fin _ ?_, fun q => absurd rfl q⟩
          rw [cnt_succ, h0]
          simp [busy, h1, h2, b2]
        · rw [decide_eq_false h2]
          refine wp_ite.mpr ⟨fun q => absurd q (by decide), fun _ => fin _ ?_⟩
          rw [cnt_succ, h0]
          simp [busy, h1, h2, b2]
      · rw [decide_eq_false h1]
        refine wp_ite.mpr ⟨fun q => absurd q (by decide), fun _ => fin _ ?_⟩
        rw [cnt_succ, h0]
        simp [busy, h1, b2]
    · rw [decide_eq_false h0]
      refine wp_ite.mpr ⟨fun _ => fin _ ?_, fun q => absurd rfl q⟩
      rw [cnt_succ, decide_eq_false (by omega)]
      rfl
  · rintro b M1 rec ⟨rfl, rfl⟩
    unfold FX9_build_28
    rw [r_keys hr hc, cal_e, if_pos (nI_le (Nat.le_refl _) (by omega))]
    exact kk
theorem e_rebuild {M : Mem} {x y : Int32} : fX0_rebuild 2 x y M = some ((), wa (wa (w1 (w1 M 2 0 x) 2 1 y) 4 (cpv (M.1 4) (fun _ => nI 46) 48)) 11 (cpv (M.1 11) (fun _ => nm 1) 2)) := by
  unfold fX0_rebuild
  simp (disch := omega) only [nlit, nm_def, bnd_e, Nat.reduceAdd, e_fill, cal_e, ln_4, ln_11, wa_o, w1_o]
theorem st_build {N : Nat} {M : Mem} {x y : Int32} (h : IV N M) (hN : N < 2 ^ 30) : W2 N (fX8_build 0 x y) (fX9_build 235 x y) M := by
  obtain ⟨r, c, t, e, dt, H⟩ := h.nf
  have hd := H.hd
  have m48 := H.m48
  have hlt2 : ∀ (z : Int32) (a b : Nat), a + 1 < 2 ^ 31 → nI a < z → ¬ z ≤ nI a := fun z a b _ hz => by
    rw [Int32.le_iff_toInt_le]
    rw [Int32.lt_iff_toInt_lt] at hz
    omega
  have hin : ∀ (z : Int32) (b : Nat), b < 100 → (z < nI 2 ∨ nI b < z) ∨ ∃ j, 2 ≤ j ∧ j ≤ b ∧ z = nI j := fun z b hb => by
    rcases pk_ix z (show b + 1 < 2 ^ 31 by omega) with hz | hz | ⟨j, hj, rfl⟩
    · refine .inl (.inl ?_)
      rw [Int32.lt_iff_toInt_lt] at *
      rw [nI_toInt (by decide)]
      have : (0 : Int32).toInt = 0 := rfl
      omega
    · exact .inl (.inr ((lt_of_le_nI (by omega)).mpr hz))
    · by_cases hj2 : j < 2
      · exact .inl (.inl (nI_lt hj2 (by decide)))
      · exact .inr ⟨j, by omega, by omega, rfl⟩
  have hbad : ((x < nI 2 ∨ nI 6 < x) ∨ (y < nI 2 ∨ nI 8 < y)) → W2 N (fX8_build 0 x y) (fX9_build 235 x y) M := fun ho => by
    refine W2_same' (r := nm 2) h ?_ ?_
    · unfold fX8_build
      simp only [nlit', nm_def]
      by_cases h1 : x < nI 2
      · rw [if_pos h1]
      · rw [if_neg h1]
        by_cases h2 : nI 6 < x
        · rw [if_pos h2]
        · rw [if_neg h2]
          by_cases h3 : y < nI 2
          · rw [if_pos h3]
          · rw [if_neg h3]
            have h4 : nI 8 < y := by
              rcases ho with (q | q) | (q | q)
              · exact absurd q h1
              · exact absurd q h2
              · exact absurd q h3
              · exact q
            rw [if_neg (hlt2 y 8 0 (by decide) h4)]
    · unfold fX9_build
      simp only [nlit', nm_def]
      by_cases h1 : x < nI 2 ∨ nI 6 < x
      · rw [e_in0 M h1, cal_e, if_pos rfl]
      · have hx : ∃ j, 2 ≤ j ∧ j ≤ 6 ∧ x = nI j := by
          rcases hin x 6 (by decide) with q | q
          · exact absurd q h1
          · exact q
        obtain ⟨j, j1, j2, rfl⟩ := hx
        rw [e_in1 M j1 j2 (by decide), cal_e, if_neg n10]
        have h2 : y < nI 2 ∨ nI 8 < y := by
          rcases ho with q | q
          · exact absurd q h1
          · exact q
        rw [e_in0 M h2, cal_e, if_pos rfl]
  rcases hin x 6 (by decide) with hx | ⟨r2, x1, x2, rfl⟩
  · exact hbad (.inl hx)
  rcases hin y 8 (by decide) with hy | ⟨c2, y1, y2, rfl⟩
  · exact hbad (.inr hy)
  have hd2 : 2 ≤ r2 ∧ r2 ≤ 6 ∧ 2 ≤ c2 ∧ c2 ≤ 8 := ⟨x1, x2, y1, y2⟩
  obtain ⟨m482, m02⟩ := mul48 hd2
  obtain ⟨cd, cs, _⟩ := H.counts
  have l1 := cnt_le (r * c) (fun k => !decide (M.1 236 (20 + k) < nI 0))
  have l2 := cnt_le (r * c) (fun k => !decide (M.1 236 (68 + k) < nI 0))
  have hbusy : cnt (r * c) (busy (M.1 236)) = 0 ↔ (cnt (r * c) (fun k => !decide (M.1 236 (20 + k) < nI 0)) = 0 ∧ cnt (r * c) (fun k => !decide (M.1 236 (68 + k) < nI 0)) = 0) := by
    rw [cnt_zero, cnt_zero, cnt_zero]
    constructor
    · intro q
      refine ⟨fun i hi => ?_, fun i hi => ?_⟩
      · have := q i hi
        unfold busy at this
        exact (Bool.or_eq_false_iff.mp this).1
      · have := q i hi
        unfold busy at this
        exact (Bool.or_eq_false_iff.mp this).2
    · rintro ⟨q1, q2⟩ i hi
      unfold busy
      exact Bool.or_eq_false_iff.mpr ⟨q1 i hi, q2 i hi⟩
  have cin : ∀ X Y : Option (Int32 × Mem), (if nI r2 < nI 2 then X else if nI 6 < nI r2 then X else if nI c2 < nI 2 then X else if nI c2 ≤ nI 8 then Y else X) = Y := fun X Y => by
    rw [if_neg (by rw [nI_ltI (by omega) (by omega)]; omega), if_neg (by rw [nI_ltI (by omega) (by omega)]; omega), if_neg (by rw [nI_ltI (by omega) (by omega)]; omega), if_pos (nI_le y2 (by decide))]
  have rin : ∀ M2 : Mem, fX9_in (nI r2) (nI 2) (nI 6) M2 = some (nI 1, M2) ∧ fX9_in (nI c2) (nI 2) (nI 8) M2 = some (nI 1, M2) := fun M2 => ⟨e_in1 M2 x1 x2 (by decide), e_in1 M2 y1 y2 (by decide)⟩
  by_cases hfr : cnt (r * c) (busy (M.1 236)) = 0
  · obtain ⟨z1, z2⟩ := hbusy.mp hfr
    by_cases hsame : r = r2 ∧ c = c2
    · obtain ⟨rfl, rfl⟩ := hsame
      refine W2_same (r := nm 5) h ?_ ?_
      · unfold fX8_build
        simp only [nlit', nm_def, Nat.reduceAdd, cin, cd, z1, cal_e, cs, z2, jn_e, H.hr, H.hc]
        simp (disch := omega) only [nI_ltI, Nat.lt_irrefl, if_false, nI_leI, Nat.le_refl, if_true]
      · unfold fX9_build
        simp only [nlit', nm_def, (rin M).1, (rin M).2, cal_e, n10, if_false]
        refine r_bfree hd H.sr H.sc ?_
        rw [decide_eq_true hfr]
        refine wp_ite.mpr ⟨fun q => absurd q (by decide), fun _ => ?_⟩
        simp (disch := first | omega | (simp only [ln_3, ln_4, ln_5, ln_6, ln_7, ln_8, ln_9, ln_10, ln_11, ln_13, ln_15, ln_17, ln_18, ln_19, ln_20, ln_21, ln_22, ln_23, ln_25, ln_26, ln_27, ln_28, ln_29, ln_30, ln_31, ln_33, ln_234, ln_236, ln_237, ln_238, ln_239, ln_240, ln_241, ln_242, ln_243, ln_244]; omega)) only [inb_nI, nI_clamp, asr_e, jn_e, Nat.reduceAdd, ln_236, H.sr, H.sc, if_true, wp_some, implies_true, and_self]
    · obtain ⟨q0, st, M1, e0, hc, g1⟩ := mut_rec h
      have hcl : fX8_build 0 (nI r2) (nI c2) M = some (nI (r2 * c2), wa (wa (w1 (w1 M1 2 0 (nI r2)) 2 1 (nI c2)) 4 (cpv (M1.1 4) (fun _ => nI 46) 48)) 11 (cpv (M1.1 11) (fun _ => nm 1) 2)) := by
        have es : ∀ M2 : Mem, M2.1 2 0 = nI r2 → M2.1 2 1 = nI c2 → fX0_size 2 M2 = some (nI (r2 * c2), M2) := fun M2 p q => e_size p q
        have e2 := es (wa (wa (w1 (w1 M1 2 0 (nI r2)) 2 1 (nI c2)) 4 (cpv (M1.1 4) (fun _ => nI 46) 48)) 11 (cpv (M1.1 11) (fun _ => nm 1) 2)) (by simp (disch := omega) [wa_o, w1_1]) (by simp (disch := omega) [wa_o, w1_1])
        have hbr : ∀ X Y : Option (Int32 × Mem), (if nI r = nI r2 then if nI c = nI c2 then X else Y else Y) = Y := fun X Y => by
          by_cases q : r = r2
          · rw [if_pos (by rw [q]), if_neg (by rw [nI_eq (by omega) (by omega)]; exact fun q2 => hsame ⟨q, q2⟩)]
          · rw [if_neg (by rw [nI_eq (by omega) (by omega)]; exact q)]
        unfold fX8_build
        simp only [nlit', nm_def, Nat.reduceAdd, cin, cd, z1, cal_e, cs, z2, jn_e, H.hr, H.hc, e0, e_rebuild, e2, hbr]
        simp (disch := omega) only [nI_ltI, Nat.lt_irrefl, if_false, nI_leI, Nat.le_refl, if_true]
      refine wp_of hcl ?_
      have f2 : ∀ j, j ≠ 2 → j ≠ 4 → j ≠ 11 → (wa (wa (w1 (w1 M1 2 0 (nI r2)) 2 1 (nI c2)) 4 (cpv (M1.1 4) (fun _ => nI 46) 48)) 11 (cpv (M1.1 11) (fun _ => nm 1) 2)).1 j = M1.1 j := fun j h1 h2 h3 => by rw [wa_o h3, wa_o h2, w1_o h1, w1_o h1]
      have gB : (wa (wa (w1 (w1 M1 2 0 (nI r2)) 2 1 (nI c2)) 4 (cpv (M1.1 4) (fun _ => nI 46) 48)) 11 (cpv (M1.1 11) (fun _ => nm 1) 2)).2 = M1.2 := rfl
      have g2 : (wa (wa (w1 (w1 M1 2 0 (nI r2)) 2 1 (nI c2)) 4 (cpv (M1.1 4) (fun _ => nI 46) 48)) 11 (cpv (M1.1 11) (fun _ => nm 1) 2)).1 2 0 = nI r2 ∧ (wa (wa (w1 (w1 M1 2 0 (nI r2)) 2 1 (nI c2)) 4 (cpv (M1.1 4) (fun _ => nI 46) 48)) 11 (cpv (M1.1 11) (fun _ => nm 1) 2)).1 2 1 = nI c2 := ⟨by simp (disch := omega) [wa_o, w1_1], by simp (disch := omega) [wa_o, w1_1]⟩
      have g4 : ∀ j, j < 48 → (wa (wa (w1 (w1 M1 2 0 (nI r2)) 2 1 (nI c2)) 4 (cpv (M1.1 4) (fun _ => nI 46) 48)) 11 (cpv (M1.1 11) (fun _ => nm 1) 2)).1 4 j = nI 46 := fun j hj => by rw [wa_o (by decide), wa_self, cpv_lt hj]
      have g11 : ∀ j, j < 2 → (wa (wa (w1 (w1 M1 2 0 (nI r2)) 2 1 (nI c2)) 4 (cpv (M1.1 4) (fun _ => nI 46) 48)) 11 (cpv (M1.1 11) (fun _ => nm 1) 2)).1 11 j = nm 1 := fun j hj => by rw [wa_self, cpv_lt hj]
      generalize (wa (wa (w1 (w1 M1 2 0 (nI r2)) 2 1 (nI c2)) 4 (cpv (M1.1 4) (fun _ => nI 46) 48)) 11 (cpv (M1.1 11) (fun _ => nm 1) 2)) = M2 at *
      have e236 : M2.1 236 = M.1 236 := by rw [f2 236 (by decide) (by decide) (by decide), (g1 _ (by omega)).1]
      unfold fX9_build
      simp only [nlit', nm_def, (rin M2).1, (rin M2).2, cal_e, n10, if_false]
      refine r_bfree (r := r) (c := c) hd (by rw [e236]; exact H.sr) (by rw [e236]; exact H.sc) ?_
      rw [e236, decide_eq_true hfr]
      refine wp_ite.mpr ⟨fun q => absurd q (by decide), fun _ => ?_⟩
      simp (disch := first | omega | (simp only [ln_3, ln_4, ln_5, ln_6, ln_7, ln_8, ln_9, ln_10, ln_11, ln_13, ln_15, ln_17, ln_18, ln_19, ln_20, ln_21, ln_22, ln_23, ln_25, ln_26, ln_27, ln_28, ln_29, ln_30, ln_31, ln_33, ln_234, ln_236, ln_237, ln_238, ln_239, ln_240, ln_241, ln_242, ln_243, ln_244]; omega)) only [inb_nI, nI_clamp, asr_e, jn_e, Nat.reduceAdd, ln_236, H.sr, H.sc, e236]
      have hb2 : ∀ (X Y : Option (Int32 × Mem)) (Q : Int32 → Mem → Prop), wp Y Q → wp (if nI r2 = nI r then if nI c2 = nI c then X else Y else Y) Q := fun X Y Q hY => by
        by_cases q : r2 = r
        · rw [if_pos (by rw [q]), if_neg (by rw [nI_eq (by omega) (by omega)]; exact fun q2 => hsame ⟨q.symm, q2.symm⟩)]
          exact hY
        · rw [if_neg (by rw [nI_eq (by omega) (by omega)]; exact q)]
          exact hY
      refine hb2 _ _ _ (mut_ref h (Nat.le_refl N) hc g1 (fun j hj => ⟨f2 j (by omega) (by omega) (by omega), by rw [gB]⟩) (fun M3 b1' b2' => ?_))
      have s236 : M3.1 236 = M.1 236 := by rw [b1' _ (by omega) (by omega) (by omega), e236]
      simp only [bnd_e, r_clear, cal_e]
      rw [r_keys (r := r2) (c := c2) (by rw [wa_self, ck_lo (by omega)]; simp [w1_1]) (by rw [wa_self, ck_lo (by omega)]; simp [w1_1]), cal_e, wp_some]
      refine ⟨rfl, ⟨r2, c2, t, e, dt, RS_build (A := vA M 1) (B := vB M 1) (s := M.1 236) (φ := M.2 240) H hN hd2 (fun k hk => ?_) (eA_of (X := fun k => k == 1 || k == 3 || k == 10) g1 (fun j hj => f2 _ (by simp at hj; omega) (by simp at hj; omega) (by simp at hj; omega)) b1' (fun j hj => by rw [wa_o (by omega), w1_o (by omega), w1_o (by omega), w1_o (by omega), w1_o (by omega)])) ?_ (fun j hj => ?_) (fun p hp => ?_) (eB_of g1 (fun j _ => by rw [gB]) b2' (fun j _ => rfl)) ⟨?_, ?_, ?_, ?_⟩ (fun i i0 i1 i5 i6 hi => ?_) (fun k hk => ?_) (fun i _ => ?_)⟩, fun j h1 h2 h3 => by rw [wa_o h3, w1_o h3, w1_o h3, w1_o h3, w1_o h3], fun j hj => by rw [wa_o (by decide), w1_o (by decide), w1_o (by decide), w1_o (by decide), w1_o (by decide)], fun j _ _ => rfl⟩
      · have q1 := cnt_zero.mp z1 k hk
        have q2 := cnt_zero.mp z2 k hk
        simp at q1 q2
        exact ⟨q1, q2⟩
      · show (wa _ 236 _).1 2 0 = _ ∧ (wa _ 236 _).1 2 1 = _
        rw [wa_o (by omega), w1_o (by omega), w1_o (by omega), w1_o (by omega), w1_o (by omega), b1' _ (by omega) (by omega) (by omega)]
        exact g2
      · show (wa _ 236 _).1 4 j = _
        rw [wa_o (by omega), w1_o (by omega), w1_o (by omega), w1_o (by omega), w1_o (by omega), b1' _ (by omega) (by omega) (by omega)]
        exact g4 j hj
      · show (wa _ 236 _).1 11 p = _
        rw [wa_o (by omega), w1_o (by omega), w1_o (by omega), w1_o (by omega), w1_o (by omega), b1' _ (by omega) (by omega) (by omega)]
        exact g11 p hp
      · rw [wa_self, ck_lo (by omega)]; simp [w1_1]
      · rw [wa_self, ck_lo (by omega)]; simp [w1_1]
      · rw [wa_self, ck_lo (by omega)]; simp [w1_1]
      · rw [wa_self, ck_lo (by omega)]; simp [w1_1]
      · rw [wa_self, show ck _ 48 i = _ from (by rcases hi with hi | hi; exact ck_lo hi; exact ck_hi hi)]
        simp [w1_1, i0, i1, i5, i6, s236]
      · rw [wa_self]
        exact ck_k hk
      · rw [wa_2, w1_2, w1_2, w1_2, w1_2, b2' _ (by omega) (by omega), gB, (g1 _ (by omega)).2]
  · have hn : ¬ (cnt (r * c) (fun k => !decide (M.1 236 (20 + k) < nI 0)) = 0 ∧ cnt (r * c) (fun k => !decide (M.1 236 (68 + k) < nI 0)) = 0) := fun q => hfr (hbusy.mpr q)
    refine W2_same (r := nm 4) h ?_ ?_
    · unfold fX8_build
      simp only [nlit', nm_def, Nat.reduceAdd, cin, cd, cal_e, cs]
      by_cases q : cnt (r * c) (fun k => !decide (M.1 236 (20 + k) < nI 0)) = 0
      · rw [q, if_neg (nI_nlt0 (by decide)), if_neg (by rw [nI_leI (by omega) (by omega)]; omega)]
      · rw [if_pos (nI_lt (by omega) (by omega))]
    · unfold fX9_build
      simp only [nlit', nm_def, (rin M).1, (rin M).2, cal_e, n10, if_false]
      refine r_bfree hd H.sr H.sc ?_
      rw [decide_eq_false hfr]
      exact wp_ite.mpr ⟨fun _ => wp_some.mpr ⟨rfl, fun _ _ => rfl, fun _ _ => rfl, rfl⟩, fun q => absurd rfl q⟩
