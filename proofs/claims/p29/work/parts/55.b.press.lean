/-! PURE: press, release, as the law asks for them -/
section PR
variable {r c t e dt N : Nat} {M : Mem} {s : Nat → Int32} {φ : Nat → UInt32}
theorem j_press (h : JS N r c t e dt M s φ) (hN : N < 2 ^ 30) {p k : Nat} (hp : p < 2) (hk : k < r * c) :
    (s (20 + k) < nI 0 ∧ cnt (r * c) (fun j => decide (s (20 + j) = nI p)) ≠ 5 ∧ ∃ M2, fX8_press 0 (nI p) (nI k) M = some (nI (cnt (r * c) (fun j => decide (s (20 + j) = nI p)) + 1), M2) ∧ JS N r c t e dt M2 (upd s (20 + k) (nI p)) φ) ∨
    (s (20 + k) < nI 0 ∧ cnt (r * c) (fun j => decide (s (20 + j) = nI p)) = 5 ∧ fX8_press 0 (nI p) (nI k) M = some (nm 3, M)) ∨
    (¬ s (20 + k) < nI 0 ∧ fX8_press 0 (nI p) (nI k) M = some (nm 4, M)) := by
  obtain ⟨H, X, hx, h233, h12⟩ := h
  have hd := H.hd
  have m48 := H.m48
  have hkr := divr hk
  have hpe := (cp_inC H hp hk).1
  by_cases hup : s (20 + k) < nI 0
  · by_cases h5 : cnt (r * c) (fun j => decide (s (20 + j) = nI p)) = 5
    · refine .inr (.inl ⟨hup, h5, ?_⟩)
      unfold fX8_press
      have : agP s (r * c) p k = nm 3 := by
        unfold agP
        rw [if_pos hup, if_pos h5]
      rw [this] at hpe
      simp only [Nat.reduceAdd, hpe, cal_x, nlit', nm34.1, if_false]
    · refine .inl ⟨hup, h5, ?_⟩
      have : agP s (r * c) p k = nI 0 := by
        unfold agP
        rw [if_pos hup, if_neg h5]
      rw [this] at hpe
      obtain ⟨M1, e1, hx1, H1, f1⟩ := h_rem H hx
      have hl := H.held5 hp
      have e2 := e_putDown (M := M1) (x := nI p) H1.hc (by omega) hd.2.2.2 (show k / c < 6 by omega) (show k < 48 by omega)
      have f2 : ∀ j, j ≠ 3 → j ≠ 8 → (w1 (w1 M1 3 k (nI p)) 8 (k / c) (M1.1 8 (k / c) ||| pw (k % c))).1 j = M1.1 j := fun j h1 h2 => by rw [w1_o h2, w1_o h1]
      have g3 : (w1 (w1 M1 3 k (nI p)) 8 (k / c) (M1.1 8 (k / c) ||| pw (k % c))).1 3 = upd (M1.1 3) k (nI p) := by rw [w1_o (by decide), w1_self]
      have g8 : (w1 (w1 M1 3 k (nI p)) 8 (k / c) (M1.1 8 (k / c) ||| pw (k % c))).1 8 = upd (M1.1 8) (k / c) (M1.1 8 (k / c) ||| pw (k % c)) := by rw [w1_self, w1_o (by decide)]
      have gB : (w1 (w1 M1 3 k (nI p)) 8 (k / c) (M1.1 8 (k / c) ||| pw (k % c))).2 = M1.2 := rfl
      unfold fX8_press
      simp only [Nat.reduceAdd, hpe, cal_x, nlit', if_true, e1, e2]
      generalize (w1 (w1 M1 3 k (nI p)) 8 (k / c) (M1.1 8 (k / c) ||| pw (k % c))) = M2 at *
      have H2 : CV r c t e dt N M2 (upd s (20 + k) (nI p)) φ := by
        refine RS_press (A := vA M1 1) (B := vB M1 1) (s := s) (φ := φ) H1 hk hp (by omega) hup (fun j hj hj2 => ?_) ?_ ?_ (fun j hj _ => ?_) (fun i hi => ?_) ?_ (fun i _ => rfl)
        · simp only [Bool.or_eq_false_iff, beq_eq_false_iff_ne] at hj2
          exact f2 _ (by omega) (by omega)
        · exact g3
        · exact g8
        · show M2.2 (1 + j) = M1.2 (1 + j)
          rw [gB]
        · exact upd_ne hi
        · exact upd_eq rfl
      have hc : cnt (r * c) (fun j => decide (upd s (20 + k) (nI p) (20 + j) = nI p)) = cnt (r * c) (fun j => decide (s (20 + j) = nI p)) + 1 := by
        refine cnt_dec hk ?_ ?_ (fun i hi hik => ?_)
        · rw [upd_eq rfl, decide_eq_true rfl]
        · rcases H.hold hk with ⟨_, g⟩ | ⟨j, hj, _, g⟩
          · rw [g]
            exact decide_eq_false (by rw [nm_nI (by omega) (by decide) (by decide)]; exact not_false)
          · rw [g] at hup
            exact absurd hup (nI_nlt0 (by omega))
        · rw [upd_ne (by omega)]
      refine ⟨M2, ?_, H2, ?_, ?_, ?_, h12⟩
      · rw [e_heldBy, cal_x, held_eqC H2 hp, hc]
      · exact EX_f X m48 H.d20 (fun i hi => upd_ne (by omega)) (upd_ne (by omega))
      · exact HX_f hx1 (fun j h1 h2 => f2 j (by omega) (by omega)) (Nat.le_refl t)
      · rw [f2 233 (by omega) (by omega), (f1 233 (by omega)).1, h233]
  · refine .inr (.inr ⟨hup, ?_⟩)
    unfold fX8_press
    have : agP s (r * c) p k = nm 4 := by
      unfold agP
      rw [if_neg hup]
    rw [this] at hpe
    simp only [Nat.reduceAdd, hpe, cal_x, nlit', nm34.2.1, if_false]
theorem j_release (h : JS N r c t e dt M s φ) (hN : N < 2 ^ 30) {p k : Nat} (hp : p < 2) (hk : k < r * c) :
    (s (20 + k) = nI p ∧ 0 < cnt (r * c) (fun j => decide (s (20 + j) = nI p)) ∧ ∃ M2, fX8_release 0 (nI p) (nI k) M = some (nI (cnt (r * c) (fun j => decide (s (20 + j) = nI p)) - 1), M2) ∧ JS N r c t e dt M2 (upd s (20 + k) (nm 5)) φ) ∨
    (¬ s (20 + k) = nI p ∧ fX8_release 0 (nI p) (nI k) M = some (nm 4, M)) := by
  obtain ⟨H, X, hx, h233, h12⟩ := h
  have hd := H.hd
  have m48 := H.m48
  have hkr := divr hk
  have hpe := (cp_inC H hp hk).2
  by_cases hup : s (20 + k) = nI p
  · have : agR s p k = nI 0 := by
      unfold agR
      rw [if_pos hup]
    rw [this] at hpe
    obtain ⟨M1, e1, hx1, H1, f1⟩ := h_rem H hx
    have e2 := e_liftUp (M := M1) H1.hc (by omega) hd.2.2.2 (show k / c < 6 by omega) (show k < 48 by omega)
    have f2 : ∀ j, j ≠ 3 → j ≠ 8 → (w1 (w1 M1 3 k (nm 1)) 8 (k / c) (M1.1 8 (k / c) &&& (pw (k % c) ^^^ nm 1))).1 j = M1.1 j := fun j h1 h2 => by rw [w1_o h2, w1_o h1]
    have g3 : (w1 (w1 M1 3 k (nm 1)) 8 (k / c) (M1.1 8 (k / c) &&& (pw (k % c) ^^^ nm 1))).1 3 = upd (M1.1 3) k (nm 1) := by rw [w1_o (by decide), w1_self]
    have g8 : (w1 (w1 M1 3 k (nm 1)) 8 (k / c) (M1.1 8 (k / c) &&& (pw (k % c) ^^^ nm 1))).1 8 = upd (M1.1 8) (k / c) (M1.1 8 (k / c) &&& (pw (k % c) ^^^ nm 1)) := by rw [w1_self, w1_o (by decide)]
    have gB : (w1 (w1 M1 3 k (nm 1)) 8 (k / c) (M1.1 8 (k / c) &&& (pw (k % c) ^^^ nm 1))).2 = M1.2 := rfl
    have hc : cnt (r * c) (fun j => decide (s (20 + j) = nI p)) = cnt (r * c) (fun j => decide (upd s (20 + k) (nm 5) (20 + j) = nI p)) + 1 := by
      refine cnt_dec hk ?_ ?_ (fun i hi hik => ?_)
      · rw [hup, decide_eq_true rfl]
      · rw [upd_eq rfl]
        exact decide_eq_false (by rw [nm_nI (by omega) (by decide) (by decide)]; exact not_false)
      · rw [upd_ne (by omega)]
    refine .inl ⟨hup, by omega, ?_⟩
    unfold fX8_release
    simp only [Nat.reduceAdd, hpe, cal_x, nlit', if_true, e1, e2]
    generalize (w1 (w1 M1 3 k (nm 1)) 8 (k / c) (M1.1 8 (k / c) &&& (pw (k % c) ^^^ nm 1))) = M2 at *
    have H2 : CV r c t e dt N M2 (upd s (20 + k) (nm 5)) φ := by
      refine RS_release (A := vA M1 1) (B := vB M1 1) (s := s) (φ := φ) H1 hk (fun j hj hj2 => ?_) ?_ ?_ (fun j hj _ => ?_) (fun i hi => ?_) ?_ (fun i _ => rfl)
      · simp only [Bool.or_eq_false_iff, beq_eq_false_iff_ne] at hj2
        exact f2 _ (by omega) (by omega)
      · exact g3
      · exact g8
      · show M2.2 (1 + j) = M1.2 (1 + j)
        rw [gB]
      · exact upd_ne hi
      · exact upd_eq rfl
    refine ⟨M2, ?_, H2, ?_, ?_, ?_, h12⟩
    · rw [e_heldBy, cal_x, held_eqC H2 hp, hc, Nat.add_sub_cancel]
    · exact EX_f X m48 H.d20 (fun i hi => upd_ne (by omega)) (upd_ne (by omega))
    · exact HX_f hx1 (fun j h1 h2 => f2 j (by omega) (by omega)) (Nat.le_refl t)
    · rw [f2 233 (by omega) (by omega), (f1 233 (by omega)).1, h233]
  · refine .inr ⟨hup, ?_⟩
    unfold fX8_release
    have : agR s p k = nm 4 := by
      unfold agR
      rw [if_neg hup]
    rw [this] at hpe
    simp only [Nat.reduceAdd, hpe, cal_x, nlit', nm34.2.1, if_false]
theorem j_tick (h : JS N r c t e dt M s φ) {n : Nat} (h1 : 1 ≤ n) (hn : n ≤ 99) (hN : N + 17 * n + 40 < 2 ^ 24) :
    ∃ M2 s2 φ2 dt2 z, fX8_tick 0 (nI n) M = some (nI z, M2) ∧ JS (N + 17 * n) r c (t + n) (e + z) dt2 M2 s2 φ2 := by
  obtain ⟨H, X, hx, h233, h12⟩ := h
  obtain ⟨M1, e1, hx1, H1, f1⟩ := h_rem H hx
  obtain ⟨M2, s2, φ2, dt2, z, F2, H2, X2, e2⟩ := c_ticks H1 hn hN X
  refine ⟨M2, s2, φ2, dt2, z, ?_, H2, X2, HX_f hx1 (fun j h1 h2 => (F2 j (by omega)).1) (by omega), ?_, h12⟩
  · have a1 : ¬ nI n < nI 1 := by rw [nI_ltI (by omega) (by decide)]; omega
    have a2 : nI n ≤ nI 99 := by rw [nI_leI (by omega) (by decide)]; omega
    unfold fX8_tick
    simp only [nlit', Nat.reduceAdd, a1, a2, if_true, if_false, e1, cal_x, e2]
  · rw [(F2 233 (by omega)).1, (f1 233 (by omega)).1, h233]
end PR
