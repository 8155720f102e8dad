/-! PURE: answers that are errors -/
def ok1 (x : Option (Int32 × Mem)) : Prop := ∃ M2, x = some (nI 1, M2)
theorem jn_ok {γ : Type} {K : γ → Mem → Option (Int32 × Mem)} {F : (γ → Mem → Option (Int32 × Mem)) → Option (Int32 × Mem)} (v : γ) (M : Mem) (h : ∀ K, F K = K v M) (h2 : ok1 (K v M)) : ok1 (jn K F) := by
  unfold jn
  rw [h K]
  exact h2
/-- only the text differs -/
def TF (M M2 : Mem) : Prop := (∀ k, k ≠ 233 → k ≠ 234 → M2.1 k = M.1 k) ∧ M2.2 = M.2
section ER
variable {r c t e dt N : Nat} {M : Mem} {s : Nat → Int32} {φ : Nat → UInt32}
theorem er_press (H : CV r c t e dt N M s φ) : fX8_press 0 (nI 2) (nI 0) M = some (nm 1, M) ∧ fX8_press 0 (nI 0) (nm 1) M = some (nm 1, M) ∧ fX8_release 0 (nm 1) (nI 0) M = some (nm 1, M) := by
  have n1 : ¬ nm 1 = nI 0 := by decide
  have l1 : nm 1 < nI 0 := nm_lt0 (by decide) (by decide)
  have l2 : nI 2 ≤ nI 2 := by decide
  have e1 := (cp_outC H (x := nI 2) (y := nI 0) (.inl (.inr l2))).1
  have e2 := (cp_outC H (x := nI 0) (y := nm 1) (.inr (.inl l1))).1
  have e3 := (cp_outC H (x := nm 1) (y := nI 0) (.inl (.inl l1))).2
  refine ⟨?_, ?_, ?_⟩
  · unfold fX8_press
    simp only [Nat.reduceAdd, e1, cal_x, nlit', n1, if_false]
  · unfold fX8_press
    simp only [Nat.reduceAdd, e2, cal_x, nlit', n1, if_false]
  · unfold fX8_release
    simp only [Nat.reduceAdd, e3, cal_x, nlit', n1, if_false]
theorem er_tick (M : Mem) : fX8_tick 0 (nI 0) M = some (nm 2, M) ∧ fX8_tick 0 (nI 100) M = some (nm 2, M) := by
  have a1 : nI 0 < nI 1 := by decide
  have a2 : ¬ nI 100 < nI 1 := by decide
  have a3 : ¬ nI 100 ≤ nI 99 := by decide
  constructor
  · unfold fX8_tick
    simp only [nlit', nm_x, a1, if_true]
  · unfold fX8_tick
    simp only [nlit', nm_x, a2, a3, if_false]
theorem er_build (M : Mem) : fX8_build 0 (nI 1) (nI 2) M = some (nm 2, M) ∧ fX8_build 0 (nI 6) (nI 9) M = some (nm 2, M) := by
  have a1 : nI 1 < nI 2 := by decide
  have a2 : ¬ nI 6 < nI 2 := by decide
  have a3 : ¬ nI 6 < nI 6 := by decide
  have a4 : ¬ nI 9 < nI 2 := by decide
  have a5 : ¬ nI 9 ≤ nI 8 := by decide
  constructor
  · unfold fX8_build
    simp only [nlit', nm_x, a1, if_true]
  · unfold fX8_build
    simp only [nlit', nm_x, a2, a3, a4, a5, if_false]
theorem er_set (H : CV r c t e dt N M s φ) (h4 : φ 4 = 1040187392) : fX8_set 0 (nI 3) (nI 0) M = some (nm 2, M) ∧ fX8_set 0 (nI 0) (nm 2147483648) M = some (nm 2, M) ∧ fX8_set 0 (nI 2) (nI 1065353217) M = some (nm 2, M) ∧ fX8_set 0 (nI 0) (nI 2143289344) M = some (nm 2, M) ∧ fX8_set 0 (nI 0) (nI 1040187392) M = some (nm 5, M) := by
  have e1 := e_accN (x := nI 3) (y := nI 0) M (.inl (.inr (by decide)))
  have e2 := e_accN (x := nI 0) (y := nm 2147483648) M (.inr (by decide))
  have e3 := e_acc (w := 2) (b := 1065353217) M (by omega) (by omega)
  have e4 := e_acc (w := 0) (b := 2143289344) M (by omega) (by omega)
  have e5 := e_acc (w := 0) (b := 1040187392) M (by omega) (by omega)
  rw [if_pos (by decide)] at e3
  rw [if_pos (by decide)] at e4
  rw [if_neg (by decide)] at e5
  refine ⟨?_, ?_, ?_, ?_, ?_⟩
  · unfold fX8_set
    simp only [e1, cal_x, nlit', nm_x, if_true]
  · unfold fX8_set
    simp only [e2, cal_x, nlit', nm_x, if_true]
  · unfold fX8_set
    simp only [e3, cal_x, nlit', nm_x, if_true]
  · unfold fX8_set
    simp only [e4, cal_x, nlit', nm_x, if_true]
  · obtain ⟨⟨b, hb, b1, b2⟩, _⟩ := H.set0
    have hbe : b = 1040187392 := by
      have q := toU_n (b := b) (by omega)
      rw [← b2, h4] at q
      exact q.symm
    subst hbe
    unfold fX8_set fX4_bitsOf
    simp only [Nat.reduceAdd, e5, cal_x, nlit', nm_x, n10, if_false, e_at (a := 33) (j := 0) M (by decide), b1, if_true]
theorem er_sign (H : CV r c t e dt N M s φ) : fX8_setSign 0 (nI 0) (nI 65) M = some (nm 2, M) ∧ fX8_setSign 0 (nm 1) (nI 97) M = some (nm 1, M) := by
  have e1 := e_has H.hr H.hc H.m0 H.m31
  have e2 := e_hasn (M := M) (x := nm 1) H.hr H.hc (.inl (nm_lt0 (by decide) (by decide)))
  have a1 : ¬ nI 65 = nI 46 := by decide
  have a2 : nI 65 < nI 97 := by decide
  constructor
  · unfold fX8_setSign
    simp only [Nat.reduceAdd, nlit', nm_x, e1, cal_x, n10, if_false, jn_x, a1, a2, if_true]
  · unfold fX8_setSign
    simp only [Nat.reduceAdd, nlit', nm_x, e2, cal_x, if_true]
theorem er_nan : ¬ fcl 2143289344 2143289344 = nI 0 := by decide +kernel
theorem TF_tr {M1 M2 : Mem} (h : TF M M1) (g : TF M1 M2) : TF M M2 := ⟨fun k h1 h2 => (g.1 k h1 h2).trans (h.1 k h1 h2), g.2.trans h.2⟩
theorem er_type {L x : Nat} {ch ch2 : Nat → Nat} (T : TC L ch M) (hL : L < 60) (hx : x < 65536) (h1 : ∀ j, j < L → ch2 j = ch j) (h2 : ch2 L = x) : ∃ M2, fX8_type 0 (nI x) M = some (nI (L + 1), M2) ∧ TC (L + 1) ch2 M2 ∧ TF M M2 := by
  obtain ⟨t1, t2⟩ := T
  refine ⟨w1 (w1 M 234 L (nI x)) 233 0 (nI (L + 1)), ?_, ⟨by rw [w1_self]; exact upd_eq rfl, fun j hj => ?_⟩, ⟨fun k h1 h2 => by rw [w1_o h1, w1_o h2], rfl⟩⟩
  · have a1 : ¬ nI L < nI 0 := nI_nlt0 (by omega)
    have a2 : nI L < nI 60 := by rw [nI_ltI (by omega) (by decide)]; exact hL
    unfold fX8_type fX3_append
    simp only [Nat.reduceAdd, nlit', nm_x, t1, a1, if_false, ln_234, a2, if_true, inb_nI (show L < 60 from hL) (by decide), asr_x, bnd_e, nI_clamp (show L < 2 ^ 31 by omega), nar_nI hx, cal_x, n10, w1_o (show (233 : Nat) ≠ 234 by decide), nI_add]
    rw [w1_self, upd_eq rfl]
  · rw [w1_o (by decide), w1_self]
    by_cases q : j = L
    · subst q
      rw [upd_eq rfl, h2]
    · rw [upd_ne q, t2 j (by omega), h1 j (by omega)]
theorem er_clear {L : Nat} {ch ch2 : Nat → Nat} (T : TC L ch M) : ∃ M2, fX8_clearText 0 M = some (nI L, M2) ∧ TC 0 ch2 M2 ∧ TF M M2 := by
  obtain ⟨t1, t2⟩ := T
  refine ⟨w1 M 233 0 (nI 0), ?_, ⟨by rw [w1_self]; exact upd_eq rfl, fun j hj => absurd hj (Nat.not_lt_zero j)⟩, ⟨fun k h1 h2 => by rw [w1_o h1], rfl⟩⟩
  unfold fX8_clearText
  simp only [Nat.reduceAdd, nlit', t1, bnd_e]
theorem er_perf {L i : Nat} {ch : Nat → Nat} {y : Int32} (T : TC L ch M) (hL : L ≤ 60) (hch : ∀ j, j < L → ch j < 65536) (hs : scan ch L 0 0 = some i) (hi : i < 60) (hy : nm 100 - nI i = y) : fX8_perform 0 M = some (y, M) := by
  have e := c_fault hL hch T
  rw [hs] at e
  have : ¬ nI i = nm 1 := by rw [nI_nm (by omega) (by decide) (by decide)]; exact not_false
  unfold fX8_perform
  simp only [Nat.reduceAdd, e, cal_x, nlit', nm_x, fv, this, if_false, hy]
end ER
