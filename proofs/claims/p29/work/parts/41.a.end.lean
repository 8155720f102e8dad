/-! PURE: a stroke ends: the rings -/
theorem rDis_e {dt e e2 N : Nat} {A : Nat → Nat → Int32} {s : Nat → Int32} (h : rDis dt e N A s) (he : e ≤ e2) : rDis dt e2 N A s := by
  refine ⟨h.1, h.2.1, h.2.2.1, fun d hd => ?_, h.2.2.2.2⟩
  obtain ⟨q1, q2, q3, q4, q5, q6, ⟨o, ho, q7⟩⟩ := h.2.2.2.1 d hd
  exact ⟨q1, q2, q3, q4, q5, q6, ⟨o, by omega, q7⟩⟩
def rwE (s : Nat → Int32) (e k u d w : Nat) (h q : Int32) : Nat → Int32 := upd (upd (upd (upd (upd (upd (upd s (308 + 6 * (e % 16)) (nI k)) (308 + 6 * (e % 16) + 1) (nI u)) (308 + 6 * (e % 16) + 2) (nI d)) (308 + 6 * (e % 16) + 3) (nI w)) (308 + 6 * (e % 16) + 4) h) (308 + 6 * (e % 16) + 5) q) 9 (nI (e + 1))
def eM (M : Mem) (e k u d w : Nat) (h q : Int32) : Mem := w1 (w1 (w1 (w1 (w1 (w1 (w1 M 17 (e % 20) (nI k)) 18 (e % 20) (nI u)) 19 (e % 20) (nI d)) 20 (e % 20) (nI w)) 21 (e % 20) h) 22 (e % 20) q) 16 0 (nI (e + 1))
theorem rwE_o {s : Nat → Int32} {e k u d w i : Nat} {h q : Int32} (h9 : i ≠ 9) (hi : i < 308 ∨ 404 ≤ i) : rwE s e k u d w h q i = s i := by
  have := Nat.mod_lt e (show 0 < 16 by decide)
  unfold rwE
  rw [upd_ne h9, upd_ne (by omega), upd_ne (by omega), upd_ne (by omega), upd_ne (by omega), upd_ne (by omega), upd_ne (by omega)]
theorem rwE_9 {s : Nat → Int32} {e k u d w : Nat} {h q : Int32} : rwE s e k u d w h q 9 = nI (e + 1) := upd_eq rfl
theorem rwE_in {s : Nat → Int32} {e k u d w : Nat} {h q : Int32} : rwE s e k u d w h q (308 + 6 * (e % 16)) = nI k ∧ rwE s e k u d w h q (308 + 6 * (e % 16) + 1) = nI u ∧ rwE s e k u d w h q (308 + 6 * (e % 16) + 2) = nI d ∧ rwE s e k u d w h q (308 + 6 * (e % 16) + 3) = nI w ∧ rwE s e k u d w h q (308 + 6 * (e % 16) + 4) = h ∧ rwE s e k u d w h q (308 + 6 * (e % 16) + 5) = q := by
  unfold rwE
  refine ⟨?_, ?_, ?_, ?_, ?_, ?_⟩
  · rw [upd_ne (by omega), upd_ne (by omega), upd_ne (by omega), upd_ne (by omega), upd_ne (by omega), upd_ne (by omega), upd_eq rfl]
  · rw [upd_ne (by omega), upd_ne (by omega), upd_ne (by omega), upd_ne (by omega), upd_ne (by omega), upd_eq rfl]
  · rw [upd_ne (by omega), upd_ne (by omega), upd_ne (by omega), upd_ne (by omega), upd_eq rfl]
  · rw [upd_ne (by omega), upd_ne (by omega), upd_ne (by omega), upd_eq rfl]
  · rw [upd_ne (by omega), upd_ne (by omega), upd_eq rfl]
  · rw [upd_ne (by omega), upd_eq rfl]
theorem rwE_e {s : Nat → Int32} {e k u d w i : Nat} {h q : Int32} (h2 : i % 16 ≠ e % 16) (j : Nat) (hj : j < 6) : rwE s e k u d w h q (308 + 6 * (i % 16) + j) = s (308 + 6 * (i % 16) + j) := by
  have := Nat.mod_lt e (show 0 < 16 by decide)
  unfold rwE
  rw [upd_ne (by omega), upd_ne (by omega), upd_ne (by omega), upd_ne (by omega), upd_ne (by omega), upd_ne (by omega), upd_ne (by omega)]
section EM
variable {M : Mem} {e k u d w : Nat} {h q : Int32}
theorem eM_o {b : Nat} (hb : b < 16 ∨ 22 < b) : (eM M e k u d w h q).1 b = M.1 b := by
  unfold eM
  rw [w1_o (by omega), w1_o (by omega), w1_o (by omega), w1_o (by omega), w1_o (by omega), w1_o (by omega), w1_o (by omega)]
theorem eM_2 : (eM M e k u d w h q).2 = M.2 := rfl
theorem eM_16 : (eM M e k u d w h q).1 16 0 = nI (e + 1) := w1_eq ⟨rfl, rfl⟩
theorem eM_at : (eM M e k u d w h q).1 17 = upd (M.1 17) (e % 20) (nI k) ∧ (eM M e k u d w h q).1 18 = upd (M.1 18) (e % 20) (nI u) ∧ (eM M e k u d w h q).1 19 = upd (M.1 19) (e % 20) (nI d) ∧ (eM M e k u d w h q).1 20 = upd (M.1 20) (e % 20) (nI w) ∧ (eM M e k u d w h q).1 21 = upd (M.1 21) (e % 20) h ∧ (eM M e k u d w h q).1 22 = upd (M.1 22) (e % 20) q := by
  unfold eM
  simp (disch := omega) only [w1_o, w1_self, and_self]
end EM
section CVE
variable {r c t e dt N : Nat} {M Mc : Mem} {s : Nat → Int32} {φ : Nat → UInt32}
theorem CV_end {k u d w : Nat} {h h2 : Int32} {q : Int32} (H : CV r c t e dt N M s φ) (hh : oN h h2 2) : CV r c t (e + 1) dt (N + 1) (eM M e k u d w h q) (rwE s e k u d w h2 q) φ := by
  have H2 := H.mono (show N ≤ N + 1 by omega)
  have hd := H2.1.1
  obtain ⟨m48, m0⟩ := mul48 hd
  have eA : ∀ k1, k1 < 33 → (decide (15 ≤ k1) && decide (k1 ≤ 21)) = false → vA (eM M e k u d w h q) 1 k1 = vA M 1 k1 := fun k1 _ hx => by
    simp only [Bool.and_eq_false_iff, decide_eq_false_iff_not] at hx
    exact eM_o (by omega)
  have eB : ∀ k1, k1 < 33 → false = false → vB (eM M e k u d w h q) 1 k1 = vB M 1 k1 := fun _ _ _ => rfl
  have eS : ∀ i, i ≠ 9 → (i < 308 ∨ 404 ≤ i) → rwE s e k u d w h2 q i = s i := fun i h1 h2 => rwE_o h1 h2
  have eF : ∀ i, false = false → φ i = φ i := fun _ _ => rfl
  obtain ⟨a1, a2, a3, a4, a5, a6⟩ := eM_at (M := M) (e := e) (k := k) (u := u) (d := d) (w := w) (h := h) (q := q)
  obtain ⟨b1, b2, b3, b4, b5, b6⟩ := rwE_in (s := s) (e := e) (k := k) (u := u) (d := d) (w := w) (h := h2) (q := q)
  refine ⟨rDim_c H2.1 (congrFun (eA 1 (by decide) rfl) 0) (congrFun (eA 1 (by decide) rfl) 1) (eS 0 (by omega) (by omega)) (eS 1 (by omega) (by omega)), rShift_c H2.2.1 (fun p hp => congrFun (eA 10 (by decide) rfl) p) (fun p hp => eS _ (by omega) (by omega)), rHold_c H2.2.2.1 (fun k hk => congrFun (eA 2 (by decide) rfl) k) (fun k hk => eS _ (by omega) (by omega)) m48, rBits_c H2.2.2.2.1 (fun i hi => ⟨congrFun (eA 7 (by decide) rfl) i, congrFun (eA 8 (by decide) rfl) i, congrFun (eA 9 (by decide) rfl) i⟩) (fun k hk => ⟨eS _ (by omega) (by omega), eS _ (by omega) (by omega), eS _ (by omega) (by omega)⟩), rKey_c H2.2.2.2.2.1 (fun k hk => ⟨congrFun (eA 4 (by decide) rfl) k, congrFun (eA 5 (by decide) rfl) k, congrFun (eA 6 (by decide) rfl) k⟩) (fun k hk => ⟨eS _ (by omega) (by omega), eS _ (by omega) (by omega), eS _ (by omega) (by omega), eS _ (by omega) (by omega)⟩), rSign_c H2.2.2.2.2.2.1 (fun k hk => congrFun (eA 3 (by decide) rfl) k) (fun k hk => eS _ (by omega) (by omega)), rTyp_c H2.2.2.2.2.2.2.1 (fun j _ _ => congrFun (eA 11 (by decide) rfl) j) (fun j _ => congrFun (eA 12 (by decide) rfl) j) (fun j _ => congrFun (eB 11 (by decide) rfl) j) ⟨eS _ (by omega) (by omega), eS _ (by omega) (by omega), eS _ (by omega) (by omega), eS _ (by omega) (by omega), eS _ (by omega) (by omega)⟩ (fun j hj => eS _ (by omega) (by omega)) ⟨eF 0 rfl, eF 2 rfl⟩, rTyp_c H2.2.2.2.2.2.2.2.1 (fun j _ _ => congrFun (eA 13 (by decide) rfl) j) (fun j _ => congrFun (eA 14 (by decide) rfl) j) (fun j _ => congrFun (eB 13 (by decide) rfl) j) ⟨eS _ (by omega) (by omega), eS _ (by omega) (by omega), eS _ (by omega) (by omega), eS _ (by omega) (by omega), eS _ (by omega) (by omega)⟩ (fun j hj => eS _ (by omega) (by omega)) ⟨eF 1 rfl, eF 3 rfl⟩, ⟨by have := H.eN; omega, eM_16, rwE_9, fun i hi hi2 => ?_⟩, rDis_e (rDis_c H2.2.2.2.2.2.2.2.2.2.1 (congrFun (eA 23 (by decide) rfl) 0) (congrFun (eA 0 (by decide) rfl) 9) (fun j hj => ⟨congrFun (eA 24 (by decide) rfl) j, congrFun (eA 25 (by decide) rfl) j, congrFun (eA 26 (by decide) rfl) j, congrFun (eA 27 (by decide) rfl) j, congrFun (eA 28 (by decide) rfl) j, congrFun (eA 29 (by decide) rfl) j, congrFun (eA 30 (by decide) rfl) j⟩) (eS 16 (by omega) (by omega)) (fun j _ _ => eS _ (by omega) (by omega))) (by omega), rSet_c H2.2.2.2.2.2.2.2.2.2.2.1 (fun j hj => ⟨congrFun (eA 32 (by decide) rfl) j, congrFun (eB 31 (by decide) rfl) _⟩) (fun j hj => eF _ (by rcases (show j = 0 ∨ j = 1 ∨ j = 2 by omega) with rfl | rfl | rfl <;> rfl)), rCnt_c H2.2.2.2.2.2.2.2.2.2.2.2 ⟨congrFun (eA 0 (by decide) rfl) 6, congrFun (eA 0 (by decide) rfl) 7, congrFun (eA 0 (by decide) rfl) 8⟩ ⟨eS 2 (by omega) (by omega), eS 14 (by omega) (by omega), eS 15 (by omega) (by omega)⟩⟩
  show (eM M e k u d w h q).1 17 (i % 20) = _ ∧ (eM M e k u d w h q).1 18 (i % 20) = _ ∧ (eM M e k u d w h q).1 19 (i % 20) = _ ∧ (eM M e k u d w h q).1 20 (i % 20) = _ ∧ oN ((eM M e k u d w h q).1 21 (i % 20)) _ 2 ∧ (eM M e k u d w h q).1 22 (i % 20) = _
  rw [a1, a2, a3, a4, a5, a6]
  by_cases hie : i = e
  · subst hie
    rw [upd_self, upd_self, upd_self, upd_self, upd_self, upd_self, b1, b2, b3, b4, b5, b6]
    exact ⟨rfl, rfl, rfl, rfl, hh, rfl⟩
  · have h20 : i % 20 ≠ e % 20 := by omega
    have h16 : i % 16 ≠ e % 16 := by omega
    rw [upd_ne h20, upd_ne h20, upd_ne h20, upd_ne h20, upd_ne h20, upd_ne h20]
    have := rwE_e (s := s) (k := k) (u := u) (d := d) (w := w) (h := h2) (q := q) h16
    rw [show 308 + 6 * (i % 16) = 308 + 6 * (i % 16) + 0 from rfl, this 0 (by omega), this 1 (by omega), this 2 (by omega), this 3 (by omega), this 4 (by omega), this 5 (by omega)]
    exact H.en (show i < e by omega) (by omega)
/-- sight of a key is lost -/
def lose (k : Nat) (s : Nat → Int32) : Nat → Int32 := upd (upd s (68 + k) (nm 5)) (116 + k) (nI 0)
def lM (M : Mem) (c k : Nat) : Mem := w1 (w1 M 9 (k / c) (M.1 9 (k / c) &&& (pw (k % c) ^^^ nm 1))) 10 (k / c) (M.1 10 (k / c) &&& (pw (k % c) ^^^ nm 1))
theorem lM_o {b k : Nat} (h9 : b ≠ 9) (h10 : b ≠ 10) : (lM M c k).1 b = M.1 b := by
  unfold lM
  rw [w1_o h10, w1_o h9]
theorem lose_o {k i : Nat} (h1 : i ≠ 68 + k) (h2 : i ≠ 116 + k) : lose k s i = s i := by
  unfold lose
  rw [upd_ne h2, upd_ne h1]
theorem lose_k {k : Nat} : lose k s (68 + k) = nm 5 ∧ lose k s (116 + k) = nI 0 := by
  unfold lose
  exact ⟨by rw [upd_ne (by omega), upd_eq rfl], upd_eq rfl⟩
theorem CV_lose {k : Nat} (H : CV r c t e dt N M s φ) (hk : k < r * c) : CV r c t e dt N (lM M c k) (lose k s) φ := by
  have hd := H.1.1
  obtain ⟨m48, m0⟩ := mul48 hd
  have hkr := divr hk
  have hkc : k % c < c := Nat.mod_lt k (by omega)
  have eA : ∀ k1, k1 < 33 → (k1 == 8 || k1 == 9) = false → vA (lM M c k) 1 k1 = vA M 1 k1 := fun k1 _ hx => by
    simp only [Bool.or_eq_false_iff, beq_eq_false_iff_ne] at hx
    exact lM_o (by omega) (by omega)
  have eB : ∀ k1, k1 < 33 → false = false → vB (lM M c k) 1 k1 = vB M 1 k1 := fun _ _ _ => rfl
  have eS : ∀ i, i ≠ 68 + k → i ≠ 116 + k → lose k s i = s i := fun i h1 h2 => lose_o h1 h2
  have eF : ∀ i, false = false → φ i = φ i := fun _ _ => rfl
  have a8 : vA (lM M c k) 1 8 = upd (M.1 9) (k / c) (M.1 9 (k / c) &&& (pw (k % c) ^^^ nm 1)) := by
    show (lM M c k).1 9 = _
    unfold lM
    rw [w1_o (by omega), w1_self]
  have a9 : vA (lM M c k) 1 9 = upd (M.1 10) (k / c) (M.1 10 (k / c) &&& (pw (k % c) ^^^ nm 1)) := by
    show (lM M c k).1 10 = _
    unfold lM
    rw [w1_self, w1_o (by omega)]
  refine ⟨rDim_c H.1 (congrFun (eA 1 (by decide) rfl) 0) (congrFun (eA 1 (by decide) rfl) 1) (eS 0 (by omega) (by omega)) (eS 1 (by omega) (by omega)), rShift_c H.2.1 (fun p hp => congrFun (eA 10 (by decide) rfl) p) (fun p hp => eS _ (by omega) (by omega)), rHold_c H.2.2.1 (fun k hk => congrFun (eA 2 (by decide) rfl) k) (fun k hk => eS _ (by omega) (by omega)) m48, ⟨fun i hi d hid => ⟨?_, ?_, ?_⟩, fun i hi d hid => ⟨?_, ?_, ?_⟩⟩, fun j hj => ?_, rSign_c H.2.2.2.2.2.1 (fun k hk => congrFun (eA 3 (by decide) rfl) k) (fun k hk => eS _ (by omega) (by omega)), rTyp_c H.2.2.2.2.2.2.1 (fun j _ _ => congrFun (eA 11 (by decide) rfl) j) (fun j _ => congrFun (eA 12 (by decide) rfl) j) (fun j _ => congrFun (eB 11 (by decide) rfl) j) ⟨eS _ (by omega) (by omega), eS _ (by omega) (by omega), eS _ (by omega) (by omega), eS _ (by omega) (by omega), eS _ (by omega) (by omega)⟩ (fun j hj => eS _ (by omega) (by omega)) ⟨eF 0 rfl, eF 2 rfl⟩, rTyp_c H.2.2.2.2.2.2.2.1 (fun j _ _ => congrFun (eA 13 (by decide) rfl) j) (fun j _ => congrFun (eA 14 (by decide) rfl) j) (fun j _ => congrFun (eB 13 (by decide) rfl) j) ⟨eS _ (by omega) (by omega), eS _ (by omega) (by omega), eS _ (by omega) (by omega), eS _ (by omega) (by omega), eS _ (by omega) (by omega)⟩ (fun j hj => eS _ (by omega) (by omega)) ⟨eF 1 rfl, eF 3 rfl⟩, rEnd_c H.2.2.2.2.2.2.2.2.1 (congrFun (eA 15 (by decide) rfl) 0) (fun j hj => ⟨congrFun (eA 16 (by decide) rfl) j, congrFun (eA 17 (by decide) rfl) j, congrFun (eA 18 (by decide) rfl) j, congrFun (eA 19 (by decide) rfl) j, congrFun (eA 20 (by decide) rfl) j, congrFun (eA 21 (by decide) rfl) j⟩) (eS 9 (by omega) (by omega)) (fun j _ _ => eS _ (by omega) (by omega)), rDis_c H.2.2.2.2.2.2.2.2.2.1 (congrFun (eA 23 (by decide) rfl) 0) (congrFun (eA 0 (by decide) rfl) 9) (fun j hj => ⟨congrFun (eA 24 (by decide) rfl) j, congrFun (eA 25 (by decide) rfl) j, congrFun (eA 26 (by decide) rfl) j, congrFun (eA 27 (by decide) rfl) j, congrFun (eA 28 (by decide) rfl) j, congrFun (eA 29 (by decide) rfl) j, congrFun (eA 30 (by decide) rfl) j⟩) (eS 16 (by omega) (by omega)) (fun j _ _ => eS _ (by omega) (by omega)), rSet_c H.2.2.2.2.2.2.2.2.2.2.1 (fun j hj => ⟨congrFun (eA 32 (by decide) rfl) j, congrFun (eB 31 (by decide) rfl) _⟩) (fun j hj => eF _ (by rcases (show j = 0 ∨ j = 1 ∨ j = 2 by omega) with rfl | rfl | rfl <;> rfl)), rCnt_c H.2.2.2.2.2.2.2.2.2.2.2 ⟨congrFun (eA 0 (by decide) rfl) 6, congrFun (eA 0 (by decide) rfl) 7, congrFun (eA 0 (by decide) rfl) 8⟩ ⟨eS 2 (by omega) (by omega), eS 14 (by omega) (by omega), eS 15 (by omega) (by omega)⟩⟩
  · rw [eA 7 (by decide) rfl, eS _ (by have := ixlt hid.1 hid.2; omega) (by have := ixlt hid.1 hid.2; omega)]
    exact (H.2.2.2.1.1 i hi d hid).1
  · have h0 := (H.bitid hid.1 hid.2).2.1
    have hil := ixlt hid.1 hid.2
    rw [a8, upd_at]
    by_cases e : i * c + d = k
    · obtain ⟨e1, e2⟩ := (k_id hid.2).mp e
      rw [if_pos e1.symm, bt_and, bt_not, bt_pw (by omega), decide_eq_true e2, e, lose_k.1, decide_eq_true (nm_lt0 (by decide) (by decide))]
      simp
    · rw [eS _ (by omega) (by omega)]
      by_cases ei : i = k / c
      · subst ei
        rw [if_pos rfl, bt_and, bt_not, bt_pw (by omega), decide_eq_false (fun h => e ((k_id hid.2).mpr ⟨rfl, h⟩)), decide_eq_true (show d < 32 by omega)]
        simp only [Bool.not_false, Bool.and_true]
        exact h0
      · rw [if_neg ei]
        exact h0
  · have h0 := (H.bitid hid.1 hid.2).2.2
    have hil := ixlt hid.1 hid.2
    rw [a9, upd_at]
    by_cases e : i * c + d = k
    · obtain ⟨e1, e2⟩ := (k_id hid.2).mp e
      rw [if_pos e1.symm, bt_and, bt_not, bt_pw (by omega), decide_eq_true e2, e, lose_k.2, decide_eq_false (show ¬ nI 0 = nI 1 by decide)]
      simp
    · rw [eS _ (by omega) (by omega)]
      by_cases ei : i = k / c
      · subst ei
        rw [if_pos rfl, bt_and, bt_not, bt_pw (by omega), decide_eq_false (fun h => e ((k_id hid.2).mpr ⟨rfl, h⟩)), decide_eq_true (show d < 32 by omega)]
        simp only [Bool.not_false, Bool.and_true]
        exact h0
      · rw [if_neg ei]
        exact h0
  · rw [eA 7 (by decide) rfl]
    exact (H.2.2.2.1.2 i hi d hid).1
  · have h0 := (H.bit0 hi hid).2.1
    rw [a8, upd_at]
    split
    · rename_i ei
      subst ei
      rw [bt_and, h0]
      rfl
    · exact h0
  · have h0 := (H.bit0 hi hid).2.2
    rw [a9, upd_at]
    split
    · rename_i ei
      subst ei
      rw [bt_and, h0]
      rfl
    · exact h0
  · by_cases e : j = k
    · subst e
      exact .inl lose_k
    · rw [eS _ (by omega) (by omega), eS _ (by omega) (by omega), eS _ (by omega) (by omega), eS _ (by omega) (by omega), eA 4 (by decide) rfl, eA 5 (by decide) rfl, eA 6 (by decide) rfl]
      exact H.key hj
end CVE

