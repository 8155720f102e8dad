/-! PURE: setShift, setSign, borrow -/
section SETS
variable {A A2 : Nat → Nat → Int32} {B B2 : Nat → Nat → UInt32} {s s2 : Nat → Int32} {φ φ2 : Nat → UInt32} {r c t e dt N p k : Nat}
theorem RS_shift (H : RSp r c t e dt N A B s φ) (hk : k < r * c) (hp : p < 2)
    (eA : ∀ k, k < 33 → (k == 10 || k == 3) = false → A2 k = A k) (a10 : A2 10 = upd (A 10) p (nI k)) (a3 : A2 3 = upd (A 3) k (nI 46)) (eB : ∀ k, k < 33 → false = false → B2 k = B k)
    (eS : ∀ i, i ≠ 5 + p → i ≠ 260 + k → s2 i = s i) (s5 : s2 (5 + p) = nI k) (s26 : s2 (260 + k) = nI 46) (eF : ∀ i, false = false → φ2 i = φ i) : RSp r c t e dt N A2 B2 s2 φ2 := by
  have hd := H.1.1
  obtain ⟨m48, m0⟩ := mul48 hd
  refine ⟨rDim_c H.1 (congrFun (eA 1 (by decide) rfl) 0) (congrFun (eA 1 (by decide) rfl) 1) (eS 0 (by omega) (by omega)) (eS 1 (by omega) (by omega)), fun q hq => ?_, rHold_c H.2.2.1 (fun k hk => congrFun (eA 2 (by decide) rfl) k) (fun k hk => eS _ (by omega) (by omega)) m48, rBits_c H.2.2.2.1 (fun i hi => ⟨congrFun (eA 7 (by decide) rfl) i, congrFun (eA 8 (by decide) rfl) i, congrFun (eA 9 (by decide) rfl) i⟩) (fun k hk => ⟨eS _ (by omega) (by omega), eS _ (by omega) (by omega), eS _ (by omega) (by omega)⟩), rKey_c H.2.2.2.2.1 (fun k hk => ⟨congrFun (eA 4 (by decide) rfl) k, congrFun (eA 5 (by decide) rfl) k, congrFun (eA 6 (by decide) rfl) k⟩) (fun k hk => ⟨eS _ (by omega) (by omega), eS _ (by omega) (by omega), eS _ (by omega) (by omega), eS _ (by omega) (by omega)⟩), fun j hj => ?_, rTyp_c H.2.2.2.2.2.2.1 (fun j _ _ => congrFun (eA 11 (by decide) rfl) j) (fun j _ => congrFun (eA 12 (by decide) rfl) j) (fun j _ => congrFun (eB 11 (by decide) rfl) j) ⟨eS _ (by omega) (by omega), eS _ (by omega) (by omega), eS _ (by omega) (by omega), eS _ (by omega) (by omega), eS _ (by omega) (by omega)⟩ (fun j hj => eS _ (by omega) (by omega)) ⟨eF 0 rfl, eF 2 rfl⟩, rTyp_c H.2.2.2.2.2.2.2.1 (fun j _ _ => congrFun (eA 13 (by decide) rfl) j) (fun j _ => congrFun (eA 14 (by decide) rfl) j) (fun j _ => congrFun (eB 13 (by decide) rfl) j) ⟨eS _ (by omega) (by omega), eS _ (by omega) (by omega), eS _ (by omega) (by omega), eS _ (by omega) (by omega), eS _ (by omega) (by omega)⟩ (fun j hj => eS _ (by omega) (by omega)) ⟨eF 1 rfl, eF 3 rfl⟩, rEnd_c H.2.2.2.2.2.2.2.2.1 (congrFun (eA 15 (by decide) rfl) 0) (fun j hj => ⟨congrFun (eA 16 (by decide) rfl) j, congrFun (eA 17 (by decide) rfl) j, congrFun (eA 18 (by decide) rfl) j, congrFun (eA 19 (by decide) rfl) j, congrFun (eA 20 (by decide) rfl) j, congrFun (eA 21 (by decide) rfl) j⟩) (eS 9 (by omega) (by omega)) (fun j _ _ => eS _ (by omega) (by omega)), rDis_c H.2.2.2.2.2.2.2.2.2.1 (congrFun (eA 23 (by decide) rfl) 0) (congrFun (eA 0 (by decide) rfl) 9) (fun j hj => ⟨congrFun (eA 24 (by decide) rfl) j, congrFun (eA 25 (by decide) rfl) j, congrFun (eA 26 (by decide) rfl) j, congrFun (eA 27 (by decide) rfl) j, congrFun (eA 28 (by decide) rfl) j, congrFun (eA 29 (by decide) rfl) j, congrFun (eA 30 (by decide) rfl) j⟩) (eS 16 (by omega) (by omega)) (fun j _ _ => eS _ (by omega) (by omega)), rSet_c H.2.2.2.2.2.2.2.2.2.2.1 (fun j hj => ⟨congrFun (eA 32 (by decide) rfl) j, congrFun (eB 31 (by decide) rfl) _⟩) (fun j hj => eF _ (by rcases (show j = 0 ∨ j = 1 ∨ j = 2 by omega) with rfl | rfl | rfl <;> rfl)), rCnt_c H.2.2.2.2.2.2.2.2.2.2.2 ⟨congrFun (eA 0 (by decide) rfl) 6, congrFun (eA 0 (by decide) rfl) 7, congrFun (eA 0 (by decide) rfl) 8⟩ ⟨eS 2 (by omega) (by omega), eS 14 (by omega) (by omega), eS 15 (by omega) (by omega)⟩⟩
  · by_cases e : q = p
    · subst e
      rw [a10, s5, upd_self]
      exact .inr ⟨k, hk, rfl, rfl⟩
    · rw [a10, eS _ (by omega) (by omega), upd_o e]
      exact H.2.1 q hq
  · by_cases e : j = k
    · subst e
      rw [a3, s26, upd_self]
    · rw [a3, eS _ (by omega) (by omega), upd_o e]
      exact H.2.2.2.2.2.1 j hj
theorem RS_sign {x : Int32} (H : RSp r c t e dt N A B s φ) (hk : k < r * c)
    (eA : ∀ k, k < 33 → (k == 3) = false → A2 k = A k) (a3 : A2 3 = upd (A 3) k x) (eB : ∀ k, k < 33 → false = false → B2 k = B k)
    (eS : ∀ i, i ≠ 260 + k → s2 i = s i) (s26 : s2 (260 + k) = x) (eF : ∀ i, false = false → φ2 i = φ i) : RSp r c t e dt N A2 B2 s2 φ2 := by
  have hd := H.1.1
  obtain ⟨m48, m0⟩ := mul48 hd
  refine ⟨rDim_c H.1 (congrFun (eA 1 (by decide) rfl) 0) (congrFun (eA 1 (by decide) rfl) 1) (eS 0 (by omega)) (eS 1 (by omega)), rShift_c H.2.1 (fun p hp => congrFun (eA 10 (by decide) rfl) p) (fun p hp => eS _ (by omega)), rHold_c H.2.2.1 (fun k hk => congrFun (eA 2 (by decide) rfl) k) (fun k hk => eS _ (by omega)) m48, rBits_c H.2.2.2.1 (fun i hi => ⟨congrFun (eA 7 (by decide) rfl) i, congrFun (eA 8 (by decide) rfl) i, congrFun (eA 9 (by decide) rfl) i⟩) (fun k hk => ⟨eS _ (by omega), eS _ (by omega), eS _ (by omega)⟩), rKey_c H.2.2.2.2.1 (fun k hk => ⟨congrFun (eA 4 (by decide) rfl) k, congrFun (eA 5 (by decide) rfl) k, congrFun (eA 6 (by decide) rfl) k⟩) (fun k hk => ⟨eS _ (by omega), eS _ (by omega), eS _ (by omega), eS _ (by omega)⟩), fun j hj => ?_, rTyp_c H.2.2.2.2.2.2.1 (fun j _ _ => congrFun (eA 11 (by decide) rfl) j) (fun j _ => congrFun (eA 12 (by decide) rfl) j) (fun j _ => congrFun (eB 11 (by decide) rfl) j) ⟨eS _ (by omega), eS _ (by omega), eS _ (by omega), eS _ (by omega), eS _ (by omega)⟩ (fun j hj => eS _ (by omega)) ⟨eF 0 rfl, eF 2 rfl⟩, rTyp_c H.2.2.2.2.2.2.2.1 (fun j _ _ => congrFun (eA 13 (by decide) rfl) j) (fun j _ => congrFun (eA 14 (by decide) rfl) j) (fun j _ => congrFun (eB 13 (by decide) rfl) j) ⟨eS _ (by omega), eS _ (by omega), eS _ (by omega), eS _ (by omega), eS _ (by omega)⟩ (fun j hj => eS _ (by omega)) ⟨eF 1 rfl, eF 3 rfl⟩, rEnd_c H.2.2.2.2.2.2.2.2.1 (congrFun (eA 15 (by decide) rfl) 0) (fun j hj => ⟨congrFun (eA 16 (by decide) rfl) j, congrFun (eA 17 (by decide) rfl) j, congrFun (eA 18 (by decide) rfl) j, congrFun (eA 19 (by decide) rfl) j, congrFun (eA 20 (by decide) rfl) j, congrFun (eA 21 (by decide) rfl) j⟩) (eS 9 (by omega)) (fun j _ _ => eS _ (by omega)), rDis_c H.2.2.2.2.2.2.2.2.2.1 (congrFun (eA 23 (by decide) rfl) 0) (congrFun (eA 0 (by decide) rfl) 9) (fun j hj => ⟨congrFun (eA 24 (by decide) rfl) j, congrFun (eA 25 (by decide) rfl) j, congrFun (eA 26 (by decide) rfl) j, congrFun (eA 27 (by decide) rfl) j, congrFun (eA 28 (by decide) rfl) j, congrFun (eA 29 (by decide) rfl) j, congrFun (eA 30 (by decide) rfl) j⟩) (eS 16 (by omega)) (fun j _ _ => eS _ (by omega)), rSet_c H.2.2.2.2.2.2.2.2.2.2.1 (fun j hj => ⟨congrFun (eA 32 (by decide) rfl) j, congrFun (eB 31 (by decide) rfl) _⟩) (fun j hj => eF _ (by rcases (show j = 0 ∨ j = 1 ∨ j = 2 by omega) with rfl | rfl | rfl <;> rfl)), rCnt_c H.2.2.2.2.2.2.2.2.2.2.2 ⟨congrFun (eA 0 (by decide) rfl) 6, congrFun (eA 0 (by decide) rfl) 7, congrFun (eA 0 (by decide) rfl) 8⟩ ⟨eS 2 (by omega), eS 14 (by omega), eS 15 (by omega)⟩⟩
  by_cases e : j = k
  · subst e
    rw [a3, s26, upd_self]
  · rw [a3, eS _ (by omega), upd_o e]
    exact H.2.2.2.2.2.1 j hj
theorem RS_noshift (H : RSp r c t e dt N A B s φ) (hp : p < 2)
    (eA : ∀ k, k < 33 → (k == 10) = false → A2 k = A k) (a10 : A2 10 = upd (A 10) p (nm 1)) (eB : ∀ k, k < 33 → false = false → B2 k = B k)
    (eS : ∀ i, i ≠ 5 + p → s2 i = s i) (s5 : s2 (5 + p) = nm 5) (eF : ∀ i, false = false → φ2 i = φ i) : RSp r c t e dt N A2 B2 s2 φ2 := by
  have hd := H.1.1
  obtain ⟨m48, m0⟩ := mul48 hd
  refine ⟨rDim_c H.1 (congrFun (eA 1 (by decide) rfl) 0) (congrFun (eA 1 (by decide) rfl) 1) (eS 0 (by omega)) (eS 1 (by omega)), fun q hq => ?_, rHold_c H.2.2.1 (fun k hk => congrFun (eA 2 (by decide) rfl) k) (fun k hk => eS _ (by omega)) m48, rBits_c H.2.2.2.1 (fun i hi => ⟨congrFun (eA 7 (by decide) rfl) i, congrFun (eA 8 (by decide) rfl) i, congrFun (eA 9 (by decide) rfl) i⟩) (fun k hk => ⟨eS _ (by omega), eS _ (by omega), eS _ (by omega)⟩), rKey_c H.2.2.2.2.1 (fun k hk => ⟨congrFun (eA 4 (by decide) rfl) k, congrFun (eA 5 (by decide) rfl) k, congrFun (eA 6 (by decide) rfl) k⟩) (fun k hk => ⟨eS _ (by omega), eS _ (by omega), eS _ (by omega), eS _ (by omega)⟩), rSign_c H.2.2.2.2.2.1 (fun k hk => congrFun (eA 3 (by decide) rfl) k) (fun k hk => eS _ (by omega)), rTyp_c H.2.2.2.2.2.2.1 (fun j _ _ => congrFun (eA 11 (by decide) rfl) j) (fun j _ => congrFun (eA 12 (by decide) rfl) j) (fun j _ => congrFun (eB 11 (by decide) rfl) j) ⟨eS _ (by omega), eS _ (by omega), eS _ (by omega), eS _ (by omega), eS _ (by omega)⟩ (fun j hj => eS _ (by omega)) ⟨eF 0 rfl, eF 2 rfl⟩, rTyp_c H.2.2.2.2.2.2.2.1 (fun j _ _ => congrFun (eA 13 (by decide) rfl) j) (fun j _ => congrFun (eA 14 (by decide) rfl) j) (fun j _ => congrFun (eB 13 (by decide) rfl) j) ⟨eS _ (by omega), eS _ (by omega), eS _ (by omega), eS _ (by omega), eS _ (by omega)⟩ (fun j hj => eS _ (by omega)) ⟨eF 1 rfl, eF 3 rfl⟩, rEnd_c H.2.2.2.2.2.2.2.2.1 (congrFun (eA 15 (by decide) rfl) 0) (fun j hj => ⟨congrFun (eA 16 (by decide) rfl) j, congrFun (eA 17 (by decide) rfl) j, congrFun (eA 18 (by decide) rfl) j, congrFun (eA 19 (by decide) rfl) j, congrFun (eA 20 (by decide) rfl) j, congrFun (eA 21 (by decide) rfl) j⟩) (eS 9 (by omega)) (fun j _ _ => eS _ (by omega)), rDis_c H.2.2.2.2.2.2.2.2.2.1 (congrFun (eA 23 (by decide) rfl) 0) (congrFun (eA 0 (by decide) rfl) 9) (fun j hj => ⟨congrFun (eA 24 (by decide) rfl) j, congrFun (eA 25 (by decide) rfl) j, congrFun (eA 26 (by decide) rfl) j, congrFun (eA 27 (by decide) rfl) j, congrFun (eA 28 (by decide) rfl) j, congrFun (eA 29 (by decide) rfl) j, congrFun (eA 30 (by decide) rfl) j⟩) (eS 16 (by omega)) (fun j _ _ => eS _ (by omega)), rSet_c H.2.2.2.2.2.2.2.2.2.2.1 (fun j hj => ⟨congrFun (eA 32 (by decide) rfl) j, congrFun (eB 31 (by decide) rfl) _⟩) (fun j hj => eF _ (by rcases (show j = 0 ∨ j = 1 ∨ j = 2 by omega) with rfl | rfl | rfl <;> rfl)), rCnt_c H.2.2.2.2.2.2.2.2.2.2.2 ⟨congrFun (eA 0 (by decide) rfl) 6, congrFun (eA 0 (by decide) rfl) 7, congrFun (eA 0 (by decide) rfl) 8⟩ ⟨eS 2 (by omega), eS 14 (by omega), eS 15 (by omega)⟩⟩
  by_cases e : q = p
  · subst e
    rw [a10, s5, upd_self]
    exact .inl ⟨rfl, rfl⟩
  · rw [a10, eS _ (by omega), upd_o e]
    exact H.2.1 q hq
end SETS
/-- what stands in the cells of the State now, after the class and the reference -/
theorem eA_of {M M1 M2 M3 M4 : Mem} {X : Nat → Bool} (f1 : ∀ k, (k < 100 ∨ 233 ≤ k) → M1.1 k = M.1 k ∧ M1.2 k = M.2 k) (f2 : ∀ j, X j = false → M2.1 (1 + j) = M1.1 (1 + j)) (b1 : ∀ k, k ≠ 235 → k ≠ 237 → k ≠ 239 → M3.1 k = M2.1 k) (f4 : ∀ j, j < 34 → M4.1 j = M3.1 j) : ∀ k, k < 33 → X k = false → vA M4 1 k = vA M 1 k := fun k hk hX => by
  show M4.1 (1 + k) = M.1 (1 + k)
  rw [f4 _ (by omega), b1 _ (by omega) (by omega) (by omega), f2 k hX, (f1 _ (by omega)).1]
theorem eB_of {M M1 M2 M3 M4 : Mem} (f1 : ∀ k, (k < 100 ∨ 233 ≤ k) → M1.1 k = M.1 k ∧ M1.2 k = M.2 k) (f2 : ∀ j, j < 34 → M2.2 j = M1.2 j) (b1 : ∀ k, k ≠ 241 → k ≠ 243 → M3.2 k = M2.2 k) (f4 : ∀ j, j < 34 → M4.2 j = M3.2 j) : ∀ k, k < 33 → false = false → vB M4 1 k = vB M 1 k := fun k hk _ => by
  show M4.2 (1 + k) = M.2 (1 + k)
  rw [f4 _ (by omega), b1 _ (by omega) (by omega), f2 _ (by omega), (f1 _ (by omega)).2]
theorem st_setShift {N : Nat} {M : Mem} {x y : Int32} (h : IV N M) (hN : N < 2 ^ 30) : W2 N (fX8_setShift 0 x y) (fX9_setShift 235 x y) M := by
  obtain ⟨r, c, t, e, dt, H⟩ := h.nf
  have hd := H.hd
  have m48 := H.m48
  have hox : ∀ x : Int32, (x < nI 0 ∨ nI 2 ≤ x) → W2 N (fX8_setShift 0 x y) (fX9_setShift 235 x y) M := fun x hx => by
    refine W2_same' (r := nm 1) h ?_ ?_
    · unfold fX8_setShift
      simp only [e_isTypn M hx, cal_e, nlit, nm_def, if_true]
    · unfold fX9_setShift
      simp only [r_noTypn M hx, cal_e, nlit, nm_def, n10, if_false]
  rcases pk_ix x (show 2 < 2 ^ 31 by decide) with hx | hx | ⟨p, hp, rfl⟩
  · exact hox _ (.inl hx)
  · exact hox _ (.inr hx)
  have hoy : ∀ y : Int32, (y < nI 0 ∨ nI (r * c) ≤ y) → W2 N (fX8_setShift 0 (nI p) y) (fX9_setShift 235 (nI p) y) M := fun y hy => by
    refine W2_same' (r := nm 1) h ?_ ?_
    · unfold fX8_setShift
      simp only [e_isTyp M hp, Nat.reduceAdd, e_hasn H.hr H.hc hy, cal_e, nlit, nm_def, n10, if_true, if_false]
    · unfold fX9_setShift
      simp only [r_noTyp M hp, r_noKeyn H.sr H.sc hy H.m0 m48, cal_e, nlit, nm_def, n10, if_true, if_false]
  rcases pk_ix y H.m31 with hx | hx | ⟨k, hk, rfl⟩
  · exact hoy _ (.inl hx)
  · exact hoy _ (.inr hx)
  have k31 : k < 2 ^ 31 := by omega
  have e0 := e_has H.hr H.hc hk H.m31
  have f0 := r_noKey H.sr H.sc hk m48
  have x0 := oN_eq (H.shift (p := 0) (by omega)) k31
  have x1 := oN_eq (H.shift (p := 1) (by omega)) k31
  simp only [Nat.add_zero, Nat.reduceAdd] at x0 x1
  -- whose shift the key is
  have own : ∃ o1 o2, fX0_shiftOwner 2 (nI k) M = some (o1, M) ∧ (∀ M2 : Mem, M2.1 236 = M.1 236 → fX9_shiftOf 235 (nI k) M2 = some (o2, M2)) ∧ ((∃ q, q < 2 ∧ o1 = nI q ∧ o2 = nI q) ∨ (o1 = nm 1 ∧ o2 = nm 5)) := by
    refine ⟨_, if M.1 236 5 = nI k then nI 0 else if M.1 236 6 = nI k then nI 1 else nm 5, e_shiftOwner M _, fun M2 hM2 => by rw [r_shiftOf, hM2], ?_⟩
    simp only [x0, x1]
    by_cases h1 : M.1 236 5 = nI k
    · simp only [h1, if_true]
      exact .inl ⟨0, by decide, rfl, rfl⟩
    · by_cases h2 : M.1 236 6 = nI k
      · simp only [h1, h2, if_true, if_false]
        exact .inl ⟨1, by decide, rfl, rfl⟩
      · simp only [h1, h2, if_false]
        exact .inr ⟨trivial, trivial⟩
  obtain ⟨o1, o2, w1', w2', ho⟩ := own
  have hp1 : nI 1 - nI p = nI (1 - p) := nI_sub (by omega)
  rcases ho with ⟨q, hq, rfl, rfl⟩ | ⟨rfl, rfl⟩
  · by_cases e1 : q = p
    · subst e1
      refine W2_same' (r := nm 5) h ?_ ?_
      · unfold fX8_setShift
        simp only [Nat.reduceAdd, if_true, if_false, e0, cal_e, nlit, nm_def, n10, e_isTyp M hp, w1']
      · unfold fX9_setShift
        simp (disch := omega) only [Nat.reduceAdd, if_true, if_false, f0, cal_e, nlit, nm_def, n10, r_noTyp M hp, w2' M rfl, hp1, nI_eq]
        rw [if_neg (by omega)]
    · refine W2_same' (r := nm 4) h ?_ ?_
      · unfold fX8_setShift
        simp (disch := omega) only [Nat.reduceAdd, if_true, if_false, e0, cal_e, nlit, nm_def, n10, e_isTyp M hp, w1', nI_eq, e1, nI_nm, Nat.one_ne_zero]
      · unfold fX9_setShift
        simp (disch := omega) only [Nat.reduceAdd, if_true, if_false, f0, cal_e, nlit, nm_def, n10, r_noTyp M hp, w2' M rfl, hp1, nI_eq]
        rw [if_pos (by omega)]
  · obtain ⟨q0, st, M1, e1, hc, f1⟩ := mut_rec h
    have x11 : M1.1 11 = M.1 11 := (f1 11 (by omega)).1
    have x4 : M1.1 4 = M.1 4 := (f1 4 (by omega)).1
    have f2 : ∀ j, j ≠ 11 → j ≠ 4 → (w1 (w1 M1 11 p (nI k)) 4 k (nI 46)).1 j = M1.1 j := fun j h1 h2 => by rw [w1_o h2, w1_o h1]
    have g11 : (w1 (w1 M1 11 p (nI k)) 4 k (nI 46)).1 11 = upd (M.1 11) p (nI k) := by rw [w1_o (by decide), w1_self, x11]
    have g4 : (w1 (w1 M1 11 p (nI k)) 4 k (nI 46)).1 4 = upd (M.1 4) k (nI 46) := by rw [w1_self, w1_o (by decide), x4]
    have gB : (w1 (w1 M1 11 p (nI k)) 4 k (nI 46)).2 = M1.2 := rfl
    have hsh := H.shift hp
    have n15 : ¬ nm 1 = nI p := by rw [nm_nI (by omega) (by decide) (by decide)]; exact not_false
    unfold W2 fX8_setShift
    simp (disch := omega) only [Nat.reduceAdd, if_true, if_false, e0, cal_e, nlit, nm_def, n10, e_isTyp M hp, w1', n15, e1, e_shiftOf hp, e_giveShift hp (show k < 48 by omega), x11, wp_ite, wp_some]
    generalize (w1 (w1 M1 11 p (nI k)) 4 k (nI 46)) = M2 at *
    have e236 : M2.1 236 = M.1 236 := by rw [f2 236 (by decide) (by decide), (f1 _ (by omega)).1]
    have g0 : fX9_noKey 235 (nI k) M2 = some (nI 0, M2) := r_noKey (by rw [e236]; exact H.sr) (by rw [e236]; exact H.sc) hk m48
    have n55 : ¬ nm 5 = nI p ∧ ¬ nm 5 = nI (1 - p) := by
      rw [nm_nI (by omega) (by decide) (by decide), nm_nI (by omega) (by decide) (by decide)]
      exact ⟨not_false, not_false⟩
    have go : ∀ v, (v = if nI 0 ≤ M.1 236 (5 + p) then M.1 236 (5 + p) else nI k) → wp (fX9_setShift 235 (nI p) (nI k) M2) (fun r2 M4 => r2 = v ∧ IV N M4) := fun v hv => by
      unfold fX9_setShift
      simp only [nlit, r_noTyp M2 hp, cal_e, if_true, if_false, g0, w2' M2 e236, hp1, n55]
      refine mut_ref h (Nat.le_refl N) hc f1 (fun j hj => ⟨f2 j (by omega) (by omega), by rw [gB]⟩) (fun M3 b1 b2 => ?_)
      have s236 : M3.1 236 = M.1 236 := by rw [b1 _ (by omega) (by omega) (by omega), e236]
      have hnow : NowR N (w1 (w1 M3 236 (5 + p) (nI k)) 236 (260 + k) (nI 46)) := by
        refine ⟨r, c, t, e, dt, RS_shift (A := vA M 1) (B := vB M 1) (s := M.1 236) (φ := M.2 240) H hk hp (eA_of (X := fun k => k == 10 || k == 3) f1 (fun j hj => f2 _ (by simp at hj; omega) (by simp at hj; omega)) b1 (fun j hj => by rw [w1_o (by omega), w1_o (by omega)])) ?_ ?_ (eB_of f1 (fun j _ => by rw [gB]) b2 (fun j _ => rfl)) (fun i h1 h2 => ?_) ?_ ?_ (fun i _ => ?_)⟩
        · show (w1 (w1 M3 236 (5 + p) (nI k)) 236 (260 + k) (nI 46)).1 11 = _
          rw [w1_o (by omega), w1_o (by omega), b1 _ (by omega) (by omega) (by omega), g11]
          rfl
        · show (w1 (w1 M3 236 (5 + p) (nI k)) 236 (260 + k) (nI 46)).1 4 = _
          rw [w1_o (by omega), w1_o (by omega), b1 _ (by omega) (by omega) (by omega), g4]
          rfl
        · rw [w1_1, if_neg (by omega), w1_1, if_neg (by omega), s236]
        · rw [w1_1, if_neg (by omega), w1_1, if_pos ⟨rfl, rfl⟩]
        · rw [w1_1, if_pos ⟨rfl, rfl⟩]
        · rw [w1_2, w1_2, b2 _ (by omega) (by omega), gB, (f1 _ (by omega)).2]
      simp (disch := first | omega | (simp only [ln_3, ln_4, ln_5, ln_6, ln_7, ln_8, ln_9, ln_10, ln_11, ln_13, ln_15, ln_17, ln_18, ln_19, ln_20, ln_21, ln_22, ln_23, ln_25, ln_26, ln_27, ln_28, ln_29, ln_30, ln_31, ln_33, ln_234, ln_236, ln_237, ln_238, ln_239, ln_240, ln_241, ln_242, ln_243, ln_244]; omega)) only [nI_add, inb_nI, nI_clamp, Nat.reduceAdd, ln_236, cal_e, bnd_e, asr_e, jn_e, if_true, s236, wp_ite, wp_some]
      refine wp_ite.mpr ⟨fun q => wp_some.mpr ⟨by rw [hv, if_pos q], hnow, fun j h1 h2 h3 => by rw [w1_o h3, w1_o h3], fun j hj => by rw [w1_o (by decide), w1_o (by decide)], fun j _ _ => rfl⟩, fun q => wp_some.mpr ⟨by rw [hv, if_neg q], hnow, fun j h1 h2 h3 => by rw [w1_o h3, w1_o h3], fun j hj => by rw [w1_o (by decide), w1_o (by decide)], fun j _ _ => rfl⟩⟩
    rcases hsh with ⟨z1, z2⟩ | ⟨z, hz, z1, z2⟩
    · refine ⟨fun _ => go _ ?_, fun q => absurd z1 q⟩
      rw [z2, if_neg (by decide)]
    · refine ⟨fun q => ?_, fun _ => go _ ?_⟩
      · rw [z1, nI_nm (by omega) (by decide) (by decide)] at q
        exact q.elim
      · rw [z1, z2, if_pos (nI_le (Nat.zero_le _) (by omega))]
