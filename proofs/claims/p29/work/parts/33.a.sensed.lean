/-! PURE: what is sensed, on both sides one word -/
noncomputable def sw (D : Nat → Nat → Bool) (f : Nat) : Int32 := wd (fun d => @decide (SensC D f d) (Classical.propDecidable _))
theorem bt_sw {D : Nat → Nat → Bool} {f d : Nat} (h8 : ∀ d, SensC D f d → d < 8) : bt (sw D f) d = true ↔ SensC D f d := by
  unfold sw
  rw [bt_wd]
  simp only [Bool.and_eq_true, decide_eq_true_eq]
  exact ⟨fun h => h.2, fun h => ⟨h8 d h, h⟩⟩
theorem sw_eq {D : Nat → Nat → Bool} {f : Nat} {w : Int32} (h8 : ∀ d, SensC D f d → d < 8) (h : ∀ d, bt w d = true ↔ SensC D f d) : w = sw D f := bt_ext (fun d _ => by
  have h1 := h d
  have h2 := bt_sw (d := d) h8
  rw [← h2] at h1
  cases hx : bt w d <;> cases hy : bt (sw D f) d <;> simp_all)
theorem Dm_8 {s : Nat → Int32} {r c f : Nat} (hc : c ≤ 8) : ∀ d, SensC (Dm s r c) f d → d < c ∧ d < 8 := fun d h => by
  have : d < c := h (fun _ => True) (fun d => d < c) trivial (fun i d hD _ => (Dm_d hD).2.1) (fun _ _ _ _ => trivial)
  exact ⟨this, by omega⟩
theorem Dm_8' {s : Nat → Int32} {r c f : Nat} (hc : c ≤ 8) : ∀ d, SensC (Dm s r c) f d → d < 8 := fun d h => (Dm_8 hc d h).2
theorem sw_c {s : Nat → Int32} {r c f d : Nat} (hc : c ≤ 8) (h : bt (sw (Dm s r c) f) d = true) : d < c := (Dm_8 hc d ((bt_sw (Dm_8' hc)).mp h)).1
theorem e_joined {M : Mem} {c i : Nat} (hi : i < 6) : fX0_joined 2 (nI i) (nm 1) M = some (M.1 8 i, M) := by
  unfold fX0_joined
  simp (disch := first | omega | (simp only [ln_3, ln_4, ln_5, ln_6, ln_7, ln_8, ln_9, ln_10, ln_11, ln_13, ln_15, ln_17, ln_18, ln_19, ln_20, ln_21, ln_22, ln_23, ln_25, ln_26, ln_27, ln_28, ln_29, ln_30, ln_31, ln_33, ln_234]; omega)) only [Nat.reduceAdd, e_at, cal_e, nlit, nm_def, if_true]
theorem e_joinedF {M : Mem} {c i k : Nat} (hc : M.1 2 1 = nI c) (h0 : 0 < c) (h8 : c ≤ 8) (hi : i < 6) (hk : k < 2 ^ 31) : fX0_joined 2 (nI i) (nI k) M = some (if k / c = i then M.1 8 i ^^^ pw (k % c) else M.1 8 i, M) := by
  have : k / c ≤ k := Nat.div_le_self k c
  unfold fX0_joined
  simp (disch := first | omega | (simp only [ln_3, ln_4, ln_5, ln_6, ln_7, ln_8, ln_9, ln_10, ln_11, ln_13, ln_15, ln_17, ln_18, ln_19, ln_20, ln_21, ln_22, ln_23, ln_25, ln_26, ln_27, ln_28, ln_29, ln_30, ln_31, ln_33, ln_234]; omega)) only [Nat.reduceAdd, e_at, cal_e, nlit, nm_def, nI_nm, if_false, e_rowOf hc h0 h8 hk, nI_eq, e_bitOf hc h0 h8 hk]
  split <;> rfl
/-- the columns that are sensed in the class, whatever row of the reference tells the same of the keys that are down -/
theorem e_sensed {M : Mem} {s : Nat → Int32} {r c f : Nat} (hd : 2 ≤ r ∧ r ≤ 6 ∧ 2 ≤ c ∧ c ≤ 8) (hr : M.1 2 0 = nI r)
    (h1 : ∀ i, i < r → ∀ d, d < c → bt (M.1 8 i) d = !decide (s (20 + (i * c + d)) < nI 0)) (h2 : ∀ i, i < r → ∀ d, ¬ d < c → bt (M.1 8 i) d = false) (hf : f < r) :
    fX0_sensed 2 (nI f) (nm 1) M = some (sw (Dm s r c) f, M) := by
  obtain ⟨w, e, h⟩ := c_sensed (W := M.1 8) (fl := nm 1) hr hd.2.1 (fun i hi => e_joined (c := c) (by omega)) hf
  have eD : (fun i d => decide (i < r) && bt (M.1 8 i) d) = Dm s r c := by
    funext i d
    unfold Dm
    by_cases hi : i < r
    · rw [decide_eq_true hi, Bool.true_and, Bool.true_and]
      by_cases hd2 : d < c
      · rw [h1 i hi d hd2, decide_eq_true hd2, Bool.true_and]
      · rw [h2 i hi d hd2, decide_eq_false hd2, Bool.false_and]
    · rw [decide_eq_false hi, Bool.false_and, Bool.false_and]
  rw [eD] at h
  rw [e, sw_eq (Dm_8' hd.2.2.2) h]
theorem NF.sens {r c t e dt N f : Nat} {M : Mem} (H : NF r c t e dt N M) (hf : f < r) : fX0_sensed 2 (nI f) (nm 1) M = some (sw (Dm (M.1 236) r c) f, M) :=
  e_sensed H.hd H.hr (fun i hi d hd => (H.bitid hi hd).1) (fun i hi d hd => (H.bit0 (by have := H.hd; omega) (by omega)).1) hf
/-- with one key the other way -/
theorem NF.sensF {r c t e dt N f k : Nat} {M : Mem} {s : Nat → Int32} (H : NF r c t e dt N M) (hf : f < r) (hk : k < r * c) (hs : ∀ j, j < r * c → j ≠ k → s (20 + j) = M.1 236 (20 + j)) (hs2 : (s (20 + k) < nI 0) ↔ ¬ (M.1 236 (20 + k) < nI 0)) :
    fX0_sensed 2 (nI f) (nI k) M = some (sw (Dm s r c) f, M) := by
  have hd := H.hd
  have m48 := H.m48
  have hkc : k % c < c := Nat.mod_lt k (by omega)
  obtain ⟨w, e, h⟩ := c_sensed (W := fun i => if k / c = i then M.1 8 i ^^^ pw (k % c) else M.1 8 i) (fl := nI k) H.hr hd.2.1 (fun i hi => e_joinedF H.hc (by omega) hd.2.2.2 (by omega) (by omega)) hf
  have eD : (fun i d => decide (i < r) && bt (if k / c = i then M.1 8 i ^^^ pw (k % c) else M.1 8 i) d) = Dm s r c := by
    funext i d
    unfold Dm
    by_cases hi : i < r
    · rw [decide_eq_true hi, Bool.true_and, Bool.true_and]
      by_cases hd2 : d < c
      · rw [decide_eq_true hd2, Bool.true_and]
        by_cases hki : k / c = i
        · rw [if_pos hki, bt_xor, bt_pw (by omega), (H.bitid hi hd2).1]
          by_cases hkd : k % c = d
          · have ek : i * c + d = k := by rw [← hki, ← hkd]; exact divmod k c
            rw [ek, decide_eq_true hkd]
            by_cases q : M.1 236 (20 + k) < nI 0
            · have q2 : ¬ s (20 + k) < nI 0 := fun h => hs2.mp h q
              simp [q, q2]
            · have q2 : s (20 + k) < nI 0 := hs2.mpr q
              simp [q, q2]
          · have ek : i * c + d ≠ k := fun h => hkd (by rw [← h, ixmod hd2])
            rw [decide_eq_false hkd, Bool.xor_false, hs _ (ixlt hi hd2) ek]
        · have ek : i * c + d ≠ k := fun h => hki (by rw [← h, ixdiv hd2])
          rw [if_neg hki, (H.bitid hi hd2).1, hs _ (ixlt hi hd2) ek]
      · rw [decide_eq_false hd2, Bool.false_and]
        have h0 := (H.bit0 (i := i) (d := d) (by omega) (by omega)).1
        split
        · rw [bt_xor, bt_pw (by omega), h0, decide_eq_false (by omega)]
          rfl
        · exact h0
    · rw [decide_eq_false hi, Bool.false_and, Bool.false_and]
  rw [eD] at h
  rw [e, sw_eq (Dm_8' hd.2.2.2) h]
theorem FD_same {M M2 : Mem} (h : FD M M2) : (∀ k, k ≠ 235 → M2.1 k = M.1 k) ∧ (∀ j, j < 12 → M2.1 235 j = M.1 235 j) ∧ M2.2 = M.2 := ⟨h.1, fun j hj => h.2.1 j (by omega) (by omega), h.2.2⟩
