/-! PURE: what is asked (4) -/
theorem words_eq {r c : Nat} (hd : 2 ≤ r ∧ r ≤ 6 ∧ 2 ≤ c ∧ c ≤ 8) {w : Nat → Int32} {p : Nat → Bool} (h1 : ∀ k, k < r * c → bt (w (k / c)) (k % c) = p k) (h2 : ∀ i, i < 6 → ∀ d, ¬ (i < r ∧ d < c) → bt (w i) d = false) : sm 6 (fun i => cnt 8 (bt (w i))) = cnt (r * c) p := by
  rw [cnt_mul, sm_cut (n := r) (by omega) (fun i h3 h4 => cnt_zero.mpr (fun d _ => h2 i h4 d (by omega)))]
  refine sm_congr (fun i hi => ?_)
  show cnt 8 (bt (w i)) = _
  rw [cnt_cut (n := c) (by omega) (fun d h3 h4 => h2 i (by omega) d (by omega))]
  refine cnt_congr (fun d hd2 => ?_)
  have h3 := h1 (i * c + d) (ixlt hi hd2)
  rw [show (i * c + d) / c = i from by rw [Nat.mul_comm, Nat.mul_add_div (by omega), Nat.div_eq_of_lt hd2, Nat.add_zero], show (i * c + d) % c = d from by rw [Nat.mul_comm, Nat.mul_add_mod, Nat.mod_eq_of_lt hd2]] at h3
  exact h3
theorem NF.counts {r c t e dt N : Nat} {M : Mem} (H : NF r c t e dt N M) :
    fX0_downKeys 2 M = some (nI (cnt (r * c) (fun k => !decide (M.1 236 (20 + k) < nI 0))), M) ∧ fX0_seenKeys 2 M = some (nI (cnt (r * c) (fun k => !decide (M.1 236 (68 + k) < nI 0))), M) ∧ fX0_doubtfulKeys 2 M = some (nI (cnt (r * c) (fun k => decide (M.1 236 (116 + k) = nI 1))), M) := by
  have hd := H.hd
  have z : ∀ i, i < 6 → ∀ d, 8 ≤ d → bt (M.1 8 i) d = false ∧ bt (M.1 9 i) d = false ∧ bt (M.1 10 i) d = false := fun i hi d h8 => H.bit0 hi (by omega)
  refine ⟨?_, ?_, ?_⟩
  · unfold fX0_downKeys
    rw [e_bitsIn (a := 2 + 6) rfl (fun i hi d h8 => (z i hi d h8).1), cal_e, ← words_eq hd (w := M.1 8) (fun k hk => (H.bits hk).1) (fun i hi d hd => (H.bit0 hi hd).1)]
  · unfold fX0_seenKeys
    rw [e_bitsIn (a := 2 + 7) rfl (fun i hi d h8 => (z i hi d h8).2.1), cal_e, ← words_eq hd (w := M.1 9) (fun k hk => (H.bits hk).2.1) (fun i hi d hd => (H.bit0 hi hd).2.1)]
  · unfold fX0_doubtfulKeys
    rw [e_bitsIn (a := 2 + 8) rfl (fun i hi d h8 => (z i hi d h8).2.2), cal_e, ← words_eq hd (w := M.1 10) (fun k hk => (H.bits hk).2.2) (fun i hi d hd => (H.bit0 hi hd).2.2)]
theorem e_driven {r c t e dt N : Nat} {M : Mem} (H : NF r c t e dt N M) (hN : N < 2 ^ 30) : fX5_drivenRow 1 M = some (nI (t % r), M) := by
  have hd := H.hd
  have := H.tN
  unfold fX5_drivenRow
  simp (disch := omega) only [nlit, Nat.reduceAdd, H.hr, H.t1, nI_leI, show ¬ (r ≤ 0) by omega, if_false, e_fmod, cal_e]

