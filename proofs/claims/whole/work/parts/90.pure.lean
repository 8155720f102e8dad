/-! PURE: all of it -/
def Iz (n : Nat) (M : Mem) : Prop := IV (n * 30000) M
theorem PSz {n : Nat} {α : Type} {x y : Mem → Option (α × Mem)} {M : Mem} (h : W2 ((n + 1) * 30000) x y M) : PSt Iz n x y M := by
  obtain ⟨r, M1, e, r2, M2, e2, rfl, h⟩ := h
  exact ⟨r2, M1, M2, e, e2, h⟩
set_option maxRecDepth 20000 in
theorem pure_owed : PURE := by
  obtain ⟨M0, e0, h0⟩ := pure_start
  refine ⟨M0, Iz, e0, (show IV (0 * 30000) M0 by rw [Nat.zero_mul]; exact h0), fun n M hn h => ?_⟩
  have hm : n * 30000 ≤ 15330000 := Nat.mul_le_mul_right 30000 (show n ≤ 511 by omega)
  have e1 : (n + 1) * 30000 = n * 30000 + 30000 := Nat.succ_mul n 30000
  have h : IV (n * 30000) M := h
  obtain ⟨N, hNd⟩ : ∃ N, N = n * 30000 := ⟨_, rfl⟩
  rw [← hNd] at hm e1 h
  have up : ∀ {α : Type} {x y : Mem → Option (α × Mem)}, W2 N x y M → PSt Iz n x y M := fun g => PSz (W2_mono g (by rw [e1]; exact Nat.le_add_right _ _))
  have h30 : N < 2 ^ 30 := by omega
  have h24 : N < 2 ^ 24 := by omega
  have h4 : N + 4000 < 2 ^ 24 := by omega
  have h40 : N + 40000 < 2 ^ 24 := by omega
  refine ⟨?_, fun a1 a2 => up (st_build h h30), fun a1 a2 => up (st_setSign h h30), fun a1 a2 => up (st_setShift h h30), fun a1 a2 ha => up (st_borrow h h30 ha), fun a1 a2 => up (st_set h h30), fun a1 a2 => up (st_press h h30), fun a1 a2 => up (st_release h h30), fun a1 => PSz (W2_mono (st_tick h h4) (by rw [e1]; omega)), fun a1 a2 => PSz (W2_mono (st_settle h h24) (by rw [e1]; omega)),
    fun a1 => up (st_type h), up (st_clear h), PSz (by rw [e1]; exact st_perform h h40), up (st_undo h), up (st_keep h), up (st_restore h), fun a1 a2 => ?_, fun a1 a2 => up (st_typist h h30), fun a1 a2 => up (st_style h h30), fun a1 a2 => up (st_hundredths h h30), fun a1 a2 => up (st_typed h h30), fun a1 a2 => up (st_stroke h h30), fun a1 a2 => up (st_dispute h h30), fun a1 a2 a3 => up (st_distance h h30), fun a1 => up (st_verdict h h30), fun a1 => up (st_ghostsBy h h30), fun a1 => up (st_count h h30)⟩
  · show IV ((n + 1) * 30000) M
    rw [e1]
    exact IV_mono h (Nat.le_add_right _ _)
  · by_cases h6 : a2 = nI 6
    · subst h6
      exact up (st_key6 h h30)
    · exact up (st_key h h30 h6)
