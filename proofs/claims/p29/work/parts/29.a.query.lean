/-! PURE: what is asked (1) -/
theorem W2_same' {N : Nat} {α : Type} {x y : Mem → Option (α × Mem)} {M : Mem} {r : α} (h : IV N M) (hx : x M = some (r, M)) (hy : y M = some (r, M)) : W2 N x y M :=
  W2_same h hx (wp_of hy ⟨rfl, fun _ _ => rfl, fun _ _ => rfl, rfl⟩)
theorem oN_eq {x y : Int32} {n k : Nat} (h : oN x y n) (hk : k < 2 ^ 31) : (x = nI k) = (y = nI k) := by
  rcases h with ⟨h1, h2⟩ | ⟨j, hj, h1, h2⟩
  · rw [h1, h2, nm_nI hk (by decide) (by decide), nm_nI hk (by decide) (by decide)]
  · rw [h1, h2]
theorem e_orNone {x y : Int32} {n : Nat} (M : Mem) (h : oN x y n) (hn : n ≤ 2 ^ 31) : fX8_orNone x M = some (y, M) := by
  unfold fX8_orNone
  rcases h with ⟨h1, h2⟩ | ⟨j, hj, h1, h2⟩
  · rw [h1, h2]
    simp only [nlit, nm_def, if_true]
  · rw [h1, h2]
    simp (disch := omega) only [nlit, nm_def, nI_nm, if_false]
theorem own_eq {r c t e dt N k : Nat} {M : Mem} (h : NF r c t e dt N M) (hk : k < 2 ^ 31) : oN (if M.1 11 0 = nI k then nI 0 else if M.1 11 1 = nI k then nI 1 else nm 1) (if M.1 236 5 = nI k then nI 0 else if M.1 236 6 = nI k then nI 1 else nm 5) 2 := by
  have e0 := oN_eq (h.shift (p := 0) (by omega)) hk
  have e1 := oN_eq (h.shift (p := 1) (by omega)) hk
  simp only [e0, e1, Nat.add_zero, Nat.reduceAdd]
  by_cases h1 : M.1 236 5 = nI k
  · simp only [h1, if_true]
    exact .inr ⟨0, by omega, rfl, rfl⟩
  · by_cases h2 : M.1 236 6 = nI k
    · simp only [h1, h2, if_true, if_false]
      exact .inr ⟨1, by omega, rfl, rfl⟩
    · simp only [h1, h2, if_false]
      exact .inl ⟨rfl, rfl⟩
theorem neg_nI {x : Int32} : x < nI 0 ∨ ∃ j, j < 2 ^ 31 ∧ x = nI j := by
  by_cases h : x < nI 0
  · exact .inl h
  · exact .inr (nI_of (x := x) h)
theorem b2_if {b : Bool} {γ : Type} {x y : γ} : (if b2 b = nI 0 then x else y) = if b = false then x else y := by
  cases b
  · rfl
  · rw [if_neg (by decide), if_neg (by decide)]
theorem n10 : ¬ (nI 1 = nI 0) := by decide
theorem n20 : ¬ (nI 2 = nI 0) := by decide
theorem fin9 : ∀ a, a < 10 → ∀ b, b < 10 → a ≠ b → ¬ (nI a = nI b) := by decide +kernel
theorem NF.seen {r c t e dt N k : Nat} {M : Mem} (h : NF r c t e dt N M) (hN : N < 2 ^ 30) (hk : k < r * c) : (M.1 236 (68 + k) < nI 0 ∧ M.1 236 (68 + k) = nm 5 ∧ M.1 236 (116 + k) = nI 0) ∨ (¬ M.1 236 (68 + k) < nI 0 ∧ M.1 236 (68 + k) = M.1 5 k ∧ (M.1 236 (116 + k) = nI 0 ∨ M.1 236 (116 + k) = nI 1)) := by
  rcases h.key hk with ⟨g1, g2⟩ | ⟨⟨u, hu, g1, g2⟩, g3, _⟩
  · refine .inl ⟨?_, g1, g2⟩
    rw [g1]
    exact nm_lt0 (by decide) (by decide)
  · refine .inr ⟨?_, g1.trans g2.symm, g3⟩
    rw [g1]
    have := h.tN
    exact nI_nlt0 (by omega)
