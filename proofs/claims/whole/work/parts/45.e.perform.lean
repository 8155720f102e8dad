/-! PURE: perform -/
theorem fv_no {i : Nat} (h : i < 2 ^ 31) : ¬ fv (some i) = -1 := by
  show ¬ nI i = nm 1
  rw [nI_nm h (by decide) (by decide)]
  exact not_false
theorem st_perform {N : Nat} {M : Mem} (h : IV N M) (hN : N + 40000 < 2 ^ 24) : W2 (N + 30000) (fX8_perform 0) (fX9_perform 235) M := by
  have h0 := h
  obtain ⟨r, c, t, e, dt, H⟩ := h.nf
  obtain ⟨g1, ⟨q, st, g2⟩, g3, ⟨L, hL, l1, l2, l3⟩⟩ := h
  have hch : ∀ j, j < L → (M.1 234 j).toNatClampNeg < 65536 := fun j hj => by
    obtain ⟨u, hu, a, _⟩ := l3 j hj
    rw [a, nI_clamp (by omega)]
    exact hu
  have T : TC L (fun j => (M.1 234 j).toNatClampNeg) M := ⟨l1, fun j hj => by
    obtain ⟨u, hu, a, _⟩ := l3 j hj
    show M.1 234 j = nI (M.1 234 j).toNatClampNeg
    rw [a, nI_clamp (by omega)]⟩
  have TRm : TR L (fun j => (M.1 234 j).toNatClampNeg) M := ⟨l2, fun j hj => by
    obtain ⟨u, hu, a, b⟩ := l3 j hj
    show M.1 244 j = nI (M.1 234 j).toNatClampNeg
    rw [a, b, nI_clamp (by omega)]⟩
  generalize (fun j => (M.1 234 j).toNatClampNeg) = ch at *
  have hch' : ∀ j, j < L → ch j < 65536 := fun j hj => by
    have := T.2 j hj
    obtain ⟨u, hu, a, _⟩ := l3 j hj
    have hc := hch j hj
    rw [a] at this
    have h2 := congrArg Int32.toNatClampNeg this
    have h3 : (M.1 234 j).toNatClampNeg < 65536 := hch j hj
    exact Nat.lt_of_not_le fun hge => by
      have := T.2 j hj
      omega
  sorry
