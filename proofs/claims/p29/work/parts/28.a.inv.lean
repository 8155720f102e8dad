/-! PURE: the invariant; undo, keep, restore -/
def NowR (N : Nat) (M : Mem) : Prop := RS N (vA M 1) (vB M 1) (M.1 236) (M.2 240)
def SN (N : Nat) (M : Mem) : Prop := (M.1 0 5 = nI 0 ∧ M.1 235 9 = nI 0) ∨ (M.1 0 5 = nI 1 ∧ M.1 235 9 = nI 1 ∧ RS N (vA M 67) (vB M 67) (M.1 238) (M.2 242))
def SC (M : Mem) : Prop := ∃ L, L ≤ 60 ∧ M.1 233 0 = nI L ∧ M.1 235 11 = nI L ∧ ∀ j, j < L → ∃ u, u < 65536 ∧ M.1 234 j = nI u ∧ M.1 244 j = nI u
def IV (N : Nat) (M : Mem) : Prop := NowR N M ∧ (∃ q st, HI q st N M) ∧ SN N M ∧ SC M
def Iv (n : Nat) (M : Mem) : Prop := IV (n * 20000) M
theorem SN_f {N : Nat} {M M1 : Mem} (h : SN N M) (g : (∀ k, 67 ≤ k → k < 100 → M1.1 k = M.1 k ∧ M1.2 k = M.2 k) ∧ M1.1 0 5 = M.1 0 5 ∧ M1.1 235 9 = M.1 235 9 ∧ M1.1 238 = M.1 238 ∧ M1.2 242 = M.2 242) : SN N M1 := by
  obtain ⟨g1, g2, g3, g4, g5⟩ := g
  unfold SN
  rw [g2, g3, g4, g5]
  rcases h with h | ⟨h1, h2, h3⟩
  · exact .inl h
  · exact .inr ⟨h1, h2, RS_v h3 (fun k hk => g1 _ (by omega) (by omega))⟩
theorem SC_f {M M1 : Mem} (h : SC M) (g : M1.1 233 0 = M.1 233 0 ∧ M1.1 235 11 = M.1 235 11 ∧ M1.1 234 = M.1 234 ∧ M1.1 244 = M.1 244) : SC M1 := by
  unfold SC
  rw [g.1, g.2.1, g.2.2.1, g.2.2.2]
  exact h
theorem NowR_f {N : Nat} {M M1 : Mem} (h : NowR N M) (g : (∀ k, 1 ≤ k → k < 34 → M1.1 k = M.1 k ∧ M1.2 k = M.2 k) ∧ M1.1 236 = M.1 236 ∧ M1.2 240 = M.2 240) : NowR N M1 := by
  unfold NowR
  rw [g.2.1, g.2.2]
  exact RS_v h (fun k hk => g.1 _ (by omega) (by omega))
theorem SN_mono {N N2 : Nat} {M : Mem} (h : SN N M) (hN : N ≤ N2) : SN N2 M := by
  rcases h with h | ⟨h1, h2, h3⟩
  · exact .inl h
  · exact .inr ⟨h1, h2, RS_mono h3 hN⟩
theorem IV_mono {N N2 : Nat} {M : Mem} (h : IV N M) (hN : N ≤ N2) : IV N2 M := by
  obtain ⟨h1, ⟨q, st, h2⟩, h3, h4⟩ := h
  exact ⟨RS_mono h1 hN, ⟨q, st, HI_mono h2 hN⟩, SN_mono h3 hN, h4⟩
/-- class and reference, one after the other, tell the same -/
def W2 (N : Nat) {α : Type} (x y : Mem → Option (α × Mem)) (M : Mem) : Prop := wp (x M) (fun r M1 => wp (y M1) (fun r2 M2 => r2 = r ∧ IV N M2))
theorem W2_mono {N N2 : Nat} {α : Type} {x y : Mem → Option (α × Mem)} {M : Mem} (h : W2 N x y M) (hN : N ≤ N2) : W2 N2 x y M := wp_mono h (fun _ _ h => wp_mono h (fun _ _ h => ⟨h.1, IV_mono h.2 hN⟩))
/-- neither changes anything -/
theorem W2_same {N : Nat} {α : Type} {x y : Mem → Option (α × Mem)} {M : Mem} {r : α} (h : IV N M) (hx : x M = some (r, M)) (hy : wp (y M) (fun r2 M2 => r2 = r ∧ (∀ k, k ≠ 235 → M2.1 k = M.1 k) ∧ (∀ j, j < 12 → M2.1 235 j = M.1 235 j) ∧ M2.2 = M.2)) : W2 N x y M := by
  refine wp_of hx (wp_mono hy (fun r2 M2 ⟨e, h1, h2, h3⟩ => ⟨e, ?_⟩))
  obtain ⟨g1, ⟨q, st, g2⟩, g3, g4⟩ := h
  have h1' : ∀ k, k ≠ 235 → M2.1 k = M.1 k ∧ M2.2 k = M.2 k := fun k hk => ⟨h1 k hk, by rw [h3]⟩
  exact ⟨NowR_f g1 ⟨fun k _ _ => h1' k (by omega), h1 _ (by omega), by rw [h3]⟩, ⟨q, st, HI_f g2 ⟨fun k _ _ => h1' k (by omega), h2 _ (by omega), h1 _ (by omega), by rw [h3]⟩⟩,
    SN_f g3 ⟨fun k _ _ => h1' k (by omega), by rw [h1 0 (by omega)], h2 _ (by omega), h1 _ (by omega), by rw [h3]⟩, SC_f g4 ⟨by rw [h1 _ (by omega)], h2 _ (by omega), h1 _ (by omega), h1 _ (by omega)⟩⟩
theorem RS_t {N a : Nat} {M : Mem} {s : Nat → Int32} {φ : Nat → UInt32} (h : RS N (vA M a) (vB M a) s φ) : M.1 a 6 = s 2 := by
  obtain ⟨r, c, t, e, dt, h1, h2, h3, h4, h5, h6, h7, h8, h9, h10, h11, h12⟩ := h
  have := h12.2.1
  rw [h12.2.2.1]
  exact this

