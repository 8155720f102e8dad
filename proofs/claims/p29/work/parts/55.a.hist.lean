/-! PURE: what is known of the history -/
def HX (t : Nat) (M : Mem) : Prop := ∃ q st, st ≤ 4 ∧ M.1 100 0 = nI st ∧ HIid q M ∧ (0 < st → (∃ u, u ≤ t ∧ M.1 (hb q) 6 = nI u) ∧ bzb (M.1 (hb q + 11) 3) = true ∧ bzb (M.1 (hb q + 13) 3) = true)
theorem HX_f {t t2 : Nat} {M M1 : Mem} (h : HX t M) (f : ∀ k, 100 ≤ k → k < 233 → M1.1 k = M.1 k) (ht : t ≤ t2) : HX t2 M1 := by
  obtain ⟨q, st, h1, h2, h3, h4⟩ := h
  have rg := hb_rng q
  refine ⟨q, st, h1, ?_, fun i hi => ?_, fun h0 => ?_⟩
  · rw [f 100 (by omega) (by omega)]
    exact h2
  · rw [f 100 (by omega) (by omega)]
    exact h3 i hi
  · obtain ⟨⟨u, hu, e⟩, b1, b2⟩ := h4 h0
    rw [f (hb q) (by omega) (by omega), f (hb q + 11) (by omega) (by omega), f (hb q + 13) (by omega) (by omega)]
    exact ⟨⟨u, by omega, e⟩, b1, b2⟩
section HIS
variable {r c t e dt N : Nat} {M : Mem} {s : Nat → Int32} {φ : Nat → UInt32}
theorem h_rem (H : CV r c t e dt N M s φ) (hx : HX t M) : ∃ M1, fX2_remember 100 1 M = some ((), M1) ∧ HX t M1 ∧ CV r c t e dt N M1 s φ ∧ ∀ k, (k < 100 ∨ 233 ≤ k) → M1.1 k = M.1 k ∧ M1.2 k = M.2 k := by
  obtain ⟨q, st, h1, h2, h3, _⟩ := hx
  have hz := RS_bz (a := 1) (M := M) ⟨r, c, t, e, dt, H⟩
  obtain ⟨M1, e1, p1, p2, p3, p4⟩ := e_remember M (a := 1) (by decide) (by omega) hz h3 h2 h1
  have rg := hb_rng (q + 3)
  have fr : ∀ k, (k < 100 ∨ 233 ≤ k) → M1.1 k = M.1 k ∧ M1.2 k = M.2 k := fun k hk => p4 k (by omega) (by omega)
  refine ⟨M1, e1, ⟨q + 3, min (st + 1) 4, by omega, p1, p2, fun _ => ⟨⟨t, Nat.le_refl t, ?_⟩, ?_, ?_⟩⟩, CV.v (M := M) H (fun k _ _ => fr k (by omega)), fr⟩
  · exact (p3.1 6 (by omega) (by omega)).trans H.t1
  · have := (p3.2.2.2.2.2.1 0 (by omega)).1 3 (by omega) (by omega)
    exact (congrArg (fun x => bzb x) this).trans hz.1
  · have := (p3.2.2.2.2.2.1 1 (by omega)).1 3 (by omega) (by omega)
    exact (congrArg (fun x => bzb x) this).trans hz.2
end HIS
/-- all that is kept from act to act -/
def JS (N r c t e dt : Nat) (M : Mem) (s : Nat → Int32) (φ : Nat → UInt32) : Prop := CV r c t e dt N M s φ ∧ EX (r * c) e dt t s φ ∧ HX t M ∧ M.1 233 0 = nI 0 ∧ r + c ≤ 12
def JN (N : Nat) (M : Mem) : Prop := ∃ r c t e dt s φ, JS N r c t e dt M s φ
