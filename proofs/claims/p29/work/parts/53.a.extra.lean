/-! PURE: what more is known of a row -/
def lett (x : Int32) : Prop := ∃ v, x = nI v ∧ ((97 ≤ v ∧ v ≤ 122) ∨ (65 ≤ v ∧ v ≤ 90))
def sgn (x : Int32) : Prop := ∃ v, x = nI v ∧ (v = 46 ∨ (97 ≤ v ∧ v ≤ 122))
/-- keys: signs are signs; a shift has none; no key is both shifts -/
def XK (n : Nat) (s : Nat → Int32) : Prop := (∀ k, k < n → sgn (s (260 + k))) ∧ (∀ k, k < n → (s 5 = nI k ∨ s 6 = nI k) → s (260 + k) = nI 46) ∧ (∀ k, k < n → ¬ (s 5 = nI k ∧ s 6 = nI k))
def XT (p cr ri sg : Nat) (s : Nat → Int32) : Prop := s (10 + p) = nI cr ∧ s (12 + p) = nI ri ∧ s (17 + p) = nI sg ∧ ri ≤ cr ∧ sg ≤ cr ∧ ∀ j, j < 24 → j < sg → lett (s (544 + 24 * p + j))
/-- how many strokes are accounted for -/
def XN (m : Nat) (s : Nat → Int32) : Prop := ∃ c0 r0 g0 c1 r1 g1 g gb, XT 0 c0 r0 g0 s ∧ XT 1 c1 r1 g1 s ∧ s 14 = nI g ∧ s 15 = nI gb ∧ gb ≤ g ∧ m = c0 + c1 + g
/-- the strokes that ended -/
def XE (e T : Nat) (s : Nat → Int32) : Prop := ∃ E : Nat → Nat, (∀ i, i < e → E i < T) ∧ (∀ i, i + 1 < e → E i ≤ E (i + 1)) ∧ ∀ i, i < e → e ≤ i + 16 →
  ∃ u d w q, s (308 + 6 * (i % 16) + 1) = nI u ∧ s (308 + 6 * (i % 16) + 2) = nI d ∧ s (308 + 6 * (i % 16) + 3) = nI w ∧ s (308 + 6 * (i % 16) + 5) = nI q ∧ w < 4 ∧ q < 4 ∧ u + d = E i
def opn (dt : Nat) (s : Nat → Int32) : Nat := cnt dt (fun d => decide (s (404 + 7 * d + 3) < nI 0))
def XS (φ : Nat → UInt32) : Prop := φ 4 = 1040187392 ∧ φ 5 = 1056964608 ∧ φ 6 = 1048576000
def EX (n e dt T : Nat) (s : Nat → Int32) (φ : Nat → UInt32) : Prop := XK n s ∧ (∃ m, XN m s ∧ e = m + opn dt s) ∧ XE e T s ∧ XS φ
section EXF
variable {n e dt T m p cr ri sg : Nat} {s s2 : Nat → Int32} {φ φ2 : Nat → UInt32}
theorem XK_f (h : XK n s) (g : ∀ i, (i = 5 ∨ i = 6 ∨ (260 ≤ i ∧ i < 260 + n)) → s2 i = s i) : XK n s2 := by
  obtain ⟨h1, h2, h3⟩ := h
  refine ⟨fun k hk => ?_, fun k hk hq => ?_, fun k hk hq => ?_⟩
  · rw [g _ (by omega)]
    exact h1 k hk
  · rw [g 5 (by omega), g 6 (by omega)] at hq
    rw [g _ (by omega)]
    exact h2 k hk hq
  · rw [g 5 (by omega), g 6 (by omega)] at hq
    exact h3 k hk hq
theorem XT_f (h : XT p cr ri sg s) (hp : p < 2) (g : ∀ i, ((10 ≤ i ∧ i < 19) ∨ 544 ≤ i) → s2 i = s i) : XT p cr ri sg s2 := by
  obtain ⟨h1, h2, h3, h4, h5, h6⟩ := h
  refine ⟨?_, ?_, ?_, h4, h5, fun j hj hj2 => ?_⟩
  · rw [g _ (by omega)]
    exact h1
  · rw [g _ (by omega)]
    exact h2
  · rw [g _ (by omega)]
    exact h3
  · rw [g _ (by omega)]
    exact h6 j hj hj2
theorem XN_f (h : XN m s) (g : ∀ i, ((10 ≤ i ∧ i < 19) ∨ 544 ≤ i) → s2 i = s i) : XN m s2 := by
  obtain ⟨c0, r0, g0, c1, r1, g1, gg, gb, t0, t1, a, b, c, d⟩ := h
  refine ⟨c0, r0, g0, c1, r1, g1, gg, gb, XT_f t0 (by omega) g, XT_f t1 (by omega) g, ?_, ?_, c, d⟩
  · rw [g _ (by omega)]
    exact a
  · rw [g _ (by omega)]
    exact b
theorem XE_f (h : XE e T s) (g : ∀ i, (308 ≤ i ∧ i < 404) → s2 i = s i) : XE e T s2 := by
  obtain ⟨E, h1, h2, h3⟩ := h
  refine ⟨E, h1, h2, fun i hi hi2 => ?_⟩
  have : i % 16 < 16 := Nat.mod_lt _ (by decide)
  rw [g _ (by omega), g _ (by omega), g _ (by omega), g _ (by omega)]
  exact h3 i hi hi2
theorem XE_T {T2 : Nat} (h : XE e T s) (hT : T ≤ T2) : XE e T2 s := by
  obtain ⟨E, h1, h2, h3⟩ := h
  exact ⟨E, fun i hi => Nat.lt_of_lt_of_le (h1 i hi) hT, h2, h3⟩
theorem opn_f (hdt : dt ≤ 20) (g : ∀ i, (404 ≤ i ∧ i < 544) → s2 i = s i) : opn dt s2 = opn dt s := cnt_congr (fun d hd => by rw [g _ (by omega)])
theorem EX_f (h : EX n e dt T s φ) (hn : n ≤ 48) (hdt : dt ≤ 20) (g : ∀ i, (i = 5 ∨ i = 6 ∨ (10 ≤ i ∧ i < 16) ∨ i = 17 ∨ i = 18 ∨ 260 ≤ i) → s2 i = s i) (g16 : s2 16 = s 16) : EX n e dt T s2 φ := by
  obtain ⟨h1, ⟨m, h2, h3⟩, h4, h5⟩ := h
  have g2 : ∀ i, ((10 ≤ i ∧ i < 19) ∨ 544 ≤ i) → s2 i = s i := fun i hi => by
    by_cases e : i = 16
    · subst e
      exact g16
    · exact g i (by omega)
  exact ⟨XK_f h1 (fun i hi => g i (by omega)), ⟨m, XN_f h2 g2, by rw [opn_f hdt (fun i hi => g i (by omega))]; exact h3⟩, XE_f h4 (fun i hi => g i (by omega)), h5⟩
theorem EX_T {T2 : Nat} (h : EX n e dt T s φ) (hT : T ≤ T2) : EX n e dt T2 s φ := ⟨h.1, h.2.1, XE_T h.2.2.1 hT, h.2.2.2⟩
end EXF
