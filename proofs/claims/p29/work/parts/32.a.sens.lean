/-! PURE: the columns that are sensed -/
def SensC (D : Nat → Nat → Bool) (f d : Nat) : Prop := ∀ R C : Nat → Prop, R f → (∀ i d, D i d = true → R i → C d) → (∀ i d, D i d = true → C d → R i) → C d
def SensR (D : Nat → Nat → Bool) (f i : Nat) : Prop := ∀ R C : Nat → Prop, R f → (∀ i d, D i d = true → R i → C d) → (∀ i d, D i d = true → C d → R i) → R i
def sbs (x y : Int32) : Prop := ∀ d, bt x d = true → bt y d = true
theorem sbs_refl (x : Int32) : sbs x x := fun _ h => h
theorem sbs_trans {x y z : Int32} (h : sbs x y) (g : sbs y z) : sbs x z := fun d e => g d (h d e)
theorem sbs_anti {x y : Int32} (h : sbs x y) (g : sbs y x) : x = y := bt_ext (fun d _ => by
  have h1 := h d
  have h2 := g d
  cases hx : bt x d <;> cases hy : bt y d <;> simp_all)
theorem sbs_or (x y : Int32) : sbs x (x ||| y) := fun d h => by rw [bt_or, h]; rfl
theorem sbs_or2 (x y : Int32) : sbs y (x ||| y) := fun d h => by rw [bt_or, h, Bool.or_true]
theorem sbs_or3 {x y : Int32} (h : sbs y x) : x ||| y = x := bt_ext (fun d _ => by
  have h1 := h d
  rw [bt_or]
  cases hx : bt x d <;> cases hy : bt y d <;> simp_all)
theorem sbs_ne {x y : Int32} (h : sbs x y) (hn : y ≠ x) : ∃ d, d < 32 ∧ bt x d = false ∧ bt y d = true := by
  refine Classical.byContradiction fun q => hn ?_
  refine sbs_anti (fun d hd => ?_) h
  cases hx : bt x d
  · have h32 : d < 32 := by
      refine Nat.lt_of_not_le fun h => ?_
      rw [bt_ge h] at hd
      cases hd
    exact absurd ⟨d, h32, hx, hd⟩ q
  · rfl
theorem nz_bit {x y : Int32} : ¬ (x &&& y = nI 0) ↔ ∃ d, bt x d = true ∧ bt y d = true := by
  rw [z_iff]
  constructor
  · intro h
    refine Classical.byContradiction fun q => h fun d _ => ?_
    rw [bt_and]
    cases hx : bt x d
    · rfl
    · cases hy : bt y d
      · rfl
      · exact absurd ⟨d, hx, hy⟩ q
  · rintro ⟨d, h1, h2⟩ h
    have h32 : d < 32 := by
      refine Nat.lt_of_not_le fun h => ?_
      rw [bt_ge h] at h1
      cases h1
    have := h d h32
    rw [bt_and, h1, h2] at this
    cases this
theorem cnt_pos {n j : Nat} {p : Nat → Bool} (hj : j < n) (h : p j = true) : 0 < cnt n p := by
  refine Nat.pos_of_ne_zero fun q => ?_
  rw [cnt_zero.mp q j hj] at h
  cases h
section CSENS
variable {W : Nat → Int32} {r f : Nat} {fl : Int32} {M : Mem}
/-- what is reached lies in what is sensed -/
def inS (W : Nat → Int32) (r f : Nat) (x : Int32) : Prop := ∀ d, bt x d = true → SensC (fun i d => decide (i < r) && bt (W i) d) f d
noncomputable def abd (W : Nat → Int32) (x : Int32) (i : Nat) : Bool := @decide (sbs (W i) x) (Classical.propDecidable _)
theorem abd_t {x : Int32} {i : Nat} : abd W x i = true ↔ sbs (W i) x := by
  unfold abd
  exact @decide_eq_true_iff _ (Classical.propDecidable _)
theorem abd_f {x : Int32} {i : Nat} : abd W x i = false ↔ ¬ sbs (W i) x := by
  unfold abd
  exact @decide_eq_false_iff_not _ (Classical.propDecidable _)
def cls (W : Nat → Int32) (r : Nat) (x : Int32) : Prop := ∀ i, i < r → ¬ (W i &&& x = nI 0) → sbs (W i) x
theorem c_sensed (hr : M.1 2 0 = nI r) (hr6 : r ≤ 6) (hj : ∀ i, i < r → fX0_joined 2 (nI i) fl M = some (W i, M)) (hf : f < r) :
    ∃ w, fX0_sensed 2 (nI f) fl M = some (w, M) ∧ ∀ d, bt w d = true ↔ SensC (fun i d => decide (i < r) && bt (W i) d) f d := by
  have key : wp (fX0_sensed 2 (nI f) fl M) (fun w M1 => M1 = M ∧ ∀ d, bt w d = true ↔ SensC (fun i d => decide (i < r) && bt (W i) d) f d) := by
    unfold fX0_sensed
    rw [hj f hf, cal_e]
    refine lp_down (fun j b M1 => M1 = M ∧ ∃ ρ, ρ + j = r ∧ b.2.2 = nI ρ ∧ inS W r f b.1 ∧ sbs (W f) b.1 ∧ (b.1 = b.2.1 → cls W r b.1) ∧ (b.1 ≠ b.2.1 → ρ + 1 ≤ cnt r (abd W b.1))) ?_ 1000000 r _ M (by omega) ⟨rfl, 0, by omega, rfl, ?_, sbs_refl _, ?_, ?_⟩
    · rintro j ⟨x, y, z⟩ M1 rec ⟨rfl, ρ, h1, h2, h3, h4, h5, h6⟩ kk
      have h2' : z = nI ρ := h2
      subst h2'
      have fin : cls W r x → ∀ d, bt x d = true ↔ SensC (fun i d => decide (i < r) && bt (W i) d) f d := fun hc d => by
        refine ⟨h3 d, fun h => h (fun i => i < r ∧ sbs (W i) x) (fun d => bt x d = true) ⟨hf, h4⟩ (fun i d hD hR => ?_) (fun i d hD hC => ?_)⟩
        · simp only [Bool.and_eq_true, decide_eq_true_eq] at hD
          exact hR.2 d hD.2
        · simp only [Bool.and_eq_true, decide_eq_true_eq] at hD
          exact ⟨hD.1, hc i hD.1 (nz_bit.mpr ⟨d, hD.2, hC⟩)⟩
      unfold FX0_sensed_13
      by_cases hρ : r ≤ ρ
      · rw [hr, if_pos (nI_le hρ (by omega)), wp_some]
        refine ⟨rfl, fin ?_⟩
        refine Classical.byContradiction fun hc => ?_
        have hne : x ≠ y := fun e => hc (h5 e)
        have h7 : ρ + 1 ≤ cnt r (abd W x) := h6 hne
        have := cnt_le r (abd W x)
        have e : ρ = r := by omega
        omega
      · rw [hr, if_neg (by rw [nI_leI (by omega) (by omega)]; exact hρ)]
        by_cases hxy : x = y
        · rw [if_pos hxy, wp_some]
          exact ⟨rfl, fin (h5 hxy)⟩
        · rw [if_neg hxy]
          refine lp_for r (fun i b M2 => M2 = M1 ∧ b.2 = nI i ∧ inS W r f b.1 ∧ sbs x b.1 ∧ (b.1 = x → ∀ i2, i2 < i → ¬ (W i2 &&& x = nI 0) → sbs (W i2) x) ∧ (b.1 ≠ x → ∃ i2, i2 < i ∧ ¬ sbs (W i2) x ∧ sbs (W i2) b.1)) (by omega) ⟨rfl, rfl, h3, sbs_refl x, fun _ i2 h => absurd h (Nat.not_lt_zero _), fun h => absurd rfl h⟩ ?_ ?_
          · rintro i ⟨x2, i'⟩ M2 rec2 hi ⟨rfl, g1, g2, g3, g4, g5⟩ k2
            have g1' : i' = nI i := g1
            subst g1'
            unfold FX0_sensed_34
            rw [hr, if_neg (by rw [nI_leI (by omega) (by omega)]; omega), hj i hi, cal_e, jn_e]
            simp only [nlit, nI_add]
            by_cases hz : W i &&& x2 = nI 0
            · rw [if_pos hz]
              refine k2 _ _ ⟨rfl, rfl, g2, g3, fun e i2 hi2 hnz => ?_, fun e => ?_⟩
              · by_cases ei : i2 = i
                · subst ei
                  have e' : x2 = x := e
                  rw [e'] at hz
                  exact absurd hz hnz
                · exact g4 e i2 (by omega) hnz
              · obtain ⟨i2, q1, q2, q3⟩ := g5 e
                exact ⟨i2, by omega, q2, q3⟩
            · rw [if_neg hz]
              obtain ⟨d0, hd1, hd2⟩ := nz_bit.mp hz
              refine k2 _ _ ⟨rfl, rfl, fun d hd => ?_, sbs_trans g3 (sbs_or _ _), fun e i2 hi2 hnz => ?_, fun e => ?_⟩
              · have hd' : bt (x2 ||| W i) d = true := hd
                rw [bt_or] at hd'
                cases hx2 : bt x2 d
                · rw [hx2, Bool.false_or] at hd'
                  intro R C q1 q2 q3
                  have hRi : R i := q3 i d0 (by simp [hi, hd1]) (g2 d0 hd2 R C q1 q2 q3)
                  exact q2 i d (by simp [hi, hd']) hRi
                · exact g2 d hx2
              · have e' : x2 ||| W i = x := e
                have hxx : x2 = x := sbs_anti (by rw [← e']; exact sbs_or _ _) g3
                by_cases ei : i2 = i
                · subst ei
                  rw [← e']
                  exact sbs_or2 _ _
                · exact g4 hxx i2 (by omega) hnz
              · by_cases hxx : x2 = x
                · refine ⟨i, by omega, fun hs => e ?_, sbs_or2 _ _⟩
                  show x2 ||| W i = x
                  rw [hxx]
                  exact sbs_or3 hs
                · obtain ⟨i2, q1, q2, q3⟩ := g5 hxx
                  exact ⟨i2, by omega, q2, sbs_trans q3 (sbs_or _ _)⟩
          · rintro ⟨x2, i'⟩ M2 rec2 ⟨rfl, g1, g2, g3, g4, g5⟩
            have g1' : i' = nI r := g1
            subst g1'
            unfold FX0_sensed_34
            rw [hr, if_pos (nI_le (Nat.le_refl _) (by omega))]
            simp only [nlit, nI_add]
            refine kk (j - 1) _ _ (by omega) ⟨rfl, ρ + 1, by omega, rfl, g2, sbs_trans h4 g3, fun e i hi hnz => ?_, fun e => ?_⟩
            · have e' : x2 = x := e
              rw [e'] at hnz ⊢
              exact g4 e' i hi hnz
            · obtain ⟨i2, q1, q2, q3⟩ := g5 e
              have := cnt_strict (n := r) (j := i2) (p := abd W x) (q := abd W x2) (fun i _ hp => abd_t.mpr (sbs_trans (abd_t.mp hp) g3)) q1 (abd_f.mpr q2) (abd_t.mpr q3)
              have h7 : ρ + 1 ≤ cnt r (abd W x) := h6 hxy
              show ρ + 1 + 1 ≤ cnt r (abd W x2)
              omega
    · intro d hd R C q1 q2 q3
      exact q2 f d (by simp only [hf, decide_true, Bool.true_and]; exact hd) q1
    · intro e i hi hnz
      have e' : W f = nI 0 := e
      rw [show ((W f, (0 : Int32), (0 : Int32)) : Int32 × Int32 × Int32).1 = W f from rfl, e'] at hnz
      obtain ⟨d, _, h2⟩ := nz_bit.mp hnz
      rw [bt_0] at h2
      cases h2
    · intro _
      exact cnt_pos hf (abd_t.mpr (sbs_refl _))
  obtain ⟨w, M1, e, rfl, h⟩ := key
  exact ⟨w, e, h⟩
end CSENS

