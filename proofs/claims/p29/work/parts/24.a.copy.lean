/-! PURE: copies -/
def cpv {α : Type} (g f : Nat → α) (n : Nat) : Nat → α := fun j => if j < n then f j else g j
theorem cpv_lt {α : Type} {g f : Nat → α} {n j : Nat} (h : j < n) : cpv g f n j = f j := if_pos h
def wf (M : Mem) (a : Nat) (f : Nat → UInt32) : Mem := (M.1, fun b => if b = a then f else M.2 b)
theorem wf_1 {M : Mem} {a : Nat} {f : Nat → UInt32} : (wf M a f).1 = M.1 := rfl
theorem wf_2 {M : Mem} {a b j : Nat} {f : Nat → UInt32} : (wf M a f).2 b j = if b = a then f j else M.2 b j := by
  unfold wf
  by_cases h : b = a
  · subst h
    simp
  · simp [h]
theorem wf_o {M : Mem} {a b : Nat} {f : Nat → UInt32} (h : b ≠ a) : (wf M a f).2 b = M.2 b := by simp [wf, h]
theorem wf_self {M : Mem} {a : Nat} {f : Nat → UInt32} : (wf M a f).2 a = f := by simp [wf]
theorem w1_wa {M : Mem} {a i : Nat} {f : Nat → Int32} {x : Int32} : w1 (wa M a f) a i x = wa M a (upd f i x) := by
  unfold w1 wa
  congr 1
  funext b
  by_cases h : b = a
  · simp [h]
  · simp [h]
theorem w2_wf {M : Mem} {a i : Nat} {f : Nat → UInt32} {x : UInt32} : w2 (wf M a f) a i x = wf M a (vf_upd f i x) := by
  unfold w2 wf
  congr 1
  funext b
  by_cases h : b = a
  · simp [h]
  · simp [h]
theorem wa_id {M : Mem} {a : Nat} {f : Nat → Int32} (h : f = M.1 a) : wa M a f = M := by
  subst h
  unfold wa
  refine Prod.ext ?_ rfl
  funext b
  by_cases h : b = a
  · subst h
    simp
  · simp [h]
theorem wf_id {M : Mem} {a : Nat} {f : Nat → UInt32} (h : f = M.2 a) : wf M a f = M := by
  subst h
  unfold wf
  refine Prod.ext rfl ?_
  funext b
  by_cases h : b = a
  · subst h
    simp
  · simp [h]
theorem wa_wa {M : Mem} {a : Nat} {f g : Nat → Int32} : wa (wa M a f) a g = wa M a g := by
  unfold wa
  refine Prod.ext ?_ rfl
  funext b
  by_cases h : b = a
  · simp [h]
  · simp [h]
theorem e_min (a b : Nat) (M : Mem) (ha : a < 2 ^ 31) (hb : b < 2 ^ 31) : fJ9_min_7cf53 (nI a) (nI b) M = some (nI (min a b), M) := by
  unfold fJ9_min_7cf53
  by_cases h : b < a
  · rw [if_pos ((nI_ltI hb ha).mpr h), Nat.min_eq_right (by omega)]
  · rw [if_neg (fun q => h ((nI_ltI hb ha).mp q)), Nat.min_eq_left (by omega)]
theorem e_copy {x y n : Nat} (M : Mem) (hx : ln x = n) (hy : ln y = n) : fX1_copy x y M = some ((), wa M y (cpv (M.1 y) (M.1 x) n)) := by
  have hl := ln_lt x
  have h0 : (0 : Int32).toNatClampNeg = 0 := rfl
  have h1 : (0 : Int32).toInt = 0 := rfl
  unfold fX1_copy
  simp (disch := omega) only [hx, hy, e_min, cal_e, bnd_e, asr_e, jn_e, if_true, Nat.min_self, h0, nI_clamp]
  rw [show cpok x y 0 0 (nI n) = true from by
    unfold cpok
    rw [nI_toInt (by omega), nI_clamp (by omega), h0, h1, hx, hy]
    exact decide_eq_true ⟨by omega, by omega, by omega, by omega, by omega⟩]
  rw [asr_e]
  congr 2
  congr 1
  funext k
  unfold va_cpy cpv
  simp
theorem e_copyB {x y : Nat} (M : Mem) (hxy : x + 10 ≤ y ∨ y + 10 ≤ x) (hl : (∀ i, 1 ≤ i → i ≤ 5 → ln (x + i) = 48 ∧ ln (y + i) = 48) ∧ (∀ i, 6 ≤ i → i ≤ 8 → ln (x + i) = 6 ∧ ln (y + i) = 6) ∧ ln (x + 9) = 2 ∧ ln (y + 9) = 2) :
    ∃ M1, fX0_copyFrom x y M = some ((), M1) ∧ (∀ j, j < 2 → M1.1 x j = M.1 y j) ∧ (∀ i, 1 ≤ i → i ≤ 9 → ∀ j, j < ln (y + i) → M1.1 (x + i) j = M.1 (y + i) j) ∧ (∀ k, (k < x ∨ x + 10 ≤ k) → M1.1 k = M.1 k) ∧ M1.2 = M.2 := by
  obtain ⟨h1, h2, h3, h4⟩ := hl
  unfold fX0_copyFrom
  simp only [cal_e, bnd_e, asr_e, jn_e, if_true, e_copy _ (h1 1 (by omega) (by omega)).2 (h1 1 (by omega) (by omega)).1, e_copy _ (h1 2 (by omega) (by omega)).2 (h1 2 (by omega) (by omega)).1, e_copy _ (h1 3 (by omega) (by omega)).2 (h1 3 (by omega) (by omega)).1, e_copy _ (h1 4 (by omega) (by omega)).2 (h1 4 (by omega) (by omega)).1, e_copy _ (h1 5 (by omega) (by omega)).2 (h1 5 (by omega) (by omega)).1, e_copy _ (h2 6 (by omega) (by omega)).2 (h2 6 (by omega) (by omega)).1, e_copy _ (h2 7 (by omega) (by omega)).2 (h2 7 (by omega) (by omega)).1, e_copy _ (h2 8 (by omega) (by omega)).2 (h2 8 (by omega) (by omega)).1, e_copy _ h4 h3]
  refine ⟨_, rfl, fun j hj => ?_, fun i hi hi2 j hj => ?_, fun k hk => ?_, rfl⟩
  · simp (disch := omega) only [wa_o, w1_1]
    rcases (show j = 0 ∨ j = 1 by omega) with rfl | rfl
    · simp
    · simp
  · rcases (show i = 1 ∨ i = 2 ∨ i = 3 ∨ i = 4 ∨ i = 5 ∨ i = 6 ∨ i = 7 ∨ i = 8 ∨ i = 9 by omega) with rfl | rfl | rfl | rfl | rfl | rfl | rfl | rfl | rfl <;>
    (first | rw [(h1 _ (by omega) (by omega)).2] at hj | rw [(h2 _ (by omega) (by omega)).2] at hj | rw [h4] at hj) <;>
    simp (disch := omega) only [wa_o, wa_self, w1_o, cpv_lt]
  · simp (disch := omega) only [wa_o, w1_o]
theorem e_copyT {x y : Nat} (M : Mem) (hxy : x + 2 ≤ y ∨ y + 2 ≤ x) (h1 : ln (x + 1) = 24) (h2 : ln (y + 1) = 24) (hb : bzb (M.1 y 3) = true) :
    ∃ M1, fX7_copyFrom x y M = some ((), M1) ∧ (∀ j, 2 ≤ j → j < 7 → M1.1 x j = M.1 y j) ∧ (∀ j, j < 24 → M1.1 (x + 1) j = M.1 (y + 1) j) ∧ (∀ j, j < 2 → M1.2 x j = M.2 y j) ∧ (∀ k, (k < x ∨ x + 2 ≤ k) → M1.1 k = M.1 k ∧ M1.2 k = M.2 k) := by
  unfold fX7_copyFrom
  simp (disch := omega) only [cal_e, bnd_e, asr_e, jn_e, if_true, w2_1, w1_2, w2_o, w1_o, hb, e_copy _ h2 h1]
  refine ⟨_, rfl, fun j hj hj2 => ?_, fun j hj => ?_, fun j hj => ?_, fun k hk => ⟨?_, ?_⟩⟩
  · rcases (show j = 2 ∨ j = 3 ∨ j = 4 ∨ j = 5 ∨ j = 6 by omega) with rfl | rfl | rfl | rfl | rfl <;> simp (disch := omega) [wa_o, w1_1, w2_1]
  · simp (disch := omega) only [wa_self, w1_o, cpv_lt, w2_1]
  · rcases (show j = 0 ∨ j = 1 by omega) with rfl | rfl <;> simp (disch := omega) [wa_2, w1_2, w2_2]
  · simp (disch := omega) only [wa_o, w1_o, w2_1]
  · simp (disch := omega) only [wa_2, w1_2, w2_o]
theorem e_copyS {x y : Nat} (M : Mem) (hxy : x + 8 ≤ y ∨ y + 8 ≤ x) (hl : ∀ i, 1 ≤ i → i ≤ 7 → ln (x + i) = 20 ∧ ln (y + i) = 20) :
    ∃ M1, fX6_copyFrom x y M = some ((), M1) ∧ M1.1 x 0 = M.1 y 0 ∧ (∀ i, 1 ≤ i → i ≤ 7 → ∀ j, j < 20 → M1.1 (x + i) j = M.1 (y + i) j) ∧ (∀ k, (k < x ∨ x + 8 ≤ k) → M1.1 k = M.1 k) ∧ M1.2 = M.2 := by
  unfold fX6_copyFrom
  simp only [cal_e, bnd_e, asr_e, jn_e, if_true, e_copy _ (hl 1 (by omega) (by omega)).2 (hl 1 (by omega) (by omega)).1, e_copy _ (hl 2 (by omega) (by omega)).2 (hl 2 (by omega) (by omega)).1, e_copy _ (hl 3 (by omega) (by omega)).2 (hl 3 (by omega) (by omega)).1, e_copy _ (hl 4 (by omega) (by omega)).2 (hl 4 (by omega) (by omega)).1, e_copy _ (hl 5 (by omega) (by omega)).2 (hl 5 (by omega) (by omega)).1, e_copy _ (hl 6 (by omega) (by omega)).2 (hl 6 (by omega) (by omega)).1, e_copy _ (hl 7 (by omega) (by omega)).2 (hl 7 (by omega) (by omega)).1]
  refine ⟨_, rfl, ?_, fun i hi hi2 j hj => ?_, fun k hk => ?_, rfl⟩
  · simp (disch := omega) only [wa_o, w1_1]
    simp
  · rcases (show i = 1 ∨ i = 2 ∨ i = 3 ∨ i = 4 ∨ i = 5 ∨ i = 6 ∨ i = 7 by omega) with rfl | rfl | rfl | rfl | rfl | rfl | rfl <;>
    simp (disch := omega) only [wa_o, wa_self, w1_o, cpv_lt]
  · simp (disch := omega) only [wa_o, w1_o]
theorem e_copyG {x y : Nat} (M : Mem) (hxy : x + 2 ≤ y ∨ y + 2 ≤ x) (h1 : ln (x + 1) = 3) (h2 : ln (y + 1) = 3) :
    ∃ M1, fX4_copyFrom x y M = some ((), M1) ∧ (∀ j, j < 3 → M1.1 (x + 1) j = M.1 (y + 1) j ∧ M1.2 x (1 + j) = M.2 y (1 + j)) ∧ (∀ k, (k < x ∨ x + 2 ≤ k) → M1.1 k = M.1 k ∧ M1.2 k = M.2 k) := by
  unfold fX4_copyFrom
  simp (disch := omega) only [cal_e, bnd_e, asr_e, jn_e, if_true, wa_2, w2_o, e_copy _ h2 h1]
  refine ⟨_, rfl, fun j hj => ⟨?_, ?_⟩, fun k hk => ⟨?_, ?_⟩⟩
  · simp (disch := omega) only [wa_self, cpv_lt, w2_1]
  · rcases (show j = 0 ∨ j = 1 ∨ j = 2 by omega) with rfl | rfl | rfl <;> simp (disch := omega) [wa_2, w1_2, w2_2]
  · simp (disch := omega) only [wa_o, w1_o, w2_1]
  · simp (disch := omega) only [wa_2, w1_2, w2_o]

