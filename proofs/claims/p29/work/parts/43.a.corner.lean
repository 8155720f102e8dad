/-! PURE: a tick: corners and marks -/
def anyb : Nat → (Nat → Bool) → Bool
  | 0, _ => false
  | n + 1, p => anyb n p || p n
theorem anyb_succ (n : Nat) (p : Nat → Bool) : anyb (n + 1) p = (anyb n p || p n) := rfl
theorem anyb_iff {n : Nat} {p : Nat → Bool} : anyb n p = true ↔ ∃ i, i < n ∧ p i = true := by
  induction n with
  | zero => exact ⟨fun h => (Bool.false_ne_true h).elim, fun ⟨i, h, _⟩ => absurd h (Nat.not_lt_zero i)⟩
  | succ n ih =>
    rw [anyb_succ, Bool.or_eq_true, ih]
    constructor
    · rintro (⟨i, h, g⟩ | h)
      · exact ⟨i, by omega, g⟩
      · exact ⟨n, by omega, h⟩
    · rintro ⟨i, h, g⟩
      by_cases e : i = n
      · subst e
        exact .inr g
      · exact .inl ⟨i, by omega, g⟩
theorem anyb_congr {n : Nat} {p q : Nat → Bool} (h : ∀ i, i < n → p i = q i) : anyb n p = anyb n q := by
  induction n with
  | zero => rfl
  | succ n ih => rw [anyb_succ, anyb_succ, ih (fun i hi => h i (by omega)), h n (by omega)]
/-- row j closes a corner with the key (i, d) -/
def corJ (sn : Nat → Nat → Bool) (c i d j : Nat) : Bool := !decide (j = i) && anyb c (fun d2 => !decide (d2 = d) && (sn i d2 && (sn j d && sn j d2)))
def corB (sn : Nat → Nat → Bool) (r c i d : Nat) : Bool := anyb r (corJ sn c i d)
theorem corB_congr {f g : Nat → Nat → Bool} {r c i d : Nat} (hi : i < r) (hd : d < c) (h : ∀ j, j < r → ∀ d, d < c → f j d = g j d) : corB f r c i d = corB g r c i d :=
  anyb_congr (fun j hj => by
    unfold corJ
    exact congrArg (fun x => !decide (j = i) && x) (anyb_congr (fun d2 hd2 => by rw [h i hi d2 hd2, h j hj d hd, h j hj d2 hd2])))
theorem e_corner {M : Mem} {r c i d : Nat} (hr : M.1 2 0 = nI r) (hr6 : r ≤ 6) (hi : i < r) (hd : d < c) (hc8 : c ≤ 8) (h0 : ∀ d2, ¬ d2 < c → bt (M.1 9 i) d2 = false) :
    fX0_closesCorner 2 (nI i) (pw d) M = some (b2 (corB (fun j d => bt (M.1 9 j) d) r c i d), M) := by
  have works : ∀ j, j ≠ i → (corJ (fun j d => bt (M.1 9 j) d) c i d j = true ↔ bt (M.1 9 j) d = true ∧ ¬ (M.1 9 j &&& (M.1 9 i &&& (pw d ^^^ nm 1)) = nI 0)) := fun j hj => by
    unfold corJ
    rw [decide_eq_false hj, Bool.not_false, Bool.true_and, anyb_iff, nz_bit]
    constructor
    · rintro ⟨d2, h1, h2⟩
      simp only [Bool.and_eq_true, Bool.not_eq_true', decide_eq_false_iff_not] at h2
      obtain ⟨q1, q2, q3, q4⟩ := h2
      refine ⟨q3, d2, q4, ?_⟩
      rw [bt_and, bt_not, bt_pw (by omega), q2, decide_eq_true (show d2 < 32 by omega), decide_eq_false (fun h => q1 h.symm)]
      rfl
    · rintro ⟨q3, d2, q4, h2⟩
      rw [bt_and, bt_not, bt_pw (by omega)] at h2
      simp only [Bool.and_eq_true, Bool.not_eq_true', decide_eq_false_iff_not] at h2
      have hd2 : d2 < c := by
        refine Nat.lt_of_not_le fun hh => ?_
        rw [h0 d2 (by omega)] at h2
        exact absurd h2.1 (by decide)
      refine ⟨d2, hd2, ?_⟩
      simp only [Bool.and_eq_true, Bool.not_eq_true', decide_eq_false_iff_not]
      exact ⟨fun h => h2.2.2 h.symm, h2.1, q3, q4⟩
  unfold fX0_closesCorner
  simp only [Nat.reduceAdd, e_at M (show i < ln 9 by rw [ln_9]; omega), cal_x, nlit', nm_x]
  refine wp_eq (lp_for r (fun n b M1 => b = nI n ∧ M1 = M ∧ anyb n (corJ (fun j d => bt (M.1 9 j) d) c i d) = false) (by omega) ⟨rfl, rfl, rfl⟩ ?_ ?_)
  · rintro n b M1 rec hn ⟨rfl, rfl, ha⟩ kk
    unfold FX0_closesCorner_16
    simp (disch := omega) only [hr, nI_leI, show ¬ r ≤ n by omega, if_false, Nat.reduceAdd, e_at M1 (show n < ln 9 by rw [ln_9]; omega), cal_x, jn_x, nlit', nI_eq, and_pw, nI_add]
    by_cases hni : n = i
    · rw [if_pos hni]
      refine kk _ _ ⟨rfl, rfl, ?_⟩
      rw [anyb_succ, ha, Bool.false_or]
      unfold corJ
      rw [decide_eq_true hni]
      rfl
    · rw [if_neg hni]
      have hw := works n hni
      by_cases h1 : bt (M1.1 9 n) d = false
      · rw [if_pos h1]
        refine kk _ _ ⟨rfl, rfl, ?_⟩
        rw [anyb_succ, ha, Bool.false_or]
        cases hh : corJ (fun j d => bt (M1.1 9 j) d) c i d n
        · rfl
        · rw [(hw.mp hh).1] at h1
          exact absurd h1 (by decide)
      · rw [if_neg h1]
        by_cases h2 : M1.1 9 n &&& (M1.1 9 i &&& (pw d ^^^ nm 1)) = nI 0
        · rw [if_pos h2]
          refine kk _ _ ⟨rfl, rfl, ?_⟩
          rw [anyb_succ, ha, Bool.false_or]
          cases hh : corJ (fun j d => bt (M1.1 9 j) d) c i d n
          · rfl
          · exact absurd h2 (hw.mp hh).2
        · rw [if_neg h2, wp_some]
          have hh := hw.mpr ⟨by cases h3 : bt (M1.1 9 n) d <;> simp_all, h2⟩
          have : corB (fun j d => bt (M1.1 9 j) d) r c i d = true := anyb_iff.mpr ⟨n, hn, hh⟩
          rw [this]
          exact ⟨rfl, by trivial⟩
  · rintro b M1 rec ⟨rfl, rfl, ha⟩
    unfold FX0_closesCorner_16
    simp (disch := omega) only [hr, nI_leI, Nat.le_refl, if_true, wp_some, nlit']
    have : corB (fun j d => bt (M1.1 9 j) d) r c i d = false := ha
    rw [this]
    exact ⟨rfl, by trivial⟩
theorem b2_or {a b : Bool} (h : a = true) : b2 (a || b) = nI 1 := by rw [h]; rfl
/-- the keys of a row that are chosen get a value -/
def mark (s : Nat → Int32) (b n : Nat) (f : Nat → Bool) (v : Nat → Int32) : Nat → Int32 := fun x => if b ≤ x ∧ x < b + n ∧ f (x - b) = true then v (x - b) else s x
theorem mark_0 {s : Nat → Int32} {b : Nat} {f : Nat → Bool} {v : Nat → Int32} : mark s b 0 f v = s := by
  funext x
  unfold mark
  rw [if_neg (by omega)]
theorem mark_t {s : Nat → Int32} {b n : Nat} {f : Nat → Bool} {v : Nat → Int32} (h : f n = true) : upd (mark s b n f v) (b + n) (v n) = mark s b (n + 1) f v := by
  funext x
  rw [upd_at]
  unfold mark
  by_cases hx : x = b + n
  · subst hx
    rw [if_pos rfl, if_pos ⟨by omega, by omega, by rw [Nat.add_sub_cancel_left]; exact h⟩, Nat.add_sub_cancel_left]
  · rw [if_neg hx]
    by_cases h1 : b ≤ x ∧ x < b + n ∧ f (x - b) = true
    · rw [if_pos h1, if_pos ⟨h1.1, by omega, h1.2.2⟩]
    · rw [if_neg h1, if_neg (fun h2 => h1 ⟨h2.1, by omega, h2.2.2⟩)]
theorem mark_f {s : Nat → Int32} {b n : Nat} {f : Nat → Bool} {v : Nat → Int32} (h : f n = false) : mark s b n f v = mark s b (n + 1) f v := by
  funext x
  unfold mark
  by_cases h1 : b ≤ x ∧ x < b + n ∧ f (x - b) = true
  · rw [if_pos h1, if_pos ⟨h1.1, by omega, h1.2.2⟩]
  · rw [if_neg h1, if_neg]
    rintro ⟨h2, h3, h4⟩
    by_cases hx : x = b + n
    · subst hx
      rw [Nat.add_sub_cancel_left, h] at h4
      exact absurd h4 (by decide)
    · exact h1 ⟨h2, by omega, h4⟩
theorem mark_o {s : Nat → Int32} {b n x : Nat} {f : Nat → Bool} {v : Nat → Int32} (h : x < b ∨ b + n ≤ x) : mark s b n f v x = s x := by
  unfold mark
  rw [if_neg (by omega)]
theorem mark_d {s : Nat → Int32} {b n d : Nat} {f : Nat → Bool} {v : Nat → Int32} (h : d < n) : mark s b n f v (b + d) = if f d = true then v d else s (b + d) := by
  unfold mark
  rw [Nat.add_sub_cancel_left]
  by_cases hf : f d = true
  · rw [if_pos ⟨by omega, by omega, hf⟩, if_pos hf]
  · rw [if_neg (fun h => hf h.2.2), if_neg hf]
theorem mark_none {s : Nat → Int32} {b n : Nat} {f : Nat → Bool} {v : Nat → Int32} (h : ∀ d, d < n → f d = false) : mark s b n f v = s := by
  funext x
  unfold mark
  refine if_neg ?_
  rintro ⟨h1, h2, h3⟩
  rw [h _ (by omega)] at h3
  exact absurd h3 (by decide)
theorem mark_upd {s : Nat → Int32} {b n i : Nat} {f : Nat → Bool} {v : Nat → Int32} {x : Int32} (h : i < b ∨ b + n ≤ i) : upd (mark s b n f v) i x = mark (upd s i x) b n f v := by
  funext j
  rw [upd_at]
  by_cases hj : j = i
  · subst hj
    rw [if_pos rfl, mark_o h, upd_eq rfl]
  · rw [if_neg hj]
    unfold mark
    rw [upd_ne hj]

