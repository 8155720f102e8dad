/-! PURE: a tick: keys become seen, in the class -/
theorem row_out {c i j d : Nat} (hji : j ≠ i) (hd : d < c) : j * c + d < i * c ∨ i * c + c ≤ j * c + d := by
  by_cases h : j < i
  · exact .inl (ixlt h hd)
  · have := Nat.mul_le_mul_right c (show i + 1 ≤ j by omega)
    rw [Nat.succ_mul] at this
    exact .inr (by omega)
theorem row_le {r c i : Nat} (hi : i < r) : i * c + c ≤ r * c := by
  have := Nat.mul_le_mul_right c (show i + 1 ≤ r by omega)
  rw [Nat.succ_mul] at this
  exact this
theorem mark_k {s : Nat → Int32} {b c i j d : Nat} {f : Nat → Bool} {v : Nat → Int32} (hd : d < c) : mark s (b + i * c) c f v (b + (j * c + d)) = if j = i ∧ f d = true then v d else s (b + (j * c + d)) := by
  by_cases hji : j = i
  · subst hji
    rw [← Nat.add_assoc, mark_d hd]
    by_cases hf : f d = true
    · rw [if_pos hf, if_pos ⟨rfl, hf⟩]
    · rw [if_neg hf, if_neg (fun h => hf h.2)]
  · rw [mark_o (by have := row_out hji hd; omega), if_neg (fun h => hji h.1)]
theorem mark_kk {s : Nat → Int32} {b c i k : Nat} {f : Nat → Bool} {v : Nat → Int32} (hc : 0 < c) : mark s (b + i * c) c f v (b + k) = if k / c = i ∧ f (k % c) = true then v (k % c) else s (b + k) := by
  have h := mark_k (s := s) (b := b) (i := i) (j := k / c) (f := f) (v := v) (Nat.mod_lt k hc)
  rw [divmod] at h
  exact h
theorem mark_k0 {s : Nat → Int32} {c i k : Nat} {f : Nat → Bool} {v : Nat → Int32} (hc : 0 < c) : mark s (i * c) c f v k = if k / c = i ∧ f (k % c) = true then v (k % c) else s k := by
  have h := mark_kk (s := s) (b := 0) (i := i) (k := k) (f := f) (v := v) hc
  simp only [Nat.zero_add] at h
  exact h
def onN (x y : Bool) : Nat := (if x = true then 1 else 0) + (if y = true then 2 else 0)
theorem on_v (x y : Bool) : (if x = false then nI 0 else nI 1) + (if y = false then nI 0 else nI 2) = nI (onN x y) := by
  cases x <;> cases y <;> decide
theorem onN_lt (x y : Bool) : onN x y < 4 := by
  cases x <;> cases y <;> decide
theorem dec_step {n d : Nat} {p : Bool} (h : d = n → p = false) : (decide (d < n + 1) && p) = (decide (d < n) && p) := by
  by_cases e : d = n
  · rw [h e, Bool.and_false, Bool.and_false]
  · by_cases h1 : d < n
    · rw [decide_eq_true h1, decide_eq_true (show d < n + 1 by omega)]
    · rw [decide_eq_false h1, decide_eq_false (show ¬ d < n + 1 by omega)]
theorem dec_step2 {n d : Nat} {p : Bool} (h : d = n → p = true) : (decide (d < n + 1) && p) = ((decide (d < n) && p) || decide (n = d)) := by
  by_cases e : d = n
  · rw [h e, decide_eq_true e.symm, decide_eq_true (show d < n + 1 by omega), Bool.or_true]
    rfl
  · rw [decide_eq_false (show ¬ n = d from fun h => e h.symm), Bool.or_false]
    by_cases h1 : d < n
    · rw [decide_eq_true h1, decide_eq_true (show d < n + 1 by omega)]
    · rw [decide_eq_false h1, decide_eq_false (show ¬ d < n + 1 by omega)]
section SEE
variable {r c t e dt N i : Nat} {M M1 : Mem} {s : Nat → Int32} {φ : Nat → UInt32} {f : Int32}
/-- the first loop of see: since when, and doubts -/
theorem l_see21 {K : Unit → Mem → Option (Unit × Mem)} {Q : Unit → Mem → Prop} (hd0 : 2 ≤ r ∧ r ≤ 6 ∧ 2 ≤ c ∧ c ≤ 8) (hr : M.1 2 0 = nI r) (hc : M.1 2 1 = nI c) (hi : i < r) (ht : t < 2 ^ 30) (h0 : ∀ d2, ¬ d2 < c → bt (M.1 9 i) d2 = false)
    (kk : ∀ M1 : Mem, (∀ k, k ≠ 5 → k ≠ 10 → M1.1 k = M.1 k) → M1.2 = M.2 → M1.1 5 = mark (M.1 5) (i * c) c (bt f) (fun _ => nI t) → (∀ j, j ≠ i → M1.1 10 j = M.1 10 j) → (∀ d, bt (M1.1 10 i) d = (bt (M.1 10 i) d || (decide (d < c) && (bt f d && corB (fun j d => bt (M.1 9 j) d) r c i d)))) → wp (K () M1) Q) :
    wp (lp (FX0_see_21 2 (nI i) f (nI t) K) 1000000 0 M) Q := by
  have m48 := (mul48 hd0).1
  refine lp_for c (fun n b M1 => b = nI n ∧ (∀ k, k ≠ 5 → k ≠ 10 → M1.1 k = M.1 k) ∧ M1.2 = M.2 ∧ M1.1 5 = mark (M.1 5) (i * c) n (bt f) (fun _ => nI t) ∧ (∀ j, j ≠ i → M1.1 10 j = M.1 10 j) ∧ (∀ d, bt (M1.1 10 i) d = (bt (M.1 10 i) d || (decide (d < n) && (bt f d && corB (fun j d => bt (M.1 9 j) d) r c i d))))) (by omega) ⟨rfl, fun _ _ _ => rfl, rfl, by rw [mark_0], fun _ _ => rfl, fun d => by rw [decide_eq_false (Nat.not_lt_zero d), Bool.false_and, Bool.or_false]⟩ ?_ ?_
  · rintro n b M1 rec hn ⟨rfl, g1, g2, g3, g4, g5⟩ kk
    have hix := ixlt hi hn
    have c21 : M1.1 2 1 = nI c := by rw [g1 2 (by omega) (by omega)]; exact hc
    unfold FX0_see_21
    simp (disch := omega) only [c21, nlit', nI_leI, show ¬ c ≤ n by omega, if_false, nI_add, shr_0, nI_mul, Nat.reduceAdd, pw_def]
    rw [jn_x]
    by_cases hf : bt f n = false
    · rw [if_pos hf]
      refine kk _ _ ⟨rfl, g1, g2, ?_, g4, fun d => ?_⟩
      · rw [g3, mark_f hf]
      · rw [g5 d, dec_step (fun h => by rw [h, hf, Bool.false_and])]
    · rw [if_neg hf]
      have hf' : bt f n = true := by cases h : bt f n <;> simp_all
      have e9 : (w1 M1 5 (i * c + n) (nI t)).1 9 = M.1 9 := by rw [w1_o (by omega), g1 9 (by omega) (by omega)]
      have ec := e_corner (M := w1 M1 5 (i * c + n) (nI t)) (d := n) (by rw [w1_o (by omega), g1 2 (by omega) (by omega)]; exact hr) hd0.2.1 hi hn hd0.2.2.2 (by rw [e9]; exact h0)
      rw [e9] at ec
      have h5 : (w1 M1 5 (i * c + n) (nI t)).1 5 = mark (M.1 5) (i * c) (n + 1) (bt f) (fun _ => nI t) := by
        rw [w1_self, g3]
        exact mark_t (v := fun _ => nI t) hf'
      rw [e_put M1 (show i * c + n < ln 5 by rw [ln_5]; omega), cal_x, ec, cal_x]
      have fr : ∀ k, k ≠ 5 → k ≠ 10 → (w1 M1 5 (i * c + n) (nI t)).1 k = M.1 k := fun k h1 h2 => by rw [w1_o h1, g1 k h1 h2]
      have f10 : (w1 M1 5 (i * c + n) (nI t)).1 10 = M1.1 10 := w1_o (by omega)
      cases hcor : corB (fun j d => bt (M.1 9 j) d) r c i n
      · rw [if_pos (show b2 false = nI 0 from rfl)]
        refine kk _ _ ⟨rfl, fr, g2, h5, fun j hj => by rw [f10]; exact g4 j hj, fun d => ?_⟩
        rw [f10, g5 d, dec_step (fun h => by rw [h, hcor, Bool.and_false])]
      · rw [if_neg (show ¬ b2 true = nI 0 from n10), e_at _ (show i < ln 10 by rw [ln_10]; omega), cal_x, e_put _ (show i < ln 10 by rw [ln_10]; omega), cal_x]
        refine kk _ _ ⟨rfl, fun k h1 h2 => by rw [w1_o h2]; exact fr k h1 h2, g2, by rw [w1_o (by omega)]; exact h5, fun j hj => ?_, fun d => ?_⟩
        · rw [w1_ne (by omega), f10]
          exact g4 j hj
        · rw [w1_eq ⟨rfl, rfl⟩, bt_or, bt_pw (by omega), f10, g5 d, dec_step2 (fun h => by rw [h, hf', hcor]; rfl), Bool.or_assoc]
  · rintro b M1 rec ⟨rfl, g1, g2, g3, g4, g5⟩
    have c21 : M1.1 2 1 = nI c := by rw [g1 2 (by omega) (by omega)]; exact hc
    unfold FX0_see_21
    simp (disch := omega) only [c21, nI_leI, Nat.le_refl, if_true]
    exact kk M1 g1 g2 g3 g4 g5
theorem l_see127 {x : Int32} {Q : Unit → Mem → Prop} (hd0 : 2 ≤ r ∧ r ≤ 6 ∧ 2 ≤ c ∧ c ≤ 8) (hc : M.1 2 1 = nI c) (hi : i < r)
    (kk : ∀ M1 : Mem, (∀ k, k ≠ 6 → k ≠ 7 → M1.1 k = M.1 k) → M1.2 = M.2 → M1.1 6 = mark (M.1 6) (i * c) c (bt f) (fun _ => x) → M1.1 7 = mark (M.1 7) (i * c) c (bt f) (fun d => M.1 3 (i * c + d)) → Q () M1) :
    wp (lp (FX0_see_127 2 (nI i) f x) 1000000 0 M) Q := by
  have m48 := (mul48 hd0).1
  refine lp_for c (fun n b M1 => b = nI n ∧ (∀ k, k ≠ 6 → k ≠ 7 → M1.1 k = M.1 k) ∧ M1.2 = M.2 ∧ M1.1 6 = mark (M.1 6) (i * c) n (bt f) (fun _ => x) ∧ M1.1 7 = mark (M.1 7) (i * c) n (bt f) (fun d => M.1 3 (i * c + d))) (by omega) ⟨rfl, fun _ _ _ => rfl, rfl, by rw [mark_0], by rw [mark_0]⟩ ?_ ?_
  · rintro n b M1 rec hn ⟨rfl, g1, g2, g3, g4⟩ kk
    have hix := ixlt hi hn
    have c21 : M1.1 2 1 = nI c := by rw [g1 2 (by omega) (by omega)]; exact hc
    unfold FX0_see_127
    simp (disch := omega) only [c21, nlit', nI_leI, show ¬ c ≤ n by omega, if_false, nI_add, shr_0, nI_mul, Nat.reduceAdd]
    rw [jn_x]
    by_cases hf : bt f n = false
    · rw [if_pos hf]
      refine kk _ _ ⟨rfl, g1, g2, ?_, ?_⟩
      · rw [g3, mark_f hf]
      · rw [g4, mark_f hf]
    · have hf' : bt f n = true := by cases h : bt f n <;> simp_all
      rw [if_neg hf, bnd_x, e_put M1 (show i * c + n < ln 6 by rw [ln_6]; omega), cal_x, e_at _ (show i * c + n < ln 3 by rw [ln_3]; omega), cal_x, e_put _ (show i * c + n < ln 7 by rw [ln_7]; omega), cal_x]
      refine kk _ _ ⟨rfl, fun k h1 h2 => by rw [w1_o h2, w1_o h1]; exact g1 k h1 h2, g2, ?_, ?_⟩
      · rw [w1_o (by omega), w1_self, g3]
        exact mark_t (v := fun _ => x) hf'
      · rw [w1_self, w1_o (by omega), w1_o (by omega), g4, g1 3 (by omega) (by omega)]
        exact mark_t (v := fun d => M.1 3 (i * c + d)) hf'
  · rintro b M1 rec ⟨rfl, g1, g2, g3, g4⟩
    have c21 : M1.1 2 1 = nI c := by rw [g1 2 (by omega) (by omega)]; exact hc
    unfold FX0_see_127
    simp (disch := omega) only [c21, nI_leI, Nat.le_refl, if_true, wp_some]
    exact kk M1 g1 g2 g3 g4
/-- the rows of the reference in a tick -/
def rA (s : Nat → Int32) (c i t : Nat) (f : Nat → Bool) : Nat → Int32 := mark s (68 + i * c) c f (fun _ => nI t)
def corV (s : Nat → Int32) (r c i d : Nat) : Bool := corB (fun j d => !decide (s (68 + (j * c + d)) < nI 0)) r c i d
def rB (s : Nat → Int32) (r c i t : Nat) (f : Nat → Bool) : Nat → Int32 := mark (rA s c i t f) (116 + i * c) c f (fun d => b2 (corV (rA s c i t f) r c i d))
def rO (s : Nat → Int32) (r c i t : Nat) (f : Nat → Bool) : Nat := onN (onv (rB s r c i t f) 0) (onv (rB s r c i t f) 1)
def rC (s : Nat → Int32) (r c i t : Nat) (f : Nat → Bool) : Nat → Int32 := mark (mark (rB s r c i t f) (164 + i * c) c f (fun _ => nI (rO s r c i t f))) (212 + i * c) c f (fun d => s (20 + (i * c + d)))
/-- what see leaves behind -/
def SeeM (s : Nat → Int32) (r c i t : Nat) (f : Int32) (M M1 : Mem) : Prop := (∀ k, k ≠ 5 → k ≠ 6 → k ≠ 7 → k ≠ 9 → k ≠ 10 → M1.1 k = M.1 k) ∧ M1.2 = M.2 ∧ M1.1 9 = upd (M.1 9) i (M.1 9 i ||| f) ∧ M1.1 5 = mark (M.1 5) (i * c) c (bt f) (fun _ => nI t) ∧
  (∀ j, j ≠ i → M1.1 10 j = M.1 10 j) ∧ (∀ d, bt (M1.1 10 i) d = (bt (M.1 10 i) d || (decide (d < c) && (bt f d && corV (rA s c i t (bt f)) r c i d)))) ∧
  M1.1 6 = mark (M.1 6) (i * c) c (bt f) (fun _ => nI (rO s r c i t (bt f))) ∧ M1.1 7 = mark (M.1 7) (i * c) c (bt f) (fun d => M.1 3 (i * c + d))
theorem seen_A (H : CV r c t e dt N M s φ) (hi : i < r) (ht : t < 2 ^ 30) {j d : Nat} (hj : j < r) (hd : d < c) : bt (upd (M.1 9) i (M.1 9 i ||| f) j) d = !decide (rA s c i t (bt f) (68 + (j * c + d)) < nI 0) := by
  have h0 := (H.bitid hj hd).2.1
  unfold rA
  rw [mark_k hd, upd_at]
  by_cases hji : j = i
  · subst hji
    rw [if_pos rfl, bt_or]
    by_cases hf : bt f d = true
    · rw [if_pos ⟨rfl, hf⟩, hf, Bool.or_true, decide_eq_false (nI_nlt0 (by omega))]
      rfl
    · rw [if_neg (fun h => hf h.2), h0]
      cases h : bt f d
      · rw [Bool.or_false]
      · exact absurd h hf
  · rw [if_neg hji, if_neg (fun h => hji h.1), h0]
theorem h01_s (H : CV r c t e dt N M s φ) {k : Nat} (hk : k < r * c) : s (116 + k) = nI 0 ∨ s (116 + k) = nI 1 := by
  rcases H.key hk with ⟨_, g⟩ | ⟨_, g, _⟩
  · exact .inl g
  · exact g
/-- the doubts, as the row tells them -/
theorem doubt_B (H : CV r c t e dt N M s φ) (hi : i < r) (ht : t < 2 ^ 30) (hfr : ∀ d, d < c → bt f d = true → s (68 + (i * c + d)) < nI 0) {g : Nat → Int32} (g1 : ∀ j, j ≠ i → g j = M.1 10 j) (g2 : ∀ d, bt (g i) d = (bt (M.1 10 i) d || (decide (d < c) && (bt f d && corV (rA s c i t (bt f)) r c i d)))) {j d : Nat} (hj : j < r) (hd : d < c) :
    bt (g j) d = decide (rB s r c i t (bt f) (116 + (j * c + d)) = nI 1) := by
  have h0 := (H.bitid hj hd).2.2
  have hix := ixlt hj hd
  have m48 := H.m48
  unfold rB
  rw [mark_k hd]
  by_cases hji : j = i
  · subst hji
    rw [g2 d, h0, decide_eq_true hd, Bool.true_and]
    by_cases hf : bt f d = true
    · rw [if_pos ⟨rfl, hf⟩, hf, Bool.true_and]
      have hn : s (116 + (j * c + d)) = nI 0 := by
        rcases H.key hix with ⟨_, g⟩ | ⟨⟨u, hu, g, _⟩, _⟩
        · exact g
        · have := hfr d hd hf
          rw [g] at this
          exact absurd this (nI_nlt0 (by omega))
      rw [hn, decide_eq_false (show ¬ nI 0 = nI 1 by decide), Bool.false_or]
      cases corV (rA s c j t (bt f)) r c j d
      · rw [b2_f, decide_eq_false (show ¬ nI 0 = nI 1 by decide)]
      · rw [b2_t, decide_eq_true rfl]
    · rw [if_neg (fun h => hf h.2)]
      have : bt f d = false := by cases h : bt f d <;> simp_all
      rw [this, Bool.false_and, Bool.or_false]
      unfold rA
      rw [mark_o (by have := row_le (c := c) hi; omega)]
  · rw [g1 j hji, h0, if_neg (fun h => hji h.1)]
    unfold rA
    rw [mark_o (by have := row_le (c := c) hi; omega)]
end SEE

