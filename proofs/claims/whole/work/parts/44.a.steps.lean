/-! PURE: a tick in the reference -/
theorem b2_i {b : Bool} : (if b = false then nI 0 else nI 1) = b2 b := by cases b <;> rfl
theorem onv_congr {s s2 : Nat → Int32} {p : Nat} {x : Int32} (hp : p < 2) (h : ∀ x, x < 164 → s2 x = s x) (hs : oN x (s (5 + p)) 48) : onv s2 p = onv s p := by
  unfold onv
  rw [h (5 + p) (by omega)]
  rcases hs with ⟨_, g⟩ | ⟨k, hk, _, g⟩
  · rw [g, decide_eq_true (nm_lt0 (by decide) (by decide))]
    rfl
  · rw [g, nI_clamp (by omega), h (68 + k) (by omega), h (116 + k) (by omega)]
section STEPS
variable {r c t e dt N i : Nat} {M Mr : Mem} {s : Nat → Int32} {φ : Nat → UInt32} {f S : Int32}
theorem r_90 {K : Int32 → Mem → Option (Int32 × Mem)} {Q : Int32 → Mem → Prop} {x8 : Int32} (hd0 : 2 ≤ r ∧ r ≤ 6 ∧ 2 ≤ c ∧ c ≤ 8) (hi : i < r) (h2 : s 2 = nI t) (hf0 : ∀ d, ¬ d < c → bt f d = false) (hf : ∀ d, d < c → bt f d = (bt S d && decide (s (68 + (i * c + d)) < nI 0)))
    (kk : wp (K f (put Mr (rA s c i t (bt f)) φ)) Q) : wp (lp (FX9_step_90 235 (nI c) (nI (i * c)) S x8 K) 1000000 (0, 0) (put Mr s φ)) Q := by
  have m48 := (mul48 hd0).1
  have hic := row_le (c := c) hi
  refine lp_for c (fun n b M1 => (∃ x, b = (x, nI n) ∧ ∀ d, bt x d = (decide (d < n) && bt f d)) ∧ M1 = put Mr (mark s (68 + i * c) n (bt f) (fun _ => nI t)) φ) (by omega) ⟨⟨0, rfl, fun d => by rw [decide_eq_false (Nat.not_lt_zero d), Bool.false_and]; exact bt_0 d⟩, by rw [mark_0]⟩ ?_ ?_
  · rintro n b M1 rec hn ⟨⟨x, rfl, hx⟩, rfl⟩ kk
    have hix := ixlt hi hn
    have z1 : mark s (68 + i * c) n (bt f) (fun _ => nI t) (68 + (i * c + n)) = s (68 + (i * c + n)) := mark_o (by omega)
    have z2 : mark s (68 + i * c) n (bt f) (fun _ => nI t) 2 = nI t := by rw [mark_o (by omega), h2]
    have hfn := hf n hn
    unfold FX9_step_90
    simp (disch := first | omega | (simp only [ln_3, ln_4, ln_5, ln_6, ln_7, ln_8, ln_9, ln_10, ln_11, ln_13, ln_15, ln_17, ln_18, ln_19, ln_20, ln_21, ln_22, ln_23, ln_25, ln_26, ln_27, ln_28, ln_29, ln_30, ln_31, ln_33, ln_234, ln_236, ln_237, ln_238, ln_239, ln_240, ln_241, ln_242, ln_243, ln_244]; omega)) only [nlit', nI_leI, show ¬ c ≤ n by omega, if_false, nI_add, r_isSeen, put_s, z1, z2, cal_x, b2_if, shr_1, Nat.reduceAdd, ln_236, inb_nI, nI_clamp, asr_x, bnd_x, put_w1, pw_def]
    rw [jn_x]
    by_cases hs : s (68 + (i * c + n)) < nI 0
    · rw [decide_eq_true hs, Bool.and_true] at hfn
      rw [decide_eq_true hs, if_pos (show (!true) = false from rfl)]
      by_cases hS : bt S n = true
      · rw [if_pos hS]
        refine kk _ _ ⟨⟨_, rfl, fun d => ?_⟩, ?_⟩
        · rw [bt_or, bt_pw (by omega), hx d, dec_step2 (fun h => by rw [h, hfn, hS])]
        · rw [← mark_t (v := fun _ => nI t) (show bt f n = true by rw [hfn, hS])]
      · rw [if_neg hS]
        have hS' : bt f n = false := by rw [hfn]; cases h : bt S n <;> simp_all
        refine kk _ _ ⟨⟨_, rfl, fun d => ?_⟩, ?_⟩
        · rw [hx d, dec_step (fun h => by rw [h, hS'])]
        · rw [← mark_f hS']
    · rw [decide_eq_false hs, Bool.and_false] at hfn
      rw [decide_eq_false hs, if_neg (show ¬ (!false) = false by decide)]
      refine kk _ _ ⟨⟨_, rfl, fun d => ?_⟩, ?_⟩
      · rw [hx d, dec_step (fun h => by rw [h, hfn])]
      · rw [← mark_f hfn]
  · rintro b M1 rec ⟨⟨x, rfl, hx⟩, rfl⟩
    have ex : x = f := bt_ext (fun d _ => by
      rw [hx d]
      by_cases hd : d < c
      · rw [decide_eq_true hd, Bool.true_and]
      · rw [decide_eq_false hd, hf0 d hd]
        rfl)
    subst ex
    unfold FX9_step_90
    simp (disch := omega) only [nI_leI, Nat.le_refl, if_true]
    exact kk
theorem r_153 {K : Unit → Mem → Option (Int32 × Mem)} {Q : Int32 → Mem → Prop} {x8 : Int32} (hd0 : 2 ≤ r ∧ r ≤ 6 ∧ 2 ≤ c ∧ c ≤ 8) (hi : i < r) (hr : s 0 = nI r) (hc : s 1 = nI c)
    (kk : wp (K () (put Mr (mark s (116 + i * c) c (bt f) (fun d => b2 (corV s r c i d))) φ)) Q) : wp (lp (FX9_step_153 235 (nI c) (nI (i * c)) x8 f K) 1000000 0 (put Mr s φ)) Q := by
  have m48 := (mul48 hd0).1
  have hic := row_le (c := c) hi
  refine lp_for c (fun n b M1 => b = nI n ∧ M1 = put Mr (mark s (116 + i * c) n (bt f) (fun d => b2 (corV s r c i d))) φ) (by omega) ⟨rfl, by rw [mark_0]⟩ ?_ ?_
  · rintro n b M1 rec hn ⟨rfl, rfl⟩ kk
    have hix := ixlt hi hn
    have ec := r_corner (Mr := Mr) (s := mark s (116 + i * c) n (bt f) (fun d => b2 (corV s r c i d))) (φ := φ) hd0 (by rw [mark_o (by omega)]; exact hr) (by rw [mark_o (by omega)]; exact hc) hi hn
    rw [show corB (fun j d => !decide (mark s (116 + i * c) n (bt f) (fun d => b2 (corV s r c i d)) (68 + (j * c + d)) < nI 0)) r c i n = corV s r c i n from corB_congr hi hn (fun j hj d hd => by have := ixlt (r := r) hj hd; rw [mark_o (by omega)])] at ec
    unfold FX9_step_153
    simp (disch := first | omega | (simp only [ln_3, ln_4, ln_5, ln_6, ln_7, ln_8, ln_9, ln_10, ln_11, ln_13, ln_15, ln_17, ln_18, ln_19, ln_20, ln_21, ln_22, ln_23, ln_25, ln_26, ln_27, ln_28, ln_29, ln_30, ln_31, ln_33, ln_234, ln_236, ln_237, ln_238, ln_239, ln_240, ln_241, ln_242, ln_243, ln_244]; omega)) only [nlit', nI_leI, show ¬ c ≤ n by omega, if_false, nI_add, shr_1, ec, cal_x, jn_ite, b2_if, b2_i, Nat.reduceAdd, ln_236, inb_nI, nI_clamp, asr_x, bnd_x, put_w1]
    rw [jn_x]
    by_cases hf : bt f n = true
    · rw [if_pos hf]
      exact kk _ _ ⟨rfl, by rw [← mark_t (v := fun d => b2 (corV s r c i d)) hf]⟩
    · rw [if_neg hf]
      exact kk _ _ ⟨rfl, by rw [← mark_f (show bt f n = false by cases h : bt f n <;> simp_all)]⟩
  · rintro b M1 rec ⟨rfl, rfl⟩
    unfold FX9_step_153
    simp (disch := omega) only [nI_leI, Nat.le_refl, if_true]
    exact kk
theorem r_207 {K : Unit → Mem → Option (Int32 × Mem)} {Q : Int32 → Mem → Prop} {x8 : Int32} {h : Nat → Int32} {x0 x1 : Int32} (hd0 : 2 ≤ r ∧ r ≤ 6 ∧ 2 ≤ c ∧ c ≤ 8) (hi : i < r) (hx0 : oN x0 (s 5) 48) (hx1 : oN x1 (s 6) 48) (hh : ∀ d, d < c → s (20 + (i * c + d)) = h d)
    (kk : wp (K () (put Mr (mark (mark s (164 + i * c) c (bt f) (fun _ => nI (onN (onv s 0) (onv s 1)))) (212 + i * c) c (bt f) h) φ)) Q) : wp (lp (FX9_step_207 235 (nI c) (nI (i * c)) x8 f K) 1000000 0 (put Mr s φ)) Q := by
  have m48 := (mul48 hd0).1
  have hic := row_le (c := c) hi
  refine lp_for c (fun n b M1 => b = nI n ∧ M1 = put Mr (mark (mark s (164 + i * c) n (bt f) (fun _ => nI (onN (onv s 0) (onv s 1)))) (212 + i * c) n (bt f) h) φ) (by omega) ⟨rfl, by rw [mark_0, mark_0]⟩ ?_ ?_
  · rintro n b M1 rec hn ⟨rfl, rfl⟩ kk
    have hix := ixlt hi hn
    have lo : ∀ x, x < 164 → mark (mark s (164 + i * c) n (bt f) (fun _ => nI (onN (onv s 0) (onv s 1)))) (212 + i * c) n (bt f) h x = s x := fun x hx => by rw [mark_o (by omega), mark_o (by omega)]
    have e0 := r_isOn (M := put Mr (mark (mark s (164 + i * c) n (bt f) (fun _ => nI (onN (onv s 0) (onv s 1)))) (212 + i * c) n (bt f) h) φ) (p := 0) (x := x0) (n := 48) (by omega) (by rw [put_s, lo _ (by omega)]; exact hx0) (by omega)
    have e1 := r_isOn (M := put Mr (mark (mark s (164 + i * c) n (bt f) (fun _ => nI (onN (onv s 0) (onv s 1)))) (212 + i * c) n (bt f) h) φ) (p := 1) (x := x1) (n := 48) (by omega) (by rw [put_s, lo _ (by omega)]; exact hx1) (by omega)
    rw [put_s, onv_congr (x := x0) (by omega) lo hx0] at e0
    rw [put_s, onv_congr (x := x1) (by omega) lo hx1] at e1
    have hhn := hh n hn
    rw [← Nat.add_assoc] at hhn
    generalize hcur : mark (mark s (164 + i * c) n (bt f) (fun _ => nI (onN (onv s 0) (onv s 1)))) (212 + i * c) n (bt f) h = cur at *
    have z20 : ∀ y, upd cur (164 + i * c + n) y (20 + i * c + n) = h n := fun y => by rw [upd_ne (by omega), lo _ (by omega), hhn]
    unfold FX9_step_207
    simp (disch := first | omega | (simp only [ln_3, ln_4, ln_5, ln_6, ln_7, ln_8, ln_9, ln_10, ln_11, ln_13, ln_15, ln_17, ln_18, ln_19, ln_20, ln_21, ln_22, ln_23, ln_25, ln_26, ln_27, ln_28, ln_29, ln_30, ln_31, ln_33, ln_234, ln_236, ln_237, ln_238, ln_239, ln_240, ln_241, ln_242, ln_243, ln_244]; omega)) only [nlit', nI_leI, show ¬ c ≤ n by omega, if_false, nI_add, shr_1, e0, e1, cal_x, jn_ite, b2_if, on_v, Nat.reduceAdd, ln_236, inb_nI, nI_clamp, asr_x, bnd_x, put_w1, put_s, z20]
    rw [jn_x]
    subst hcur
    by_cases hf : bt f n = true
    · rw [if_pos hf]
      refine kk _ _ ⟨rfl, ?_⟩
      rw [mark_upd (by omega), mark_t (v := fun _ => nI (onN (onv s 0) (onv s 1))) hf, mark_t (v := h) hf]
    · rw [if_neg hf]
      have hf' : bt f n = false := by cases h : bt f n <;> simp_all
      exact kk _ _ ⟨rfl, by rw [← mark_f hf', ← mark_f hf']⟩
  · rintro b M1 rec ⟨rfl, rfl⟩
    unfold FX9_step_207
    simp (disch := omega) only [nI_leI, Nat.le_refl, if_true]
    exact kk
end STEPS
