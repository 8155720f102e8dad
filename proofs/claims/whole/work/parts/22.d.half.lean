/-! PURE: halving is exact -/
def uo (n : Nat) : Nat := FP.Core.unitsOf FP.Core.b32 n
theorem uo_lt {n : Nat} (h : n < 2 ^ 23) : uo n = n := by
  unfold uo FP.Core.unitsOf
  rw [FP.Core.tails_b32, if_pos h]
theorem uo_ge {n : Nat} (h : 2 ^ 23 ≤ n) : uo n = (2 ^ 23 + n % 2 ^ 23) * 2 ^ (n / 2 ^ 23 - 1) := by
  unfold uo FP.Core.unitsOf
  rw [FP.Core.tails_b32, if_neg (by omega)]
theorem uo_dbl {n : Nat} : ∃ y, uo y = 2 * uo n ∧ y ≤ n + 2 ^ 23 := by
  by_cases h : n < 2 ^ 23
  · refine ⟨2 * n, ?_, by omega⟩
    rw [uo_lt h]
    by_cases h2 : 2 * n < 2 ^ 23
    · rw [uo_lt h2]
    · rw [uo_ge (by omega)]
      have e1 : 2 * n / 2 ^ 23 = 1 := by omega
      have e2 : 2 * n % 2 ^ 23 = 2 * n - 2 ^ 23 := by omega
      rw [e1, e2]
      omega
  · refine ⟨n + 2 ^ 23, ?_, by omega⟩
    rw [uo_ge (by omega), uo_ge (by omega)]
    have e1 : (n + 2 ^ 23) / 2 ^ 23 = n / 2 ^ 23 + 1 := by omega
    have e2 : (n + 2 ^ 23) % 2 ^ 23 = n % 2 ^ 23 := by omega
    have e3 : 1 ≤ n / 2 ^ 23 := by omega
    rw [e1, e2]
    generalize n / 2 ^ 23 = q at *
    generalize 2 ^ 23 + n % 2 ^ 23 = u
    obtain ⟨q2, rfl⟩ : ∃ q2, q = q2 + 1 := ⟨q - 1, by omega⟩
    simp only [Nat.add_sub_cancel]
    rw [Nat.pow_succ]
    ac_rfl
theorem uo_rep {m : Nat} (hm : m < 2 ^ 24) : ∀ k, ∃ y, uo y = m * 2 ^ k ∧ y ≤ m + k * 2 ^ 23
  | 0 => by
    refine ⟨m, ?_, by omega⟩
    by_cases h : m < 2 ^ 23
    · rw [uo_lt h]
      omega
    · rw [uo_ge (by omega)]
      have e1 : m / 2 ^ 23 = 1 := by omega
      rw [e1]
      omega
  | k + 1 => by
    obtain ⟨y, h1, h2⟩ := uo_rep hm k
    obtain ⟨z, h3, h4⟩ := uo_dbl (n := y)
    refine ⟨z, ?_, by omega⟩
    rw [h3, h1, Nat.pow_succ]
    ac_rfl
theorem uo_inj {a b : Nat} (h : uo a = uo b) : a = b := by
  have h1 := (FP.Core.unitsOf_le_iff (f := FP.Core.b32) (m := a) (k := b)).mp (Nat.le_of_eq h)
  have h2 := (FP.Core.unitsOf_le_iff (f := FP.Core.b32) (m := b) (k := a)).mp (Nat.le_of_eq h.symm)
  omega
theorem half_u : FP.Core.zmag FP.Core.b32 (FP.Core.val32 1056964608) = 2 ^ 148 := by decide +kernel
/-- a float without sign, finite -/
def fp1 (x : UInt32) : Prop := x.toNat < 2139095040
theorem fp1_v {x : UInt32} (h : fp1 x) : FP.Core.FFin x ∧ FP.Core.val32 x ≠ .nan ∧ FP.Core.sgn (FP.Core.val32 x) = false ∧ FP.Core.zmag FP.Core.b32 (FP.Core.val32 x) = uo x.toNat := by
  unfold fp1 at h
  have hf : FP.Core.FFin x := by
    rw [FP.Core.fin_bits32]
    omega
  refine ⟨hf, hf.ne_nan, ?_, ?_⟩
  · rw [FP.Core.sgn_bits32 hf.ne_nan]
    exact decide_eq_false (by omega)
  · rw [FP.Core.zmag_toNat32 hf.ne_nan, Nat.mod_eq_of_lt (by omega)]
    rfl
theorem toNat_ofNat32 {y : Nat} (h : y < 2 ^ 32) : (UInt32.ofNat y).toNat = y := by
  rw [UInt32.toNat_ofNat']
  exact Nat.mod_eq_of_lt h
theorem half_ex {x : UInt32} {y : Nat} (hx : fp1 x) (hy : y < 2139095040) (h : uo x.toNat = 2 * uo y) : FP.fmul x 1056964608 = UInt32.ofNat y := by
  obtain ⟨f1, f2, f3, f4⟩ := fp1_v hx
  have hyn : (UInt32.ofNat y).toNat = y := toNat_ofNat32 (by omega)
  obtain ⟨v1, v2, v3, v4⟩ := fp1_v (x := UInt32.ofNat y) (by unfold fp1; rw [hyn]; exact hy)
  rw [hyn] at v4
  have hz : FP.Core.zval FP.Core.b32 (FP.Core.val32 (UInt32.ofNat y)) = (uo y : Int) := by
    unfold FP.Core.zval
    rw [v3, v4]
    rfl
  obtain ⟨s, c, q, e1⟩ := f1
  have hhf : FP.Core.FFin 1056964608 := by
    rw [FP.Core.fin_bits32]
    decide
  have hhs : FP.Core.sgn (FP.Core.val32 1056964608) = false := by decide +kernel
  obtain ⟨t, d, r, e2⟩ := hhf
  have fx := FP.Core.val32_fits x
  have fh := FP.Core.val32_fits 1056964608
  have hh := half_u
  rw [e1] at fx f3 f4
  rw [e2] at fh hh hhs
  have hs : s = false := f3
  have ht : t = false := hhs
  subst hs ht
  obtain ⟨p1, p2, p3⟩ := FP.Core.product_units fx fh
  rw [f4, hh, h] at p3
  have ev : FP.Core.val32 (FP.fmul x 1056964608) = FP.Core.round FP.Core.b32 (.fin false (c * d) (q + r)) := by
    rw [show FP.Core.val32 (FP.fmul x 1056964608) = FP.Core.round FP.Core.b32 (FP.Core.exactProduct (FP.Core.val32 x) (FP.Core.val32 1056964608)) from FP.Core.val32_fmul x _, e1, e2, p1]
    rfl
  have epow : (2 ^ (FP.Core.b32.qmin - 2 * FP.Core.b32.qmin).toNat : Nat) = 2 ^ 149 := by decide +kernel
  have hle := FP.Core.zval_round_le FP.Core.good_b32 (s := false) (c := c * d) (q := q + r) (e0 := 2 * FP.Core.b32.qmin) (FP.Core.val32_fits (UInt32.ofNat y)) v2 (by decide) p2 (by
    rw [p3, epow, hz]
    show ((2 * uo y * 2 ^ 148 : Nat) : Int) ≤ _
    omega)
  have hge := FP.Core.zval_round_ge FP.Core.good_b32 (s := false) (c := c * d) (q := q + r) (e0 := 2 * FP.Core.b32.qmin) (FP.Core.val32_fits (UInt32.ofNat y)) v2 (by decide) p2 (by
    rw [p3, epow, hz]
    show _ ≤ ((2 * uo y * 2 ^ 148 : Nat) : Int)
    omega)
  have hn : FP.Core.val32 (FP.fmul x 1056964608) ≠ .nan := by
    rw [ev]
    exact FP.Core.roundRatio_ne_nan _ _ _ _ _
  have hsg : FP.Core.sgn (FP.Core.val32 (FP.fmul x 1056964608)) = false := by
    rw [ev]
    exact FP.Core.sgn_roundRatio _ _ _ _ _
  rw [← ev] at hle hge
  have hzz : FP.Core.zval FP.Core.b32 (FP.Core.val32 (FP.fmul x 1056964608)) = (uo y : Int) := by rw [← hz]; omega
  unfold FP.Core.zval at hzz
  rw [hsg] at hzz
  have hzm : FP.Core.zmag FP.Core.b32 (FP.Core.val32 (FP.fmul x 1056964608)) = uo y := by
    have : FP.Core.signed false (FP.Core.zmag FP.Core.b32 (FP.Core.val32 (FP.fmul x 1056964608))) = ((FP.Core.zmag FP.Core.b32 (FP.Core.val32 (FP.fmul x 1056964608)) : Nat) : Int) := rfl
    omega
  rw [FP.Core.zmag_toNat32 hn] at hzm
  have hb := uo_inj hzm
  rw [FP.Core.sgn_bits32 hn] at hsg
  have hlt := of_decide_eq_false hsg
  apply UInt32.toNat_inj.mp
  rw [hyn, ← hb, Nat.mod_eq_of_lt (by omega)]
