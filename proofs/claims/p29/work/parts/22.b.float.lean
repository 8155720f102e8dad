/-! PURE: floats -/
theorem nnb_of {x : UInt32} (h : x.toNat % 2 ^ 31 ≤ 2139095040) : nnb x = true := by
  unfold nnb
  refine decide_eq_true ?_
  rw [UInt32.le_iff_toNat_le, UInt32.toNat_and]
  have e : (0x7fffffff : UInt32).toNat = 2 ^ 31 - 1 := rfl
  rw [e, Nat.and_two_pow_sub_one_eq_mod]
  exact h
theorem nnb_K {x : UInt32} {K : Nat} (h : x.toNat % 2 ^ 31 < K * 2 ^ 23) (hK : K ≤ 255) : nnb x = true := nnb_of (by omega)
theorem nnb_fin {x : UInt32} (h : FP.Core.FFin x) : nnb x = true := nnb_of (by have := (FP.Core.fin_bits32 x).mp h; omega)
theorem gm_K {x : UInt32} (h : gm x) : x.toNat % 2 ^ 31 < 153 * 2 ^ 23 ∧ 126 * 2 ^ 23 ≤ x.toNat % 2 ^ 31 ∧ x.toNat % 2 ^ 31 < 255 * 2 ^ 23 := by
  unfold gm at h
  omega
theorem neg_K {x : UInt32} {K : Nat} (h : x.toNat % 2 ^ 31 < K * 2 ^ 23) (_hK : K ≤ 255) : (FP.fneg x).toNat % 2 ^ 31 < K * 2 ^ 23 := by
  have e : (FP.fneg x).toNat % 2 ^ 31 = x.toNat % 2 ^ 31 := by
    show (x ^^^ 0x80000000).toNat % 2 ^ 31 = _
    rw [UInt32.toNat_xor, Nat.xor_mod_two_pow, show (0x80000000 : UInt32).toNat % 2 ^ 31 = 0 from rfl, Nat.xor_zero]
  rw [e]
  exact h
def szf (x : UInt32) : UInt32 := if 0 ≤ fcg x FP.fconst0 then x else FP.fneg x
theorem sz_K {x : UInt32} {K : Nat} (h : x.toNat % 2 ^ 31 < K * 2 ^ 23) (hK : K ≤ 255) : (szf x).toNat % 2 ^ 31 < K * 2 ^ 23 := by
  unfold szf
  split
  · exact h
  · exact neg_K h hK
theorem e_uns (x : UInt32) (M : Mem) : fX7_unsigned x M = some (szf x, M) := by
  unfold fX7_unsigned szf
  split <;> rfl
/-- the part of a distance that a number makes beside its mean -/
def ofn (v : Int32) (m : UInt32) : UInt32 := FP.fdiv (szf (FP.fsub (FP.i2f v) m)) m
theorem ofn_K (v : Int32) {m : UInt32} (h : gm m) : nnb (FP.fsub (FP.i2f v) m) = true ∧ nnb (ofn v m) = true ∧ (ofn v m).toNat % 2 ^ 31 < 164 * 2 ^ 23 := by
  have h1 := FP.Core.i2f_mag v
  have h2 := gm_K h
  have h3 := FP.Core.fsub_mag (a := FP.i2f v) (b := m) (K := 160) h1 (by omega) (by decide)
  have h4 := sz_K h3 (by decide)
  have h5 := FP.Core.fdiv_mag (a := szf (FP.fsub (FP.i2f v) m)) (b := m) (K := 162) (L := 126) h4 h2.2.1 h2.2.2 (by decide) (by decide)
  exact ⟨nnb_K h3 (by decide), nnb_K h5 (by decide), h5⟩
def off1 (d : UInt32) (g : UInt32) : UInt32 := FP.fadd d (FP.fmul g 1056964608)
theorem off1_K {d g : UInt32} (hd : d.toNat % 2 ^ 31 < 164 * 2 ^ 23) (hg : g.toNat % 2 ^ 31 < 164 * 2 ^ 23) : nnb (FP.fmul g 1056964608) = true ∧ nnb (off1 d g) = true ∧ (off1 d g).toNat % 2 ^ 31 < 167 * 2 ^ 23 := by
  have h1 := FP.Core.fmul_mag (a := g) (b := 1056964608) (Ka := 164) (Kb := 127) hg (by decide) (by decide) (by decide)
  have h2 := FP.Core.fadd_mag (a := d) (b := FP.fmul g 1056964608) (K := 165) (by omega) (by omega) (by decide)
  exact ⟨nnb_K h1 (by decide), nnb_K h2 (by decide), h2⟩
/-! what is learned stays a good mean -/
def zv (x : UInt32) : Int := FP.Core.zval FP.Core.b32 (FP.Core.val32 x)
theorem zadd_le {a b : UInt32} {V : FP.Core.Datum} (ha : FP.Core.FFin a) (hb : FP.Core.FFin b) (hV : FP.Core.fits FP.Core.b32 V) (hn : V ≠ .nan) (h : zv a + zv b ≤ FP.Core.zval FP.Core.b32 V) : zv (FP.fadd a b) ≤ FP.Core.zval FP.Core.b32 V := by
  obtain ⟨s, c, q, h1⟩ := ha
  obtain ⟨t, d, r, h2⟩ := hb
  have fa := FP.Core.val32_fits a
  have fb := FP.Core.val32_fits b
  unfold zv at *
  rw [h1] at fa h
  rw [h2] at fb h
  obtain ⟨sg, n, e, e1, e2, e3⟩ := FP.Core.sum_units fa fb
  have ev : FP.Core.val32 (FP.fadd a b) = FP.Core.round FP.Core.b32 (FP.Core.exactSum (FP.Core.val32 a) (FP.Core.val32 b)) := FP.Core.val32_fadd a b
  rw [ev, h1, h2, e1]
  refine FP.Core.zval_round_le FP.Core.good_b32 hV hn (Int.le_refl _) e2 ?_
  rw [e3, Int.sub_self]
  simpa using h
theorem zneg (x : UInt32) : zv (FP.Core.fneg x) = -zv x := by
  unfold zv
  rw [show FP.Core.val32 (FP.Core.fneg x) = FP.Core.negate (FP.Core.val32 x) from FP.Core.val32_fneg x, FP.Core.zval_negate]
theorem fin_neg {x : UInt32} (h : FP.Core.FFin x) : FP.Core.FFin (FP.Core.fneg x) := by
  obtain ⟨s, c, q, h1⟩ := h
  exact ⟨!s, c, q, by rw [show FP.Core.val32 (FP.Core.fneg x) = FP.Core.negate (FP.Core.val32 x) from FP.Core.val32_fneg x, h1]; rfl⟩
theorem zsub_le {a b : UInt32} {V : FP.Core.Datum} (ha : FP.Core.FFin a) (hb : FP.Core.FFin b) (hV : FP.Core.fits FP.Core.b32 V) (hn : V ≠ .nan) (h : zv a - zv b ≤ FP.Core.zval FP.Core.b32 V) : zv (FP.fsub a b) ≤ FP.Core.zval FP.Core.b32 V := by
  rw [show FP.fsub a b = FP.fadd a (FP.Core.fneg b) from FP.Core.fsub_eq a b]
  refine zadd_le ha (fin_neg hb) hV hn ?_
  rw [zneg]
  omega
theorem one_u : FP.Core.zmag FP.Core.b32 (FP.Core.val32 1065353216) = 2 ^ 149 := by decide +kernel
/-- times a rate from 0 to 1: not above what it was, if that was not negative; else not above 0 -/
theorem zmul_le {d r : UInt32} {V : FP.Core.Datum} (hd : FP.Core.FFin d) (hr : r.toNat ≤ 127 * 2 ^ 23) (hV : FP.Core.fits FP.Core.b32 V) (hn : V ≠ .nan) (h : zv d ≤ FP.Core.zval FP.Core.b32 V) (h0 : 0 ≤ FP.Core.zval FP.Core.b32 V) : zv (FP.fmul d r) ≤ FP.Core.zval FP.Core.b32 V := by
  have hrm : r.toNat % 2 ^ 31 = r.toNat := Nat.mod_eq_of_lt (by omega)
  have hrf : FP.Core.FFin r := by
    rw [FP.Core.fin_bits32]
    omega
  have hz := FP.Core.zmag_toNat32 (a := r) hrf.ne_nan
  have hs := FP.Core.sgn_bits32 (a := r) hrf.ne_nan
  have h1 : FP.Core.zmag FP.Core.b32 (FP.Core.val32 r) ≤ 2 ^ 149 := by
    rw [hz, hrm, ← one_u]
    have e := FP.Core.zmag_toNat32 (a := 1065353216) (by decide +kernel)
    rw [e]
    exact FP.Core.unitsOf_le_iff.mpr hr
  obtain ⟨s, c, q, e1⟩ := hd
  obtain ⟨t, c2, q2, e2⟩ := hrf
  have fd := FP.Core.val32_fits d
  have fr := FP.Core.val32_fits r
  unfold zv at *
  rw [e1] at fd h
  rw [e2] at fr h1 hs
  have ht : t = false := by
    have : t = decide (2 ^ 31 ≤ r.toNat) := hs
    rw [this]
    exact decide_eq_false (by omega)
  subst ht
  obtain ⟨p1, p2, p3⟩ := FP.Core.product_units fd fr
  have ev : FP.Core.val32 (FP.fmul d r) = FP.Core.round FP.Core.b32 (FP.Core.exactProduct (FP.Core.val32 d) (FP.Core.val32 r)) := FP.Core.val32_fmul d r
  rw [ev, e1, e2, p1]
  refine FP.Core.zval_round_le FP.Core.good_b32 hV hn (e0 := 2 * FP.Core.b32.qmin) (by decide) p2 ?_
  rw [p3]
  have eq : (2 ^ (FP.Core.b32.qmin - 2 * FP.Core.b32.qmin).toNat : Nat) = 2 ^ 149 := by decide +kernel
  rw [eq]
  generalize FP.Core.zmag FP.Core.b32 (FP.Core.Datum.fin false c2 q2) = y at *
  generalize hW : FP.Core.zval FP.Core.b32 V = W at *
  have hd2 : FP.Core.zval FP.Core.b32 (FP.Core.Datum.fin s c q) = FP.Core.signed s (FP.Core.zmag FP.Core.b32 (FP.Core.Datum.fin s c q)) := rfl
  rw [hd2] at h
  generalize FP.Core.zmag FP.Core.b32 (FP.Core.Datum.fin s c q) = x at *
  cases s
  · simp only [FP.Core.signed] at h ⊢
    simp only [Bool.bne_false, Bool.false_eq_true, if_false] at h ⊢
    have h3 : (x : Int) * (y : Int) ≤ W * ((2 ^ 149 : Nat) : Int) := Int.mul_le_mul h (by exact_mod_cast h1) (by omega) h0
    exact_mod_cast h3
  · have h3 : 0 ≤ W * ((2 ^ 149 : Nat) : Int) := Int.mul_nonneg h0 (by omega)
    show FP.Core.signed (true != false) (x * y) ≤ _
    have h4 : FP.Core.signed (true != false) (x * y) = -((x * y : Nat) : Int) := rfl
    rw [h4]
    omega

