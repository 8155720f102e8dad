/-! PURE: what is learned stays a good mean -/
def lrn (m : UInt32) (v : Int32) (rate : UInt32) : UInt32 := if 0 ≤ fcg (FP.fadd m (FP.fmul (FP.fsub (FP.i2f v) m) rate)) 1056964608 then FP.fadd m (FP.fmul (FP.fsub (FP.i2f v) m) rate) else 1056964608
def V24 : UInt32 := 1266679808
def V25 : UInt32 := 1275068416
theorem zv_bits {x : UInt32} (h : x.toNat ≤ 152 * 2 ^ 23) : zv x = (FP.Core.unitsOf FP.Core.b32 x.toNat : Int) ∧ FP.Core.FFin x ∧ FP.Core.val32 x ≠ .nan := by
  have hf : FP.Core.FFin x := by
    rw [FP.Core.fin_bits32]
    omega
  have e := FP.Core.zval_decode FP.Core.good_b32 (FP.Core.lt_full32 x) hf.ne_nan
  refine ⟨?_, hf, hf.ne_nan⟩
  unfold zv
  rw [show FP.Core.val32 x = FP.Core.decode FP.Core.b32 x.toNat from rfl, e, FP.Core.half_b32, decide_eq_false (by omega), FP.Core.mag_toNat32, Nat.mod_eq_of_lt (by omega)]
  rfl
theorem two_units : FP.Core.unitsOf FP.Core.b32 V25.toNat = 2 * FP.Core.unitsOf FP.Core.b32 V24.toNat := by decide +kernel
theorem v24_units : FP.Core.unitsOf FP.Core.b32 V24.toNat = 2 ^ 24 * 2 ^ 149 := by decide +kernel
theorem z0_units : FP.Core.unitsOf FP.Core.b32 (0 : UInt32).toNat = 0 := by decide +kernel
theorem zi2f_le {v : Nat} (hv : v ≤ 2 ^ 24) : zv (FP.i2f (nI v)) ≤ zv V24 ∧ FP.Core.FFin (FP.i2f (nI v)) := by
  refine ⟨?_, FP.Core.i2f_fin _⟩
  have e : FP.Core.val32 (FP.i2f (nI v)) = FP.Core.round FP.Core.b32 (FP.Core.ofInt (nI v).toInt) := FP.Core.val32_i2f _
  have h24 := (zv_bits (x := V24) (by decide)).1
  show FP.Core.zval _ _ ≤ _
  rw [e, nI_toInt (by omega)]
  refine FP.Core.zval_round_le FP.Core.good_b32 (e0 := FP.Core.b32.qmin) (FP.Core.val32_fits V24) (zv_bits (x := V24) (by decide)).2.2 (Int.le_refl _) (by decide) ?_
  show _ ≤ zv V24 * _
  rw [h24, v24_units, Int.sub_self, decide_eq_false (by omega)]
  have e2 : FP.Core.inUnits (v : Int).natAbs 0 FP.Core.b32.qmin = v * 2 ^ 149 := by
    unfold FP.Core.inUnits
    rw [show (0 - FP.Core.b32.qmin).toNat = 149 from by decide +kernel]
    rfl
  show FP.Core.signed false (FP.Core.inUnits (v : Int).natAbs 0 FP.Core.b32.qmin) ≤ _
  rw [e2]
  show ((v * 2 ^ 149 : Nat) : Int) ≤ ((2 ^ 24 * 2 ^ 149 : Nat) : Int) * ((2 ^ (0 : Int).toNat : Nat) : Int)
  have := Nat.mul_le_mul_right (2 ^ 149) hv
  have e3 : (2 ^ (0 : Int).toNat : Nat) = 1 := rfl
  rw [e3]
  omega
theorem lrn_gm {m rate : UInt32} {v : Nat} (hm : gm m) (hv : v ≤ 2 ^ 24) (hr : rate.toNat ≤ 127 * 2 ^ 23) :
    nnb (FP.fsub (FP.i2f (nI v)) m) = true ∧ nnb (FP.fmul (FP.fsub (FP.i2f (nI v)) m) rate) = true ∧ nnb (FP.fadd m (FP.fmul (FP.fsub (FP.i2f (nI v)) m) rate)) = true ∧ gm (lrn m (nI v) rate) := by
  have g := gm_K hm
  have h1 := FP.Core.i2f_mag (nI v)
  have h3 := FP.Core.fsub_mag (a := FP.i2f (nI v)) (b := m) (K := 160) h1 (by omega) (by decide)
  have h4 := FP.Core.fmul_mag (a := FP.fsub (FP.i2f (nI v)) m) (b := rate) (Ka := 162) (Kb := 128) h3 (by omega) (by decide) (by decide)
  have h5 := FP.Core.fadd_mag (a := m) (b := FP.fmul (FP.fsub (FP.i2f (nI v)) m) rate) (K := 164) (by omega) (by omega) (by decide)
  refine ⟨nnb_K h3 (by decide), nnb_K h4 (by decide), nnb_K h5 (by decide), ?_⟩
  have f3 : FP.Core.FFin (FP.fsub (FP.i2f (nI v)) m) := FP.Core.fin_of_lt32 h3 (by decide)
  have f4 : FP.Core.FFin (FP.fmul (FP.fsub (FP.i2f (nI v)) m) rate) := FP.Core.fin_of_lt32 h4 (by decide)
  have f5 : FP.Core.FFin (FP.fadd m (FP.fmul (FP.fsub (FP.i2f (nI v)) m) rate)) := FP.Core.fin_of_lt32 h5 (by decide)
  obtain ⟨i1, i2⟩ := zi2f_le hv
  obtain ⟨m1, m2, m3⟩ := zv_bits (x := m) hm.2
  have z24 := zv_bits (x := V24) (by decide)
  have z25 := zv_bits (x := V25) (by decide)
  have z0 := zv_bits (x := (0 : UInt32)) (by decide)
  have e25 : zv V25 = 2 * zv V24 := by
    rw [z25.1, z24.1, two_units]
    omega
  have e0 : zv 0 = 0 := by
    rw [z0.1, z0_units]
    rfl
  have hx : zv (FP.fadd m (FP.fmul (FP.fsub (FP.i2f (nI v)) m) rate)) ≤ zv V25 := by
    by_cases hc : 151 * 2 ^ 23 ≤ m.toNat
    · have hm24 : zv V24 ≤ zv m := by
        rw [z24.1, m1]
        exact Int.ofNat_le.mpr (FP.Core.unitsOf_le_iff.mpr hc)
      have hm25 : zv m ≤ zv V25 := by
        rw [z25.1, m1]
        exact Int.ofNat_le.mpr (FP.Core.unitsOf_le_iff.mpr hm.2)
      have hd : zv (FP.fsub (FP.i2f (nI v)) m) ≤ zv 0 := zsub_le i2 m2 (FP.Core.val32_fits 0) z0.2.2 (by show _ ≤ zv 0; omega)
      have hp : zv (FP.fmul (FP.fsub (FP.i2f (nI v)) m) rate) ≤ zv 0 := zmul_le f3 hr (FP.Core.val32_fits 0) z0.2.2 hd (by show 0 ≤ zv 0; omega)
      have hs : zv (FP.fadd m (FP.fmul (FP.fsub (FP.i2f (nI v)) m) rate)) ≤ zv m := zadd_le m2 f4 (FP.Core.val32_fits m) m3 (by show _ ≤ zv m; omega)
      omega
    · have hm24 : zv m ≤ zv V24 := by
        rw [z24.1, m1]
        exact Int.ofNat_le.mpr (FP.Core.unitsOf_le_iff.mpr (show m.toNat ≤ V24.toNat by have : V24.toNat = 151 * 2 ^ 23 := rfl; omega))
      have hm0 : 0 ≤ zv m := by
        rw [m1]
        omega
      have h240 : 0 ≤ zv V24 := by omega
      have hd : zv (FP.fsub (FP.i2f (nI v)) m) ≤ zv V24 := zsub_le i2 m2 (FP.Core.val32_fits V24) z24.2.2 (by show _ ≤ zv V24; omega)
      have hp : zv (FP.fmul (FP.fsub (FP.i2f (nI v)) m) rate) ≤ zv V24 := zmul_le f3 hr (FP.Core.val32_fits V24) z24.2.2 hd h240
      exact zadd_le m2 f4 (FP.Core.val32_fits V25) z25.2.2 (by show _ ≤ zv V25; omega)
  unfold lrn
  generalize FP.fadd m (FP.fmul (FP.fsub (FP.i2f (nI v)) m) rate) = x at *
  split
  · rename_i hge
    have hh : FP.Core.val32 1056964608 ≠ .nan := (zv_bits (x := 1056964608) (by decide)).2.2
    have hk := FP.Core.cmp_key FP.Core.good_b32 (FP.Core.lt_full32 x) (FP.Core.lt_full32 1056964608) f5.ne_nan hh
    have hc : FP.fcmp x 1056964608 = some (compare (FP.Core.key FP.Core.b32 x.toNat) (FP.Core.key FP.Core.b32 (1056964608 : UInt32).toNat)) := hk
    have hkey : FP.Core.key FP.Core.b32 (1056964608 : UInt32).toNat = 126 * 2 ^ 23 := by decide +kernel
    rw [hkey] at hc
    unfold fcg at hge
    rw [hc] at hge
    have hle : (126 * 2 ^ 23 : Int) ≤ FP.Core.key FP.Core.b32 x.toNat := by
      refine Int.not_lt.mp fun hlt => ?_
      have : compare (FP.Core.key FP.Core.b32 x.toNat) (126 * 2 ^ 23 : Int) = .lt := by
        show compareOfLessAndEq _ _ = _
        unfold compareOfLessAndEq
        rw [if_pos hlt]
      rw [this] at hge
      revert hge
      decide
    unfold FP.Core.key at hle
    rw [FP.Core.half_b32, FP.Core.mag_toNat32] at hle
    have hlt31 : x.toNat < 2 ^ 31 := by
      refine Nat.lt_of_not_le fun h => ?_
      rw [decide_eq_true h] at hle
      have : FP.Core.signed true (x.toNat % 2 ^ 31) = -((x.toNat % 2 ^ 31 : Nat) : Int) := rfl
      omega
    rw [decide_eq_false (by omega), Nat.mod_eq_of_lt hlt31] at hle
    have h126 : 126 * 2 ^ 23 ≤ x.toNat := by
      have : FP.Core.signed false x.toNat = (x.toNat : Int) := rfl
      omega
    refine ⟨h126, ?_⟩
    have ez := FP.Core.zval_decode FP.Core.good_b32 (FP.Core.lt_full32 x) f5.ne_nan
    have ez2 : zv x = (FP.Core.unitsOf FP.Core.b32 x.toNat : Int) := by
      unfold zv
      rw [show FP.Core.val32 x = FP.Core.decode FP.Core.b32 x.toNat from rfl, ez, FP.Core.half_b32, decide_eq_false (by omega), FP.Core.mag_toNat32, Nat.mod_eq_of_lt hlt31]
      rfl
    rw [ez2, z25.1] at hx
    exact FP.Core.unitsOf_le_iff.mp (Int.ofNat_le.mp hx)
  · exact ⟨by decide, by decide⟩

