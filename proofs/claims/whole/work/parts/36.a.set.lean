/-! PURE: set -/
theorem i2f_ex {m : Nat} (hm : m < 2 ^ 24) : ∃ y, uo y = m * 2 ^ 149 ∧ y < 2139095040 ∧ FP.i2f (nI m) = UInt32.ofNat y := by
  obtain ⟨y, h1, h2⟩ := uo_rep hm 149
  have hy : y < 2139095040 := by omega
  refine ⟨y, h1, hy, ?_⟩
  have hyn : (UInt32.ofNat y).toNat = y := toNat_ofNat32 (by omega)
  obtain ⟨v1, v2, v3, v4⟩ := fp1_v (x := UInt32.ofNat y) (by unfold fp1; rw [hyn]; exact hy)
  rw [hyn] at v4
  have hz : FP.Core.zval FP.Core.b32 (FP.Core.val32 (UInt32.ofNat y)) = (uo y : Int) := by
    unfold FP.Core.zval
    rw [v3, v4]
    rfl
  have ev : FP.Core.val32 (FP.i2f (nI m)) = FP.Core.round FP.Core.b32 (.fin false m 0) := by
    rw [show FP.Core.val32 (FP.i2f (nI m)) = FP.Core.round FP.Core.b32 (FP.Core.ofInt (nI m).toInt) from FP.Core.val32_i2f _, nI_toInt (by omega)]
    unfold FP.Core.ofInt
    rw [decide_eq_false (by omega)]
    rfl
  have e2 : FP.Core.inUnits m 0 FP.Core.b32.qmin = m * 2 ^ 149 := by
    unfold FP.Core.inUnits
    rw [show (0 - FP.Core.b32.qmin).toNat = 149 from by decide +kernel]
  have epow : (2 ^ (FP.Core.b32.qmin - FP.Core.b32.qmin).toNat : Nat) = 1 := by decide +kernel
  have hle := FP.Core.zval_round_le FP.Core.good_b32 (s := false) (c := m) (q := 0) (e0 := FP.Core.b32.qmin) (FP.Core.val32_fits (UInt32.ofNat y)) v2 (Int.le_refl _) (by decide) (by
    rw [e2, epow, hz, h1]
    show ((m * 2 ^ 149 : Nat) : Int) ≤ _
    omega)
  have hge := FP.Core.zval_round_ge FP.Core.good_b32 (s := false) (c := m) (q := 0) (e0 := FP.Core.b32.qmin) (FP.Core.val32_fits (UInt32.ofNat y)) v2 (Int.le_refl _) (by decide) (by
    rw [e2, epow, hz, h1]
    show _ ≤ ((m * 2 ^ 149 : Nat) : Int)
    omega)
  have hn : FP.Core.val32 (FP.i2f (nI m)) ≠ .nan := by
    rw [ev]
    exact FP.Core.roundRatio_ne_nan _ _ _ _ _
  have hsg : FP.Core.sgn (FP.Core.val32 (FP.i2f (nI m))) = false := by
    rw [ev]
    exact FP.Core.sgn_roundRatio _ _ _ _ _
  rw [← ev] at hle hge
  have hzz : FP.Core.zval FP.Core.b32 (FP.Core.val32 (FP.i2f (nI m))) = (uo y : Int) := by rw [← hz]; omega
  unfold FP.Core.zval at hzz
  rw [hsg] at hzz
  have hzm : FP.Core.zmag FP.Core.b32 (FP.Core.val32 (FP.i2f (nI m))) = uo y := by
    have : FP.Core.signed false (FP.Core.zmag FP.Core.b32 (FP.Core.val32 (FP.i2f (nI m)))) = ((FP.Core.zmag FP.Core.b32 (FP.Core.val32 (FP.i2f (nI m))) : Nat) : Int) := rfl
    omega
  rw [FP.Core.zmag_toNat32 hn] at hzm
  have hb := uo_inj hzm
  rw [FP.Core.sgn_bits32 hn] at hsg
  have hlt := of_decide_eq_false hsg
  apply UInt32.toNat_inj.mp
  rw [hyn, ← hb, Nat.mod_eq_of_lt (by omega)]
theorem val_loop {M : Mem} {m h z : Nat} {y0 : Nat} (hm : m < 2 ^ 24) (hh : h ≤ 149) (e0 : uo y0 = m * 2 ^ 149) (l0 : y0 < 2139095040) (hz : uo z = m * 2 ^ (149 - h)) :
    lp (FX4_valueOf_42 (nI h)) 1000000 (UInt32.ofNat y0, 0) M = some (UInt32.ofNat z, M) := by
  refine wp_eq (lp_for h (fun i b M1 => M1 = M ∧ ∃ y, b = (UInt32.ofNat y, nI i) ∧ y < 2139095040 ∧ uo y = m * 2 ^ (149 - i)) (by omega) ⟨rfl, y0, rfl, l0, e0⟩ ?_ ?_)
  · rintro i b M1 rec hi ⟨rfl, y, rfl, l1, e1⟩ kk
    obtain ⟨y2, e2, l2⟩ := uo_rep hm (149 - (i + 1))
    have hy2 : y2 < 2139095040 := by omega
    have hd : uo y = 2 * uo y2 := by
      rw [e1, e2, show 149 - i = 149 - (i + 1) + 1 by omega, Nat.pow_succ]
      ac_rfl
    have hyn : (UInt32.ofNat y).toNat = y := toNat_ofNat32 (by omega)
    have hx := half_ex (x := UInt32.ofNat y) (y := y2) (by unfold fp1; rw [hyn]; exact l1) hy2 (by rw [hyn]; exact hd)
    have hnn : nnb (UInt32.ofNat y2) = true := nnb_of (by rw [toNat_ofNat32 (by omega)]; omega)
    unfold FX4_valueOf_42
    rw [if_neg (by rw [nI_leI (by omega) (by omega)]; omega), hx, hnn, asr_e, bnd_e]
    simp only [nlit, nI_add]
    exact kk _ _ ⟨rfl, y2, rfl, hy2, e2⟩
  · rintro b M1 rec ⟨rfl, y, rfl, l1, e1⟩
    unfold FX4_valueOf_42
    rw [if_pos (nI_le (Nat.le_refl _) (by omega)), wp_some]
    refine ⟨?_, rfl⟩
    rw [uo_inj (e1.trans hz.symm)]
theorem toU_nI {b : Nat} (hb : b < 2 ^ 32) : (nI b).toUInt32 = UInt32.ofNat b := by
  apply UInt32.toNat_inj.mp
  rw [toNat_ofNat32 hb]
  show (nI b).toBitVec.toNat = b
  exact pk_tn hb
theorem e_valueOf {M : Mem} {b : Nat} (hb : b < 1082130433) : fX4_valueOf (nI b) M = some ((nI b).toUInt32, M) := by
  have e1 : nI b >>> ((23 : Int32) &&& 31) = nI (b / 2 ^ 23) := pk_shrN (by omega) _ 23 (by decide)
  have e2 : nI b &&& 8388607 = nI (b % 2 ^ 23) := pk_andN (by omega) 23 (by decide)
  have hl : b % 2 ^ 23 < 2 ^ 23 := Nat.mod_lt _ (by decide)
  rw [toU_nI (by omega)]
  unfold fX4_valueOf
  rw [e1, e2, bnd_e, jn_e]
  by_cases h0 : b / 2 ^ 23 = 0
  · have hz : nI (b / 2 ^ 23) = 0 := by rw [h0]; rfl
    rw [if_pos hz]
    dsimp only
    rw [jn_e, if_pos hz]
    dsimp only
    obtain ⟨y, p1, p2, p3⟩ := i2f_ex (m := b % 2 ^ 23) (by omega)
    rw [p3]
    exact val_loop (h := 149) (m := b % 2 ^ 23) (by omega) (by omega) p1 p2 (by rw [uo_lt (by omega)]; omega)
  · have hz : ¬ nI (b / 2 ^ 23) = 0 := nI_ne0 (by omega) (by omega)
    rw [if_neg hz]
    dsimp only
    rw [jn_e, if_neg hz]
    dsimp only
    have e3 : nI (b % 2 ^ 23) + 8388608 = nI (b % 2 ^ 23 + 8388608) := nI_add _ _
    obtain ⟨y, p1, p2, p3⟩ := i2f_ex (m := b % 2 ^ 23 + 8388608) (by omega)
    have e4 : (150 : Int32) - nI (b / 2 ^ 23) = nI (150 - b / 2 ^ 23) := nI_sub (a := 150) (by omega)
    rw [e3, p3, e4]
    refine val_loop (h := 150 - b / 2 ^ 23) (m := b % 2 ^ 23 + 8388608) (by omega) (by omega) p1 p2 ?_
    rw [uo_ge (by omega), Nat.add_comm, show 149 - (150 - b / 2 ^ 23) = b / 2 ^ 23 - 1 by omega]
