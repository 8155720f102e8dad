/-! PURE: the text -/
theorem toI_nI {x : UInt32} (h : x.toNat < 2 ^ 32) : x.toInt32 = nI x.toNat := by
  apply Int32.toBitVec_inj.mp
  apply BitVec.eq_of_toNat_eq
  show x.toBitVec.toNat = x.toNat % 2 ^ 32
  rw [Nat.mod_eq_of_lt h]
  rfl
theorem i2cv_nI (x : Int32) : ∃ u, u < 65536 ∧ i2cv x = nI u := by
  have e : (x.toUInt32 % 65536).toNat = x.toUInt32.toNat % 65536 := by simp
  have h := Nat.mod_lt x.toUInt32.toNat (show 0 < 65536 by decide)
  refine ⟨x.toUInt32.toNat % 65536, h, ?_⟩
  unfold i2cv
  rw [toI_nI (by omega), e]
theorem nar_nI {u : Nat} (h : u < 65536) : vp_nar .char (nI u) = nI u := by
  have e0 : (nI u).toUInt32.toNat = u := by
    show (nI u).toBitVec.toNat = u
    exact pk_tn (by omega)
  have e : ((nI u).toUInt32.toUInt16.toUInt32).toNat = u := by
    rw [UInt16.toNat_toUInt32, UInt32.toNat_toUInt16, e0]
    omega
  rw [vp_nar_char, toI_nI (by omega), e]
