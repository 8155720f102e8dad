set_option maxRecDepth 100000 in
set_option maxHeartbeats 4000000 in
theorem ctX7_copyFrom {l : Launch} {G : bkG} {M : Mem} {this : Nat} {a1 : Nat} (hk0 : kd this = 6) (hk1 : kd a1 = 6) : ∀ r, fX7_copyFrom this a1 M = some r → Met l yX7_copyFrom (Cond.code yX7_copyFrom cX7_copyFrom 2 none :: TT) ({ frames := 2, cells := 0, slots := 0, locals := 48 } : Room) (va_Pc [rv G this, rv G a1] (Wd G M)) (QQ G ((fun _ => none) r.1) r.2) 0 0 (An G) := by
  refine mkMet (vl := (fun _ => none)) RX7 rfl (by decide +kernel) rfl (Nat.le_of_ble_eq_true rfl) [some (rv G this), some (rv G a1)] rfl ?_
  intro p e s m args below meth c C _
  refine x_aload_n (pc2 := 1) C dX7_copyFrom_0 rfl rfl ?_
  refine x_aload_n (pc2 := 2) C dX7_copyFrom_1 rfl rfl ?_
  refine x_get (pc2 := 5) C fl_X7_19 hk1 (by decide) rfl dX7_copyFrom_2 rfl ?_
  refine x_putf (pc2 := 8) C ft_X7_19 hk0 (by decide) hs_6_0 (Nat.le_of_ble_eq_true rfl) dX7_copyFrom_5 rfl (fun M1 => ?_)
  refine x_aload_n (pc2 := 9) C dX7_copyFrom_8 rfl rfl ?_
  refine x_aload_n (pc2 := 10) C dX7_copyFrom_9 rfl rfl ?_
  refine x_get (pc2 := 13) C fl_X7_23 hk1 (by decide) rfl dX7_copyFrom_10 rfl ?_
  refine x_putf (pc2 := 16) C ft_X7_23 hk0 (by decide) hs_6_1 (Nat.le_of_ble_eq_true rfl) dX7_copyFrom_13 rfl (fun M2 => ?_)
  refine x_aload_n (pc2 := 17) C dX7_copyFrom_16 rfl rfl ?_
  refine x_aload_n (pc2 := 18) C dX7_copyFrom_17 rfl rfl ?_
  refine x_get (pc2 := 21) C fl_X7_9 hk1 (by decide) rfl dX7_copyFrom_18 rfl ?_
  refine x_puti (pc2 := 24) C ft_X7_9 hk0 (by decide) hs_6_2 (Nat.le_of_ble_eq_true rfl) dX7_copyFrom_21 rfl (fun M3 => ?_)
  refine x_aload_n (pc2 := 25) C dX7_copyFrom_24 rfl rfl ?_
  refine x_aload_n (pc2 := 26) C dX7_copyFrom_25 rfl rfl ?_
  refine x_get (pc2 := 29) C fl_X7_26 hk1 (by decide) rfl dX7_copyFrom_26 rfl ?_
  refine x_putz (pc2 := 32) C ft_X7_26 hk0 (by decide) hs_6_3 (Nat.le_of_ble_eq_true rfl) dX7_copyFrom_29 rfl (fun M4 => ?_)
  refine x_aload_n (pc2 := 33) C dX7_copyFrom_32 rfl rfl ?_
  refine x_aload_n (pc2 := 34) C dX7_copyFrom_33 rfl rfl ?_
  refine x_get (pc2 := 37) C fl_X7_30 hk1 (by decide) rfl dX7_copyFrom_34 rfl ?_
  refine x_puti (pc2 := 40) C ft_X7_30 hk0 (by decide) hs_6_4 (Nat.le_of_ble_eq_true rfl) dX7_copyFrom_37 rfl (fun M5 => ?_)
  refine x_aload_n (pc2 := 41) C dX7_copyFrom_40 rfl rfl ?_
  refine x_aload_n (pc2 := 42) C dX7_copyFrom_41 rfl rfl ?_
  refine x_get (pc2 := 45) C fl_X7_33 hk1 (by decide) rfl dX7_copyFrom_42 rfl ?_
  refine x_puti (pc2 := 48) C ft_X7_33 hk0 (by decide) hs_6_5 (Nat.le_of_ble_eq_true rfl) dX7_copyFrom_45 rfl (fun M6 => ?_)
  refine x_aload_n (pc2 := 49) C dX7_copyFrom_48 rfl rfl ?_
  refine x_aload_n (pc2 := 50) C dX7_copyFrom_49 rfl rfl ?_
  refine x_get (pc2 := 53) C fl_X7_36 hk1 (by decide) rfl dX7_copyFrom_50 rfl ?_
  refine x_puti (pc2 := 56) C ft_X7_36 hk0 (by decide) hs_6_6 (Nat.le_of_ble_eq_true rfl) dX7_copyFrom_53 rfl (fun M7 => ?_)
  refine x_aload_n (pc2 := 57) C dX7_copyFrom_56 rfl rfl ?_
  refine x_get (pc2 := 60) C fl_X7_15 hk1 (by decide) rfl dX7_copyFrom_57 rfl ?_
  refine x_aload_n (pc2 := 61) C dX7_copyFrom_60 rfl rfl ?_
  refine x_get (pc2 := 64) C fl_X7_15 hk0 (by decide) rfl dX7_copyFrom_61 rfl ?_
  refine x_callSv (pc2 := 67) C [rv G (a1 + 1), rv G (this + 1)] [] cl_X7_39 (fun q hq => ctX1_copy (kf_6_7 hk1) (kf_6_7 hk0) q hq) rfl rfl ⟨rfl, rfl, Nat.le_of_ble_eq_true rfl, Nat.le_of_ble_eq_true rfl⟩ (Nat.le_of_ble_eq_true rfl) ⟨Nat.zero_le _, Nat.zero_le _⟩ dX7_copyFrom_64 rfl (fun v8 M9 => ?_)
  exact x_vret C rfl rfl dX7_copyFrom_67
set_option maxRecDepth 100000 in
set_option maxHeartbeats 4000000 in
theorem ctX6_copyFrom {l : Launch} {G : bkG} {M : Mem} {this : Nat} {a1 : Nat} (hk0 : kd this = 5) (hk1 : kd a1 = 5) : ∀ r, fX6_copyFrom this a1 M = some r → Met l yX6_copyFrom (Cond.code yX6_copyFrom cX6_copyFrom 2 none :: TT) ({ frames := 2, cells := 0, slots := 0, locals := 48 } : Room) (va_Pc [rv G this, rv G a1] (Wd G M)) (QQ G ((fun _ => none) r.1) r.2) 0 0 (An G) := by
  refine mkMet (vl := (fun _ => none)) RX6 rfl (by decide +kernel) rfl (Nat.le_of_ble_eq_true rfl) [some (rv G this), some (rv G a1)] rfl ?_
  intro p e s m args below meth c C _
  refine x_aload_n (pc2 := 1) C dX6_copyFrom_0 rfl rfl ?_
  refine x_aload_n (pc2 := 2) C dX6_copyFrom_1 rfl rfl ?_
  refine x_get (pc2 := 5) C fl_X6_33 hk1 (by decide) rfl dX6_copyFrom_2 rfl ?_
  refine x_puti (pc2 := 8) C ft_X6_33 hk0 (by decide) hs_5_0 (Nat.le_of_ble_eq_true rfl) dX6_copyFrom_5 rfl (fun M1 => ?_)
  refine x_aload_n (pc2 := 9) C dX6_copyFrom_8 rfl rfl ?_
  refine x_get (pc2 := 12) C fl_X6_11 hk1 (by decide) rfl dX6_copyFrom_9 rfl ?_
  refine x_aload_n (pc2 := 13) C dX6_copyFrom_12 rfl rfl ?_
  refine x_get (pc2 := 16) C fl_X6_11 hk0 (by decide) rfl dX6_copyFrom_13 rfl ?_
  refine x_callSv (pc2 := 19) C [rv G (a1 + 1), rv G (this + 1)] [] cl_X6_37 (fun q hq => ctX1_copy (kf_5_1 hk1) (kf_5_1 hk0) q hq) rfl rfl ⟨rfl, rfl, Nat.le_of_ble_eq_true rfl, Nat.le_of_ble_eq_true rfl⟩ (Nat.le_of_ble_eq_true rfl) ⟨Nat.zero_le _, Nat.zero_le _⟩ dX6_copyFrom_16 rfl (fun v2 M3 => ?_)
  refine x_aload_n (pc2 := 20) C dX6_copyFrom_19 rfl rfl ?_
  refine x_get (pc2 := 23) C fl_X6_15 hk1 (by decide) rfl dX6_copyFrom_20 rfl ?_
  refine x_aload_n (pc2 := 24) C dX6_copyFrom_23 rfl rfl ?_
  refine x_get (pc2 := 27) C fl_X6_15 hk0 (by decide) rfl dX6_copyFrom_24 rfl ?_
  refine x_callSv (pc2 := 30) C [rv G (a1 + 2), rv G (this + 2)] [] cl_X6_37 (fun q hq => ctX1_copy (kf_5_2 hk1) (kf_5_2 hk0) q hq) rfl rfl ⟨rfl, rfl, Nat.le_of_ble_eq_true rfl, Nat.le_of_ble_eq_true rfl⟩ (Nat.le_of_ble_eq_true rfl) ⟨Nat.zero_le _, Nat.zero_le _⟩ dX6_copyFrom_27 rfl (fun v4 M5 => ?_)
  refine x_aload_n (pc2 := 31) C dX6_copyFrom_30 rfl rfl ?_
  refine x_get (pc2 := 34) C fl_X6_18 hk1 (by decide) rfl dX6_copyFrom_31 rfl ?_
  refine x_aload_n (pc2 := 35) C dX6_copyFrom_34 rfl rfl ?_
  refine x_get (pc2 := 38) C fl_X6_18 hk0 (by decide) rfl dX6_copyFrom_35 rfl ?_
  refine x_callSv (pc2 := 41) C [rv G (a1 + 3), rv G (this + 3)] [] cl_X6_37 (fun q hq => ctX1_copy (kf_5_3 hk1) (kf_5_3 hk0) q hq) rfl rfl ⟨rfl, rfl, Nat.le_of_ble_eq_true rfl, Nat.le_of_ble_eq_true rfl⟩ (Nat.le_of_ble_eq_true rfl) ⟨Nat.zero_le _, Nat.zero_le _⟩ dX6_copyFrom_38 rfl (fun v6 M7 => ?_)
  refine x_aload_n (pc2 := 42) C dX6_copyFrom_41 rfl rfl ?_
  refine x_get (pc2 := 45) C fl_X6_21 hk1 (by decide) rfl dX6_copyFrom_42 rfl ?_
  refine x_aload_n (pc2 := 46) C dX6_copyFrom_45 rfl rfl ?_
  refine x_get (pc2 := 49) C fl_X6_21 hk0 (by decide) rfl dX6_copyFrom_46 rfl ?_
  refine x_callSv (pc2 := 52) C [rv G (a1 + 4), rv G (this + 4)] [] cl_X6_37 (fun q hq => ctX1_copy (kf_5_4 hk1) (kf_5_4 hk0) q hq) rfl rfl ⟨rfl, rfl, Nat.le_of_ble_eq_true rfl, Nat.le_of_ble_eq_true rfl⟩ (Nat.le_of_ble_eq_true rfl) ⟨Nat.zero_le _, Nat.zero_le _⟩ dX6_copyFrom_49 rfl (fun v8 M9 => ?_)
  refine x_aload_n (pc2 := 53) C dX6_copyFrom_52 rfl rfl ?_
  refine x_get (pc2 := 56) C fl_X6_24 hk1 (by decide) rfl dX6_copyFrom_53 rfl ?_
  refine x_aload_n (pc2 := 57) C dX6_copyFrom_56 rfl rfl ?_
  refine x_get (pc2 := 60) C fl_X6_24 hk0 (by decide) rfl dX6_copyFrom_57 rfl ?_
  refine x_callSv (pc2 := 63) C [rv G (a1 + 5), rv G (this + 5)] [] cl_X6_37 (fun q hq => ctX1_copy (kf_5_5 hk1) (kf_5_5 hk0) q hq) rfl rfl ⟨rfl, rfl, Nat.le_of_ble_eq_true rfl, Nat.le_of_ble_eq_true rfl⟩ (Nat.le_of_ble_eq_true rfl) ⟨Nat.zero_le _, Nat.zero_le _⟩ dX6_copyFrom_60 rfl (fun v10 M11 => ?_)
  refine x_aload_n (pc2 := 64) C dX6_copyFrom_63 rfl rfl ?_
  refine x_get (pc2 := 67) C fl_X6_27 hk1 (by decide) rfl dX6_copyFrom_64 rfl ?_
  refine x_aload_n (pc2 := 68) C dX6_copyFrom_67 rfl rfl ?_
  refine x_get (pc2 := 71) C fl_X6_27 hk0 (by decide) rfl dX6_copyFrom_68 rfl ?_
  refine x_callSv (pc2 := 74) C [rv G (a1 + 6), rv G (this + 6)] [] cl_X6_37 (fun q hq => ctX1_copy (kf_5_6 hk1) (kf_5_6 hk0) q hq) rfl rfl ⟨rfl, rfl, Nat.le_of_ble_eq_true rfl, Nat.le_of_ble_eq_true rfl⟩ (Nat.le_of_ble_eq_true rfl) ⟨Nat.zero_le _, Nat.zero_le _⟩ dX6_copyFrom_71 rfl (fun v12 M13 => ?_)
  refine x_aload_n (pc2 := 75) C dX6_copyFrom_74 rfl rfl ?_
  refine x_get (pc2 := 78) C fl_X6_30 hk1 (by decide) rfl dX6_copyFrom_75 rfl ?_
  refine x_aload_n (pc2 := 79) C dX6_copyFrom_78 rfl rfl ?_
  refine x_get (pc2 := 82) C fl_X6_30 hk0 (by decide) rfl dX6_copyFrom_79 rfl ?_
  refine x_callSv (pc2 := 85) C [rv G (a1 + 7), rv G (this + 7)] [] cl_X6_37 (fun q hq => ctX1_copy (kf_5_7 hk1) (kf_5_7 hk0) q hq) rfl rfl ⟨rfl, rfl, Nat.le_of_ble_eq_true rfl, Nat.le_of_ble_eq_true rfl⟩ (Nat.le_of_ble_eq_true rfl) ⟨Nat.zero_le _, Nat.zero_le _⟩ dX6_copyFrom_82 rfl (fun v14 M15 => ?_)
  exact x_vret C rfl rfl dX6_copyFrom_85
set_option maxRecDepth 100000 in
set_option maxHeartbeats 4000000 in
theorem ctX4_copyFrom {l : Launch} {G : bkG} {M : Mem} {this : Nat} {a1 : Nat} (hk0 : kd this = 3) (hk1 : kd a1 = 3) : ∀ r, fX4_copyFrom this a1 M = some r → Met l yX4_copyFrom (Cond.code yX4_copyFrom cX4_copyFrom 2 none :: TT) ({ frames := 2, cells := 0, slots := 0, locals := 48 } : Room) (va_Pc [rv G this, rv G a1] (Wd G M)) (QQ G ((fun _ => none) r.1) r.2) 0 0 (An G) := by
  refine mkMet (vl := (fun _ => none)) RX4 rfl (by decide +kernel) rfl (Nat.le_of_ble_eq_true rfl) [some (rv G this), some (rv G a1)] rfl ?_
  intro p e s m args below meth c C _
  refine x_aload_n (pc2 := 1) C dX4_copyFrom_0 rfl rfl ?_
  refine x_get (pc2 := 4) C fl_X4_12 hk1 (by decide) rfl dX4_copyFrom_1 rfl ?_
  refine x_aload_n (pc2 := 5) C dX4_copyFrom_4 rfl rfl ?_
  refine x_get (pc2 := 8) C fl_X4_12 hk0 (by decide) rfl dX4_copyFrom_5 rfl ?_
  refine x_callSv (pc2 := 11) C [rv G (a1 + 1), rv G (this + 1)] [] cl_X4_29 (fun q hq => ctX1_copy (kf_3_0 hk1) (kf_3_0 hk0) q hq) rfl rfl ⟨rfl, rfl, Nat.le_of_ble_eq_true rfl, Nat.le_of_ble_eq_true rfl⟩ (Nat.le_of_ble_eq_true rfl) ⟨Nat.zero_le _, Nat.zero_le _⟩ dX4_copyFrom_8 rfl (fun v1 M2 => ?_)
  refine x_aload_n (pc2 := 12) C dX4_copyFrom_11 rfl rfl ?_
  refine x_aload_n (pc2 := 13) C dX4_copyFrom_12 rfl rfl ?_
  refine x_get (pc2 := 16) C fl_X4_17 hk1 (by decide) rfl dX4_copyFrom_13 rfl ?_
  refine x_putf (pc2 := 19) C ft_X4_17 hk0 (by decide) hs_3_1 (Nat.le_of_ble_eq_true rfl) dX4_copyFrom_16 rfl (fun M3 => ?_)
  refine x_aload_n (pc2 := 20) C dX4_copyFrom_19 rfl rfl ?_
  refine x_aload_n (pc2 := 21) C dX4_copyFrom_20 rfl rfl ?_
  refine x_get (pc2 := 24) C fl_X4_22 hk1 (by decide) rfl dX4_copyFrom_21 rfl ?_
  refine x_putf (pc2 := 27) C ft_X4_22 hk0 (by decide) hs_3_2 (Nat.le_of_ble_eq_true rfl) dX4_copyFrom_24 rfl (fun M4 => ?_)
  refine x_aload_n (pc2 := 28) C dX4_copyFrom_27 rfl rfl ?_
  refine x_aload_n (pc2 := 29) C dX4_copyFrom_28 rfl rfl ?_
  refine x_get (pc2 := 32) C fl_X4_26 hk1 (by decide) rfl dX4_copyFrom_29 rfl ?_
  refine x_putf (pc2 := 35) C ft_X4_26 hk0 (by decide) hs_3_3 (Nat.le_of_ble_eq_true rfl) dX4_copyFrom_32 rfl (fun M5 => ?_)
  exact x_vret C rfl rfl dX4_copyFrom_35
set_option maxRecDepth 100000 in
set_option maxHeartbeats 4000000 in
theorem ctX7_unsigned {l : Launch} {G : bkG} {M : Mem} {a1 : UInt32}  : ∀ r, fX7_unsigned a1 M = some r → Met l yX7_unsigned (Cond.code yX7_unsigned cX7_unsigned 1 (some .float) :: TT) ({ frames := 0, cells := 0, slots := 0, locals := 0 } : Room) (va_Pc [.float a1] (Wd G M)) (QQ G ((fun v => some (.float v)) r.1) r.2) 0 0 (An G) := by
  refine mkMet (vl := (fun v => some (.float v))) RX7 rfl (by decide +kernel) rfl (Nat.le_of_ble_eq_true rfl) [some (.float a1)] rfl ?_
  intro p e s m args below meth c C _
  refine x_fload_n (pc2 := 1) C dX7_unsigned_0 rfl rfl ?_
  refine x_fconst0 (pc2 := 2) C dX7_unsigned_1 rfl ?_
  refine x_fcmpg (pc2 := 3) C dX7_unsigned_2 rfl ?_
  refine x_if_ge (tgt := 11) (pc2 := 6) C dX7_unsigned_3 (by decide) rfl ?_ ?_
  · refine x_fload_n (pc2 := 12) C dX7_unsigned_11 rfl rfl ?_
    exact x_fret C rfl rfl dX7_unsigned_12
  · refine x_fload_n (pc2 := 7) C dX7_unsigned_6 rfl rfl ?_
    refine x_fneg (pc2 := 8) C dX7_unsigned_7 rfl ?_
    refine x_goto (tgt := 12) C dX7_unsigned_8 (by decide) ?_
    exact x_fret C rfl rfl dX7_unsigned_12
set_option maxRecDepth 100000 in
set_option maxHeartbeats 4000000 in
theorem ctX7_distanceOf {l : Launch} {G : bkG} {M : Mem} {this : Nat} {a1 : Int32} {a2 : Int32} (hk0 : kd this = 6) : ∀ r, fX7_distanceOf this a1 a2 M = some r → Met l yX7_distanceOf (Cond.code yX7_distanceOf cX7_distanceOf 4 (some .float) :: TT) ({ frames := 1, cells := 0, slots := 0, locals := 20 } : Room) (va_Pc [rv G this, .int a1, .int a2] (Wd G M)) (QQ G ((fun v => some (.float v)) r.1) r.2) 0 0 (An G) := by
  refine mkMet (vl := (fun v => some (.float v))) RX7 rfl (by decide +kernel) rfl (Nat.le_of_ble_eq_true rfl) [some (rv G this), some (.int a1), some (.int a2), none] rfl ?_
  intro p e s m args below meth c C _
  refine x_iload_n (pc2 := 1) C dX7_distanceOf_0 rfl rfl ?_
  refine x_i2f (pc2 := 2) C dX7_distanceOf_1 rfl ?_
  refine x_aload_n (pc2 := 3) C dX7_distanceOf_2 rfl rfl ?_
  refine x_get (pc2 := 6) C fl_X7_19 hk0 (by decide) rfl dX7_distanceOf_3 rfl ?_
  refine x_fsub (pc2 := 7) C dX7_distanceOf_6 rfl ?_
  refine x_topf (fun v1 => ?_)
  refine x_callSf (pc2 := 10) C [.float v1] [] cl_X7_45 (fun q hq => ctX7_unsigned  q hq) rfl rfl ⟨rfl, rfl, Nat.le_of_ble_eq_true rfl, Nat.le_of_ble_eq_true rfl⟩ (Nat.le_of_ble_eq_true rfl) ⟨Nat.zero_le _, Nat.zero_le _⟩ dX7_distanceOf_7 rfl (fun v2 M3 => ?_)
  refine x_aload_n (pc2 := 11) C dX7_distanceOf_10 rfl rfl ?_
  refine x_get (pc2 := 14) C fl_X7_19 hk0 (by decide) rfl dX7_distanceOf_11 rfl ?_
  refine x_fdiv (pc2 := 15) C dX7_distanceOf_14 rfl ?_
  refine x_topf (fun v4 => ?_)
  refine x_fstore_n (pc2 := 16) C dX7_distanceOf_15 rfl [some (rv G this), some (.int a1), some (.int a2), some (.float v4)] rfl rfl ?_
  refine x_aload_n (pc2 := 17) C dX7_distanceOf_16 rfl rfl ?_
  refine x_get (pc2 := 20) C fl_X7_9 hk0 (by decide) rfl dX7_distanceOf_17 rfl ?_
  refine x_iconst (pc2 := 21) C dX7_distanceOf_20 rfl ic_m1 ?_
  refine x_icmp_ne (tgt := 26) (pc2 := 24) C dX7_distanceOf_21 (by decide) rfl ?_ ?_
  · refine x_fload_n (pc2 := 27) C dX7_distanceOf_26 rfl rfl ?_
    refine x_iload_n (pc2 := 28) C dX7_distanceOf_27 rfl rfl ?_
    refine x_aload_n (pc2 := 29) C dX7_distanceOf_28 rfl rfl ?_
    refine x_get (pc2 := 32) C fl_X7_9 hk0 (by decide) rfl dX7_distanceOf_29 rfl ?_
    refine x_isub (pc2 := 33) C dX7_distanceOf_32 rfl ?_
    refine x_callSi (pc2 := 36) C [.int (a1 - (M3.1 this 2))] [.float v4] cl_X7_49 (fun q hq => ctJ9_abs_0f7a4  q hq) rfl rfl ⟨rfl, rfl, Nat.le_of_ble_eq_true rfl, Nat.le_of_ble_eq_true rfl⟩ (Nat.le_of_ble_eq_true rfl) ⟨Nat.zero_le _, Nat.zero_le _⟩ dX7_distanceOf_33 rfl (fun v5 M6 => ?_)
    refine x_i2f (pc2 := 37) C dX7_distanceOf_36 rfl ?_
    refine x_aload_n (pc2 := 38) C dX7_distanceOf_37 rfl rfl ?_
    refine x_get (pc2 := 41) C fl_X7_23 hk0 (by decide) rfl dX7_distanceOf_38 rfl ?_
    refine x_fsub (pc2 := 42) C dX7_distanceOf_41 rfl ?_
    refine x_topf (fun v7 => ?_)
    refine x_callSf (pc2 := 45) C [.float v7] [.float v4] cl_X7_45 (fun q hq => ctX7_unsigned  q hq) rfl rfl ⟨rfl, rfl, Nat.le_of_ble_eq_true rfl, Nat.le_of_ble_eq_true rfl⟩ (Nat.le_of_ble_eq_true rfl) ⟨Nat.zero_le _, Nat.zero_le _⟩ dX7_distanceOf_42 rfl (fun v8 M9 => ?_)
    refine x_aload_n (pc2 := 46) C dX7_distanceOf_45 rfl rfl ?_
    refine x_get (pc2 := 49) C fl_X7_23 hk0 (by decide) rfl dX7_distanceOf_46 rfl ?_
    refine x_fdiv (pc2 := 50) C dX7_distanceOf_49 rfl ?_
    refine x_topf (fun v10 => ?_)
    refine x_ldcf (pc2 := 52) C wt3_37 dX7_distanceOf_50 rfl ?_
    refine x_fmul (pc2 := 53) C dX7_distanceOf_52 rfl ?_
    refine x_topf (fun v11 => ?_)
    refine x_fadd (pc2 := 54) C dX7_distanceOf_53 rfl ?_
    refine x_topf (fun v12 => ?_)
    exact x_fret C rfl rfl dX7_distanceOf_54
  · refine x_fload_n (pc2 := 25) C dX7_distanceOf_24 rfl rfl ?_
    exact x_fret C rfl rfl dX7_distanceOf_25
set_option maxRecDepth 100000 in
set_option maxHeartbeats 4000000 in
theorem ctX6_slot {l : Launch} {G : bkG} {M : Mem} {a1 : Int32}  : ∀ r, fX6_slot a1 M = some r → Met l yX6_slot (Cond.code yX6_slot cX6_slot 1 (some .int) :: TT) ({ frames := 0, cells := 0, slots := 0, locals := 0 } : Room) (va_Pc [.int a1] (Wd G M)) (QQ G ((fun v => some (.int v)) r.1) r.2) 0 0 (An G) := by
  refine mkMet (vl := (fun v => some (.int v))) RX6 rfl (by decide +kernel) rfl (Nat.le_of_ble_eq_true rfl) [some (.int a1)] rfl ?_
  intro p e s m args below meth c C _
  refine x_iload_n (pc2 := 1) C dX6_slot_0 rfl rfl ?_
  refine x_if_ge (tgt := 8) (pc2 := 4) C dX6_slot_1 (by decide) rfl ?_ ?_
  · refine x_iload_n (pc2 := 9) C dX6_slot_8 rfl rfl ?_
    refine x_bipush (pc2 := 11) C dX6_slot_9 rfl bc_20 ?_
    refine x_iremL (pc2 := 12) C dX6_slot_11 rfl (by decide) ?_
    exact x_iret C rfl rfl dX6_slot_12
  · refine x_iconst (pc2 := 5) C dX6_slot_4 rfl ic_0 ?_
    refine x_goto (tgt := 12) C dX6_slot_5 (by decide) ?_
    exact x_iret C rfl rfl dX6_slot_12
set_option maxRecDepth 100000 in
set_option maxHeartbeats 4000000 in
theorem ctX6_addFrom {l : Launch} {G : bkG} {M : Mem} {this : Nat} {a1 : Nat} {a2 : Int32} {a3 : Int32} {a4 : Int32} (hk0 : kd this = 5) (hk1 : kd a1 = 0) : ∀ r, fX6_addFrom this a1 a2 a3 a4 M = some r → Met l yX6_addFrom (Cond.code yX6_addFrom cX6_addFrom 6 none :: TT) ({ frames := 2, cells := 0, slots := 0, locals := 42 } : Room) (va_Pc [rv G this, rv G a1, .int a2, .int a3, .int a4] (Wd G M)) (QQ G ((fun _ => none) r.1) r.2) 0 0 (An G) := by
  refine mkMet (vl := (fun _ => none)) RX6 rfl (by decide +kernel) rfl (Nat.le_of_ble_eq_true rfl) [some (rv G this), some (rv G a1), some (.int a2), some (.int a3), some (.int a4), none] rfl ?_
  intro p e s m args below meth c C _
  refine x_aload_n (pc2 := 1) C dX6_addFrom_0 rfl rfl ?_
  refine x_get (pc2 := 4) C fl_X6_33 hk0 (by decide) rfl dX6_addFrom_1 rfl ?_
  refine x_callSi (pc2 := 7) C [.int (M.1 this 0)] [] cl_X6_43 (fun q hq => ctX6_slot  q hq) rfl rfl ⟨rfl, rfl, Nat.le_of_ble_eq_true rfl, Nat.le_of_ble_eq_true rfl⟩ (Nat.le_of_ble_eq_true rfl) ⟨Nat.zero_le _, Nat.zero_le _⟩ dX6_addFrom_4 rfl (fun v1 M2 => ?_)
  refine x_istore (pc2 := 9) C dX6_addFrom_7 rfl [some (rv G this), some (rv G a1), some (.int a2), some (.int a3), some (.int a4), some (.int v1)] rfl rfl ?_
  refine x_aload_n (pc2 := 10) C dX6_addFrom_9 rfl rfl ?_
  refine x_get (pc2 := 13) C fl_X6_11 hk0 (by decide) rfl dX6_addFrom_10 rfl ?_
  refine x_iload (pc2 := 15) C dX6_addFrom_13 rfl rfl ?_
  refine x_iload_n (pc2 := 16) C dX6_addFrom_15 rfl rfl ?_
  refine x_callSv (pc2 := 19) C [rv G (this + 1), .int v1, .int a2] [] cl_X6_47 (fun q hq => ctX1_put (kf_5_1 hk0) q hq) rfl rfl ⟨rfl, rfl, Nat.le_of_ble_eq_true rfl, Nat.le_of_ble_eq_true rfl⟩ (Nat.le_of_ble_eq_true rfl) ⟨Nat.zero_le _, Nat.zero_le _⟩ dX6_addFrom_16 rfl (fun v3 M4 => ?_)
  refine x_aload_n (pc2 := 20) C dX6_addFrom_19 rfl rfl ?_
  refine x_get (pc2 := 23) C fl_X6_15 hk0 (by decide) rfl dX6_addFrom_20 rfl ?_
  refine x_iload (pc2 := 25) C dX6_addFrom_23 rfl rfl ?_
  refine x_aload_n (pc2 := 26) C dX6_addFrom_25 rfl rfl ?_
  refine x_iload_n (pc2 := 27) C dX6_addFrom_26 rfl rfl ?_
  refine x_callVi (pc2 := 30) C [.int a2] [.int v1, rv G (this + 2)] cl_X6_51 (fun q hq => ctX0_sinceOf hk1 q hq) hk1 rfl rfl rfl ⟨rfl, rfl, Nat.le_of_ble_eq_true rfl, Nat.le_of_ble_eq_true rfl⟩ (Nat.le_of_ble_eq_true rfl) ⟨Nat.zero_le _, Nat.zero_le _⟩ dX6_addFrom_27 rfl (fun v5 M6 => ?_)
  refine x_callSv (pc2 := 33) C [rv G (this + 2), .int v1, .int v5] [] cl_X6_47 (fun q hq => ctX1_put (kf_5_2 hk0) q hq) rfl rfl ⟨rfl, rfl, Nat.le_of_ble_eq_true rfl, Nat.le_of_ble_eq_true rfl⟩ (Nat.le_of_ble_eq_true rfl) ⟨Nat.zero_le _, Nat.zero_le _⟩ dX6_addFrom_30 rfl (fun v7 M8 => ?_)
  refine x_aload_n (pc2 := 34) C dX6_addFrom_33 rfl rfl ?_
  refine x_get (pc2 := 37) C fl_X6_18 hk0 (by decide) rfl dX6_addFrom_34 rfl ?_
  refine x_iload (pc2 := 39) C dX6_addFrom_37 rfl rfl ?_
  refine x_iload_n (pc2 := 40) C dX6_addFrom_39 rfl rfl ?_
  refine x_aload_n (pc2 := 41) C dX6_addFrom_40 rfl rfl ?_
  refine x_iload_n (pc2 := 42) C dX6_addFrom_41 rfl rfl ?_
  refine x_callVi (pc2 := 45) C [.int a2] [.int a3, .int v1, rv G (this + 3)] cl_X6_51 (fun q hq => ctX0_sinceOf hk1 q hq) hk1 rfl rfl rfl ⟨rfl, rfl, Nat.le_of_ble_eq_true rfl, Nat.le_of_ble_eq_true rfl⟩ (Nat.le_of_ble_eq_true rfl) ⟨Nat.zero_le _, Nat.zero_le _⟩ dX6_addFrom_42 rfl (fun v9 M10 => ?_)
  refine x_isub (pc2 := 46) C dX6_addFrom_45 rfl ?_
  refine x_callSv (pc2 := 49) C [rv G (this + 3), .int v1, .int (a3 - v9)] [] cl_X6_47 (fun q hq => ctX1_put (kf_5_3 hk0) q hq) rfl rfl ⟨rfl, rfl, Nat.le_of_ble_eq_true rfl, Nat.le_of_ble_eq_true rfl⟩ (Nat.le_of_ble_eq_true rfl) ⟨Nat.zero_le _, Nat.zero_le _⟩ dX6_addFrom_46 rfl (fun v11 M12 => ?_)
  refine x_aload_n (pc2 := 50) C dX6_addFrom_49 rfl rfl ?_
  refine x_get (pc2 := 53) C fl_X6_21 hk0 (by decide) rfl dX6_addFrom_50 rfl ?_
  refine x_iload (pc2 := 55) C dX6_addFrom_53 rfl rfl ?_
  refine x_iload (pc2 := 57) C dX6_addFrom_55 rfl rfl ?_
  refine x_callSv (pc2 := 60) C [rv G (this + 4), .int v1, .int a4] [] cl_X6_47 (fun q hq => ctX1_put (kf_5_4 hk0) q hq) rfl rfl ⟨rfl, rfl, Nat.le_of_ble_eq_true rfl, Nat.le_of_ble_eq_true rfl⟩ (Nat.le_of_ble_eq_true rfl) ⟨Nat.zero_le _, Nat.zero_le _⟩ dX6_addFrom_57 rfl (fun v13 M14 => ?_)
  refine x_aload_n (pc2 := 61) C dX6_addFrom_60 rfl rfl ?_
  refine x_get (pc2 := 64) C fl_X6_24 hk0 (by decide) rfl dX6_addFrom_61 rfl ?_
  refine x_iload (pc2 := 66) C dX6_addFrom_64 rfl rfl ?_
  refine x_aload_n (pc2 := 67) C dX6_addFrom_66 rfl rfl ?_
  refine x_iload_n (pc2 := 68) C dX6_addFrom_67 rfl rfl ?_
  refine x_callVi (pc2 := 71) C [.int a2] [.int v1, rv G (this + 5)] cl_X6_56 (fun q hq => ctX0_trueHolderOf hk1 q hq) hk1 rfl rfl rfl ⟨rfl, rfl, Nat.le_of_ble_eq_true rfl, Nat.le_of_ble_eq_true rfl⟩ (Nat.le_of_ble_eq_true rfl) ⟨Nat.zero_le _, Nat.zero_le _⟩ dX6_addFrom_68 rfl (fun v15 M16 => ?_)
  refine x_callSv (pc2 := 74) C [rv G (this + 5), .int v1, .int v15] [] cl_X6_47 (fun q hq => ctX1_put (kf_5_5 hk0) q hq) rfl rfl ⟨rfl, rfl, Nat.le_of_ble_eq_true rfl, Nat.le_of_ble_eq_true rfl⟩ (Nat.le_of_ble_eq_true rfl) ⟨Nat.zero_le _, Nat.zero_le _⟩ dX6_addFrom_71 rfl (fun v17 M18 => ?_)
  refine x_aload_n (pc2 := 75) C dX6_addFrom_74 rfl rfl ?_
  refine x_get (pc2 := 78) C fl_X6_27 hk0 (by decide) rfl dX6_addFrom_75 rfl ?_
  refine x_iload (pc2 := 80) C dX6_addFrom_78 rfl rfl ?_
  refine x_aload_n (pc2 := 81) C dX6_addFrom_80 rfl rfl ?_
  refine x_iload_n (pc2 := 82) C dX6_addFrom_81 rfl rfl ?_
  refine x_callVi (pc2 := 85) C [.int a2] [.int v1, rv G (this + 6)] cl_X6_59 (fun q hq => ctX0_notedFor hk1 q hq) hk1 rfl rfl rfl ⟨rfl, rfl, Nat.le_of_ble_eq_true rfl, Nat.le_of_ble_eq_true rfl⟩ (Nat.le_of_ble_eq_true rfl) ⟨Nat.zero_le _, Nat.zero_le _⟩ dX6_addFrom_82 rfl (fun v19 M20 => ?_)
  refine x_callSv (pc2 := 88) C [rv G (this + 6), .int v1, .int v19] [] cl_X6_47 (fun q hq => ctX1_put (kf_5_6 hk0) q hq) rfl rfl ⟨rfl, rfl, Nat.le_of_ble_eq_true rfl, Nat.le_of_ble_eq_true rfl⟩ (Nat.le_of_ble_eq_true rfl) ⟨Nat.zero_le _, Nat.zero_le _⟩ dX6_addFrom_85 rfl (fun v21 M22 => ?_)
  refine x_aload_n (pc2 := 89) C dX6_addFrom_88 rfl rfl ?_
  refine x_dup (pc2 := 90) C dX6_addFrom_89 rfl rfl ?_
  refine x_get (pc2 := 93) C fl_X6_33 hk0 (by decide) rfl dX6_addFrom_90 rfl ?_
  refine x_iconst (pc2 := 94) C dX6_addFrom_93 rfl ic_1 ?_
  refine x_iadd (pc2 := 95) C dX6_addFrom_94 rfl ?_
  refine x_puti (pc2 := 98) C ft_X6_33 hk0 (by decide) hs_5_0 (Nat.le_of_ble_eq_true rfl) dX6_addFrom_95 rfl (fun M23 => ?_)
  exact x_vret C rfl rfl dX6_addFrom_98
set_option maxRecDepth 100000 in
set_option maxHeartbeats 4000000 in
theorem ctX6_keyOf {l : Launch} {G : bkG} {M : Mem} {this : Nat} {a1 : Int32} (hk0 : kd this = 5) : ∀ r, fX6_keyOf this a1 M = some r → Met l yX6_keyOf (Cond.code yX6_keyOf cX6_keyOf 2 (some .int) :: TT) ({ frames := 1, cells := 0, slots := 0, locals := 21 } : Room) (va_Pc [rv G this, .int a1] (Wd G M)) (QQ G ((fun v => some (.int v)) r.1) r.2) 0 0 (An G) := by
  refine mkMet (vl := (fun v => some (.int v))) RX6 rfl (by decide +kernel) rfl (Nat.le_of_ble_eq_true rfl) [some (rv G this), some (.int a1)] rfl ?_
  intro p e s m args below meth c C _
  refine x_aload_n (pc2 := 1) C dX6_keyOf_0 rfl rfl ?_
  refine x_get (pc2 := 4) C fl_X6_11 hk0 (by decide) rfl dX6_keyOf_1 rfl ?_
  refine x_iload_n (pc2 := 5) C dX6_keyOf_4 rfl rfl ?_
  refine x_callSi (pc2 := 8) C [.int a1] [rv G (this + 1)] cl_X6_43 (fun q hq => ctX6_slot  q hq) rfl rfl ⟨rfl, rfl, Nat.le_of_ble_eq_true rfl, Nat.le_of_ble_eq_true rfl⟩ (Nat.le_of_ble_eq_true rfl) ⟨Nat.zero_le _, Nat.zero_le _⟩ dX6_keyOf_5 rfl (fun v1 M2 => ?_)
  refine x_callSi (pc2 := 11) C [rv G (this + 1), .int v1] [] cl_X6_78 (fun q hq => ctX1_at (kf_5_1 hk0) q hq) rfl rfl ⟨rfl, rfl, Nat.le_of_ble_eq_true rfl, Nat.le_of_ble_eq_true rfl⟩ (Nat.le_of_ble_eq_true rfl) ⟨Nat.zero_le _, Nat.zero_le _⟩ dX6_keyOf_8 rfl (fun v3 M4 => ?_)
  exact x_iret C rfl rfl dX6_keyOf_11
set_option maxRecDepth 100000 in
set_option maxHeartbeats 4000000 in
theorem ctX6_sinceOf {l : Launch} {G : bkG} {M : Mem} {this : Nat} {a1 : Int32} (hk0 : kd this = 5) : ∀ r, fX6_sinceOf this a1 M = some r → Met l yX6_sinceOf (Cond.code yX6_sinceOf cX6_sinceOf 2 (some .int) :: TT) ({ frames := 1, cells := 0, slots := 0, locals := 21 } : Room) (va_Pc [rv G this, .int a1] (Wd G M)) (QQ G ((fun v => some (.int v)) r.1) r.2) 0 0 (An G) := by
  refine mkMet (vl := (fun v => some (.int v))) RX6 rfl (by decide +kernel) rfl (Nat.le_of_ble_eq_true rfl) [some (rv G this), some (.int a1)] rfl ?_
  intro p e s m args below meth c C _
  refine x_aload_n (pc2 := 1) C dX6_sinceOf_0 rfl rfl ?_
  refine x_get (pc2 := 4) C fl_X6_15 hk0 (by decide) rfl dX6_sinceOf_1 rfl ?_
  refine x_iload_n (pc2 := 5) C dX6_sinceOf_4 rfl rfl ?_
  refine x_callSi (pc2 := 8) C [.int a1] [rv G (this + 2)] cl_X6_43 (fun q hq => ctX6_slot  q hq) rfl rfl ⟨rfl, rfl, Nat.le_of_ble_eq_true rfl, Nat.le_of_ble_eq_true rfl⟩ (Nat.le_of_ble_eq_true rfl) ⟨Nat.zero_le _, Nat.zero_le _⟩ dX6_sinceOf_5 rfl (fun v1 M2 => ?_)
  refine x_callSi (pc2 := 11) C [rv G (this + 2), .int v1] [] cl_X6_78 (fun q hq => ctX1_at (kf_5_2 hk0) q hq) rfl rfl ⟨rfl, rfl, Nat.le_of_ble_eq_true rfl, Nat.le_of_ble_eq_true rfl⟩ (Nat.le_of_ble_eq_true rfl) ⟨Nat.zero_le _, Nat.zero_le _⟩ dX6_sinceOf_8 rfl (fun v3 M4 => ?_)
  exact x_iret C rfl rfl dX6_sinceOf_11
set_option maxRecDepth 100000 in
set_option maxHeartbeats 4000000 in
theorem ctX6_dwellOf {l : Launch} {G : bkG} {M : Mem} {this : Nat} {a1 : Int32} (hk0 : kd this = 5) : ∀ r, fX6_dwellOf this a1 M = some r → Met l yX6_dwellOf (Cond.code yX6_dwellOf cX6_dwellOf 2 (some .int) :: TT) ({ frames := 1, cells := 0, slots := 0, locals := 21 } : Room) (va_Pc [rv G this, .int a1] (Wd G M)) (QQ G ((fun v => some (.int v)) r.1) r.2) 0 0 (An G) := by
  refine mkMet (vl := (fun v => some (.int v))) RX6 rfl (by decide +kernel) rfl (Nat.le_of_ble_eq_true rfl) [some (rv G this), some (.int a1)] rfl ?_
  intro p e s m args below meth c C _
  refine x_aload_n (pc2 := 1) C dX6_dwellOf_0 rfl rfl ?_
  refine x_get (pc2 := 4) C fl_X6_18 hk0 (by decide) rfl dX6_dwellOf_1 rfl ?_
  refine x_iload_n (pc2 := 5) C dX6_dwellOf_4 rfl rfl ?_
  refine x_callSi (pc2 := 8) C [.int a1] [rv G (this + 3)] cl_X6_43 (fun q hq => ctX6_slot  q hq) rfl rfl ⟨rfl, rfl, Nat.le_of_ble_eq_true rfl, Nat.le_of_ble_eq_true rfl⟩ (Nat.le_of_ble_eq_true rfl) ⟨Nat.zero_le _, Nat.zero_le _⟩ dX6_dwellOf_5 rfl (fun v1 M2 => ?_)
  refine x_callSi (pc2 := 11) C [rv G (this + 3), .int v1] [] cl_X6_78 (fun q hq => ctX1_at (kf_5_3 hk0) q hq) rfl rfl ⟨rfl, rfl, Nat.le_of_ble_eq_true rfl, Nat.le_of_ble_eq_true rfl⟩ (Nat.le_of_ble_eq_true rfl) ⟨Nat.zero_le _, Nat.zero_le _⟩ dX6_dwellOf_8 rfl (fun v3 M4 => ?_)
  exact x_iret C rfl rfl dX6_dwellOf_11
set_option maxRecDepth 100000 in
set_option maxHeartbeats 4000000 in
theorem ctX6_fateOf {l : Launch} {G : bkG} {M : Mem} {this : Nat} {a1 : Int32} (hk0 : kd this = 5) : ∀ r, fX6_fateOf this a1 M = some r → Met l yX6_fateOf (Cond.code yX6_fateOf cX6_fateOf 2 (some .int) :: TT) ({ frames := 1, cells := 0, slots := 0, locals := 21 } : Room) (va_Pc [rv G this, .int a1] (Wd G M)) (QQ G ((fun v => some (.int v)) r.1) r.2) 0 0 (An G) := by
  refine mkMet (vl := (fun v => some (.int v))) RX6 rfl (by decide +kernel) rfl (Nat.le_of_ble_eq_true rfl) [some (rv G this), some (.int a1)] rfl ?_
  intro p e s m args below meth c C _
  refine x_aload_n (pc2 := 1) C dX6_fateOf_0 rfl rfl ?_
  refine x_get (pc2 := 4) C fl_X6_21 hk0 (by decide) rfl dX6_fateOf_1 rfl ?_
  refine x_iload_n (pc2 := 5) C dX6_fateOf_4 rfl rfl ?_
  refine x_callSi (pc2 := 8) C [.int a1] [rv G (this + 4)] cl_X6_43 (fun q hq => ctX6_slot  q hq) rfl rfl ⟨rfl, rfl, Nat.le_of_ble_eq_true rfl, Nat.le_of_ble_eq_true rfl⟩ (Nat.le_of_ble_eq_true rfl) ⟨Nat.zero_le _, Nat.zero_le _⟩ dX6_fateOf_5 rfl (fun v1 M2 => ?_)
  refine x_callSi (pc2 := 11) C [rv G (this + 4), .int v1] [] cl_X6_78 (fun q hq => ctX1_at (kf_5_4 hk0) q hq) rfl rfl ⟨rfl, rfl, Nat.le_of_ble_eq_true rfl, Nat.le_of_ble_eq_true rfl⟩ (Nat.le_of_ble_eq_true rfl) ⟨Nat.zero_le _, Nat.zero_le _⟩ dX6_fateOf_8 rfl (fun v3 M4 => ?_)
  exact x_iret C rfl rfl dX6_fateOf_11
set_option maxRecDepth 100000 in
set_option maxHeartbeats 4000000 in
theorem ctX6_holderOf {l : Launch} {G : bkG} {M : Mem} {this : Nat} {a1 : Int32} (hk0 : kd this = 5) : ∀ r, fX6_holderOf this a1 M = some r → Met l yX6_holderOf (Cond.code yX6_holderOf cX6_holderOf 2 (some .int) :: TT) ({ frames := 1, cells := 0, slots := 0, locals := 21 } : Room) (va_Pc [rv G this, .int a1] (Wd G M)) (QQ G ((fun v => some (.int v)) r.1) r.2) 0 0 (An G) := by
  refine mkMet (vl := (fun v => some (.int v))) RX6 rfl (by decide +kernel) rfl (Nat.le_of_ble_eq_true rfl) [some (rv G this), some (.int a1)] rfl ?_
  intro p e s m args below meth c C _
  refine x_aload_n (pc2 := 1) C dX6_holderOf_0 rfl rfl ?_
  refine x_get (pc2 := 4) C fl_X6_24 hk0 (by decide) rfl dX6_holderOf_1 rfl ?_
  refine x_iload_n (pc2 := 5) C dX6_holderOf_4 rfl rfl ?_
  refine x_callSi (pc2 := 8) C [.int a1] [rv G (this + 5)] cl_X6_43 (fun q hq => ctX6_slot  q hq) rfl rfl ⟨rfl, rfl, Nat.le_of_ble_eq_true rfl, Nat.le_of_ble_eq_true rfl⟩ (Nat.le_of_ble_eq_true rfl) ⟨Nat.zero_le _, Nat.zero_le _⟩ dX6_holderOf_5 rfl (fun v1 M2 => ?_)
  refine x_callSi (pc2 := 11) C [rv G (this + 5), .int v1] [] cl_X6_78 (fun q hq => ctX1_at (kf_5_5 hk0) q hq) rfl rfl ⟨rfl, rfl, Nat.le_of_ble_eq_true rfl, Nat.le_of_ble_eq_true rfl⟩ (Nat.le_of_ble_eq_true rfl) ⟨Nat.zero_le _, Nat.zero_le _⟩ dX6_holderOf_8 rfl (fun v3 M4 => ?_)
  exact x_iret C rfl rfl dX6_holderOf_11
set_option maxRecDepth 100000 in
set_option maxHeartbeats 4000000 in
theorem ctX6_notedOf {l : Launch} {G : bkG} {M : Mem} {this : Nat} {a1 : Int32} (hk0 : kd this = 5) : ∀ r, fX6_notedOf this a1 M = some r → Met l yX6_notedOf (Cond.code yX6_notedOf cX6_notedOf 2 (some .int) :: TT) ({ frames := 1, cells := 0, slots := 0, locals := 21 } : Room) (va_Pc [rv G this, .int a1] (Wd G M)) (QQ G ((fun v => some (.int v)) r.1) r.2) 0 0 (An G) := by
  refine mkMet (vl := (fun v => some (.int v))) RX6 rfl (by decide +kernel) rfl (Nat.le_of_ble_eq_true rfl) [some (rv G this), some (.int a1)] rfl ?_
  intro p e s m args below meth c C _
  refine x_aload_n (pc2 := 1) C dX6_notedOf_0 rfl rfl ?_
  refine x_get (pc2 := 4) C fl_X6_27 hk0 (by decide) rfl dX6_notedOf_1 rfl ?_
  refine x_iload_n (pc2 := 5) C dX6_notedOf_4 rfl rfl ?_
  refine x_callSi (pc2 := 8) C [.int a1] [rv G (this + 6)] cl_X6_43 (fun q hq => ctX6_slot  q hq) rfl rfl ⟨rfl, rfl, Nat.le_of_ble_eq_true rfl, Nat.le_of_ble_eq_true rfl⟩ (Nat.le_of_ble_eq_true rfl) ⟨Nat.zero_le _, Nat.zero_le _⟩ dX6_notedOf_5 rfl (fun v1 M2 => ?_)
  refine x_callSi (pc2 := 11) C [rv G (this + 6), .int v1] [] cl_X6_78 (fun q hq => ctX1_at (kf_5_6 hk0) q hq) rfl rfl ⟨rfl, rfl, Nat.le_of_ble_eq_true rfl, Nat.le_of_ble_eq_true rfl⟩ (Nat.le_of_ble_eq_true rfl) ⟨Nat.zero_le _, Nat.zero_le _⟩ dX6_notedOf_8 rfl (fun v3 M4 => ?_)
  exact x_iret C rfl rfl dX6_notedOf_11
set_option maxRecDepth 100000 in
set_option maxHeartbeats 4000000 in
theorem ctX6_addLatestOf {l : Launch} {G : bkG} {M : Mem} {this : Nat} {a1 : Nat} (hk0 : kd this = 5) (hk1 : kd a1 = 5) : ∀ r, fX6_addLatestOf this a1 M = some r → Met l yX6_addLatestOf (Cond.code yX6_addLatestOf cX6_addLatestOf 4 none :: TT) ({ frames := 2, cells := 0, slots := 0, locals := 42 } : Room) (va_Pc [rv G this, rv G a1] (Wd G M)) (QQ G ((fun _ => none) r.1) r.2) 0 0 (An G) := by
  refine mkMet (vl := (fun _ => none)) RX6 rfl (by decide +kernel) rfl (Nat.le_of_ble_eq_true rfl) [some (rv G this), some (rv G a1), none, none] rfl ?_
  intro p e s m args below meth c C _
  refine x_aload_n (pc2 := 1) C dX6_addLatestOf_0 rfl rfl ?_
  refine x_get (pc2 := 4) C fl_X6_33 hk0 (by decide) rfl dX6_addLatestOf_1 rfl ?_
  refine x_callSi (pc2 := 7) C [.int (M.1 this 0)] [] cl_X6_43 (fun q hq => ctX6_slot  q hq) rfl rfl ⟨rfl, rfl, Nat.le_of_ble_eq_true rfl, Nat.le_of_ble_eq_true rfl⟩ (Nat.le_of_ble_eq_true rfl) ⟨Nat.zero_le _, Nat.zero_le _⟩ dX6_addLatestOf_4 rfl (fun v1 M2 => ?_)
  refine x_istore_n (pc2 := 8) C dX6_addLatestOf_7 rfl [some (rv G this), some (rv G a1), some (.int v1), none] rfl rfl ?_
  refine x_aload_n (pc2 := 9) C dX6_addLatestOf_8 rfl rfl ?_
  refine x_get (pc2 := 12) C fl_X6_33 hk1 (by decide) rfl dX6_addLatestOf_9 rfl ?_
  refine x_iconst (pc2 := 13) C dX6_addLatestOf_12 rfl ic_1 ?_
  refine x_isub (pc2 := 14) C dX6_addLatestOf_13 rfl ?_
  refine x_istore_n (pc2 := 15) C dX6_addLatestOf_14 rfl [some (rv G this), some (rv G a1), some (.int v1), some (.int ((M2.1 a1 0) - 1))] rfl rfl ?_
  refine x_aload_n (pc2 := 16) C dX6_addLatestOf_15 rfl rfl ?_
  refine x_get (pc2 := 19) C fl_X6_11 hk0 (by decide) rfl dX6_addLatestOf_16 rfl ?_
  refine x_iload_n (pc2 := 20) C dX6_addLatestOf_19 rfl rfl ?_
  refine x_aload_n (pc2 := 21) C dX6_addLatestOf_20 rfl rfl ?_
  refine x_iload_n (pc2 := 22) C dX6_addLatestOf_21 rfl rfl ?_
  refine x_callVi (pc2 := 25) C [.int ((M2.1 a1 0) - 1)] [.int v1, rv G (this + 1)] cl_X6_62 (fun q hq => ctX6_keyOf hk1 q hq) hk1 rfl rfl rfl ⟨rfl, rfl, Nat.le_of_ble_eq_true rfl, Nat.le_of_ble_eq_true rfl⟩ (Nat.le_of_ble_eq_true rfl) ⟨Nat.zero_le _, Nat.zero_le _⟩ dX6_addLatestOf_22 rfl (fun v3 M4 => ?_)
  refine x_callSv (pc2 := 28) C [rv G (this + 1), .int v1, .int v3] [] cl_X6_47 (fun q hq => ctX1_put (kf_5_1 hk0) q hq) rfl rfl ⟨rfl, rfl, Nat.le_of_ble_eq_true rfl, Nat.le_of_ble_eq_true rfl⟩ (Nat.le_of_ble_eq_true rfl) ⟨Nat.zero_le _, Nat.zero_le _⟩ dX6_addLatestOf_25 rfl (fun v5 M6 => ?_)
  refine x_aload_n (pc2 := 29) C dX6_addLatestOf_28 rfl rfl ?_
  refine x_get (pc2 := 32) C fl_X6_15 hk0 (by decide) rfl dX6_addLatestOf_29 rfl ?_
  refine x_iload_n (pc2 := 33) C dX6_addLatestOf_32 rfl rfl ?_
  refine x_aload_n (pc2 := 34) C dX6_addLatestOf_33 rfl rfl ?_
  refine x_iload_n (pc2 := 35) C dX6_addLatestOf_34 rfl rfl ?_
  refine x_callVi (pc2 := 38) C [.int ((M2.1 a1 0) - 1)] [.int v1, rv G (this + 2)] cl_X6_65 (fun q hq => ctX6_sinceOf hk1 q hq) hk1 rfl rfl rfl ⟨rfl, rfl, Nat.le_of_ble_eq_true rfl, Nat.le_of_ble_eq_true rfl⟩ (Nat.le_of_ble_eq_true rfl) ⟨Nat.zero_le _, Nat.zero_le _⟩ dX6_addLatestOf_35 rfl (fun v7 M8 => ?_)
  refine x_callSv (pc2 := 41) C [rv G (this + 2), .int v1, .int v7] [] cl_X6_47 (fun q hq => ctX1_put (kf_5_2 hk0) q hq) rfl rfl ⟨rfl, rfl, Nat.le_of_ble_eq_true rfl, Nat.le_of_ble_eq_true rfl⟩ (Nat.le_of_ble_eq_true rfl) ⟨Nat.zero_le _, Nat.zero_le _⟩ dX6_addLatestOf_38 rfl (fun v9 M10 => ?_)
  refine x_aload_n (pc2 := 42) C dX6_addLatestOf_41 rfl rfl ?_
  refine x_get (pc2 := 45) C fl_X6_18 hk0 (by decide) rfl dX6_addLatestOf_42 rfl ?_
  refine x_iload_n (pc2 := 46) C dX6_addLatestOf_45 rfl rfl ?_
  refine x_aload_n (pc2 := 47) C dX6_addLatestOf_46 rfl rfl ?_
  refine x_iload_n (pc2 := 48) C dX6_addLatestOf_47 rfl rfl ?_
  refine x_callVi (pc2 := 51) C [.int ((M2.1 a1 0) - 1)] [.int v1, rv G (this + 3)] cl_X6_66 (fun q hq => ctX6_dwellOf hk1 q hq) hk1 rfl rfl rfl ⟨rfl, rfl, Nat.le_of_ble_eq_true rfl, Nat.le_of_ble_eq_true rfl⟩ (Nat.le_of_ble_eq_true rfl) ⟨Nat.zero_le _, Nat.zero_le _⟩ dX6_addLatestOf_48 rfl (fun v11 M12 => ?_)
  refine x_callSv (pc2 := 54) C [rv G (this + 3), .int v1, .int v11] [] cl_X6_47 (fun q hq => ctX1_put (kf_5_3 hk0) q hq) rfl rfl ⟨rfl, rfl, Nat.le_of_ble_eq_true rfl, Nat.le_of_ble_eq_true rfl⟩ (Nat.le_of_ble_eq_true rfl) ⟨Nat.zero_le _, Nat.zero_le _⟩ dX6_addLatestOf_51 rfl (fun v13 M14 => ?_)
  refine x_aload_n (pc2 := 55) C dX6_addLatestOf_54 rfl rfl ?_
  refine x_get (pc2 := 58) C fl_X6_21 hk0 (by decide) rfl dX6_addLatestOf_55 rfl ?_
  refine x_iload_n (pc2 := 59) C dX6_addLatestOf_58 rfl rfl ?_
  refine x_aload_n (pc2 := 60) C dX6_addLatestOf_59 rfl rfl ?_
  refine x_iload_n (pc2 := 61) C dX6_addLatestOf_60 rfl rfl ?_
  refine x_callVi (pc2 := 64) C [.int ((M2.1 a1 0) - 1)] [.int v1, rv G (this + 4)] cl_X6_69 (fun q hq => ctX6_fateOf hk1 q hq) hk1 rfl rfl rfl ⟨rfl, rfl, Nat.le_of_ble_eq_true rfl, Nat.le_of_ble_eq_true rfl⟩ (Nat.le_of_ble_eq_true rfl) ⟨Nat.zero_le _, Nat.zero_le _⟩ dX6_addLatestOf_61 rfl (fun v15 M16 => ?_)
  refine x_callSv (pc2 := 67) C [rv G (this + 4), .int v1, .int v15] [] cl_X6_47 (fun q hq => ctX1_put (kf_5_4 hk0) q hq) rfl rfl ⟨rfl, rfl, Nat.le_of_ble_eq_true rfl, Nat.le_of_ble_eq_true rfl⟩ (Nat.le_of_ble_eq_true rfl) ⟨Nat.zero_le _, Nat.zero_le _⟩ dX6_addLatestOf_64 rfl (fun v17 M18 => ?_)
  refine x_aload_n (pc2 := 68) C dX6_addLatestOf_67 rfl rfl ?_
  refine x_get (pc2 := 71) C fl_X6_24 hk0 (by decide) rfl dX6_addLatestOf_68 rfl ?_
  refine x_iload_n (pc2 := 72) C dX6_addLatestOf_71 rfl rfl ?_
  refine x_aload_n (pc2 := 73) C dX6_addLatestOf_72 rfl rfl ?_
  refine x_iload_n (pc2 := 74) C dX6_addLatestOf_73 rfl rfl ?_
  refine x_callVi (pc2 := 77) C [.int ((M2.1 a1 0) - 1)] [.int v1, rv G (this + 5)] cl_X6_72 (fun q hq => ctX6_holderOf hk1 q hq) hk1 rfl rfl rfl ⟨rfl, rfl, Nat.le_of_ble_eq_true rfl, Nat.le_of_ble_eq_true rfl⟩ (Nat.le_of_ble_eq_true rfl) ⟨Nat.zero_le _, Nat.zero_le _⟩ dX6_addLatestOf_74 rfl (fun v19 M20 => ?_)
  refine x_callSv (pc2 := 80) C [rv G (this + 5), .int v1, .int v19] [] cl_X6_47 (fun q hq => ctX1_put (kf_5_5 hk0) q hq) rfl rfl ⟨rfl, rfl, Nat.le_of_ble_eq_true rfl, Nat.le_of_ble_eq_true rfl⟩ (Nat.le_of_ble_eq_true rfl) ⟨Nat.zero_le _, Nat.zero_le _⟩ dX6_addLatestOf_77 rfl (fun v21 M22 => ?_)
  refine x_aload_n (pc2 := 81) C dX6_addLatestOf_80 rfl rfl ?_
  refine x_get (pc2 := 84) C fl_X6_27 hk0 (by decide) rfl dX6_addLatestOf_81 rfl ?_
  refine x_iload_n (pc2 := 85) C dX6_addLatestOf_84 rfl rfl ?_
  refine x_aload_n (pc2 := 86) C dX6_addLatestOf_85 rfl rfl ?_
  refine x_iload_n (pc2 := 87) C dX6_addLatestOf_86 rfl rfl ?_
  refine x_callVi (pc2 := 90) C [.int ((M2.1 a1 0) - 1)] [.int v1, rv G (this + 6)] cl_X6_75 (fun q hq => ctX6_notedOf hk1 q hq) hk1 rfl rfl rfl ⟨rfl, rfl, Nat.le_of_ble_eq_true rfl, Nat.le_of_ble_eq_true rfl⟩ (Nat.le_of_ble_eq_true rfl) ⟨Nat.zero_le _, Nat.zero_le _⟩ dX6_addLatestOf_87 rfl (fun v23 M24 => ?_)
  refine x_callSv (pc2 := 93) C [rv G (this + 6), .int v1, .int v23] [] cl_X6_47 (fun q hq => ctX1_put (kf_5_6 hk0) q hq) rfl rfl ⟨rfl, rfl, Nat.le_of_ble_eq_true rfl, Nat.le_of_ble_eq_true rfl⟩ (Nat.le_of_ble_eq_true rfl) ⟨Nat.zero_le _, Nat.zero_le _⟩ dX6_addLatestOf_90 rfl (fun v25 M26 => ?_)
  refine x_aload_n (pc2 := 94) C dX6_addLatestOf_93 rfl rfl ?_
  refine x_get (pc2 := 97) C fl_X6_30 hk0 (by decide) rfl dX6_addLatestOf_94 rfl ?_
  refine x_iload_n (pc2 := 98) C dX6_addLatestOf_97 rfl rfl ?_
  refine x_iload_n (pc2 := 99) C dX6_addLatestOf_98 rfl rfl ?_
  refine x_callSv (pc2 := 102) C [rv G (this + 7), .int v1, .int ((M2.1 a1 0) - 1)] [] cl_X6_47 (fun q hq => ctX1_put (kf_5_7 hk0) q hq) rfl rfl ⟨rfl, rfl, Nat.le_of_ble_eq_true rfl, Nat.le_of_ble_eq_true rfl⟩ (Nat.le_of_ble_eq_true rfl) ⟨Nat.zero_le _, Nat.zero_le _⟩ dX6_addLatestOf_99 rfl (fun v27 M28 => ?_)
  refine x_aload_n (pc2 := 103) C dX6_addLatestOf_102 rfl rfl ?_
  refine x_dup (pc2 := 104) C dX6_addLatestOf_103 rfl rfl ?_
  refine x_get (pc2 := 107) C fl_X6_33 hk0 (by decide) rfl dX6_addLatestOf_104 rfl ?_
  refine x_iconst (pc2 := 108) C dX6_addLatestOf_107 rfl ic_1 ?_
  refine x_iadd (pc2 := 109) C dX6_addLatestOf_108 rfl ?_
  refine x_puti (pc2 := 112) C ft_X6_33 hk0 (by decide) hs_5_0 (Nat.le_of_ble_eq_true rfl) dX6_addLatestOf_109 rfl (fun M29 => ?_)
  exact x_vret C rfl rfl dX6_addLatestOf_112
set_option maxRecDepth 100000 in
set_option maxHeartbeats 4000000 in
theorem ctX7_atLeastHalf {l : Launch} {G : bkG} {M : Mem} {a1 : UInt32}  : ∀ r, fX7_atLeastHalf a1 M = some r → Met l yX7_atLeastHalf (Cond.code yX7_atLeastHalf cX7_atLeastHalf 1 (some .float) :: TT) ({ frames := 0, cells := 0, slots := 0, locals := 0 } : Room) (va_Pc [.float a1] (Wd G M)) (QQ G ((fun v => some (.float v)) r.1) r.2) 0 0 (An G) := by
  refine mkMet (vl := (fun v => some (.float v))) RX7 rfl (by decide +kernel) rfl (Nat.le_of_ble_eq_true rfl) [some (.float a1)] rfl ?_
  intro p e s m args below meth c C _
  refine x_fload_n (pc2 := 1) C dX7_atLeastHalf_0 rfl rfl ?_
  refine x_ldcf (pc2 := 3) C wt3_37 dX7_atLeastHalf_1 rfl ?_
  refine x_fcmpg (pc2 := 4) C dX7_atLeastHalf_3 rfl ?_
  refine x_if_ge (tgt := 12) (pc2 := 7) C dX7_atLeastHalf_4 (by decide) rfl ?_ ?_
  · refine x_fload_n (pc2 := 13) C dX7_atLeastHalf_12 rfl rfl ?_
    exact x_fret C rfl rfl dX7_atLeastHalf_13
  · refine x_ldcf (pc2 := 9) C wt3_37 dX7_atLeastHalf_7 rfl ?_
    refine x_goto (tgt := 13) C dX7_atLeastHalf_9 (by decide) ?_
    exact x_fret C rfl rfl dX7_atLeastHalf_13
set_option maxRecDepth 100000 in
set_option maxHeartbeats 4000000 in
theorem ctX7_learn {l : Launch} {G : bkG} {M : Mem} {this : Nat} {a1 : Int32} {a2 : Int32} {a3 : UInt32} (hk0 : kd this = 6) : ∀ r, fX7_learn this a1 a2 a3 M = some r → Met l yX7_learn (Cond.code yX7_learn cX7_learn 4 none :: TT) ({ frames := 1, cells := 0, slots := 0, locals := 20 } : Room) (va_Pc [rv G this, .int a1, .int a2, .float a3] (Wd G M)) (QQ G ((fun _ => none) r.1) r.2) 0 0 (An G) := by
  refine mkMet (vl := (fun _ => none)) RX7 rfl (by decide +kernel) rfl (Nat.le_of_ble_eq_true rfl) [some (rv G this), some (.int a1), some (.int a2), some (.float a3)] rfl ?_
  intro p e s m args below meth c C _
  refine x_aload_n (pc2 := 1) C dX7_learn_0 rfl rfl ?_
  refine x_aload_n (pc2 := 2) C dX7_learn_1 rfl rfl ?_
  refine x_get (pc2 := 5) C fl_X7_19 hk0 (by decide) rfl dX7_learn_2 rfl ?_
  refine x_iload_n (pc2 := 6) C dX7_learn_5 rfl rfl ?_
  refine x_i2f (pc2 := 7) C dX7_learn_6 rfl ?_
  refine x_aload_n (pc2 := 8) C dX7_learn_7 rfl rfl ?_
  refine x_get (pc2 := 11) C fl_X7_19 hk0 (by decide) rfl dX7_learn_8 rfl ?_
  refine x_fsub (pc2 := 12) C dX7_learn_11 rfl ?_
  refine x_topf (fun v1 => ?_)
  refine x_fload_n (pc2 := 13) C dX7_learn_12 rfl rfl ?_
  refine x_fmul (pc2 := 14) C dX7_learn_13 rfl ?_
  refine x_topf (fun v2 => ?_)
  refine x_fadd (pc2 := 15) C dX7_learn_14 rfl ?_
  refine x_topf (fun v3 => ?_)
  refine x_callSf (pc2 := 18) C [.float v3] [rv G this] cl_X7_56 (fun q hq => ctX7_atLeastHalf  q hq) rfl rfl ⟨rfl, rfl, Nat.le_of_ble_eq_true rfl, Nat.le_of_ble_eq_true rfl⟩ (Nat.le_of_ble_eq_true rfl) ⟨Nat.zero_le _, Nat.zero_le _⟩ dX7_learn_15 rfl (fun v4 M5 => ?_)
  refine x_putf (pc2 := 21) C ft_X7_19 hk0 (by decide) hs_6_0 (Nat.le_of_ble_eq_true rfl) dX7_learn_18 rfl (fun M6 => ?_)
  refine x_aload_n (pc2 := 22) C dX7_learn_21 rfl rfl ?_
  refine x_get (pc2 := 25) C fl_X7_9 hk0 (by decide) rfl dX7_learn_22 rfl ?_
  refine x_iconst (pc2 := 26) C dX7_learn_25 rfl ic_m1 ?_
  refine x_jn 58 (fun (b7 : Unit) => [some (rv G this), some (.int a1), none, none]) (fun (b7 : Unit) => []) ?_ ?_
  · intro b7 M9
    refine x_aload_n (pc2 := 59) C dX7_learn_58 rfl rfl ?_
    refine x_iload_n (pc2 := 60) C dX7_learn_59 rfl rfl ?_
    refine x_puti (pc2 := 63) C ft_X7_9 hk0 (by decide) hs_6_2 (Nat.le_of_ble_eq_true rfl) dX7_learn_60 rfl (fun M10 => ?_)
    exact x_vret C rfl rfl dX7_learn_63
  · intro j8 hj8
    refine x_icmp_eq (tgt := 58) (pc2 := 29) C dX7_learn_26 (by decide) rfl ?_ ?_
    · exact x_wk [some (rv G this), some (.int a1), none, none] ⟨Or.inr rfl, Or.inr rfl, Or.inl rfl, Or.inl rfl, trivial⟩ (hj8 () _)
    · refine x_aload_n (pc2 := 30) C dX7_learn_29 rfl rfl ?_
      refine x_aload_n (pc2 := 31) C dX7_learn_30 rfl rfl ?_
      refine x_get (pc2 := 34) C fl_X7_23 hk0 (by decide) rfl dX7_learn_31 rfl ?_
      refine x_iload_n (pc2 := 35) C dX7_learn_34 rfl rfl ?_
      refine x_aload_n (pc2 := 36) C dX7_learn_35 rfl rfl ?_
      refine x_get (pc2 := 39) C fl_X7_9 hk0 (by decide) rfl dX7_learn_36 rfl ?_
      refine x_isub (pc2 := 40) C dX7_learn_39 rfl ?_
      refine x_callSi (pc2 := 43) C [.int (a1 - (M6.1 this 2))] [.float (M6.2 this 1), rv G this] cl_X7_49 (fun q hq => ctJ9_abs_0f7a4  q hq) rfl rfl ⟨rfl, rfl, Nat.le_of_ble_eq_true rfl, Nat.le_of_ble_eq_true rfl⟩ (Nat.le_of_ble_eq_true rfl) ⟨Nat.zero_le _, Nat.zero_le _⟩ dX7_learn_40 rfl (fun v11 M12 => ?_)
      refine x_i2f (pc2 := 44) C dX7_learn_43 rfl ?_
      refine x_aload_n (pc2 := 45) C dX7_learn_44 rfl rfl ?_
      refine x_get (pc2 := 48) C fl_X7_23 hk0 (by decide) rfl dX7_learn_45 rfl ?_
      refine x_fsub (pc2 := 49) C dX7_learn_48 rfl ?_
      refine x_topf (fun v13 => ?_)
      refine x_fload_n (pc2 := 50) C dX7_learn_49 rfl rfl ?_
      refine x_fmul (pc2 := 51) C dX7_learn_50 rfl ?_
      refine x_topf (fun v14 => ?_)
      refine x_fadd (pc2 := 52) C dX7_learn_51 rfl ?_
      refine x_topf (fun v15 => ?_)
      refine x_callSf (pc2 := 55) C [.float v15] [rv G this] cl_X7_56 (fun q hq => ctX7_atLeastHalf  q hq) rfl rfl ⟨rfl, rfl, Nat.le_of_ble_eq_true rfl, Nat.le_of_ble_eq_true rfl⟩ (Nat.le_of_ble_eq_true rfl) ⟨Nat.zero_le _, Nat.zero_le _⟩ dX7_learn_52 rfl (fun v16 M17 => ?_)
      refine x_putf (pc2 := 58) C ft_X7_23 hk0 (by decide) hs_6_1 (Nat.le_of_ble_eq_true rfl) dX7_learn_55 rfl (fun M18 => ?_)
      exact x_wk [some (rv G this), some (.int a1), none, none] ⟨Or.inr rfl, Or.inr rfl, Or.inl rfl, Or.inl rfl, trivial⟩ (hj8 () _)
set_option maxRecDepth 100000 in
set_option maxHeartbeats 4000000 in
theorem ctX7_addSign {l : Launch} {G : bkG} {M : Mem} {this : Nat} {a1 : Int32} (hk0 : kd this = 6) : ∀ r, fX7_addSign this a1 M = some r → Met l yX7_addSign (Cond.code yX7_addSign cX7_addSign 2 none :: TT) ({ frames := 1, cells := 0, slots := 0, locals := 22 } : Room) (va_Pc [rv G this, .int a1] (Wd G M)) (QQ G ((fun _ => none) r.1) r.2) 0 0 (An G) := by
  refine mkMet (vl := (fun _ => none)) RX7 rfl (by decide +kernel) rfl (Nat.le_of_ble_eq_true rfl) [some (rv G this), some (.int a1)] rfl ?_
  intro p e s m args below meth c C _
  refine x_aload_n (pc2 := 1) C dX7_addSign_0 rfl rfl ?_
  refine x_get (pc2 := 4) C fl_X7_15 hk0 (by decide) rfl dX7_addSign_1 rfl ?_
  refine x_aload_n (pc2 := 5) C dX7_addSign_4 rfl rfl ?_
  refine x_get (pc2 := 8) C fl_X7_36 hk0 (by decide) rfl dX7_addSign_5 rfl ?_
  refine x_bipush (pc2 := 10) C dX7_addSign_8 rfl bc_24 ?_
  refine x_callSi (pc2 := 13) C [.int (M.1 this 6), .int 24] [rv G (this + 1)] cl_X7_59 (fun q hq => ctJ9_floorMod_7cf53  q hq) rfl rfl ⟨rfl, rfl, Nat.le_of_ble_eq_true rfl, Nat.le_of_ble_eq_true rfl⟩ (Nat.le_of_ble_eq_true rfl) ⟨Nat.zero_le _, Nat.zero_le _⟩ dX7_addSign_10 rfl (fun v1 M2 => ?_)
  refine x_iload_n (pc2 := 14) C dX7_addSign_13 rfl rfl ?_
  refine x_callSv (pc2 := 17) C [rv G (this + 1), .int v1, .int a1] [] cl_X7_63 (fun q hq => ctX1_put (kf_6_7 hk0) q hq) rfl rfl ⟨rfl, rfl, Nat.le_of_ble_eq_true rfl, Nat.le_of_ble_eq_true rfl⟩ (Nat.le_of_ble_eq_true rfl) ⟨Nat.zero_le _, Nat.zero_le _⟩ dX7_addSign_14 rfl (fun v3 M4 => ?_)
  refine x_aload_n (pc2 := 18) C dX7_addSign_17 rfl rfl ?_
  refine x_dup (pc2 := 19) C dX7_addSign_18 rfl rfl ?_
  refine x_get (pc2 := 22) C fl_X7_36 hk0 (by decide) rfl dX7_addSign_19 rfl ?_
  refine x_iconst (pc2 := 23) C dX7_addSign_22 rfl ic_1 ?_
  refine x_iadd (pc2 := 24) C dX7_addSign_23 rfl ?_
  refine x_puti (pc2 := 27) C ft_X7_36 hk0 (by decide) hs_6_6 (Nat.le_of_ble_eq_true rfl) dX7_addSign_24 rfl (fun M5 => ?_)
  exact x_vret C rfl rfl dX7_addSign_27
set_option maxRecDepth 100000 in
set_option maxHeartbeats 4000000 in
theorem ctX6_holds {l : Launch} {G : bkG} {M : Mem} {this : Nat} {a1 : Int32} (hk0 : kd this = 5) : ∀ r, fX6_holds this a1 M = some r → Met l yX6_holds (Cond.code yX6_holds cX6_holds 2 (some .boolean) :: TT) ({ frames := 0, cells := 0, slots := 0, locals := 0 } : Room) (va_Pc [rv G this, .int a1] (Wd G M)) (QQ G ((fun v => some (.int v)) r.1) r.2) 0 0 (An G) := by
  refine mkMet (vl := (fun v => some (.int v))) RX6 rfl (by decide +kernel) rfl (Nat.le_of_ble_eq_true rfl) [some (rv G this), some (.int a1)] rfl ?_
  intro p e s m args below meth c C _
  refine x_iload_n (pc2 := 1) C dX6_holds_0 rfl rfl ?_
  refine x_if_lt (tgt := 27) (pc2 := 4) C dX6_holds_1 (by decide) rfl ?_ ?_
  · refine x_iconst (pc2 := 28) C dX6_holds_27 rfl ic_0 ?_
    exact x_zret C rfl rfl rfl dX6_holds_28
  · refine x_iload_n (pc2 := 5) C dX6_holds_4 rfl rfl ?_
    refine x_aload_n (pc2 := 6) C dX6_holds_5 rfl rfl ?_
    refine x_get (pc2 := 9) C fl_X6_33 hk0 (by decide) rfl dX6_holds_6 rfl ?_
    refine x_icmp_ge (tgt := 27) (pc2 := 12) C dX6_holds_9 (by decide) rfl ?_ ?_
    · refine x_iconst (pc2 := 28) C dX6_holds_27 rfl ic_0 ?_
      exact x_zret C rfl rfl rfl dX6_holds_28
    · refine x_iload_n (pc2 := 13) C dX6_holds_12 rfl rfl ?_
      refine x_aload_n (pc2 := 14) C dX6_holds_13 rfl rfl ?_
      refine x_get (pc2 := 17) C fl_X6_33 hk0 (by decide) rfl dX6_holds_14 rfl ?_
      refine x_bipush (pc2 := 19) C dX6_holds_17 rfl bc_20 ?_
      refine x_isub (pc2 := 20) C dX6_holds_19 rfl ?_
      refine x_icmp_lt (tgt := 27) (pc2 := 23) C dX6_holds_20 (by decide) rfl ?_ ?_
      · refine x_iconst (pc2 := 28) C dX6_holds_27 rfl ic_0 ?_
        exact x_zret C rfl rfl rfl dX6_holds_28
      · refine x_iconst (pc2 := 24) C dX6_holds_23 rfl ic_1 ?_
        refine x_goto (tgt := 28) C dX6_holds_24 (by decide) ?_
        exact x_zret C rfl rfl rfl dX6_holds_28
set_option maxRecDepth 100000 in
set_option maxHeartbeats 4000000 in
theorem ctX6_changeFate {l : Launch} {G : bkG} {M : Mem} {this : Nat} {a1 : Int32} {a2 : Int32} (hk0 : kd this = 5) : ∀ r, fX6_changeFate this a1 a2 M = some r → Met l yX6_changeFate (Cond.code yX6_changeFate cX6_changeFate 3 none :: TT) ({ frames := 1, cells := 0, slots := 0, locals := 22 } : Room) (va_Pc [rv G this, .int a1, .int a2] (Wd G M)) (QQ G ((fun _ => none) r.1) r.2) 0 0 (An G) := by
  refine mkMet (vl := (fun _ => none)) RX6 rfl (by decide +kernel) rfl (Nat.le_of_ble_eq_true rfl) [some (rv G this), some (.int a1), some (.int a2)] rfl ?_
  intro p e s m args below meth c C _
  refine x_aload_n (pc2 := 1) C dX6_changeFate_0 rfl rfl ?_
  refine x_iload_n (pc2 := 2) C dX6_changeFate_1 rfl rfl ?_
  refine x_callVi (pc2 := 5) C [.int a1] [] cl_X6_82 (fun q hq => ctX6_holds hk0 q hq) hk0 rfl rfl rfl ⟨rfl, rfl, Nat.le_of_ble_eq_true rfl, Nat.le_of_ble_eq_true rfl⟩ (Nat.le_of_ble_eq_true rfl) ⟨Nat.zero_le _, Nat.zero_le _⟩ dX6_changeFate_2 rfl (fun v1 M2 => ?_)
  refine x_if_eq (tgt := 20) (pc2 := 8) C dX6_changeFate_5 (by decide) rfl ?_ ?_
  · exact x_vret C rfl rfl dX6_changeFate_20
  · refine x_aload_n (pc2 := 9) C dX6_changeFate_8 rfl rfl ?_
    refine x_get (pc2 := 12) C fl_X6_21 hk0 (by decide) rfl dX6_changeFate_9 rfl ?_
    refine x_iload_n (pc2 := 13) C dX6_changeFate_12 rfl rfl ?_
    refine x_callSi (pc2 := 16) C [.int a1] [rv G (this + 4)] cl_X6_43 (fun q hq => ctX6_slot  q hq) rfl rfl ⟨rfl, rfl, Nat.le_of_ble_eq_true rfl, Nat.le_of_ble_eq_true rfl⟩ (Nat.le_of_ble_eq_true rfl) ⟨Nat.zero_le _, Nat.zero_le _⟩ dX6_changeFate_13 rfl (fun v3 M4 => ?_)
    refine x_iload_n (pc2 := 17) C dX6_changeFate_16 rfl rfl ?_
    refine x_callSv (pc2 := 20) C [rv G (this + 4), .int v3, .int a2] [] cl_X6_47 (fun q hq => ctX1_put (kf_5_4 hk0) q hq) rfl rfl ⟨rfl, rfl, Nat.le_of_ble_eq_true rfl, Nat.le_of_ble_eq_true rfl⟩ (Nat.le_of_ble_eq_true rfl) ⟨Nat.zero_le _, Nat.zero_le _⟩ dX6_changeFate_17 rfl (fun v5 M6 => ?_)
    exact x_vret C rfl rfl dX6_changeFate_20
set_option maxRecDepth 100000 in
set_option maxHeartbeats 4000000 in
theorem ctX6_originOf {l : Launch} {G : bkG} {M : Mem} {this : Nat} {a1 : Int32} (hk0 : kd this = 5) : ∀ r, fX6_originOf this a1 M = some r → Met l yX6_originOf (Cond.code yX6_originOf cX6_originOf 2 (some .int) :: TT) ({ frames := 1, cells := 0, slots := 0, locals := 21 } : Room) (va_Pc [rv G this, .int a1] (Wd G M)) (QQ G ((fun v => some (.int v)) r.1) r.2) 0 0 (An G) := by
  refine mkMet (vl := (fun v => some (.int v))) RX6 rfl (by decide +kernel) rfl (Nat.le_of_ble_eq_true rfl) [some (rv G this), some (.int a1)] rfl ?_
  intro p e s m args below meth c C _
  refine x_aload_n (pc2 := 1) C dX6_originOf_0 rfl rfl ?_
  refine x_get (pc2 := 4) C fl_X6_30 hk0 (by decide) rfl dX6_originOf_1 rfl ?_
  refine x_iload_n (pc2 := 5) C dX6_originOf_4 rfl rfl ?_
  refine x_callSi (pc2 := 8) C [.int a1] [rv G (this + 7)] cl_X6_43 (fun q hq => ctX6_slot  q hq) rfl rfl ⟨rfl, rfl, Nat.le_of_ble_eq_true rfl, Nat.le_of_ble_eq_true rfl⟩ (Nat.le_of_ble_eq_true rfl) ⟨Nat.zero_le _, Nat.zero_le _⟩ dX6_originOf_5 rfl (fun v1 M2 => ?_)
  refine x_callSi (pc2 := 11) C [rv G (this + 7), .int v1] [] cl_X6_78 (fun q hq => ctX1_at (kf_5_7 hk0) q hq) rfl rfl ⟨rfl, rfl, Nat.le_of_ble_eq_true rfl, Nat.le_of_ble_eq_true rfl⟩ (Nat.le_of_ble_eq_true rfl) ⟨Nat.zero_le _, Nat.zero_le _⟩ dX6_originOf_8 rfl (fun v3 M4 => ?_)
  exact x_iret C rfl rfl dX6_originOf_11
set_option maxRecDepth 100000 in
set_option maxHeartbeats 4000000 in
theorem ctX4_accepts {l : Launch} {G : bkG} {M : Mem} {a1 : Int32} {a2 : Int32}  : ∀ r, fX4_accepts a1 a2 M = some r → Met l yX4_accepts (Cond.code yX4_accepts cX4_accepts 2 (some .boolean) :: TT) ({ frames := 0, cells := 0, slots := 0, locals := 0 } : Room) (va_Pc [.int a1, .int a2] (Wd G M)) (QQ G ((fun v => some (.int v)) r.1) r.2) 0 0 (An G) := by
  refine mkMet (vl := (fun v => some (.int v))) RX4 rfl (by decide +kernel) rfl (Nat.le_of_ble_eq_true rfl) [some (.int a1), some (.int a2)] rfl ?_
  intro p e s m args below meth c C _
  refine x_iload_n (pc2 := 1) C dX4_accepts_0 rfl rfl ?_
  refine x_if_lt (tgt := 29) (pc2 := 4) C dX4_accepts_1 (by decide) rfl ?_ ?_
  · refine x_iconst (pc2 := 30) C dX4_accepts_29 rfl ic_0 ?_
    exact x_zret C rfl rfl rfl dX4_accepts_30
  · refine x_iload_n (pc2 := 5) C dX4_accepts_4 rfl rfl ?_
    refine x_gets (pc2 := 8) C wt4_45 dX4_accepts_5 rfl ?_
    refine x_slen (pc2 := 9) C dX4_accepts_8 rfl ?_
    refine x_icmp_ge (tgt := 29) (pc2 := 12) C dX4_accepts_9 (by decide) rfl ?_ ?_
    · refine x_iconst (pc2 := 30) C dX4_accepts_29 rfl ic_0 ?_
      exact x_zret C rfl rfl rfl dX4_accepts_30
    · refine x_iload_n (pc2 := 13) C dX4_accepts_12 rfl rfl ?_
      refine x_if_lt (tgt := 29) (pc2 := 16) C dX4_accepts_13 (by decide) rfl ?_ ?_
      · refine x_iconst (pc2 := 30) C dX4_accepts_29 rfl ic_0 ?_
        exact x_zret C rfl rfl rfl dX4_accepts_30
      · refine x_iload_n (pc2 := 17) C dX4_accepts_16 rfl rfl ?_
        refine x_gets (pc2 := 20) C wt4_45 dX4_accepts_17 rfl ?_
        refine x_iload_n (pc2 := 21) C dX4_accepts_20 rfl rfl ?_
        refine x_sld (pc2 := 22) C dX4_accepts_21 rfl ?_
        refine x_icmp_ge (tgt := 29) (pc2 := 25) C dX4_accepts_22 (by decide) rfl ?_ ?_
        · refine x_iconst (pc2 := 30) C dX4_accepts_29 rfl ic_0 ?_
          exact x_zret C rfl rfl rfl dX4_accepts_30
        · refine x_iconst (pc2 := 26) C dX4_accepts_25 rfl ic_1 ?_
          refine x_goto (tgt := 30) C dX4_accepts_26 (by decide) ?_
          exact x_zret C rfl rfl rfl dX4_accepts_30
set_option maxRecDepth 100000 in
set_option maxHeartbeats 4000000 in
theorem ctX4_bitsOf {l : Launch} {G : bkG} {M : Mem} {this : Nat} {a1 : Int32} (hk0 : kd this = 3) : ∀ r, fX4_bitsOf this a1 M = some r → Met l yX4_bitsOf (Cond.code yX4_bitsOf cX4_bitsOf 2 (some .int) :: TT) ({ frames := 1, cells := 0, slots := 0, locals := 21 } : Room) (va_Pc [rv G this, .int a1] (Wd G M)) (QQ G ((fun v => some (.int v)) r.1) r.2) 0 0 (An G) := by
  refine mkMet (vl := (fun v => some (.int v))) RX4 rfl (by decide +kernel) rfl (Nat.le_of_ble_eq_true rfl) [some (rv G this), some (.int a1)] rfl ?_
  intro p e s m args below meth c C _
  refine x_aload_n (pc2 := 1) C dX4_bitsOf_0 rfl rfl ?_
  refine x_get (pc2 := 4) C fl_X4_12 hk0 (by decide) rfl dX4_bitsOf_1 rfl ?_
  refine x_iload_n (pc2 := 5) C dX4_bitsOf_4 rfl rfl ?_
  refine x_callSi (pc2 := 8) C [rv G (this + 1), .int a1] [] cl_X4_38 (fun q hq => ctX1_at (kf_3_0 hk0) q hq) rfl rfl ⟨rfl, rfl, Nat.le_of_ble_eq_true rfl, Nat.le_of_ble_eq_true rfl⟩ (Nat.le_of_ble_eq_true rfl) ⟨Nat.zero_le _, Nat.zero_le _⟩ dX4_bitsOf_5 rfl (fun v1 M2 => ?_)
  exact x_iret C rfl rfl dX4_bitsOf_8
set_option maxRecDepth 100000 in
set_option maxHeartbeats 4000000 in
theorem ctX4_valueOf {l : Launch} {G : bkG} {M : Mem} {a1 : Int32}  : ∀ r, fX4_valueOf a1 M = some r → Met l yX4_valueOf (Cond.code yX4_valueOf cX4_valueOf 6 (some .float) :: TT) ({ frames := 0, cells := 0, slots := 0, locals := 0 } : Room) (va_Pc [.int a1] (Wd G M)) (QQ G ((fun v => some (.float v)) r.1) r.2) 0 0 (An G) := by
  refine mkMet (vl := (fun v => some (.float v))) RX4 rfl (by decide +kernel) rfl (Nat.le_of_ble_eq_true rfl) [some (.int a1), none, none, none, none, none] rfl ?_
  intro p e s m args below meth c C _
  refine x_iload_n (pc2 := 1) C dX4_valueOf_0 rfl rfl ?_
  refine x_bipush (pc2 := 3) C dX4_valueOf_1 rfl bc_23 ?_
  refine x_ishr (pc2 := 4) C dX4_valueOf_3 rfl ?_
  refine x_topi (fun v1 => ?_)
  refine x_istore_n (pc2 := 5) C dX4_valueOf_4 rfl [some (.int a1), some (.int v1), none, none, none, none] rfl rfl ?_
  refine x_iload_n (pc2 := 6) C dX4_valueOf_5 rfl rfl ?_
  refine x_ldc (pc2 := 8) C wt4_60 dX4_valueOf_6 rfl ?_
  refine x_iand (pc2 := 9) C dX4_valueOf_8 rfl ?_
  refine x_istore_n (pc2 := 10) C dX4_valueOf_9 rfl [some (.int a1), some (.int v1), some (.int (a1 &&& 8388607)), none, none, none] rfl rfl ?_
  refine x_iload_n (pc2 := 11) C dX4_valueOf_10 rfl rfl ?_
  refine x_jn 22 (fun (b2 : Int32) => [none, some (.int v1), none, none, none, none]) (fun (b2 : Int32) => [.int b2]) ?_ ?_
  · intro b2 M4
    refine x_i2f (pc2 := 23) C dX4_valueOf_22 rfl ?_
    refine x_fstore_n (pc2 := 24) C dX4_valueOf_23 rfl [none, some (.int v1), none, some (.float (FP.i2f b2)), none, none] rfl rfl ?_
    refine x_sipush (pc2 := 27) C dX4_valueOf_24 rfl sc_150 ?_
    refine x_iload_n (pc2 := 28) C dX4_valueOf_27 rfl rfl ?_
    refine x_jn 36 (fun (b5 : Int32) => [none, none, none, some (.float (FP.i2f b2)), none, none]) (fun (b5 : Int32) => [.int b5, .int 150]) ?_ ?_
    · intro b5 M7
      refine x_isub (pc2 := 37) C dX4_valueOf_36 rfl ?_
      refine x_istore (pc2 := 39) C dX4_valueOf_37 rfl [none, none, none, some (.float (FP.i2f b2)), some (.int (150 - b5)), none] rfl rfl ?_
      refine x_iconst (pc2 := 40) C dX4_valueOf_39 rfl ic_0 ?_
      refine x_istore (pc2 := 42) C dX4_valueOf_40 rfl [none, none, none, some (.float (FP.i2f b2)), some (.int (150 - b5)), some (.int 0)] rfl rfl ?_
      refine x_wk [none, none, none, some (.float (FP.i2f b2)), some (.int (150 - b5)), some (.int 0)] ⟨Or.inl rfl, Or.inl rfl, Or.inl rfl, Or.inr rfl, Or.inr rfl, Or.inr rfl, trivial⟩ ?_
      refine x_lp (fun (b8 : UInt32 × Int32) => [none, none, none, some (.float b8.1), some (.int (150 - b5)), some (.int b8.2)]) ?_
      · intro rec10 hrec10 b8 M9
        refine x_iload (pc2 := 44) C dX4_valueOf_42 rfl rfl ?_
        refine x_iload (pc2 := 46) C dX4_valueOf_44 rfl rfl ?_
        refine x_icmp_ge (tgt := 60) (pc2 := 49) C dX4_valueOf_46 (by decide) rfl ?_ ?_
        · refine x_fload_n (pc2 := 61) C dX4_valueOf_60 rfl rfl ?_
          exact x_fret C rfl rfl dX4_valueOf_61
        · refine x_fload_n (pc2 := 50) C dX4_valueOf_49 rfl rfl ?_
          refine x_ldcf (pc2 := 52) C wt1_165 dX4_valueOf_50 rfl ?_
          refine x_fmul (pc2 := 53) C dX4_valueOf_52 rfl ?_
          refine x_topf (fun v11 => ?_)
          refine x_fstore_n (pc2 := 54) C dX4_valueOf_53 rfl [none, none, none, some (.float v11), some (.int (150 - b5)), some (.int b8.2)] rfl rfl ?_
          refine x_iinc (pc2 := 57) (v := b8.2 + 1) C dX4_valueOf_54 rfl rfl 1 ic_1 rfl [none, none, none, some (.float v11), some (.int (150 - b5)), some (.int (b8.2 + 1))] rfl rfl ?_
          refine x_goto (tgt := 42) C dX4_valueOf_57 (by decide) ?_
          exact x_wk [none, none, none, some (.float v11), some (.int (150 - b5)), some (.int (b8.2 + 1))] ⟨Or.inl rfl, Or.inl rfl, Or.inl rfl, Or.inr rfl, Or.inr rfl, Or.inr rfl, trivial⟩ (hrec10 (v11, b8.2 + 1) _)
    · intro j6 hj6
      refine x_if_ne (tgt := 35) (pc2 := 31) C dX4_valueOf_28 (by decide) rfl ?_ ?_
      · refine x_iload_n (pc2 := 36) C dX4_valueOf_35 rfl rfl ?_
        exact x_wk [none, none, none, some (.float (FP.i2f b2)), none, none] ⟨Or.inl rfl, Or.inl rfl, Or.inl rfl, Or.inr rfl, Or.inl rfl, Or.inl rfl, trivial⟩ (hj6 v1 _)
      · refine x_iconst (pc2 := 32) C dX4_valueOf_31 rfl ic_1 ?_
        refine x_goto (tgt := 36) C dX4_valueOf_32 (by decide) ?_
        exact x_wk [none, none, none, some (.float (FP.i2f b2)), none, none] ⟨Or.inl rfl, Or.inl rfl, Or.inl rfl, Or.inr rfl, Or.inl rfl, Or.inl rfl, trivial⟩ (hj6 1 _)
  · intro j3 hj3
    refine x_if_ne (tgt := 18) (pc2 := 14) C dX4_valueOf_11 (by decide) rfl ?_ ?_
    · refine x_iload_n (pc2 := 19) C dX4_valueOf_18 rfl rfl ?_
      refine x_ldc (pc2 := 21) C wt4_61 dX4_valueOf_19 rfl ?_
      refine x_iadd (pc2 := 22) C dX4_valueOf_21 rfl ?_
      exact x_wk [none, some (.int v1), none, none, none, none] ⟨Or.inl rfl, Or.inr rfl, Or.inl rfl, Or.inl rfl, Or.inl rfl, Or.inl rfl, trivial⟩ (hj3 ((a1 &&& 8388607) + 8388608) _)
    · refine x_iload_n (pc2 := 15) C dX4_valueOf_14 rfl rfl ?_
      refine x_goto (tgt := 22) C dX4_valueOf_15 (by decide) ?_
      exact x_wk [none, some (.int v1), none, none, none, none] ⟨Or.inl rfl, Or.inr rfl, Or.inl rfl, Or.inl rfl, Or.inl rfl, Or.inl rfl, trivial⟩ (hj3 (a1 &&& 8388607) _)
set_option maxRecDepth 100000 in
set_option maxHeartbeats 4000000 in
theorem ctX4_change {l : Launch} {G : bkG} {M : Mem} {this : Nat} {a1 : Int32} {a2 : Int32} (hk0 : kd this = 3) : ∀ r, fX4_change this a1 a2 M = some r → Met l yX4_change (Cond.code yX4_change cX4_change 4 none :: TT) ({ frames := 1, cells := 0, slots := 0, locals := 25 } : Room) (va_Pc [rv G this, .int a1, .int a2] (Wd G M)) (QQ G ((fun _ => none) r.1) r.2) 0 0 (An G) := by
  refine mkMet (vl := (fun _ => none)) RX4 rfl (by decide +kernel) rfl (Nat.le_of_ble_eq_true rfl) [some (rv G this), some (.int a1), some (.int a2), none] rfl ?_
  intro p e s m args below meth c C _
  refine x_aload_n (pc2 := 1) C dX4_change_0 rfl rfl ?_
  refine x_get (pc2 := 4) C fl_X4_12 hk0 (by decide) rfl dX4_change_1 rfl ?_
  refine x_iload_n (pc2 := 5) C dX4_change_4 rfl rfl ?_
  refine x_iload_n (pc2 := 6) C dX4_change_5 rfl rfl ?_
  refine x_callSv (pc2 := 9) C [rv G (this + 1), .int a1, .int a2] [] cl_X4_42 (fun q hq => ctX1_put (kf_3_0 hk0) q hq) rfl rfl ⟨rfl, rfl, Nat.le_of_ble_eq_true rfl, Nat.le_of_ble_eq_true rfl⟩ (Nat.le_of_ble_eq_true rfl) ⟨Nat.zero_le _, Nat.zero_le _⟩ dX4_change_6 rfl (fun v1 M2 => ?_)
  refine x_iload_n (pc2 := 10) C dX4_change_9 rfl rfl ?_
  refine x_callSf (pc2 := 13) C [.int a2] [] cl_X4_46 (fun q hq => ctX4_valueOf  q hq) rfl rfl ⟨rfl, rfl, Nat.le_of_ble_eq_true rfl, Nat.le_of_ble_eq_true rfl⟩ (Nat.le_of_ble_eq_true rfl) ⟨Nat.zero_le _, Nat.zero_le _⟩ dX4_change_10 rfl (fun v3 M4 => ?_)
  refine x_fstore_n (pc2 := 14) C dX4_change_13 rfl [some (rv G this), some (.int a1), some (.int a2), some (.float v3)] rfl rfl ?_
  refine x_iload_n (pc2 := 15) C dX4_change_14 rfl rfl ?_
  refine x_ite (fun hs5 => ?_) (fun hs5 => ?_)
  · refine x_lsw (tgt := 40) (off := 25) C dX4_change_15 (by decide) (by rw [hs5]; try rfl) (by decide) ?_
    refine x_aload_n (pc2 := 41) C dX4_change_40 rfl rfl ?_
    refine x_fload_n (pc2 := 42) C dX4_change_41 rfl rfl ?_
    refine x_putf (pc2 := 45) C ft_X4_17 hk0 (by decide) hs_3_1 (Nat.le_of_ble_eq_true rfl) dX4_change_42 rfl (fun M6 => ?_)
    refine x_goto (tgt := 61) C dX4_change_45 (by decide) ?_
    exact x_vret C rfl rfl dX4_change_61
  · refine x_ite (fun hs7 => ?_) (fun hs7 => ?_)
    · refine x_lsw (tgt := 48) (off := 33) C dX4_change_15 (by decide) (by rw [hs7]; try rfl) (by decide) ?_
      refine x_aload_n (pc2 := 49) C dX4_change_48 rfl rfl ?_
      refine x_fload_n (pc2 := 50) C dX4_change_49 rfl rfl ?_
      refine x_putf (pc2 := 53) C ft_X4_22 hk0 (by decide) hs_3_2 (Nat.le_of_ble_eq_true rfl) dX4_change_50 rfl (fun M8 => ?_)
      refine x_goto (tgt := 61) C dX4_change_53 (by decide) ?_
      exact x_vret C rfl rfl dX4_change_61
    · refine x_lsw (tgt := 56) (off := 41) C dX4_change_15 (by decide) (show Op.lookupswitch.offset [(0, 25), (1, 33)] 41 (a1).toInt = 41 from by rw [lv_osw (a := 0) hs5 (by decide), lv_osw (a := 1) hs7 (by decide)]; rfl) (by decide) ?_
      refine x_aload_n (pc2 := 57) C dX4_change_56 rfl rfl ?_
      refine x_fload_n (pc2 := 58) C dX4_change_57 rfl rfl ?_
      refine x_putf (pc2 := 61) C ft_X4_26 hk0 (by decide) hs_3_3 (Nat.le_of_ble_eq_true rfl) dX4_change_58 rfl (fun M9 => ?_)
      exact x_vret C rfl rfl dX4_change_61
set_option maxRecDepth 100000 in
set_option maxHeartbeats 4000000 in
theorem ctX7_signBack {l : Launch} {G : bkG} {M : Mem} {this : Nat} {a1 : Int32} (hk0 : kd this = 6) : ∀ r, fX7_signBack this a1 M = some r → Met l yX7_signBack (Cond.code yX7_signBack cX7_signBack 2 (some .int) :: TT) ({ frames := 1, cells := 0, slots := 0, locals := 22 } : Room) (va_Pc [rv G this, .int a1] (Wd G M)) (QQ G ((fun v => some (.int v)) r.1) r.2) 0 0 (An G) := by
  refine mkMet (vl := (fun v => some (.int v))) RX7 rfl (by decide +kernel) rfl (Nat.le_of_ble_eq_true rfl) [some (rv G this), some (.int a1)] rfl ?_
  intro p e s m args below meth c C _
  refine x_aload_n (pc2 := 1) C dX7_signBack_0 rfl rfl ?_
  refine x_get (pc2 := 4) C fl_X7_15 hk0 (by decide) rfl dX7_signBack_1 rfl ?_
  refine x_aload_n (pc2 := 5) C dX7_signBack_4 rfl rfl ?_
  refine x_get (pc2 := 8) C fl_X7_36 hk0 (by decide) rfl dX7_signBack_5 rfl ?_
  refine x_iconst (pc2 := 9) C dX7_signBack_8 rfl ic_1 ?_
  refine x_isub (pc2 := 10) C dX7_signBack_9 rfl ?_
  refine x_iload_n (pc2 := 11) C dX7_signBack_10 rfl rfl ?_
  refine x_isub (pc2 := 12) C dX7_signBack_11 rfl ?_
  refine x_bipush (pc2 := 14) C dX7_signBack_12 rfl bc_24 ?_
  refine x_callSi (pc2 := 17) C [.int (((M.1 this 6) - 1) - a1), .int 24] [rv G (this + 1)] cl_X7_59 (fun q hq => ctJ9_floorMod_7cf53  q hq) rfl rfl ⟨rfl, rfl, Nat.le_of_ble_eq_true rfl, Nat.le_of_ble_eq_true rfl⟩ (Nat.le_of_ble_eq_true rfl) ⟨Nat.zero_le _, Nat.zero_le _⟩ dX7_signBack_14 rfl (fun v1 M2 => ?_)
  refine x_callSi (pc2 := 20) C [rv G (this + 1), .int v1] [] cl_X7_67 (fun q hq => ctX1_at (kf_6_7 hk0) q hq) rfl rfl ⟨rfl, rfl, Nat.le_of_ble_eq_true rfl, Nat.le_of_ble_eq_true rfl⟩ (Nat.le_of_ble_eq_true rfl) ⟨Nat.zero_le _, Nat.zero_le _⟩ dX7_signBack_17 rfl (fun v3 M4 => ?_)
  exact x_iret C rfl rfl dX7_signBack_20
