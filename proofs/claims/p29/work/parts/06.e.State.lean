set_option maxRecDepth 100000 in
set_option maxHeartbeats 4000000 in
theorem ctX5_drivenRow {l : Launch} {G : bkG} {M : Mem} {this : Nat} (hk0 : kd this = 4) : ∀ r, fX5_drivenRow this M = some r → Met l yX5_drivenRow (Cond.code yX5_drivenRow cX5_drivenRow 1 (some .int) :: TT) ({ frames := 1, cells := 0, slots := 0, locals := 22 } : Room) (va_Pc [rv G this] (Wd G M)) (QQ G ((fun v => some (.int v)) r.1) r.2) 0 0 (An G) := by
  refine mkMet (vl := (fun v => some (.int v))) RX5 rfl (by decide +kernel) rfl (Nat.le_of_ble_eq_true rfl) [some (rv G this)] rfl ?_
  intro p e s m args below meth c C _
  refine x_aload_n (pc2 := 1) C dX5_drivenRow_0 rfl rfl ?_
  refine x_get (pc2 := 4) C fl_X5_12 hk0 (by decide) rfl dX5_drivenRow_1 rfl ?_
  refine x_get (pc2 := 7) C fl_X5_97 (kf_4_0 hk0) (by decide) rfl dX5_drivenRow_4 rfl ?_
  refine x_if_le (tgt := 27) (pc2 := 10) C dX5_drivenRow_7 (by decide) rfl ?_ ?_
  · refine x_iconst (pc2 := 28) C dX5_drivenRow_27 rfl ic_0 ?_
    exact x_iret C rfl rfl dX5_drivenRow_28
  · refine x_aload_n (pc2 := 11) C dX5_drivenRow_10 rfl rfl ?_
    refine x_get (pc2 := 14) C fl_X5_64 hk0 (by decide) rfl dX5_drivenRow_11 rfl ?_
    refine x_aload_n (pc2 := 15) C dX5_drivenRow_14 rfl rfl ?_
    refine x_get (pc2 := 18) C fl_X5_12 hk0 (by decide) rfl dX5_drivenRow_15 rfl ?_
    refine x_get (pc2 := 21) C fl_X5_97 (kf_4_0 hk0) (by decide) rfl dX5_drivenRow_18 rfl ?_
    refine x_callSi (pc2 := 24) C [.int (M.1 this 6), .int (M.1 (this + 1) 0)] [] cl_X5_100 (fun q hq => ctJ9_floorMod_7cf53  q hq) rfl rfl ⟨rfl, rfl, Nat.le_of_ble_eq_true rfl, Nat.le_of_ble_eq_true rfl⟩ (Nat.le_of_ble_eq_true rfl) ⟨Nat.zero_le _, Nat.zero_le _⟩ dX5_drivenRow_21 rfl (fun v1 M2 => ?_)
    refine x_goto (tgt := 28) C dX5_drivenRow_24 (by decide) ?_
    exact x_iret C rfl rfl dX5_drivenRow_28
set_option maxRecDepth 100000 in
set_option maxHeartbeats 4000000 in
theorem ctX5_isTypist {l : Launch} {G : bkG} {M : Mem} {a1 : Int32}  : ∀ r, fX5_isTypist a1 M = some r → Met l yX5_isTypist (Cond.code yX5_isTypist cX5_isTypist 1 (some .boolean) :: TT) ({ frames := 0, cells := 0, slots := 0, locals := 0 } : Room) (va_Pc [.int a1] (Wd G M)) (QQ G ((fun v => some (.int v)) r.1) r.2) 0 0 (An G) := by
  refine mkMet (vl := (fun v => some (.int v))) RX5 rfl (by decide +kernel) rfl (Nat.le_of_ble_eq_true rfl) [some (.int a1)] rfl ?_
  intro p e s m args below meth c C _
  refine x_iload_n (pc2 := 1) C dX5_isTypist_0 rfl rfl ?_
  refine x_jn 9 (fun (b1 : Unit) => [none]) (fun (b1 : Unit) => []) ?_ ?_
  · intro b1 M3
    refine x_iconst (pc2 := 10) C dX5_isTypist_9 rfl ic_1 ?_
    refine x_goto (tgt := 14) C dX5_isTypist_10 (by decide) ?_
    exact x_zret C rfl rfl rfl dX5_isTypist_14
  · intro j2 hj2
    refine x_if_eq (tgt := 9) (pc2 := 4) C dX5_isTypist_1 (by decide) rfl ?_ ?_
    · exact x_wk [none] ⟨Or.inl rfl, trivial⟩ (hj2 () _)
    · refine x_iload_n (pc2 := 5) C dX5_isTypist_4 rfl rfl ?_
      refine x_iconst (pc2 := 6) C dX5_isTypist_5 rfl ic_1 ?_
      refine x_icmp_ne (tgt := 13) (pc2 := 9) C dX5_isTypist_6 (by decide) rfl ?_ ?_
      · refine x_iconst (pc2 := 14) C dX5_isTypist_13 rfl ic_0 ?_
        exact x_zret C rfl rfl rfl dX5_isTypist_14
      · exact x_wk [none] ⟨Or.inl rfl, trivial⟩ (hj2 () _)
set_option maxRecDepth 100000 in
set_option maxHeartbeats 4000000 in
theorem ctX5_typistOf {l : Launch} {G : bkG} {M : Mem} {this : Nat} {a1 : Int32} (hk0 : kd this = 4) : ∀ r, fX5_typistOf this a1 M = some r → Met l yX5_typistOf (Cond.code yX5_typistOf cX5_typistOf 2 (some (.object "BlanketKeys$Typist")) :: TT) ({ frames := 0, cells := 0, slots := 0, locals := 0 } : Room) (va_Pc [rv G this, .int a1] (Wd G M)) (QQ G ((fun v => some (rv G v)) r.1) r.2) 0 0 (An G) := by
  refine mkMet (vl := (fun v => some (rv G v))) RX5 rfl (by decide +kernel) rfl (Nat.le_of_ble_eq_true rfl) [some (rv G this), some (.int a1)] rfl ?_
  intro p e s m args below meth c C _
  refine x_iload_n (pc2 := 1) C dX5_typistOf_0 rfl rfl ?_
  refine x_if_ne (tgt := 11) (pc2 := 4) C dX5_typistOf_1 (by decide) rfl ?_ ?_
  · refine x_aload_n (pc2 := 12) C dX5_typistOf_11 rfl rfl ?_
    refine x_get (pc2 := 15) C fl_X5_31 hk0 (by decide) rfl dX5_typistOf_12 rfl ?_
    exact x_aret C rfl rfl dX5_typistOf_15
  · refine x_aload_n (pc2 := 5) C dX5_typistOf_4 rfl rfl ?_
    refine x_get (pc2 := 8) C fl_X5_25 hk0 (by decide) rfl dX5_typistOf_5 rfl ?_
    refine x_goto (tgt := 15) C dX5_typistOf_8 (by decide) ?_
    exact x_aret C rfl rfl dX5_typistOf_15
set_option maxRecDepth 100000 in
set_option maxHeartbeats 4000000 in
theorem ctX5_pressError {l : Launch} {G : bkG} {M : Mem} {this : Nat} {a1 : Int32} {a2 : Int32} (hk0 : kd this = 4) : ∀ r, fX5_pressError this a1 a2 M = some r → Met l yX5_pressError (Cond.code yX5_pressError cX5_pressError 3 (some .int) :: TT) ({ frames := 2, cells := 0, slots := 0, locals := 42 } : Room) (va_Pc [rv G this, .int a1, .int a2] (Wd G M)) (QQ G ((fun v => some (.int v)) r.1) r.2) 0 0 (An G) := by
  refine mkMet (vl := (fun v => some (.int v))) RX5 rfl (by decide +kernel) rfl (Nat.le_of_ble_eq_true rfl) [some (rv G this), some (.int a1), some (.int a2)] rfl ?_
  intro p e s m args below meth c C _
  refine x_iload_n (pc2 := 1) C dX5_pressError_0 rfl rfl ?_
  refine x_callSi (pc2 := 4) C [.int a1] [] cl_X5_80 (fun q hq => ctX5_isTypist  q hq) rfl rfl ⟨rfl, rfl, Nat.le_of_ble_eq_true rfl, Nat.le_of_ble_eq_true rfl⟩ (Nat.le_of_ble_eq_true rfl) ⟨Nat.zero_le _, Nat.zero_le _⟩ dX5_pressError_1 rfl (fun v1 M2 => ?_)
  refine x_if_eq (tgt := 18) (pc2 := 7) C dX5_pressError_4 (by decide) rfl ?_ ?_
  · refine x_iconst (pc2 := 19) C dX5_pressError_18 rfl ic_m1 ?_
    exact x_iret C rfl rfl dX5_pressError_19
  · refine x_aload_n (pc2 := 8) C dX5_pressError_7 rfl rfl ?_
    refine x_get (pc2 := 11) C fl_X5_12 hk0 (by decide) rfl dX5_pressError_8 rfl ?_
    refine x_iload_n (pc2 := 12) C dX5_pressError_11 rfl rfl ?_
    refine x_callVi (pc2 := 15) C [.int a2] [] cl_X5_84 (fun q hq => ctX0_has (kf_4_0 hk0) q hq) (kf_4_0 hk0) rfl rfl rfl ⟨rfl, rfl, Nat.le_of_ble_eq_true rfl, Nat.le_of_ble_eq_true rfl⟩ (Nat.le_of_ble_eq_true rfl) ⟨Nat.zero_le _, Nat.zero_le _⟩ dX5_pressError_12 rfl (fun v3 M4 => ?_)
    refine x_if_ne (tgt := 20) (pc2 := 18) C dX5_pressError_15 (by decide) rfl ?_ ?_
    · refine x_aload_n (pc2 := 21) C dX5_pressError_20 rfl rfl ?_
      refine x_get (pc2 := 24) C fl_X5_12 hk0 (by decide) rfl dX5_pressError_21 rfl ?_
      refine x_iload_n (pc2 := 25) C dX5_pressError_24 rfl rfl ?_
      refine x_callVi (pc2 := 28) C [.int a2] [] cl_X5_87 (fun q hq => ctX0_isDown (kf_4_0 hk0) q hq) (kf_4_0 hk0) rfl rfl rfl ⟨rfl, rfl, Nat.le_of_ble_eq_true rfl, Nat.le_of_ble_eq_true rfl⟩ (Nat.le_of_ble_eq_true rfl) ⟨Nat.zero_le _, Nat.zero_le _⟩ dX5_pressError_25 rfl (fun v5 M6 => ?_)
      refine x_if_eq (tgt := 34) (pc2 := 31) C dX5_pressError_28 (by decide) rfl ?_ ?_
      · refine x_aload_n (pc2 := 35) C dX5_pressError_34 rfl rfl ?_
        refine x_get (pc2 := 38) C fl_X5_12 hk0 (by decide) rfl dX5_pressError_35 rfl ?_
        refine x_iload_n (pc2 := 39) C dX5_pressError_38 rfl rfl ?_
        refine x_callVi (pc2 := 42) C [.int a1] [] cl_X5_90 (fun q hq => ctX0_heldBy (kf_4_0 hk0) q hq) (kf_4_0 hk0) rfl rfl rfl ⟨rfl, rfl, Nat.le_of_ble_eq_true rfl, Nat.le_of_ble_eq_true rfl⟩ (Nat.le_of_ble_eq_true rfl) ⟨Nat.zero_le _, Nat.zero_le _⟩ dX5_pressError_39 rfl (fun v7 M8 => ?_)
        refine x_iconst (pc2 := 43) C dX5_pressError_42 rfl ic_5 ?_
        refine x_icmp_lt (tgt := 51) (pc2 := 46) C dX5_pressError_43 (by decide) rfl ?_ ?_
        · refine x_iconst (pc2 := 52) C dX5_pressError_51 rfl ic_0 ?_
          exact x_iret C rfl rfl dX5_pressError_52
        · refine x_bipush (pc2 := 48) C dX5_pressError_46 rfl bc_m3 ?_
          refine x_goto (tgt := 52) C dX5_pressError_48 (by decide) ?_
          exact x_iret C rfl rfl dX5_pressError_52
      · refine x_bipush (pc2 := 33) C dX5_pressError_31 rfl bc_m4 ?_
        exact x_iret C rfl rfl dX5_pressError_33
    · refine x_iconst (pc2 := 19) C dX5_pressError_18 rfl ic_m1 ?_
      exact x_iret C rfl rfl dX5_pressError_19
set_option maxRecDepth 100000 in
set_option maxHeartbeats 4000000 in
theorem ctX5_copyFrom {l : Launch} {G : bkG} {M : Mem} {this : Nat} {a1 : Nat} (hk0 : kd this = 4) (hk1 : kd a1 = 4) : ∀ r, fX5_copyFrom this a1 M = some r → Met l yX5_copyFrom (Cond.code yX5_copyFrom cX5_copyFrom 2 none :: TT) ({ frames := 3, cells := 0, slots := 0, locals := 69 } : Room) (va_Pc [rv G this, rv G a1] (Wd G M)) (QQ G ((fun _ => none) r.1) r.2) 0 0 (An G) := by
  refine mkMet (vl := (fun _ => none)) RX5 rfl (by decide +kernel) rfl (Nat.le_of_ble_eq_true rfl) [some (rv G this), some (rv G a1)] rfl ?_
  intro p e s m args below meth c C _
  refine x_aload_n (pc2 := 1) C dX5_copyFrom_0 rfl rfl ?_
  refine x_get (pc2 := 4) C fl_X5_12 hk0 (by decide) rfl dX5_copyFrom_1 rfl ?_
  refine x_aload_n (pc2 := 5) C dX5_copyFrom_4 rfl rfl ?_
  refine x_get (pc2 := 8) C fl_X5_12 hk1 (by decide) rfl dX5_copyFrom_5 rfl ?_
  refine x_callVv (pc2 := 11) C [rv G (a1 + 1)] [] cl_X5_51 (fun q hq => ctX0_copyFrom (kf_4_0 hk0) (kf_4_0 hk1) q hq) (kf_4_0 hk0) rfl rfl rfl ⟨rfl, rfl, Nat.le_of_ble_eq_true rfl, Nat.le_of_ble_eq_true rfl⟩ (Nat.le_of_ble_eq_true rfl) ⟨Nat.zero_le _, Nat.zero_le _⟩ dX5_copyFrom_8 rfl (fun v1 M2 => ?_)
  refine x_aload_n (pc2 := 12) C dX5_copyFrom_11 rfl rfl ?_
  refine x_get (pc2 := 15) C fl_X5_25 hk0 (by decide) rfl dX5_copyFrom_12 rfl ?_
  refine x_aload_n (pc2 := 16) C dX5_copyFrom_15 rfl rfl ?_
  refine x_get (pc2 := 19) C fl_X5_25 hk1 (by decide) rfl dX5_copyFrom_16 rfl ?_
  refine x_callVv (pc2 := 22) C [rv G (a1 + 11)] [] cl_X5_55 (fun q hq => ctX7_copyFrom (kf_4_1 hk0) (kf_4_1 hk1) q hq) (kf_4_1 hk0) rfl rfl rfl ⟨rfl, rfl, Nat.le_of_ble_eq_true rfl, Nat.le_of_ble_eq_true rfl⟩ (Nat.le_of_ble_eq_true rfl) ⟨Nat.zero_le _, Nat.zero_le _⟩ dX5_copyFrom_19 rfl (fun v3 M4 => ?_)
  refine x_aload_n (pc2 := 23) C dX5_copyFrom_22 rfl rfl ?_
  refine x_get (pc2 := 26) C fl_X5_31 hk0 (by decide) rfl dX5_copyFrom_23 rfl ?_
  refine x_aload_n (pc2 := 27) C dX5_copyFrom_26 rfl rfl ?_
  refine x_get (pc2 := 30) C fl_X5_31 hk1 (by decide) rfl dX5_copyFrom_27 rfl ?_
  refine x_callVv (pc2 := 33) C [rv G (a1 + 13)] [] cl_X5_55 (fun q hq => ctX7_copyFrom (kf_4_2 hk0) (kf_4_2 hk1) q hq) (kf_4_2 hk0) rfl rfl rfl ⟨rfl, rfl, Nat.le_of_ble_eq_true rfl, Nat.le_of_ble_eq_true rfl⟩ (Nat.le_of_ble_eq_true rfl) ⟨Nat.zero_le _, Nat.zero_le _⟩ dX5_copyFrom_30 rfl (fun v5 M6 => ?_)
  refine x_aload_n (pc2 := 34) C dX5_copyFrom_33 rfl rfl ?_
  refine x_get (pc2 := 37) C fl_X5_37 hk0 (by decide) rfl dX5_copyFrom_34 rfl ?_
  refine x_aload_n (pc2 := 38) C dX5_copyFrom_37 rfl rfl ?_
  refine x_get (pc2 := 41) C fl_X5_37 hk1 (by decide) rfl dX5_copyFrom_38 rfl ?_
  refine x_callVv (pc2 := 44) C [rv G (a1 + 15)] [] cl_X5_58 (fun q hq => ctX6_copyFrom (kf_4_3 hk0) (kf_4_3 hk1) q hq) (kf_4_3 hk0) rfl rfl rfl ⟨rfl, rfl, Nat.le_of_ble_eq_true rfl, Nat.le_of_ble_eq_true rfl⟩ (Nat.le_of_ble_eq_true rfl) ⟨Nat.zero_le _, Nat.zero_le _⟩ dX5_copyFrom_41 rfl (fun v7 M8 => ?_)
  refine x_aload_n (pc2 := 45) C dX5_copyFrom_44 rfl rfl ?_
  refine x_get (pc2 := 48) C fl_X5_41 hk0 (by decide) rfl dX5_copyFrom_45 rfl ?_
  refine x_aload_n (pc2 := 49) C dX5_copyFrom_48 rfl rfl ?_
  refine x_get (pc2 := 52) C fl_X5_41 hk1 (by decide) rfl dX5_copyFrom_49 rfl ?_
  refine x_callVv (pc2 := 55) C [rv G (a1 + 23)] [] cl_X5_58 (fun q hq => ctX6_copyFrom (kf_4_4 hk0) (kf_4_4 hk1) q hq) (kf_4_4 hk0) rfl rfl rfl ⟨rfl, rfl, Nat.le_of_ble_eq_true rfl, Nat.le_of_ble_eq_true rfl⟩ (Nat.le_of_ble_eq_true rfl) ⟨Nat.zero_le _, Nat.zero_le _⟩ dX5_copyFrom_52 rfl (fun v9 M10 => ?_)
  refine x_aload_n (pc2 := 56) C dX5_copyFrom_55 rfl rfl ?_
  refine x_get (pc2 := 59) C fl_X5_47 hk0 (by decide) rfl dX5_copyFrom_56 rfl ?_
  refine x_aload_n (pc2 := 60) C dX5_copyFrom_59 rfl rfl ?_
  refine x_get (pc2 := 63) C fl_X5_47 hk1 (by decide) rfl dX5_copyFrom_60 rfl ?_
  refine x_callVv (pc2 := 66) C [rv G (a1 + 31)] [] cl_X5_61 (fun q hq => ctX4_copyFrom (kf_4_5 hk0) (kf_4_5 hk1) q hq) (kf_4_5 hk0) rfl rfl rfl ⟨rfl, rfl, Nat.le_of_ble_eq_true rfl, Nat.le_of_ble_eq_true rfl⟩ (Nat.le_of_ble_eq_true rfl) ⟨Nat.zero_le _, Nat.zero_le _⟩ dX5_copyFrom_63 rfl (fun v11 M12 => ?_)
  refine x_aload_n (pc2 := 67) C dX5_copyFrom_66 rfl rfl ?_
  refine x_aload_n (pc2 := 68) C dX5_copyFrom_67 rfl rfl ?_
  refine x_get (pc2 := 71) C fl_X5_64 hk1 (by decide) rfl dX5_copyFrom_68 rfl ?_
  refine x_puti (pc2 := 74) C ft_X5_64 hk0 (by decide) hs_4_6 (Nat.le_of_ble_eq_true rfl) dX5_copyFrom_71 rfl (fun M13 => ?_)
  refine x_aload_n (pc2 := 75) C dX5_copyFrom_74 rfl rfl ?_
  refine x_aload_n (pc2 := 76) C dX5_copyFrom_75 rfl rfl ?_
  refine x_get (pc2 := 79) C fl_X5_68 hk1 (by decide) rfl dX5_copyFrom_76 rfl ?_
  refine x_puti (pc2 := 82) C ft_X5_68 hk0 (by decide) hs_4_7 (Nat.le_of_ble_eq_true rfl) dX5_copyFrom_79 rfl (fun M14 => ?_)
  refine x_aload_n (pc2 := 83) C dX5_copyFrom_82 rfl rfl ?_
  refine x_aload_n (pc2 := 84) C dX5_copyFrom_83 rfl rfl ?_
  refine x_get (pc2 := 87) C fl_X5_71 hk1 (by decide) rfl dX5_copyFrom_84 rfl ?_
  refine x_puti (pc2 := 90) C ft_X5_71 hk0 (by decide) hs_4_8 (Nat.le_of_ble_eq_true rfl) dX5_copyFrom_87 rfl (fun M15 => ?_)
  refine x_aload_n (pc2 := 91) C dX5_copyFrom_90 rfl rfl ?_
  refine x_aload_n (pc2 := 92) C dX5_copyFrom_91 rfl rfl ?_
  refine x_get (pc2 := 95) C fl_X5_74 hk1 (by decide) rfl dX5_copyFrom_92 rfl ?_
  refine x_puti (pc2 := 98) C ft_X5_74 hk0 (by decide) hs_4_9 (Nat.le_of_ble_eq_true rfl) dX5_copyFrom_95 rfl (fun M16 => ?_)
  exact x_vret C rfl rfl dX5_copyFrom_98
set_option maxRecDepth 100000 in
set_option maxHeartbeats 4000000 in
theorem ctX2_remember {l : Launch} {G : bkG} {M : Mem} {this : Nat} {a1 : Nat} (hk0 : kd this = 1) (hk1 : kd a1 = 4) : ∀ r, fX2_remember this a1 M = some r → Met l yX2_remember (Cond.code yX2_remember cX2_remember 3 none :: TT) ({ frames := 4, cells := 0, slots := 0, locals := 90 } : Room) (va_Pc [rv G this, rv G a1] (Wd G M)) (QQ G ((fun _ => none) r.1) r.2) 0 0 (An G) := by
  refine mkMet (vl := (fun _ => none)) RX2 rfl (by decide +kernel) rfl (Nat.le_of_ble_eq_true rfl) [some (rv G this), some (rv G a1), none] rfl ?_
  intro p e s m args below meth c C _
  refine x_aload_n (pc2 := 1) C dX2_remember_0 rfl rfl ?_
  refine x_get (pc2 := 4) C fl_X2_24 hk0 (by decide) rfl dX2_remember_1 rfl ?_
  refine x_topr (fun z1 => ?_)
  refine x_asr (fun hq2 => ?_)
  refine x_astore_n (pc2 := 5) C dX2_remember_4 rfl [some (rv G this), some (rv G a1), some (rv G z1)] rfl rfl ?_
  refine x_aload_n (pc2 := 6) C dX2_remember_5 rfl rfl ?_
  refine x_aload_n (pc2 := 7) C dX2_remember_6 rfl rfl ?_
  refine x_get (pc2 := 10) C fl_X2_21 hk0 (by decide) rfl dX2_remember_7 rfl ?_
  refine x_topr (fun z3 => ?_)
  refine x_asr (fun hq4 => ?_)
  refine x_putr (pc2 := 13) C ft_X2_24 hk0 (by decide) (hs_1_4 (of_decide_eq_true hq4)) (Nat.le_of_ble_eq_true rfl) dX2_remember_10 rfl (fun M5 => ?_)
  refine x_aload_n (pc2 := 14) C dX2_remember_13 rfl rfl ?_
  refine x_aload_n (pc2 := 15) C dX2_remember_14 rfl rfl ?_
  refine x_get (pc2 := 18) C fl_X2_18 hk0 (by decide) rfl dX2_remember_15 rfl ?_
  refine x_topr (fun z6 => ?_)
  refine x_asr (fun hq7 => ?_)
  refine x_putr (pc2 := 21) C ft_X2_21 hk0 (by decide) (hs_1_3 (of_decide_eq_true hq7)) (Nat.le_of_ble_eq_true rfl) dX2_remember_18 rfl (fun M8 => ?_)
  refine x_aload_n (pc2 := 22) C dX2_remember_21 rfl rfl ?_
  refine x_aload_n (pc2 := 23) C dX2_remember_22 rfl rfl ?_
  refine x_get (pc2 := 26) C fl_X2_12 hk0 (by decide) rfl dX2_remember_23 rfl ?_
  refine x_topr (fun z9 => ?_)
  refine x_asr (fun hq10 => ?_)
  refine x_putr (pc2 := 29) C ft_X2_18 hk0 (by decide) (hs_1_2 (of_decide_eq_true hq10)) (Nat.le_of_ble_eq_true rfl) dX2_remember_26 rfl (fun M11 => ?_)
  refine x_aload_n (pc2 := 30) C dX2_remember_29 rfl rfl ?_
  refine x_aload_n (pc2 := 31) C dX2_remember_30 rfl rfl ?_
  refine x_putr (pc2 := 34) C ft_X2_12 hk0 (by decide) (hs_1_1 (of_decide_eq_true hq2)) (Nat.le_of_ble_eq_true rfl) dX2_remember_31 rfl (fun M12 => ?_)
  refine x_aload_n (pc2 := 35) C dX2_remember_34 rfl rfl ?_
  refine x_get (pc2 := 38) C fl_X2_12 hk0 (by decide) rfl dX2_remember_35 rfl ?_
  refine x_topr (fun z13 => ?_)
  refine x_asr (fun hq14 => ?_)
  refine x_aload_n (pc2 := 39) C dX2_remember_38 rfl rfl ?_
  refine x_callVv (pc2 := 42) C [rv G a1] [] cl_X2_27 (fun q hq => ctX5_copyFrom (of_decide_eq_true hq14) hk1 q hq) (of_decide_eq_true hq14) rfl rfl rfl ⟨rfl, rfl, Nat.le_of_ble_eq_true rfl, Nat.le_of_ble_eq_true rfl⟩ (Nat.le_of_ble_eq_true rfl) ⟨Nat.zero_le _, Nat.zero_le _⟩ dX2_remember_39 rfl (fun v15 M16 => ?_)
  refine x_aload_n (pc2 := 43) C dX2_remember_42 rfl rfl ?_
  refine x_aload_n (pc2 := 44) C dX2_remember_43 rfl rfl ?_
  refine x_get (pc2 := 47) C fl_X2_31 hk0 (by decide) rfl dX2_remember_44 rfl ?_
  refine x_iconst (pc2 := 48) C dX2_remember_47 rfl ic_1 ?_
  refine x_iadd (pc2 := 49) C dX2_remember_48 rfl ?_
  refine x_iconst (pc2 := 50) C dX2_remember_49 rfl ic_4 ?_
  refine x_callSi (pc2 := 53) C [.int ((M16.1 this 0) + 1), .int 4] [rv G this] cl_X2_35 (fun q hq => ctJ9_min_7cf53  q hq) rfl rfl ⟨rfl, rfl, Nat.le_of_ble_eq_true rfl, Nat.le_of_ble_eq_true rfl⟩ (Nat.le_of_ble_eq_true rfl) ⟨Nat.zero_le _, Nat.zero_le _⟩ dX2_remember_50 rfl (fun v17 M18 => ?_)
  refine x_puti (pc2 := 56) C ft_X2_31 hk0 (by decide) hs_1_0 (Nat.le_of_ble_eq_true rfl) dX2_remember_53 rfl (fun M19 => ?_)
  exact x_vret C rfl rfl dX2_remember_56
set_option maxRecDepth 100000 in
set_option maxHeartbeats 4000000 in
theorem ctX5_releaseError {l : Launch} {G : bkG} {M : Mem} {this : Nat} {a1 : Int32} {a2 : Int32} (hk0 : kd this = 4) : ∀ r, fX5_releaseError this a1 a2 M = some r → Met l yX5_releaseError (Cond.code yX5_releaseError cX5_releaseError 3 (some .int) :: TT) ({ frames := 2, cells := 0, slots := 0, locals := 42 } : Room) (va_Pc [rv G this, .int a1, .int a2] (Wd G M)) (QQ G ((fun v => some (.int v)) r.1) r.2) 0 0 (An G) := by
  refine mkMet (vl := (fun v => some (.int v))) RX5 rfl (by decide +kernel) rfl (Nat.le_of_ble_eq_true rfl) [some (rv G this), some (.int a1), some (.int a2)] rfl ?_
  intro p e s m args below meth c C _
  refine x_iload_n (pc2 := 1) C dX5_releaseError_0 rfl rfl ?_
  refine x_callSi (pc2 := 4) C [.int a1] [] cl_X5_80 (fun q hq => ctX5_isTypist  q hq) rfl rfl ⟨rfl, rfl, Nat.le_of_ble_eq_true rfl, Nat.le_of_ble_eq_true rfl⟩ (Nat.le_of_ble_eq_true rfl) ⟨Nat.zero_le _, Nat.zero_le _⟩ dX5_releaseError_1 rfl (fun v1 M2 => ?_)
  refine x_if_eq (tgt := 18) (pc2 := 7) C dX5_releaseError_4 (by decide) rfl ?_ ?_
  · refine x_iconst (pc2 := 19) C dX5_releaseError_18 rfl ic_m1 ?_
    exact x_iret C rfl rfl dX5_releaseError_19
  · refine x_aload_n (pc2 := 8) C dX5_releaseError_7 rfl rfl ?_
    refine x_get (pc2 := 11) C fl_X5_12 hk0 (by decide) rfl dX5_releaseError_8 rfl ?_
    refine x_iload_n (pc2 := 12) C dX5_releaseError_11 rfl rfl ?_
    refine x_callVi (pc2 := 15) C [.int a2] [] cl_X5_84 (fun q hq => ctX0_has (kf_4_0 hk0) q hq) (kf_4_0 hk0) rfl rfl rfl ⟨rfl, rfl, Nat.le_of_ble_eq_true rfl, Nat.le_of_ble_eq_true rfl⟩ (Nat.le_of_ble_eq_true rfl) ⟨Nat.zero_le _, Nat.zero_le _⟩ dX5_releaseError_12 rfl (fun v3 M4 => ?_)
    refine x_if_ne (tgt := 20) (pc2 := 18) C dX5_releaseError_15 (by decide) rfl ?_ ?_
    · refine x_aload_n (pc2 := 21) C dX5_releaseError_20 rfl rfl ?_
      refine x_get (pc2 := 24) C fl_X5_12 hk0 (by decide) rfl dX5_releaseError_21 rfl ?_
      refine x_iload_n (pc2 := 25) C dX5_releaseError_24 rfl rfl ?_
      refine x_callVi (pc2 := 28) C [.int a2] [] cl_X5_94 (fun q hq => ctX0_holderOf (kf_4_0 hk0) q hq) (kf_4_0 hk0) rfl rfl rfl ⟨rfl, rfl, Nat.le_of_ble_eq_true rfl, Nat.le_of_ble_eq_true rfl⟩ (Nat.le_of_ble_eq_true rfl) ⟨Nat.zero_le _, Nat.zero_le _⟩ dX5_releaseError_25 rfl (fun v5 M6 => ?_)
      refine x_iload_n (pc2 := 29) C dX5_releaseError_28 rfl rfl ?_
      refine x_icmp_ne (tgt := 36) (pc2 := 32) C dX5_releaseError_29 (by decide) rfl ?_ ?_
      · refine x_bipush (pc2 := 38) C dX5_releaseError_36 rfl bc_m4 ?_
        exact x_iret C rfl rfl dX5_releaseError_38
      · refine x_iconst (pc2 := 33) C dX5_releaseError_32 rfl ic_0 ?_
        refine x_goto (tgt := 38) C dX5_releaseError_33 (by decide) ?_
        exact x_iret C rfl rfl dX5_releaseError_38
    · refine x_iconst (pc2 := 19) C dX5_releaseError_18 rfl ic_m1 ?_
      exact x_iret C rfl rfl dX5_releaseError_19
set_option maxRecDepth 100000 in
set_option maxHeartbeats 4000000 in
theorem ctX5_fateNow {l : Launch} {G : bkG} {M : Mem} {this : Nat} {a1 : Int32} (hk0 : kd this = 4) : ∀ r, fX5_fateNow this a1 M = some r → Met l yX5_fateNow (Cond.code yX5_fateNow cX5_fateNow 9 (some .int) :: TT) ({ frames := 2, cells := 0, slots := 0, locals := 43 } : Room) (va_Pc [rv G this, .int a1] (Wd G M)) (QQ G ((fun v => some (.int v)) r.1) r.2) 0 0 (An G) := by
  refine mkMet (vl := (fun v => some (.int v))) RX5 rfl (by decide +kernel) rfl (Nat.le_of_ble_eq_true rfl) [some (rv G this), some (.int a1), none, none, none, none, none, none, none] rfl ?_
  intro p e s m args below meth c C _
  refine x_aload_n (pc2 := 1) C dX5_fateNow_0 rfl rfl ?_
  refine x_get (pc2 := 4) C fl_X5_12 hk0 (by decide) rfl dX5_fateNow_1 rfl ?_
  refine x_iload_n (pc2 := 5) C dX5_fateNow_4 rfl rfl ?_
  refine x_callVi (pc2 := 8) C [.int a1] [] cl_X5_134 (fun q hq => ctX0_isDoubtful (kf_4_0 hk0) q hq) (kf_4_0 hk0) rfl rfl rfl ⟨rfl, rfl, Nat.le_of_ble_eq_true rfl, Nat.le_of_ble_eq_true rfl⟩ (Nat.le_of_ble_eq_true rfl) ⟨Nat.zero_le _, Nat.zero_le _⟩ dX5_fateNow_5 rfl (fun v1 M2 => ?_)
  refine x_istore_n (pc2 := 9) C dX5_fateNow_8 rfl [some (rv G this), some (.int a1), some (.int v1), none, none, none, none, none, none] rfl rfl ?_
  refine x_aload_n (pc2 := 10) C dX5_fateNow_9 rfl rfl ?_
  refine x_get (pc2 := 13) C fl_X5_12 hk0 (by decide) rfl dX5_fateNow_10 rfl ?_
  refine x_iload_n (pc2 := 14) C dX5_fateNow_13 rfl rfl ?_
  refine x_callVi (pc2 := 17) C [.int a1] [] cl_X5_137 (fun q hq => ctX0_shiftOwner (kf_4_0 hk0) q hq) (kf_4_0 hk0) rfl rfl rfl ⟨rfl, rfl, Nat.le_of_ble_eq_true rfl, Nat.le_of_ble_eq_true rfl⟩ (Nat.le_of_ble_eq_true rfl) ⟨Nat.zero_le _, Nat.zero_le _⟩ dX5_fateNow_14 rfl (fun v3 M4 => ?_)
  refine x_istore_n (pc2 := 18) C dX5_fateNow_17 rfl [some (rv G this), some (.int a1), some (.int v1), some (.int v3), none, none, none, none, none] rfl rfl ?_
  refine x_iload_n (pc2 := 19) C dX5_fateNow_18 rfl rfl ?_
  refine x_iconst (pc2 := 20) C dX5_fateNow_19 rfl ic_m1 ?_
  refine x_icmp_eq (tgt := 33) (pc2 := 23) C dX5_fateNow_20 (by decide) rfl ?_ ?_
  · refine x_aload_n (pc2 := 34) C dX5_fateNow_33 rfl rfl ?_
    refine x_get (pc2 := 37) C fl_X5_12 hk0 (by decide) rfl dX5_fateNow_34 rfl ?_
    refine x_iload_n (pc2 := 38) C dX5_fateNow_37 rfl rfl ?_
    refine x_callVi (pc2 := 41) C [.int a1] [] cl_X5_140 (fun q hq => ctX0_sinceOf (kf_4_0 hk0) q hq) (kf_4_0 hk0) rfl rfl rfl ⟨rfl, rfl, Nat.le_of_ble_eq_true rfl, Nat.le_of_ble_eq_true rfl⟩ (Nat.le_of_ble_eq_true rfl) ⟨Nat.zero_le _, Nat.zero_le _⟩ dX5_fateNow_38 rfl (fun v5 M6 => ?_)
    refine x_istore (pc2 := 43) C dX5_fateNow_41 rfl [some (rv G this), some (.int a1), some (.int v1), some (.int v3), some (.int v5), none, none, none, none] rfl rfl ?_
    refine x_aload_n (pc2 := 44) C dX5_fateNow_43 rfl rfl ?_
    refine x_get (pc2 := 47) C fl_X5_25 hk0 (by decide) rfl dX5_fateNow_44 rfl ?_
    refine x_iload (pc2 := 49) C dX5_fateNow_47 rfl rfl ?_
    refine x_aload_n (pc2 := 50) C dX5_fateNow_49 rfl rfl ?_
    refine x_get (pc2 := 53) C fl_X5_64 hk0 (by decide) rfl dX5_fateNow_50 rfl ?_
    refine x_iload (pc2 := 55) C dX5_fateNow_53 rfl rfl ?_
    refine x_isub (pc2 := 56) C dX5_fateNow_55 rfl ?_
    refine x_callVf (pc2 := 59) C [.int v5, .int ((M6.1 this 6) - v5)] [] cl_X5_143 (fun q hq => ctX7_distanceOf (kf_4_1 hk0) q hq) (kf_4_1 hk0) rfl rfl rfl ⟨rfl, rfl, Nat.le_of_ble_eq_true rfl, Nat.le_of_ble_eq_true rfl⟩ (Nat.le_of_ble_eq_true rfl) ⟨Nat.zero_le _, Nat.zero_le _⟩ dX5_fateNow_56 rfl (fun v7 M8 => ?_)
    refine x_fstore (pc2 := 61) C dX5_fateNow_59 rfl [some (rv G this), some (.int a1), some (.int v1), some (.int v3), some (.int v5), some (.float v7), none, none, none] rfl rfl ?_
    refine x_aload_n (pc2 := 62) C dX5_fateNow_61 rfl rfl ?_
    refine x_get (pc2 := 65) C fl_X5_31 hk0 (by decide) rfl dX5_fateNow_62 rfl ?_
    refine x_iload (pc2 := 67) C dX5_fateNow_65 rfl rfl ?_
    refine x_aload_n (pc2 := 68) C dX5_fateNow_67 rfl rfl ?_
    refine x_get (pc2 := 71) C fl_X5_64 hk0 (by decide) rfl dX5_fateNow_68 rfl ?_
    refine x_iload (pc2 := 73) C dX5_fateNow_71 rfl rfl ?_
    refine x_isub (pc2 := 74) C dX5_fateNow_73 rfl ?_
    refine x_callVf (pc2 := 77) C [.int v5, .int ((M8.1 this 6) - v5)] [] cl_X5_143 (fun q hq => ctX7_distanceOf (kf_4_2 hk0) q hq) (kf_4_2 hk0) rfl rfl rfl ⟨rfl, rfl, Nat.le_of_ble_eq_true rfl, Nat.le_of_ble_eq_true rfl⟩ (Nat.le_of_ble_eq_true rfl) ⟨Nat.zero_le _, Nat.zero_le _⟩ dX5_fateNow_74 rfl (fun v9 M10 => ?_)
    refine x_fstore (pc2 := 79) C dX5_fateNow_77 rfl [some (rv G this), some (.int a1), some (.int v1), some (.int v3), some (.int v5), some (.float v7), some (.float v9), none, none] rfl rfl ?_
    refine x_fload (pc2 := 81) C dX5_fateNow_79 rfl rfl ?_
    refine x_fload (pc2 := 83) C dX5_fateNow_81 rfl rfl ?_
    refine x_fcmpg (pc2 := 84) C dX5_fateNow_83 rfl ?_
    refine x_jn 92 (fun (b11 : Int32) => [some (rv G this), none, some (.int v1), none, none, some (.float v7), some (.float v9), none, none]) (fun (b11 : Int32) => [.int b11]) ?_ ?_
    · intro b11 M13
      refine x_istore (pc2 := 94) C dX5_fateNow_92 rfl [some (rv G this), none, some (.int v1), none, none, some (.float v7), some (.float v9), some (.int b11), none] rfl rfl ?_
      refine x_iload_n (pc2 := 95) C dX5_fateNow_94 rfl rfl ?_
      refine x_if_eq (tgt := 132) (pc2 := 98) C dX5_fateNow_95 (by decide) rfl ?_ ?_
      · refine x_fload (pc2 := 134) C dX5_fateNow_132 rfl rfl ?_
        refine x_fload (pc2 := 136) C dX5_fateNow_134 rfl rfl ?_
        refine x_fsub (pc2 := 137) C dX5_fateNow_136 rfl ?_
        refine x_topf (fun v14 => ?_)
        refine x_callSf (pc2 := 140) C [.float v14] [] cl_X5_151 (fun q hq => ctX7_unsigned  q hq) rfl rfl ⟨rfl, rfl, Nat.le_of_ble_eq_true rfl, Nat.le_of_ble_eq_true rfl⟩ (Nat.le_of_ble_eq_true rfl) ⟨Nat.zero_le _, Nat.zero_le _⟩ dX5_fateNow_137 rfl (fun v15 M16 => ?_)
        refine x_aload_n (pc2 := 141) C dX5_fateNow_140 rfl rfl ?_
        refine x_get (pc2 := 144) C fl_X5_47 hk0 (by decide) rfl dX5_fateNow_141 rfl ?_
        refine x_get (pc2 := 147) C fl_X5_155 (kf_4_5 hk0) (by decide) rfl dX5_fateNow_144 rfl ?_
        refine x_fcmpg (pc2 := 148) C dX5_fateNow_147 rfl ?_
        refine x_if_ge (tgt := 169) (pc2 := 151) C dX5_fateNow_148 (by decide) rfl ?_ ?_
        · refine x_iload (pc2 := 171) C dX5_fateNow_169 rfl rfl ?_
          exact x_iret C rfl rfl dX5_fateNow_171
        · refine x_aload_n (pc2 := 152) C dX5_fateNow_151 rfl rfl ?_
          refine x_get (pc2 := 155) C fl_X5_41 hk0 (by decide) rfl dX5_fateNow_152 rfl ?_
          refine x_get (pc2 := 158) C fl_X5_77 (kf_4_4 hk0) (by decide) rfl dX5_fateNow_155 rfl ?_
          refine x_bipush (pc2 := 160) C dX5_fateNow_158 rfl bc_20 ?_
          refine x_icmp_ge (tgt := 167) (pc2 := 163) C dX5_fateNow_160 (by decide) rfl ?_ ?_
          · refine x_iconst (pc2 := 168) C dX5_fateNow_167 rfl ic_2 ?_
            exact x_iret C rfl rfl dX5_fateNow_168
          · refine x_iconst (pc2 := 164) C dX5_fateNow_163 rfl ic_3 ?_
            refine x_goto (tgt := 168) C dX5_fateNow_164 (by decide) ?_
            exact x_iret C rfl rfl dX5_fateNow_168
      · refine x_iload (pc2 := 100) C dX5_fateNow_98 rfl rfl ?_
        refine x_jn 110 (fun (b17 : UInt32) => [some (rv G this), none, none, none, none, none, none, some (.int b11), none]) (fun (b17 : UInt32) => [.float b17]) ?_ ?_
        · intro b17 M19
          refine x_fstore (pc2 := 112) C dX5_fateNow_110 rfl [some (rv G this), none, none, none, none, none, none, some (.int b11), some (.float b17)] rfl rfl ?_
          refine x_fload (pc2 := 114) C dX5_fateNow_112 rfl rfl ?_
          refine x_aload_n (pc2 := 115) C dX5_fateNow_114 rfl rfl ?_
          refine x_get (pc2 := 118) C fl_X5_47 hk0 (by decide) rfl dX5_fateNow_115 rfl ?_
          refine x_get (pc2 := 121) C fl_X5_147 (kf_4_5 hk0) (by decide) rfl dX5_fateNow_118 rfl ?_
          refine x_fcmpg (pc2 := 122) C dX5_fateNow_121 rfl ?_
          refine x_if_gt (tgt := 130) (pc2 := 125) C dX5_fateNow_122 (by decide) rfl ?_ ?_
          · refine x_iconst (pc2 := 131) C dX5_fateNow_130 rfl ic_2 ?_
            exact x_iret C rfl rfl dX5_fateNow_131
          · refine x_iload (pc2 := 127) C dX5_fateNow_125 rfl rfl ?_
            refine x_goto (tgt := 131) C dX5_fateNow_127 (by decide) ?_
            exact x_iret C rfl rfl dX5_fateNow_131
        · intro j18 hj18
          refine x_if_ne (tgt := 108) (pc2 := 103) C dX5_fateNow_100 (by decide) rfl ?_ ?_
          · refine x_fload (pc2 := 110) C dX5_fateNow_108 rfl rfl ?_
            exact x_wk [some (rv G this), none, none, none, none, none, none, some (.int b11), none] ⟨Or.inr rfl, Or.inl rfl, Or.inl rfl, Or.inl rfl, Or.inl rfl, Or.inl rfl, Or.inl rfl, Or.inr rfl, Or.inl rfl, trivial⟩ (hj18 v9 _)
          · refine x_fload (pc2 := 105) C dX5_fateNow_103 rfl rfl ?_
            refine x_goto (tgt := 110) C dX5_fateNow_105 (by decide) ?_
            exact x_wk [some (rv G this), none, none, none, none, none, none, some (.int b11), none] ⟨Or.inr rfl, Or.inl rfl, Or.inl rfl, Or.inl rfl, Or.inl rfl, Or.inl rfl, Or.inl rfl, Or.inr rfl, Or.inl rfl, trivial⟩ (hj18 v7 _)
    · intro j12 hj12
      refine x_if_ge (tgt := 91) (pc2 := 87) C dX5_fateNow_84 (by decide) rfl ?_ ?_
      · refine x_iconst (pc2 := 92) C dX5_fateNow_91 rfl ic_0 ?_
        exact x_wk [some (rv G this), none, some (.int v1), none, none, some (.float v7), some (.float v9), none, none] ⟨Or.inr rfl, Or.inl rfl, Or.inr rfl, Or.inl rfl, Or.inl rfl, Or.inr rfl, Or.inr rfl, Or.inl rfl, Or.inl rfl, trivial⟩ (hj12 0 _)
      · refine x_iconst (pc2 := 88) C dX5_fateNow_87 rfl ic_1 ?_
        refine x_goto (tgt := 92) C dX5_fateNow_88 (by decide) ?_
        exact x_wk [some (rv G this), none, some (.int v1), none, none, some (.float v7), some (.float v9), none, none] ⟨Or.inr rfl, Or.inl rfl, Or.inr rfl, Or.inl rfl, Or.inl rfl, Or.inr rfl, Or.inr rfl, Or.inl rfl, Or.inl rfl, trivial⟩ (hj12 1 _)
  · refine x_iload_n (pc2 := 24) C dX5_fateNow_23 rfl rfl ?_
    refine x_if_eq (tgt := 31) (pc2 := 27) C dX5_fateNow_24 (by decide) rfl ?_ ?_
    · refine x_iload_n (pc2 := 32) C dX5_fateNow_31 rfl rfl ?_
      exact x_iret C rfl rfl dX5_fateNow_32
    · refine x_iconst (pc2 := 28) C dX5_fateNow_27 rfl ic_2 ?_
      refine x_goto (tgt := 32) C dX5_fateNow_28 (by decide) ?_
      exact x_iret C rfl rfl dX5_fateNow_32
set_option maxRecDepth 100000 in
set_option maxHeartbeats 4000000 in
theorem ctX5_finish {l : Launch} {G : bkG} {M : Mem} {this : Nat} {a1 : Nat} {a2 : Int32} {a3 : Int32} {a4 : Int32} (hk0 : kd this = 4) (hk1 : kd a1 = 5) : ∀ r, fX5_finish this a1 a2 a3 a4 M = some r → Met l yX5_finish (Cond.code yX5_finish cX5_finish 10 none :: TT) ({ frames := 2, cells := 0, slots := 0, locals := 43 } : Room) (va_Pc [rv G this, rv G a1, .int a2, .int a3, .int a4] (Wd G M)) (QQ G ((fun _ => none) r.1) r.2) 0 0 (An G) := by
  refine mkMet (vl := (fun _ => none)) RX5 rfl (by decide +kernel) rfl (Nat.le_of_ble_eq_true rfl) [some (rv G this), some (rv G a1), some (.int a2), some (.int a3), some (.int a4), none, none, none, none, none] rfl ?_
  intro p e s m args below meth c C _
  refine x_aload_n (pc2 := 1) C dX5_finish_0 rfl rfl ?_
  refine x_iload_n (pc2 := 2) C dX5_finish_1 rfl rfl ?_
  refine x_callVi (pc2 := 5) C [.int a2] [] cl_X5_182 (fun q hq => ctX6_holderOf hk1 q hq) hk1 rfl rfl rfl ⟨rfl, rfl, Nat.le_of_ble_eq_true rfl, Nat.le_of_ble_eq_true rfl⟩ (Nat.le_of_ble_eq_true rfl) ⟨Nat.zero_le _, Nat.zero_le _⟩ dX5_finish_2 rfl (fun v1 M2 => ?_)
  refine x_istore (pc2 := 7) C dX5_finish_5 rfl [some (rv G this), some (rv G a1), some (.int a2), some (.int a3), some (.int a4), some (.int v1), none, none, none, none] rfl rfl ?_
  refine x_iload_n (pc2 := 8) C dX5_finish_7 rfl rfl ?_
  refine x_iconst (pc2 := 9) C dX5_finish_8 rfl ic_2 ?_
  refine x_icmp_ne (tgt := 43) (pc2 := 12) C dX5_finish_9 (by decide) rfl ?_ ?_
  · refine x_aload_n (pc2 := 44) C dX5_finish_43 rfl rfl ?_
    refine x_iload_n (pc2 := 45) C dX5_finish_44 rfl rfl ?_
    refine x_callVr (pc2 := 48) C [.int a3] [] cl_X5_183 (fun q hq => ctX5_typistOf hk0 q hq) hk0 rfl rfl rfl ⟨rfl, rfl, Nat.le_of_ble_eq_true rfl, Nat.le_of_ble_eq_true rfl⟩ (Nat.le_of_ble_eq_true rfl) ⟨Nat.zero_le _, Nat.zero_le _⟩ dX5_finish_45 rfl (fun v3 M4 => ?_)
    refine x_asr (fun hq5 => ?_)
    refine x_astore (pc2 := 50) C dX5_finish_48 rfl [some (rv G this), some (rv G a1), some (.int a2), some (.int a3), some (.int a4), some (.int v1), some (rv G v3), none, none, none] rfl rfl ?_
    refine x_aload (pc2 := 52) C dX5_finish_50 rfl rfl ?_
    refine x_dup (pc2 := 53) C dX5_finish_52 rfl rfl ?_
    refine x_get (pc2 := 56) C fl_X5_187 (of_decide_eq_true hq5) (by decide) rfl dX5_finish_53 rfl ?_
    refine x_iconst (pc2 := 57) C dX5_finish_56 rfl ic_1 ?_
    refine x_iadd (pc2 := 58) C dX5_finish_57 rfl ?_
    refine x_puti (pc2 := 61) C ft_X5_187 (of_decide_eq_true hq5) (by decide) hs_6_4 (Nat.le_of_ble_eq_true rfl) dX5_finish_58 rfl (fun M6 => ?_)
    refine x_aload (pc2 := 63) C dX5_finish_61 rfl rfl ?_
    refine x_dup (pc2 := 64) C dX5_finish_63 rfl rfl ?_
    refine x_get (pc2 := 67) C fl_X5_190 (of_decide_eq_true hq5) (by decide) rfl dX5_finish_64 rfl ?_
    refine x_iload (pc2 := 69) C dX5_finish_67 rfl rfl ?_
    refine x_iload_n (pc2 := 70) C dX5_finish_69 rfl rfl ?_
    refine x_jn 78 (fun (b7 : Int32) => [some (rv G this), some (rv G a1), some (.int a2), some (.int a3), some (.int a4), none, some (rv G v3), none, none, none]) (fun (b7 : Int32) => [.int b7, .int (M6.1 v3 5), rv G v3]) ?_ ?_
    · intro b7 M9
      refine x_iadd (pc2 := 79) C dX5_finish_78 rfl ?_
      refine x_puti (pc2 := 82) C ft_X5_190 (of_decide_eq_true hq5) (by decide) hs_6_5 (Nat.le_of_ble_eq_true rfl) dX5_finish_79 rfl (fun M10 => ?_)
      refine x_iload (pc2 := 84) C dX5_finish_82 rfl rfl ?_
      refine x_jn 109 (fun (b11 : Unit) => [some (rv G this), some (rv G a1), some (.int a2), some (.int a3), none, none, some (rv G v3), none, none, none]) (fun (b11 : Unit) => []) ?_ ?_
      · intro b11 M13
        refine x_aload_n (pc2 := 110) C dX5_finish_109 rfl rfl ?_
        refine x_get (pc2 := 113) C fl_X5_12 hk0 (by decide) rfl dX5_finish_110 rfl ?_
        refine x_aload_n (pc2 := 114) C dX5_finish_113 rfl rfl ?_
        refine x_iload_n (pc2 := 115) C dX5_finish_114 rfl rfl ?_
        refine x_callVi (pc2 := 118) C [.int a2] [rv G (this + 1)] cl_X5_204 (fun q hq => ctX6_keyOf hk1 q hq) hk1 rfl rfl rfl ⟨rfl, rfl, Nat.le_of_ble_eq_true rfl, Nat.le_of_ble_eq_true rfl⟩ (Nat.le_of_ble_eq_true rfl) ⟨Nat.zero_le _, Nat.zero_le _⟩ dX5_finish_115 rfl (fun v14 M15 => ?_)
        refine x_callVi (pc2 := 121) C [.int v14] [] cl_X5_207 (fun q hq => ctX0_signOf (kf_4_0 hk0) q hq) (kf_4_0 hk0) rfl rfl rfl ⟨rfl, rfl, Nat.le_of_ble_eq_true rfl, Nat.le_of_ble_eq_true rfl⟩ (Nat.le_of_ble_eq_true rfl) ⟨Nat.zero_le _, Nat.zero_le _⟩ dX5_finish_118 rfl (fun v16 M17 => ?_)
        refine x_istore (pc2 := 123) C dX5_finish_121 rfl [some (rv G this), some (rv G a1), some (.int a2), some (.int a3), none, none, some (rv G v3), some (.int v16), none, none] rfl rfl ?_
        refine x_iload (pc2 := 125) C dX5_finish_123 rfl rfl ?_
        refine x_bipush (pc2 := 127) C dX5_finish_125 rfl bc_46 ?_
        refine x_icmp_eq (tgt := 185) (pc2 := 130) C dX5_finish_127 (by decide) rfl ?_ ?_
        · exact x_vret C rfl rfl dX5_finish_185
        · refine x_aload (pc2 := 132) C dX5_finish_130 rfl rfl ?_
          refine x_get (pc2 := 135) C fl_X5_210 (of_decide_eq_true hq5) (by decide) rfl dX5_finish_132 rfl ?_
          refine x_jn 145 (fun (b18 : Int32) => [none, some (rv G a1), some (.int a2), none, none, none, some (rv G v3), some (.int v16), none, none]) (fun (b18 : Int32) => [.int b18]) ?_ ?_
          · intro b18 M20
            refine x_istore (pc2 := 147) C dX5_finish_145 rfl [none, some (rv G a1), some (.int a2), none, none, none, some (rv G v3), some (.int v16), some (.int b18), none] rfl rfl ?_
            refine x_aload_n (pc2 := 148) C dX5_finish_147 rfl rfl ?_
            refine x_iload_n (pc2 := 149) C dX5_finish_148 rfl rfl ?_
            refine x_callVi (pc2 := 152) C [.int a2] [] cl_X5_214 (fun q hq => ctX6_notedOf hk1 q hq) hk1 rfl rfl rfl ⟨rfl, rfl, Nat.le_of_ble_eq_true rfl, Nat.le_of_ble_eq_true rfl⟩ (Nat.le_of_ble_eq_true rfl) ⟨Nat.zero_le _, Nat.zero_le _⟩ dX5_finish_149 rfl (fun v21 M22 => ?_)
            refine x_iload (pc2 := 154) C dX5_finish_152 rfl rfl ?_
            refine x_iand (pc2 := 155) C dX5_finish_154 rfl ?_
            refine x_jn 163 (fun (b23 : Int32) => [none, none, none, none, none, none, some (rv G v3), some (.int v16), none, none]) (fun (b23 : Int32) => [.int b23]) ?_ ?_
            · intro b23 M25
              refine x_istore (pc2 := 165) C dX5_finish_163 rfl [none, none, none, none, none, none, some (rv G v3), some (.int v16), none, some (.int b23)] rfl rfl ?_
              refine x_aload (pc2 := 167) C dX5_finish_165 rfl rfl ?_
              refine x_iload (pc2 := 169) C dX5_finish_167 rfl rfl ?_
              refine x_jn 182 (fun (b26 : Int32) => [none, none, none, none, none, none, none, none, none, none]) (fun (b26 : Int32) => [.int b26, rv G v3]) ?_ ?_
              · intro b26 M28
                refine x_callVv (pc2 := 185) C [.int b26] [] cl_X5_217 (fun q hq => ctX7_addSign (of_decide_eq_true hq5) q hq) (of_decide_eq_true hq5) rfl rfl rfl ⟨rfl, rfl, Nat.le_of_ble_eq_true rfl, Nat.le_of_ble_eq_true rfl⟩ (Nat.le_of_ble_eq_true rfl) ⟨Nat.zero_le _, Nat.zero_le _⟩ dX5_finish_182 rfl (fun v29 M30 => ?_)
                exact x_vret C rfl rfl dX5_finish_185
              · intro j27 hj27
                refine x_if_eq (tgt := 180) (pc2 := 172) C dX5_finish_169 (by decide) rfl ?_ ?_
                · refine x_iload (pc2 := 182) C dX5_finish_180 rfl rfl ?_
                  exact x_wk [none, none, none, none, none, none, none, none, none, none] ⟨Or.inl rfl, Or.inl rfl, Or.inl rfl, Or.inl rfl, Or.inl rfl, Or.inl rfl, Or.inl rfl, Or.inl rfl, Or.inl rfl, Or.inl rfl, trivial⟩ (hj27 v16 _)
                · refine x_iload (pc2 := 174) C dX5_finish_172 rfl rfl ?_
                  refine x_bipush (pc2 := 176) C dX5_finish_174 rfl bc_32 ?_
                  refine x_isub (pc2 := 177) C dX5_finish_176 rfl ?_
                  refine x_goto (tgt := 182) C dX5_finish_177 (by decide) ?_
                  exact x_wk [none, none, none, none, none, none, none, none, none, none] ⟨Or.inl rfl, Or.inl rfl, Or.inl rfl, Or.inl rfl, Or.inl rfl, Or.inl rfl, Or.inl rfl, Or.inl rfl, Or.inl rfl, Or.inl rfl, trivial⟩ (hj27 (v16 - 32) _)
            · intro j24 hj24
              refine x_if_eq (tgt := 162) (pc2 := 158) C dX5_finish_155 (by decide) rfl ?_ ?_
              · refine x_iconst (pc2 := 163) C dX5_finish_162 rfl ic_0 ?_
                exact x_wk [none, none, none, none, none, none, some (rv G v3), some (.int v16), none, none] ⟨Or.inl rfl, Or.inl rfl, Or.inl rfl, Or.inl rfl, Or.inl rfl, Or.inl rfl, Or.inr rfl, Or.inr rfl, Or.inl rfl, Or.inl rfl, trivial⟩ (hj24 0 _)
              · refine x_iconst (pc2 := 159) C dX5_finish_158 rfl ic_1 ?_
                refine x_goto (tgt := 163) C dX5_finish_159 (by decide) ?_
                exact x_wk [none, none, none, none, none, none, some (rv G v3), some (.int v16), none, none] ⟨Or.inl rfl, Or.inl rfl, Or.inl rfl, Or.inl rfl, Or.inl rfl, Or.inl rfl, Or.inr rfl, Or.inr rfl, Or.inl rfl, Or.inl rfl, trivial⟩ (hj24 1 _)
          · intro j19 hj19
            refine x_if_eq (tgt := 142) (pc2 := 138) C dX5_finish_135 (by decide) rfl ?_ ?_
            · refine x_iconst (pc2 := 143) C dX5_finish_142 rfl ic_1 ?_
              refine x_iload_n (pc2 := 144) C dX5_finish_143 rfl rfl ?_
              refine x_ishl (pc2 := 145) C dX5_finish_144 rfl ?_
              exact x_wk [none, some (rv G a1), some (.int a2), none, none, none, some (rv G v3), some (.int v16), none, none] ⟨Or.inl rfl, Or.inr rfl, Or.inr rfl, Or.inl rfl, Or.inl rfl, Or.inl rfl, Or.inr rfl, Or.inr rfl, Or.inl rfl, Or.inl rfl, trivial⟩ (hj19 ((1 : Int32) <<< (a3 &&& 31)) _)
            · refine x_iconst (pc2 := 139) C dX5_finish_138 rfl ic_3 ?_
              refine x_goto (tgt := 145) C dX5_finish_139 (by decide) ?_
              exact x_wk [none, some (rv G a1), some (.int a2), none, none, none, some (rv G v3), some (.int v16), none, none] ⟨Or.inl rfl, Or.inr rfl, Or.inr rfl, Or.inl rfl, Or.inl rfl, Or.inl rfl, Or.inr rfl, Or.inr rfl, Or.inl rfl, Or.inl rfl, trivial⟩ (hj19 3 _)
      · intro j12 hj12
        refine x_if_eq (tgt := 109) (pc2 := 87) C dX5_finish_84 (by decide) rfl ?_ ?_
        · exact x_wk [some (rv G this), some (rv G a1), some (.int a2), some (.int a3), none, none, some (rv G v3), none, none, none] ⟨Or.inr rfl, Or.inr rfl, Or.inr rfl, Or.inr rfl, Or.inl rfl, Or.inl rfl, Or.inr rfl, Or.inl rfl, Or.inl rfl, Or.inl rfl, trivial⟩ (hj12 () _)
        · refine x_aload (pc2 := 89) C dX5_finish_87 rfl rfl ?_
          refine x_aload_n (pc2 := 90) C dX5_finish_89 rfl rfl ?_
          refine x_iload_n (pc2 := 91) C dX5_finish_90 rfl rfl ?_
          refine x_callVi (pc2 := 94) C [.int a2] [rv G v3] cl_X5_193 (fun q hq => ctX6_sinceOf hk1 q hq) hk1 rfl rfl rfl ⟨rfl, rfl, Nat.le_of_ble_eq_true rfl, Nat.le_of_ble_eq_true rfl⟩ (Nat.le_of_ble_eq_true rfl) ⟨Nat.zero_le _, Nat.zero_le _⟩ dX5_finish_91 rfl (fun v31 M32 => ?_)
          refine x_aload_n (pc2 := 95) C dX5_finish_94 rfl rfl ?_
          refine x_iload_n (pc2 := 96) C dX5_finish_95 rfl rfl ?_
          refine x_callVi (pc2 := 99) C [.int a2] [.int v31, rv G v3] cl_X5_194 (fun q hq => ctX6_dwellOf hk1 q hq) hk1 rfl rfl rfl ⟨rfl, rfl, Nat.le_of_ble_eq_true rfl, Nat.le_of_ble_eq_true rfl⟩ (Nat.le_of_ble_eq_true rfl) ⟨Nat.zero_le _, Nat.zero_le _⟩ dX5_finish_96 rfl (fun v33 M34 => ?_)
          refine x_aload_n (pc2 := 100) C dX5_finish_99 rfl rfl ?_
          refine x_get (pc2 := 103) C fl_X5_47 hk0 (by decide) rfl dX5_finish_100 rfl ?_
          refine x_get (pc2 := 106) C fl_X5_197 (kf_4_5 hk0) (by decide) rfl dX5_finish_103 rfl ?_
          refine x_callVv (pc2 := 109) C [.int v31, .int v33, .float (M34.2 (this + 31) 3)] [] cl_X5_200 (fun q hq => ctX7_learn (of_decide_eq_true hq5) q hq) (of_decide_eq_true hq5) rfl rfl rfl ⟨rfl, rfl, Nat.le_of_ble_eq_true rfl, Nat.le_of_ble_eq_true rfl⟩ (Nat.le_of_ble_eq_true rfl) ⟨Nat.zero_le _, Nat.zero_le _⟩ dX5_finish_106 rfl (fun v35 M36 => ?_)
          exact x_wk [some (rv G this), some (rv G a1), some (.int a2), some (.int a3), none, none, some (rv G v3), none, none, none] ⟨Or.inr rfl, Or.inr rfl, Or.inr rfl, Or.inr rfl, Or.inl rfl, Or.inl rfl, Or.inr rfl, Or.inl rfl, Or.inl rfl, Or.inl rfl, trivial⟩ (hj12 () _)
    · intro j8 hj8
      refine x_icmp_ne (tgt := 77) (pc2 := 73) C dX5_finish_70 (by decide) rfl ?_ ?_
      · refine x_iconst (pc2 := 78) C dX5_finish_77 rfl ic_0 ?_
        exact x_wk [some (rv G this), some (rv G a1), some (.int a2), some (.int a3), some (.int a4), none, some (rv G v3), none, none, none] ⟨Or.inr rfl, Or.inr rfl, Or.inr rfl, Or.inr rfl, Or.inr rfl, Or.inl rfl, Or.inr rfl, Or.inl rfl, Or.inl rfl, Or.inl rfl, trivial⟩ (hj8 0 _)
      · refine x_iconst (pc2 := 74) C dX5_finish_73 rfl ic_1 ?_
        refine x_goto (tgt := 78) C dX5_finish_74 (by decide) ?_
        exact x_wk [some (rv G this), some (rv G a1), some (.int a2), some (.int a3), some (.int a4), none, some (rv G v3), none, none, none] ⟨Or.inr rfl, Or.inr rfl, Or.inr rfl, Or.inr rfl, Or.inr rfl, Or.inl rfl, Or.inr rfl, Or.inl rfl, Or.inl rfl, Or.inl rfl, trivial⟩ (hj8 1 _)
  · refine x_aload_n (pc2 := 13) C dX5_finish_12 rfl rfl ?_
    refine x_dup (pc2 := 14) C dX5_finish_13 rfl rfl ?_
    refine x_get (pc2 := 17) C fl_X5_68 hk0 (by decide) rfl dX5_finish_14 rfl ?_
    refine x_iconst (pc2 := 18) C dX5_finish_17 rfl ic_1 ?_
    refine x_iadd (pc2 := 19) C dX5_finish_18 rfl ?_
    refine x_puti (pc2 := 22) C ft_X5_68 hk0 (by decide) hs_4_7 (Nat.le_of_ble_eq_true rfl) dX5_finish_19 rfl (fun M37 => ?_)
    refine x_aload_n (pc2 := 23) C dX5_finish_22 rfl rfl ?_
    refine x_dup (pc2 := 24) C dX5_finish_23 rfl rfl ?_
    refine x_get (pc2 := 27) C fl_X5_71 hk0 (by decide) rfl dX5_finish_24 rfl ?_
    refine x_iload (pc2 := 29) C dX5_finish_27 rfl rfl ?_
    refine x_iconst (pc2 := 30) C dX5_finish_29 rfl ic_m1 ?_
    refine x_jn 38 (fun (b38 : Int32) => [none, none, none, none, none, none, none, none, none, none]) (fun (b38 : Int32) => [.int b38, .int (M37.1 this 8), rv G this]) ?_ ?_
    · intro b38 M40
      refine x_iadd (pc2 := 39) C dX5_finish_38 rfl ?_
      refine x_puti (pc2 := 42) C ft_X5_71 hk0 (by decide) hs_4_8 (Nat.le_of_ble_eq_true rfl) dX5_finish_39 rfl (fun M41 => ?_)
      exact x_vret C rfl rfl dX5_finish_42
    · intro j39 hj39
      refine x_icmp_ne (tgt := 37) (pc2 := 33) C dX5_finish_30 (by decide) rfl ?_ ?_
      · refine x_iconst (pc2 := 38) C dX5_finish_37 rfl ic_0 ?_
        exact x_wk [none, none, none, none, none, none, none, none, none, none] ⟨Or.inl rfl, Or.inl rfl, Or.inl rfl, Or.inl rfl, Or.inl rfl, Or.inl rfl, Or.inl rfl, Or.inl rfl, Or.inl rfl, Or.inl rfl, trivial⟩ (hj39 0 _)
      · refine x_iconst (pc2 := 34) C dX5_finish_33 rfl ic_1 ?_
        refine x_goto (tgt := 38) C dX5_finish_34 (by decide) ?_
        exact x_wk [none, none, none, none, none, none, none, none, none, none] ⟨Or.inl rfl, Or.inl rfl, Or.inl rfl, Or.inl rfl, Or.inl rfl, Or.inl rfl, Or.inl rfl, Or.inl rfl, Or.inl rfl, Or.inl rfl, trivial⟩ (hj39 1 _)
set_option maxRecDepth 100000 in
set_option maxHeartbeats 4000000 in
theorem ctX5_endStroke {l : Launch} {G : bkG} {M : Mem} {this : Nat} {a1 : Int32} (hk0 : kd this = 4) : ∀ r, fX5_endStroke this a1 M = some r → Met l yX5_endStroke (Cond.code yX5_endStroke cX5_endStroke 3 none :: TT) ({ frames := 3, cells := 0, slots := 0, locals := 72 } : Room) (va_Pc [rv G this, .int a1] (Wd G M)) (QQ G ((fun _ => none) r.1) r.2) 0 0 (An G) := by
  refine mkMet (vl := (fun _ => none)) RX5 rfl (by decide +kernel) rfl (Nat.le_of_ble_eq_true rfl) [some (rv G this), some (.int a1), none] rfl ?_
  intro p e s m args below meth c C _
  refine x_aload_n (pc2 := 1) C dX5_endStroke_0 rfl rfl ?_
  refine x_iload_n (pc2 := 2) C dX5_endStroke_1 rfl rfl ?_
  refine x_callVi (pc2 := 5) C [.int a1] [] cl_X5_158 (fun q hq => ctX5_fateNow hk0 q hq) hk0 rfl rfl rfl ⟨rfl, rfl, Nat.le_of_ble_eq_true rfl, Nat.le_of_ble_eq_true rfl⟩ (Nat.le_of_ble_eq_true rfl) ⟨Nat.zero_le _, Nat.zero_le _⟩ dX5_endStroke_2 rfl (fun v1 M2 => ?_)
  refine x_istore_n (pc2 := 6) C dX5_endStroke_5 rfl [some (rv G this), some (.int a1), some (.int v1)] rfl rfl ?_
  refine x_aload_n (pc2 := 7) C dX5_endStroke_6 rfl rfl ?_
  refine x_get (pc2 := 10) C fl_X5_37 hk0 (by decide) rfl dX5_endStroke_7 rfl ?_
  refine x_aload_n (pc2 := 11) C dX5_endStroke_10 rfl rfl ?_
  refine x_get (pc2 := 14) C fl_X5_12 hk0 (by decide) rfl dX5_endStroke_11 rfl ?_
  refine x_iload_n (pc2 := 15) C dX5_endStroke_14 rfl rfl ?_
  refine x_aload_n (pc2 := 16) C dX5_endStroke_15 rfl rfl ?_
  refine x_get (pc2 := 19) C fl_X5_64 hk0 (by decide) rfl dX5_endStroke_16 rfl ?_
  refine x_iload_n (pc2 := 20) C dX5_endStroke_19 rfl rfl ?_
  refine x_callVv (pc2 := 23) C [rv G (this + 1), .int a1, .int (M2.1 this 6), .int v1] [] cl_X5_161 (fun q hq => ctX6_addFrom (kf_4_3 hk0) (kf_4_0 hk0) q hq) (kf_4_3 hk0) rfl rfl rfl ⟨rfl, rfl, Nat.le_of_ble_eq_true rfl, Nat.le_of_ble_eq_true rfl⟩ (Nat.le_of_ble_eq_true rfl) ⟨Nat.zero_le _, Nat.zero_le _⟩ dX5_endStroke_20 rfl (fun v3 M4 => ?_)
  refine x_aload_n (pc2 := 24) C dX5_endStroke_23 rfl rfl ?_
  refine x_get (pc2 := 27) C fl_X5_12 hk0 (by decide) rfl dX5_endStroke_24 rfl ?_
  refine x_iload_n (pc2 := 28) C dX5_endStroke_27 rfl rfl ?_
  refine x_callVv (pc2 := 31) C [.int a1] [] cl_X5_165 (fun q hq => ctX0_loseSight (kf_4_0 hk0) q hq) (kf_4_0 hk0) rfl rfl rfl ⟨rfl, rfl, Nat.le_of_ble_eq_true rfl, Nat.le_of_ble_eq_true rfl⟩ (Nat.le_of_ble_eq_true rfl) ⟨Nat.zero_le _, Nat.zero_le _⟩ dX5_endStroke_28 rfl (fun v5 M6 => ?_)
  refine x_iload_n (pc2 := 32) C dX5_endStroke_31 rfl rfl ?_
  refine x_iconst (pc2 := 33) C dX5_endStroke_32 rfl ic_3 ?_
  refine x_icmp_ne (tgt := 60) (pc2 := 36) C dX5_endStroke_33 (by decide) rfl ?_ ?_
  · refine x_aload_n (pc2 := 61) C dX5_endStroke_60 rfl rfl ?_
    refine x_aload_n (pc2 := 62) C dX5_endStroke_61 rfl rfl ?_
    refine x_get (pc2 := 65) C fl_X5_37 hk0 (by decide) rfl dX5_endStroke_62 rfl ?_
    refine x_aload_n (pc2 := 66) C dX5_endStroke_65 rfl rfl ?_
    refine x_get (pc2 := 69) C fl_X5_37 hk0 (by decide) rfl dX5_endStroke_66 rfl ?_
    refine x_get (pc2 := 72) C fl_X5_77 (kf_4_3 hk0) (by decide) rfl dX5_endStroke_69 rfl ?_
    refine x_iconst (pc2 := 73) C dX5_endStroke_72 rfl ic_1 ?_
    refine x_isub (pc2 := 74) C dX5_endStroke_73 rfl ?_
    refine x_iload_n (pc2 := 75) C dX5_endStroke_74 rfl rfl ?_
    refine x_aload_n (pc2 := 76) C dX5_endStroke_75 rfl rfl ?_
    refine x_get (pc2 := 79) C fl_X5_12 hk0 (by decide) rfl dX5_endStroke_76 rfl ?_
    refine x_iload_n (pc2 := 80) C dX5_endStroke_79 rfl rfl ?_
    refine x_callVi (pc2 := 83) C [.int a1] [.int v1, .int ((M6.1 (this + 15) 0) - 1), rv G (this + 15), rv G this] cl_X5_137 (fun q hq => ctX0_shiftOwner (kf_4_0 hk0) q hq) (kf_4_0 hk0) rfl rfl rfl ⟨rfl, rfl, Nat.le_of_ble_eq_true rfl, Nat.le_of_ble_eq_true rfl⟩ (Nat.le_of_ble_eq_true rfl) ⟨Nat.zero_le _, Nat.zero_le _⟩ dX5_endStroke_80 rfl (fun v7 M8 => ?_)
    refine x_iconst (pc2 := 84) C dX5_endStroke_83 rfl ic_m1 ?_
    refine x_jn 92 (fun (b9 : Int32) => [none, none, none]) (fun (b9 : Int32) => [.int b9, .int v1, .int ((M6.1 (this + 15) 0) - 1), rv G (this + 15), rv G this]) ?_ ?_
    · intro b9 M11
      refine x_callVv (pc2 := 95) C [rv G (this + 15), .int ((M6.1 (this + 15) 0) - 1), .int v1, .int b9] [] cl_X5_171 (fun q hq => ctX5_finish hk0 (kf_4_3 hk0) q hq) hk0 rfl rfl rfl ⟨rfl, rfl, Nat.le_of_ble_eq_true rfl, Nat.le_of_ble_eq_true rfl⟩ (Nat.le_of_ble_eq_true rfl) ⟨Nat.zero_le _, Nat.zero_le _⟩ dX5_endStroke_92 rfl (fun v12 M13 => ?_)
      exact x_vret C rfl rfl dX5_endStroke_95
    · intro j10 hj10
      refine x_icmp_ne (tgt := 91) (pc2 := 87) C dX5_endStroke_84 (by decide) rfl ?_ ?_
      · refine x_iconst (pc2 := 92) C dX5_endStroke_91 rfl ic_0 ?_
        exact x_wk [none, none, none] ⟨Or.inl rfl, Or.inl rfl, Or.inl rfl, trivial⟩ (hj10 0 _)
      · refine x_iconst (pc2 := 88) C dX5_endStroke_87 rfl ic_1 ?_
        refine x_goto (tgt := 92) C dX5_endStroke_88 (by decide) ?_
        exact x_wk [none, none, none] ⟨Or.inl rfl, Or.inl rfl, Or.inl rfl, trivial⟩ (hj10 1 _)
  · refine x_aload_n (pc2 := 37) C dX5_endStroke_36 rfl rfl ?_
    refine x_get (pc2 := 40) C fl_X5_41 hk0 (by decide) rfl dX5_endStroke_37 rfl ?_
    refine x_aload_n (pc2 := 41) C dX5_endStroke_40 rfl rfl ?_
    refine x_get (pc2 := 44) C fl_X5_37 hk0 (by decide) rfl dX5_endStroke_41 rfl ?_
    refine x_callVv (pc2 := 47) C [rv G (this + 15)] [] cl_X5_168 (fun q hq => ctX6_addLatestOf (kf_4_4 hk0) (kf_4_3 hk0) q hq) (kf_4_4 hk0) rfl rfl rfl ⟨rfl, rfl, Nat.le_of_ble_eq_true rfl, Nat.le_of_ble_eq_true rfl⟩ (Nat.le_of_ble_eq_true rfl) ⟨Nat.zero_le _, Nat.zero_le _⟩ dX5_endStroke_44 rfl (fun v14 M15 => ?_)
    refine x_aload_n (pc2 := 48) C dX5_endStroke_47 rfl rfl ?_
    refine x_dup (pc2 := 49) C dX5_endStroke_48 rfl rfl ?_
    refine x_get (pc2 := 52) C fl_X5_74 hk0 (by decide) rfl dX5_endStroke_49 rfl ?_
    refine x_iconst (pc2 := 53) C dX5_endStroke_52 rfl ic_1 ?_
    refine x_iadd (pc2 := 54) C dX5_endStroke_53 rfl ?_
    refine x_puti (pc2 := 57) C ft_X5_74 hk0 (by decide) hs_4_9 (Nat.le_of_ble_eq_true rfl) dX5_endStroke_54 rfl (fun M16 => ?_)
    refine x_goto (tgt := 95) C dX5_endStroke_57 (by decide) ?_
    exact x_vret C rfl rfl dX5_endStroke_95
set_option maxRecDepth 100000 in
set_option maxHeartbeats 4000000 in
theorem ctX5_pass {l : Launch} {G : bkG} {M : Mem} {this : Nat} {a1 : Int32} (hk0 : kd this = 4) : ∀ r, fX5_pass this a1 M = some r → Met l yX5_pass (Cond.code yX5_pass cX5_pass 8 (some .int) :: TT) ({ frames := 4, cells := 0, slots := 0, locals := 94 } : Room) (va_Pc [rv G this, .int a1] (Wd G M)) (QQ G ((fun v => some (.int v)) r.1) r.2) 0 0 (An G) := by
  refine mkMet (vl := (fun v => some (.int v))) RX5 rfl (by decide +kernel) rfl (Nat.le_of_ble_eq_true rfl) [some (rv G this), some (.int a1), none, none, none, none, none, none] rfl ?_
  intro p e s m args below meth c C _
  refine x_aload_n (pc2 := 1) C dX5_pass_0 rfl rfl ?_
  refine x_get (pc2 := 4) C fl_X5_37 hk0 (by decide) rfl dX5_pass_1 rfl ?_
  refine x_get (pc2 := 7) C fl_X5_77 (kf_4_3 hk0) (by decide) rfl dX5_pass_4 rfl ?_
  refine x_istore_n (pc2 := 8) C dX5_pass_7 rfl [some (rv G this), some (.int a1), some (.int (M.1 (this + 15) 0)), none, none, none, none, none] rfl rfl ?_
  refine x_iconst (pc2 := 9) C dX5_pass_8 rfl ic_0 ?_
  refine x_istore_n (pc2 := 10) C dX5_pass_9 rfl [some (rv G this), some (.int a1), some (.int (M.1 (this + 15) 0)), some (.int 0), none, none, none, none] rfl rfl ?_
  refine x_wk [some (rv G this), some (.int a1), some (.int (M.1 (this + 15) 0)), some (.int 0), none, none, none, none] ⟨Or.inr rfl, Or.inr rfl, Or.inr rfl, Or.inr rfl, Or.inl rfl, Or.inl rfl, Or.inl rfl, Or.inl rfl, trivial⟩ ?_
  refine x_lp (fun (b1 : Int32) => [some (rv G this), some (.int a1), some (.int (M.1 (this + 15) 0)), some (.int b1), none, none, none, none]) ?_
  · intro rec3 hrec3 b1 M2
    refine x_iload_n (pc2 := 11) C dX5_pass_10 rfl rfl ?_
    refine x_iload_n (pc2 := 12) C dX5_pass_11 rfl rfl ?_
    refine x_icmp_ge (tgt := 146) (pc2 := 15) C dX5_pass_12 (by decide) rfl ?_ ?_
    · refine x_aload_n (pc2 := 147) C dX5_pass_146 rfl rfl ?_
      refine x_get (pc2 := 150) C fl_X5_37 hk0 (by decide) rfl dX5_pass_147 rfl ?_
      refine x_get (pc2 := 153) C fl_X5_77 (kf_4_3 hk0) (by decide) rfl dX5_pass_150 rfl ?_
      refine x_iload_n (pc2 := 154) C dX5_pass_153 rfl rfl ?_
      refine x_isub (pc2 := 155) C dX5_pass_154 rfl ?_
      exact x_iret C rfl rfl dX5_pass_155
    · refine x_aload_n (pc2 := 16) C dX5_pass_15 rfl rfl ?_
      refine x_callVi (pc2 := 19) C [] [] cl_X5_106 (fun q hq => ctX5_drivenRow hk0 q hq) hk0 rfl rfl rfl ⟨rfl, rfl, Nat.le_of_ble_eq_true rfl, Nat.le_of_ble_eq_true rfl⟩ (Nat.le_of_ble_eq_true rfl) ⟨Nat.zero_le _, Nat.zero_le _⟩ dX5_pass_16 rfl (fun v4 M5 => ?_)
      refine x_istore (pc2 := 21) C dX5_pass_19 rfl [some (rv G this), some (.int a1), some (.int (M.1 (this + 15) 0)), some (.int b1), some (.int v4), none, none, none] rfl rfl ?_
      refine x_aload_n (pc2 := 22) C dX5_pass_21 rfl rfl ?_
      refine x_get (pc2 := 25) C fl_X5_12 hk0 (by decide) rfl dX5_pass_22 rfl ?_
      refine x_get (pc2 := 28) C fl_X5_110 (kf_4_0 hk0) (by decide) rfl dX5_pass_25 rfl ?_
      refine x_iload (pc2 := 30) C dX5_pass_28 rfl rfl ?_
      refine x_callSi (pc2 := 33) C [rv G ((this + 1) + 7), .int v4] [] cl_X5_114 (fun q hq => ctX1_at (kf_0_8 (kf_4_0 hk0)) q hq) rfl rfl ⟨rfl, rfl, Nat.le_of_ble_eq_true rfl, Nat.le_of_ble_eq_true rfl⟩ (Nat.le_of_ble_eq_true rfl) ⟨Nat.zero_le _, Nat.zero_le _⟩ dX5_pass_30 rfl (fun v6 M7 => ?_)
      refine x_istore (pc2 := 35) C dX5_pass_33 rfl [some (rv G this), some (.int a1), some (.int (M.1 (this + 15) 0)), some (.int b1), some (.int v4), some (.int v6), none, none] rfl rfl ?_
      refine x_aload_n (pc2 := 36) C dX5_pass_35 rfl rfl ?_
      refine x_get (pc2 := 39) C fl_X5_12 hk0 (by decide) rfl dX5_pass_36 rfl ?_
      refine x_iload (pc2 := 41) C dX5_pass_39 rfl rfl ?_
      refine x_iconst (pc2 := 42) C dX5_pass_41 rfl ic_m1 ?_
      refine x_callVi (pc2 := 45) C [.int v4, .int (-1)] [] cl_X5_120 (fun q hq => ctX0_sensed (kf_4_0 hk0) q hq) (kf_4_0 hk0) rfl rfl rfl ⟨rfl, rfl, Nat.le_of_ble_eq_true rfl, Nat.le_of_ble_eq_true rfl⟩ (Nat.le_of_ble_eq_true rfl) ⟨Nat.zero_le _, Nat.zero_le _⟩ dX5_pass_42 rfl (fun v8 M9 => ?_)
      refine x_istore (pc2 := 47) C dX5_pass_45 rfl [some (rv G this), some (.int a1), some (.int (M.1 (this + 15) 0)), some (.int b1), some (.int v4), some (.int v6), some (.int v8), none] rfl rfl ?_
      refine x_iconst (pc2 := 48) C dX5_pass_47 rfl ic_0 ?_
      refine x_istore (pc2 := 50) C dX5_pass_48 rfl [some (rv G this), some (.int a1), some (.int (M.1 (this + 15) 0)), some (.int b1), some (.int v4), some (.int v6), some (.int v8), some (.int 0)] rfl rfl ?_
      refine x_wk [some (rv G this), some (.int a1), some (.int (M.1 (this + 15) 0)), some (.int b1), some (.int v4), some (.int v6), some (.int v8), some (.int 0)] ⟨Or.inr rfl, Or.inr rfl, Or.inr rfl, Or.inr rfl, Or.inr rfl, Or.inr rfl, Or.inr rfl, Or.inr rfl, trivial⟩ ?_
      refine x_lp1 (fun (b10 : Int32) => [some (rv G this), some (.int a1), some (.int (M.1 (this + 15) 0)), some (.int b1), some (.int v4), some (.int v6), some (.int v8), some (.int b10)]) 100 (fun (b13 : Unit) => [some (rv G this), some (.int a1), some (.int (M.1 (this + 15) 0)), some (.int b1), some (.int v4), some (.int v6), some (.int v8), none]) ?_ ?_
      · intro b13 M14
        refine x_iload (pc2 := 102) C dX5_pass_100 rfl rfl ?_
        refine x_iload (pc2 := 104) C dX5_pass_102 rfl rfl ?_
        refine x_iconst (pc2 := 105) C dX5_pass_104 rfl ic_m1 ?_
        refine x_ixor (pc2 := 106) C dX5_pass_105 rfl ?_
        refine x_iand (pc2 := 107) C dX5_pass_106 rfl ?_
        refine x_jn 130 (fun (b15 : Unit) => [some (rv G this), some (.int a1), some (.int (M.1 (this + 15) 0)), some (.int b1), none, none, none, none]) (fun (b15 : Unit) => []) ?_ ?_
        · intro b15 M17
          refine x_aload_n (pc2 := 131) C dX5_pass_130 rfl rfl ?_
          refine x_dup (pc2 := 132) C dX5_pass_131 rfl rfl ?_
          refine x_get (pc2 := 135) C fl_X5_64 hk0 (by decide) rfl dX5_pass_132 rfl ?_
          refine x_iconst (pc2 := 136) C dX5_pass_135 rfl ic_1 ?_
          refine x_iadd (pc2 := 137) C dX5_pass_136 rfl ?_
          refine x_puti (pc2 := 140) C ft_X5_64 hk0 (by decide) hs_4_6 (Nat.le_of_ble_eq_true rfl) dX5_pass_137 rfl (fun M18 => ?_)
          refine x_iinc (pc2 := 143) (v := b1 + 1) C dX5_pass_140 rfl rfl 1 ic_1 rfl [some (rv G this), some (.int a1), some (.int (M.1 (this + 15) 0)), some (.int (b1 + 1)), none, none, none, none] rfl rfl ?_
          refine x_goto (tgt := 10) C dX5_pass_143 (by decide) ?_
          exact x_wk [some (rv G this), some (.int a1), some (.int (M.1 (this + 15) 0)), some (.int (b1 + 1)), none, none, none, none] ⟨Or.inr rfl, Or.inr rfl, Or.inr rfl, Or.inr rfl, Or.inl rfl, Or.inl rfl, Or.inl rfl, Or.inl rfl, trivial⟩ (hrec3 (b1 + 1) _)
        · intro j16 hj16
          refine x_if_eq (tgt := 130) (pc2 := 110) C dX5_pass_107 (by decide) rfl ?_ ?_
          · exact x_wk [some (rv G this), some (.int a1), some (.int (M.1 (this + 15) 0)), some (.int b1), none, none, none, none] ⟨Or.inr rfl, Or.inr rfl, Or.inr rfl, Or.inr rfl, Or.inl rfl, Or.inl rfl, Or.inl rfl, Or.inl rfl, trivial⟩ (hj16 () _)
          · refine x_aload_n (pc2 := 111) C dX5_pass_110 rfl rfl ?_
            refine x_get (pc2 := 114) C fl_X5_12 hk0 (by decide) rfl dX5_pass_111 rfl ?_
            refine x_iload (pc2 := 116) C dX5_pass_114 rfl rfl ?_
            refine x_iload (pc2 := 118) C dX5_pass_116 rfl rfl ?_
            refine x_iload (pc2 := 120) C dX5_pass_118 rfl rfl ?_
            refine x_iconst (pc2 := 121) C dX5_pass_120 rfl ic_m1 ?_
            refine x_ixor (pc2 := 122) C dX5_pass_121 rfl ?_
            refine x_iand (pc2 := 123) C dX5_pass_122 rfl ?_
            refine x_aload_n (pc2 := 124) C dX5_pass_123 rfl rfl ?_
            refine x_get (pc2 := 127) C fl_X5_64 hk0 (by decide) rfl dX5_pass_124 rfl ?_
            refine x_callVv (pc2 := 130) C [.int v4, .int (v8 &&& (v6 ^^^ (-1))), .int (M14.1 this 6)] [] cl_X5_130 (fun q hq => ctX0_see (kf_4_0 hk0) q hq) (kf_4_0 hk0) rfl rfl rfl ⟨rfl, rfl, Nat.le_of_ble_eq_true rfl, Nat.le_of_ble_eq_true rfl⟩ (Nat.le_of_ble_eq_true rfl) ⟨Nat.zero_le _, Nat.zero_le _⟩ dX5_pass_127 rfl (fun v19 M20 => ?_)
            exact x_wk [some (rv G this), some (.int a1), some (.int (M.1 (this + 15) 0)), some (.int b1), none, none, none, none] ⟨Or.inr rfl, Or.inr rfl, Or.inr rfl, Or.inr rfl, Or.inl rfl, Or.inl rfl, Or.inl rfl, Or.inl rfl, trivial⟩ (hj16 () _)
      · intro k21 hk21 rec12 hrec12 b10 M11
        refine x_iload (pc2 := 52) C dX5_pass_50 rfl rfl ?_
        refine x_aload_n (pc2 := 53) C dX5_pass_52 rfl rfl ?_
        refine x_get (pc2 := 56) C fl_X5_12 hk0 (by decide) rfl dX5_pass_53 rfl ?_
        refine x_get (pc2 := 59) C fl_X5_123 (kf_4_0 hk0) (by decide) rfl dX5_pass_56 rfl ?_
        refine x_icmp_ge (tgt := 100) (pc2 := 62) C dX5_pass_59 (by decide) rfl ?_ ?_
        · exact x_wk [some (rv G this), some (.int a1), some (.int (M.1 (this + 15) 0)), some (.int b1), some (.int v4), some (.int v6), some (.int v8), none] ⟨Or.inr rfl, Or.inr rfl, Or.inr rfl, Or.inr rfl, Or.inr rfl, Or.inr rfl, Or.inr rfl, Or.inl rfl, trivial⟩ (hk21 () _)
        · refine x_iload (pc2 := 64) C dX5_pass_62 rfl rfl ?_
          refine x_iload (pc2 := 66) C dX5_pass_64 rfl rfl ?_
          refine x_iconst (pc2 := 67) C dX5_pass_66 rfl ic_m1 ?_
          refine x_ixor (pc2 := 68) C dX5_pass_67 rfl ?_
          refine x_iand (pc2 := 69) C dX5_pass_68 rfl ?_
          refine x_iconst (pc2 := 70) C dX5_pass_69 rfl ic_1 ?_
          refine x_iload (pc2 := 72) C dX5_pass_70 rfl rfl ?_
          refine x_ishl (pc2 := 73) C dX5_pass_72 rfl ?_
          refine x_iand (pc2 := 74) C dX5_pass_73 rfl ?_
          refine x_jn 94 (fun (b22 : Unit) => [some (rv G this), some (.int a1), some (.int (M.1 (this + 15) 0)), some (.int b1), some (.int v4), some (.int v6), some (.int v8), some (.int b10)]) (fun (b22 : Unit) => []) ?_ ?_
          · intro b22 M24
            refine x_iinc (pc2 := 97) (v := b10 + 1) C dX5_pass_94 rfl rfl 1 ic_1 rfl [some (rv G this), some (.int a1), some (.int (M.1 (this + 15) 0)), some (.int b1), some (.int v4), some (.int v6), some (.int v8), some (.int (b10 + 1))] rfl rfl ?_
            refine x_goto (tgt := 50) C dX5_pass_97 (by decide) ?_
            exact x_wk [some (rv G this), some (.int a1), some (.int (M.1 (this + 15) 0)), some (.int b1), some (.int v4), some (.int v6), some (.int v8), some (.int (b10 + 1))] ⟨Or.inr rfl, Or.inr rfl, Or.inr rfl, Or.inr rfl, Or.inr rfl, Or.inr rfl, Or.inr rfl, Or.inr rfl, trivial⟩ (hrec12 (b10 + 1) _)
          · intro j23 hj23
            refine x_if_eq (tgt := 94) (pc2 := 77) C dX5_pass_74 (by decide) rfl ?_ ?_
            · exact x_wk [some (rv G this), some (.int a1), some (.int (M.1 (this + 15) 0)), some (.int b1), some (.int v4), some (.int v6), some (.int v8), some (.int b10)] ⟨Or.inr rfl, Or.inr rfl, Or.inr rfl, Or.inr rfl, Or.inr rfl, Or.inr rfl, Or.inr rfl, Or.inr rfl, trivial⟩ (hj23 () _)
            · refine x_aload_n (pc2 := 78) C dX5_pass_77 rfl rfl ?_
              refine x_iload (pc2 := 80) C dX5_pass_78 rfl rfl ?_
              refine x_aload_n (pc2 := 81) C dX5_pass_80 rfl rfl ?_
              refine x_get (pc2 := 84) C fl_X5_12 hk0 (by decide) rfl dX5_pass_81 rfl ?_
              refine x_get (pc2 := 87) C fl_X5_123 (kf_4_0 hk0) (by decide) rfl dX5_pass_84 rfl ?_
              refine x_imul (pc2 := 88) C dX5_pass_87 rfl ?_
              refine x_iload (pc2 := 90) C dX5_pass_88 rfl rfl ?_
              refine x_iadd (pc2 := 91) C dX5_pass_90 rfl ?_
              refine x_callVv (pc2 := 94) C [.int ((v4 * (M11.1 (this + 1) 1)) + b10)] [] cl_X5_126 (fun q hq => ctX5_endStroke hk0 q hq) hk0 rfl rfl rfl ⟨rfl, rfl, Nat.le_of_ble_eq_true rfl, Nat.le_of_ble_eq_true rfl⟩ (Nat.le_of_ble_eq_true rfl) ⟨Nat.zero_le _, Nat.zero_le _⟩ dX5_pass_91 rfl (fun v25 M26 => ?_)
              exact x_wk [some (rv G this), some (.int a1), some (.int (M.1 (this + 15) 0)), some (.int b1), some (.int v4), some (.int v6), some (.int v8), some (.int b10)] ⟨Or.inr rfl, Or.inr rfl, Or.inr rfl, Or.inr rfl, Or.inr rfl, Or.inr rfl, Or.inr rfl, Or.inr rfl, trivial⟩ (hj23 () _)
set_option maxRecDepth 100000 in
set_option maxHeartbeats 4000000 in
theorem ctX5_hasDispute {l : Launch} {G : bkG} {M : Mem} {this : Nat} {a1 : Int32} (hk0 : kd this = 4) : ∀ r, fX5_hasDispute this a1 M = some r → Met l yX5_hasDispute (Cond.code yX5_hasDispute cX5_hasDispute 2 (some .boolean) :: TT) ({ frames := 0, cells := 0, slots := 0, locals := 0 } : Room) (va_Pc [rv G this, .int a1] (Wd G M)) (QQ G ((fun v => some (.int v)) r.1) r.2) 0 0 (An G) := by
  refine mkMet (vl := (fun v => some (.int v))) RX5 rfl (by decide +kernel) rfl (Nat.le_of_ble_eq_true rfl) [some (rv G this), some (.int a1)] rfl ?_
  intro p e s m args below meth c C _
  refine x_iload_n (pc2 := 1) C dX5_hasDispute_0 rfl rfl ?_
  refine x_if_lt (tgt := 19) (pc2 := 4) C dX5_hasDispute_1 (by decide) rfl ?_ ?_
  · refine x_iconst (pc2 := 20) C dX5_hasDispute_19 rfl ic_0 ?_
    exact x_zret C rfl rfl rfl dX5_hasDispute_20
  · refine x_iload_n (pc2 := 5) C dX5_hasDispute_4 rfl rfl ?_
    refine x_aload_n (pc2 := 6) C dX5_hasDispute_5 rfl rfl ?_
    refine x_get (pc2 := 9) C fl_X5_41 hk0 (by decide) rfl dX5_hasDispute_6 rfl ?_
    refine x_get (pc2 := 12) C fl_X5_77 (kf_4_4 hk0) (by decide) rfl dX5_hasDispute_9 rfl ?_
    refine x_icmp_ge (tgt := 19) (pc2 := 15) C dX5_hasDispute_12 (by decide) rfl ?_ ?_
    · refine x_iconst (pc2 := 20) C dX5_hasDispute_19 rfl ic_0 ?_
      exact x_zret C rfl rfl rfl dX5_hasDispute_20
    · refine x_iconst (pc2 := 16) C dX5_hasDispute_15 rfl ic_1 ?_
      refine x_goto (tgt := 20) C dX5_hasDispute_16 (by decide) ?_
      exact x_zret C rfl rfl rfl dX5_hasDispute_20
set_option maxRecDepth 100000 in
set_option maxHeartbeats 4000000 in
theorem ctX5_settleByHand {l : Launch} {G : bkG} {M : Mem} {this : Nat} {a1 : Int32} {a2 : Int32} (hk0 : kd this = 4) : ∀ r, fX5_settleByHand this a1 a2 M = some r → Met l yX5_settleByHand (Cond.code yX5_settleByHand cX5_settleByHand 3 none :: TT) ({ frames := 3, cells := 0, slots := 0, locals := 72 } : Room) (va_Pc [rv G this, .int a1, .int a2] (Wd G M)) (QQ G ((fun _ => none) r.1) r.2) 0 0 (An G) := by
  refine mkMet (vl := (fun _ => none)) RX5 rfl (by decide +kernel) rfl (Nat.le_of_ble_eq_true rfl) [some (rv G this), some (.int a1), some (.int a2)] rfl ?_
  intro p e s m args below meth c C _
  refine x_aload_n (pc2 := 1) C dX5_settleByHand_0 rfl rfl ?_
  refine x_get (pc2 := 4) C fl_X5_41 hk0 (by decide) rfl dX5_settleByHand_1 rfl ?_
  refine x_iload_n (pc2 := 5) C dX5_settleByHand_4 rfl rfl ?_
  refine x_iload_n (pc2 := 6) C dX5_settleByHand_5 rfl rfl ?_
  refine x_callVv (pc2 := 9) C [.int a1, .int a2] [] cl_X5_175 (fun q hq => ctX6_changeFate (kf_4_4 hk0) q hq) (kf_4_4 hk0) rfl rfl rfl ⟨rfl, rfl, Nat.le_of_ble_eq_true rfl, Nat.le_of_ble_eq_true rfl⟩ (Nat.le_of_ble_eq_true rfl) ⟨Nat.zero_le _, Nat.zero_le _⟩ dX5_settleByHand_6 rfl (fun v1 M2 => ?_)
  refine x_aload_n (pc2 := 10) C dX5_settleByHand_9 rfl rfl ?_
  refine x_get (pc2 := 13) C fl_X5_37 hk0 (by decide) rfl dX5_settleByHand_10 rfl ?_
  refine x_aload_n (pc2 := 14) C dX5_settleByHand_13 rfl rfl ?_
  refine x_get (pc2 := 17) C fl_X5_41 hk0 (by decide) rfl dX5_settleByHand_14 rfl ?_
  refine x_iload_n (pc2 := 18) C dX5_settleByHand_17 rfl rfl ?_
  refine x_callVi (pc2 := 21) C [.int a1] [rv G (this + 15)] cl_X5_179 (fun q hq => ctX6_originOf (kf_4_4 hk0) q hq) (kf_4_4 hk0) rfl rfl rfl ⟨rfl, rfl, Nat.le_of_ble_eq_true rfl, Nat.le_of_ble_eq_true rfl⟩ (Nat.le_of_ble_eq_true rfl) ⟨Nat.zero_le _, Nat.zero_le _⟩ dX5_settleByHand_18 rfl (fun v3 M4 => ?_)
  refine x_iload_n (pc2 := 22) C dX5_settleByHand_21 rfl rfl ?_
  refine x_callVv (pc2 := 25) C [.int v3, .int a2] [] cl_X5_175 (fun q hq => ctX6_changeFate (kf_4_3 hk0) q hq) (kf_4_3 hk0) rfl rfl rfl ⟨rfl, rfl, Nat.le_of_ble_eq_true rfl, Nat.le_of_ble_eq_true rfl⟩ (Nat.le_of_ble_eq_true rfl) ⟨Nat.zero_le _, Nat.zero_le _⟩ dX5_settleByHand_22 rfl (fun v5 M6 => ?_)
  refine x_aload_n (pc2 := 26) C dX5_settleByHand_25 rfl rfl ?_
  refine x_dup (pc2 := 27) C dX5_settleByHand_26 rfl rfl ?_
  refine x_get (pc2 := 30) C fl_X5_74 hk0 (by decide) rfl dX5_settleByHand_27 rfl ?_
  refine x_iconst (pc2 := 31) C dX5_settleByHand_30 rfl ic_1 ?_
  refine x_isub (pc2 := 32) C dX5_settleByHand_31 rfl ?_
  refine x_puti (pc2 := 35) C ft_X5_74 hk0 (by decide) hs_4_9 (Nat.le_of_ble_eq_true rfl) dX5_settleByHand_32 rfl (fun M7 => ?_)
  refine x_aload_n (pc2 := 36) C dX5_settleByHand_35 rfl rfl ?_
  refine x_aload_n (pc2 := 37) C dX5_settleByHand_36 rfl rfl ?_
  refine x_get (pc2 := 40) C fl_X5_41 hk0 (by decide) rfl dX5_settleByHand_37 rfl ?_
  refine x_iload_n (pc2 := 41) C dX5_settleByHand_40 rfl rfl ?_
  refine x_iload_n (pc2 := 42) C dX5_settleByHand_41 rfl rfl ?_
  refine x_iconst (pc2 := 43) C dX5_settleByHand_42 rfl ic_1 ?_
  refine x_callVv (pc2 := 46) C [rv G (this + 23), .int a1, .int a2, .int 1] [] cl_X5_171 (fun q hq => ctX5_finish hk0 (kf_4_4 hk0) q hq) hk0 rfl rfl rfl ⟨rfl, rfl, Nat.le_of_ble_eq_true rfl, Nat.le_of_ble_eq_true rfl⟩ (Nat.le_of_ble_eq_true rfl) ⟨Nat.zero_le _, Nat.zero_le _⟩ dX5_settleByHand_43 rfl (fun v8 M9 => ?_)
  exact x_vret C rfl rfl dX5_settleByHand_46
set_option maxRecDepth 100000 in
set_option maxHeartbeats 4000000 in
theorem ctX2_takeBack {l : Launch} {G : bkG} {M : Mem} {this : Nat} {a1 : Nat} (hk0 : kd this = 1) (hk1 : kd a1 = 4) : ∀ r, fX2_takeBack this a1 M = some r → Met l yX2_takeBack (Cond.code yX2_takeBack cX2_takeBack 3 none :: TT) ({ frames := 4, cells := 0, slots := 0, locals := 90 } : Room) (va_Pc [rv G this, rv G a1] (Wd G M)) (QQ G ((fun _ => none) r.1) r.2) 0 0 (An G) := by
  refine mkMet (vl := (fun _ => none)) RX2 rfl (by decide +kernel) rfl (Nat.le_of_ble_eq_true rfl) [some (rv G this), some (rv G a1), none] rfl ?_
  intro p e s m args below meth c C _
  refine x_aload_n (pc2 := 1) C dX2_takeBack_0 rfl rfl ?_
  refine x_get (pc2 := 4) C fl_X2_12 hk0 (by decide) rfl dX2_takeBack_1 rfl ?_
  refine x_topr (fun z1 => ?_)
  refine x_asr (fun hq2 => ?_)
  refine x_astore_n (pc2 := 5) C dX2_takeBack_4 rfl [some (rv G this), some (rv G a1), some (rv G z1)] rfl rfl ?_
  refine x_aload_n (pc2 := 6) C dX2_takeBack_5 rfl rfl ?_
  refine x_aload_n (pc2 := 7) C dX2_takeBack_6 rfl rfl ?_
  refine x_callVv (pc2 := 10) C [rv G z1] [] cl_X2_27 (fun q hq => ctX5_copyFrom hk1 (of_decide_eq_true hq2) q hq) hk1 rfl rfl rfl ⟨rfl, rfl, Nat.le_of_ble_eq_true rfl, Nat.le_of_ble_eq_true rfl⟩ (Nat.le_of_ble_eq_true rfl) ⟨Nat.zero_le _, Nat.zero_le _⟩ dX2_takeBack_7 rfl (fun v3 M4 => ?_)
  refine x_aload_n (pc2 := 11) C dX2_takeBack_10 rfl rfl ?_
  refine x_aload_n (pc2 := 12) C dX2_takeBack_11 rfl rfl ?_
  refine x_get (pc2 := 15) C fl_X2_18 hk0 (by decide) rfl dX2_takeBack_12 rfl ?_
  refine x_topr (fun z5 => ?_)
  refine x_asr (fun hq6 => ?_)
  refine x_putr (pc2 := 18) C ft_X2_12 hk0 (by decide) (hs_1_1 (of_decide_eq_true hq6)) (Nat.le_of_ble_eq_true rfl) dX2_takeBack_15 rfl (fun M7 => ?_)
  refine x_aload_n (pc2 := 19) C dX2_takeBack_18 rfl rfl ?_
  refine x_aload_n (pc2 := 20) C dX2_takeBack_19 rfl rfl ?_
  refine x_get (pc2 := 23) C fl_X2_21 hk0 (by decide) rfl dX2_takeBack_20 rfl ?_
  refine x_topr (fun z8 => ?_)
  refine x_asr (fun hq9 => ?_)
  refine x_putr (pc2 := 26) C ft_X2_18 hk0 (by decide) (hs_1_2 (of_decide_eq_true hq9)) (Nat.le_of_ble_eq_true rfl) dX2_takeBack_23 rfl (fun M10 => ?_)
  refine x_aload_n (pc2 := 27) C dX2_takeBack_26 rfl rfl ?_
  refine x_aload_n (pc2 := 28) C dX2_takeBack_27 rfl rfl ?_
  refine x_get (pc2 := 31) C fl_X2_24 hk0 (by decide) rfl dX2_takeBack_28 rfl ?_
  refine x_topr (fun z11 => ?_)
  refine x_asr (fun hq12 => ?_)
  refine x_putr (pc2 := 34) C ft_X2_21 hk0 (by decide) (hs_1_3 (of_decide_eq_true hq12)) (Nat.le_of_ble_eq_true rfl) dX2_takeBack_31 rfl (fun M13 => ?_)
  refine x_aload_n (pc2 := 35) C dX2_takeBack_34 rfl rfl ?_
  refine x_aload_n (pc2 := 36) C dX2_takeBack_35 rfl rfl ?_
  refine x_putr (pc2 := 39) C ft_X2_24 hk0 (by decide) (hs_1_4 (of_decide_eq_true hq2)) (Nat.le_of_ble_eq_true rfl) dX2_takeBack_36 rfl (fun M14 => ?_)
  refine x_aload_n (pc2 := 40) C dX2_takeBack_39 rfl rfl ?_
  refine x_dup (pc2 := 41) C dX2_takeBack_40 rfl rfl ?_
  refine x_get (pc2 := 44) C fl_X2_31 hk0 (by decide) rfl dX2_takeBack_41 rfl ?_
  refine x_iconst (pc2 := 45) C dX2_takeBack_44 rfl ic_1 ?_
  refine x_isub (pc2 := 46) C dX2_takeBack_45 rfl ?_
  refine x_puti (pc2 := 49) C ft_X2_31 hk0 (by decide) hs_1_0 (Nat.le_of_ble_eq_true rfl) dX2_takeBack_46 rfl (fun M15 => ?_)
  exact x_vret C rfl rfl dX2_takeBack_49
