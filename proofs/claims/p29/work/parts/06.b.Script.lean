set_option maxRecDepth 100000 in
set_option maxHeartbeats 4000000 in
theorem ctX3_characterAt {l : Launch} {G : bkG} {M : Mem} {this : Nat} {a1 : Int32} (hk0 : kd this = 2) : ∀ r, fX3_characterAt this a1 M = some r → Met l yX3_characterAt (Cond.code yX3_characterAt cX3_characterAt 2 (some .char) :: TT) ({ frames := 0, cells := 0, slots := 0, locals := 0 } : Room) (va_Pc [rv G this, .int a1] (Wd G M)) (QQ G ((fun v => some (.int v)) r.1) r.2) 0 0 (An G) := by
  refine mkMet (vl := (fun v => some (.int v))) RX3 rfl (by decide +kernel) rfl (Nat.le_of_ble_eq_true rfl) [some (rv G this), some (.int a1)] rfl ?_
  intro p e s m args below meth c C _
  refine x_iload_n (pc2 := 1) C dX3_characterAt_0 rfl rfl ?_
  refine x_if_lt (tgt := 30) (pc2 := 4) C dX3_characterAt_1 (by decide) rfl ?_ ?_
  · refine x_iconst (pc2 := 31) C dX3_characterAt_30 rfl ic_0 ?_
    exact x_cret C rfl rfl dX3_characterAt_31
  · refine x_iload_n (pc2 := 5) C dX3_characterAt_4 rfl rfl ?_
    refine x_aload_n (pc2 := 6) C dX3_characterAt_5 rfl rfl ?_
    refine x_get (pc2 := 9) C fl_X3_15 hk0 (by decide) rfl dX3_characterAt_6 rfl ?_
    refine x_icmp_ge (tgt := 30) (pc2 := 12) C dX3_characterAt_9 (by decide) rfl ?_ ?_
    · refine x_iconst (pc2 := 31) C dX3_characterAt_30 rfl ic_0 ?_
      exact x_cret C rfl rfl dX3_characterAt_31
    · refine x_iload_n (pc2 := 13) C dX3_characterAt_12 rfl rfl ?_
      refine x_aload_n (pc2 := 14) C dX3_characterAt_13 rfl rfl ?_
      refine x_get (pc2 := 17) C fl_X3_9 hk0 (by decide) rfl dX3_characterAt_14 rfl ?_
      refine x_calen (pc2 := 18) C (kf_2_1 hk0) dX3_characterAt_17 rfl ?_
      refine x_icmp_ge (tgt := 30) (pc2 := 21) C dX3_characterAt_18 (by decide) rfl ?_ ?_
      · refine x_iconst (pc2 := 31) C dX3_characterAt_30 rfl ic_0 ?_
        exact x_cret C rfl rfl dX3_characterAt_31
      · refine x_aload_n (pc2 := 22) C dX3_characterAt_21 rfl rfl ?_
        refine x_get (pc2 := 25) C fl_X3_9 hk0 (by decide) rfl dX3_characterAt_22 rfl ?_
        refine x_iload_n (pc2 := 26) C dX3_characterAt_25 rfl rfl ?_
        refine x_cald (pc2 := 27) C (kf_2_1 hk0) dX3_characterAt_26 rfl ?_
        refine x_goto (tgt := 31) C dX3_characterAt_27 (by decide) ?_
        exact x_cret C rfl rfl dX3_characterAt_31
set_option maxRecDepth 100000 in
set_option maxHeartbeats 4000000 in
theorem ctX3_isDigit {l : Launch} {G : bkG} {M : Mem} {a1 : Int32}  : ∀ r, fX3_isDigit a1 M = some r → Met l yX3_isDigit (Cond.code yX3_isDigit cX3_isDigit 1 (some .boolean) :: TT) ({ frames := 0, cells := 0, slots := 0, locals := 0 } : Room) (va_Pc [.int a1] (Wd G M)) (QQ G ((fun v => some (.int v)) r.1) r.2) 0 0 (An G) := by
  refine mkMet (vl := (fun v => some (.int v))) RX3 rfl (by decide +kernel) rfl (Nat.le_of_ble_eq_true rfl) [some (.int a1)] rfl ?_
  intro p e s m args below meth c C _
  refine x_iload_n (pc2 := 1) C dX3_isDigit_0 rfl rfl ?_
  refine x_bipush (pc2 := 3) C dX3_isDigit_1 rfl bc_48 ?_
  refine x_icmp_lt (tgt := 16) (pc2 := 6) C dX3_isDigit_3 (by decide) rfl ?_ ?_
  · refine x_iconst (pc2 := 17) C dX3_isDigit_16 rfl ic_0 ?_
    exact x_zret C rfl rfl rfl dX3_isDigit_17
  · refine x_iload_n (pc2 := 7) C dX3_isDigit_6 rfl rfl ?_
    refine x_bipush (pc2 := 9) C dX3_isDigit_7 rfl bc_57 ?_
    refine x_icmp_gt (tgt := 16) (pc2 := 12) C dX3_isDigit_9 (by decide) rfl ?_ ?_
    · refine x_iconst (pc2 := 17) C dX3_isDigit_16 rfl ic_0 ?_
      exact x_zret C rfl rfl rfl dX3_isDigit_17
    · refine x_iconst (pc2 := 13) C dX3_isDigit_12 rfl ic_1 ?_
      refine x_goto (tgt := 17) C dX3_isDigit_13 (by decide) ?_
      exact x_zret C rfl rfl rfl dX3_isDigit_17
set_option maxRecDepth 100000 in
set_option maxHeartbeats 4000000 in
theorem ctX3_placeAfter {l : Launch} {G : bkG} {M : Mem} {a1 : Int32} {a2 : Int32}  : ∀ r, fX3_placeAfter a1 a2 M = some r → Met l yX3_placeAfter (Cond.code yX3_placeAfter cX3_placeAfter 2 (some .int) :: TT) ({ frames := 1, cells := 0, slots := 0, locals := 20 } : Room) (va_Pc [.int a1, .int a2] (Wd G M)) (QQ G ((fun v => some (.int v)) r.1) r.2) 0 0 (An G) := by
  refine mkMet (vl := (fun v => some (.int v))) RX3 rfl (by decide +kernel) rfl (Nat.le_of_ble_eq_true rfl) [some (.int a1), some (.int a2)] rfl ?_
  intro p e s m args below meth c C _
  refine x_iload_n (pc2 := 1) C dX3_placeAfter_0 rfl rfl ?_
  refine x_ite (fun hs1 => ?_) (fun hs1 => ?_)
  · refine x_tin (tgt := 36) C hs1 dX3_placeAfter_1 (by decide) (by decide) rfl (by decide) ?_
    refine x_iload_n (pc2 := 37) C dX3_placeAfter_36 rfl rfl ?_
    refine x_bipush (pc2 := 39) C dX3_placeAfter_37 rfl bc_116 ?_
    refine x_icmp_ne (tgt := 44) (pc2 := 42) C dX3_placeAfter_39 (by decide) rfl ?_ ?_
    · refine x_iload_n (pc2 := 45) C dX3_placeAfter_44 rfl rfl ?_
      refine x_bipush (pc2 := 47) C dX3_placeAfter_45 rfl bc_48 ?_
      refine x_jn 56 (fun (b2 : Unit) => [none, none]) (fun (b2 : Unit) => []) ?_ ?_
      · intro b2 M4
        refine x_iconst (pc2 := 57) C dX3_placeAfter_56 rfl ic_1 ?_
        refine x_goto (tgt := 61) C dX3_placeAfter_57 (by decide) ?_
        exact x_iret C rfl rfl dX3_placeAfter_61
      · intro j3 hj3
        refine x_icmp_eq (tgt := 56) (pc2 := 50) C dX3_placeAfter_47 (by decide) rfl ?_ ?_
        · exact x_wk [none, none] ⟨Or.inl rfl, Or.inl rfl, trivial⟩ (hj3 () _)
        · refine x_iload_n (pc2 := 51) C dX3_placeAfter_50 rfl rfl ?_
          refine x_bipush (pc2 := 53) C dX3_placeAfter_51 rfl bc_49 ?_
          refine x_icmp_ne (tgt := 60) (pc2 := 56) C dX3_placeAfter_53 (by decide) rfl ?_ ?_
          · refine x_iconst (pc2 := 61) C dX3_placeAfter_60 rfl ic_m1 ?_
            exact x_iret C rfl rfl dX3_placeAfter_61
          · exact x_wk [none, none] ⟨Or.inl rfl, Or.inl rfl, trivial⟩ (hj3 () _)
    · refine x_iconst (pc2 := 43) C dX3_placeAfter_42 rfl ic_3 ?_
      exact x_iret C rfl rfl dX3_placeAfter_43
  · refine x_ite (fun hs5 => ?_) (fun hs5 => ?_)
    · refine x_tin (tgt := 62) C hs5 dX3_placeAfter_1 (by decide) (by decide) rfl (by decide) ?_
      refine x_iload_n (pc2 := 63) C dX3_placeAfter_62 rfl rfl ?_
      refine x_bipush (pc2 := 65) C dX3_placeAfter_63 rfl bc_100 ?_
      refine x_jn 74 (fun (b6 : Unit) => [none, none]) (fun (b6 : Unit) => []) ?_ ?_
      · intro b6 M8
        refine x_iconst (pc2 := 75) C dX3_placeAfter_74 rfl ic_2 ?_
        refine x_goto (tgt := 79) C dX3_placeAfter_75 (by decide) ?_
        exact x_iret C rfl rfl dX3_placeAfter_79
      · intro j7 hj7
        refine x_icmp_eq (tgt := 74) (pc2 := 68) C dX3_placeAfter_65 (by decide) rfl ?_ ?_
        · exact x_wk [none, none] ⟨Or.inl rfl, Or.inl rfl, trivial⟩ (hj7 () _)
        · refine x_iload_n (pc2 := 69) C dX3_placeAfter_68 rfl rfl ?_
          refine x_bipush (pc2 := 71) C dX3_placeAfter_69 rfl bc_117 ?_
          refine x_icmp_ne (tgt := 78) (pc2 := 74) C dX3_placeAfter_71 (by decide) rfl ?_ ?_
          · refine x_iconst (pc2 := 79) C dX3_placeAfter_78 rfl ic_m1 ?_
            exact x_iret C rfl rfl dX3_placeAfter_79
          · exact x_wk [none, none] ⟨Or.inl rfl, Or.inl rfl, trivial⟩ (hj7 () _)
    · refine x_ite (fun hs9 => ?_) (fun hs9 => ?_)
      · refine x_tin (tgt := 80) C hs9 dX3_placeAfter_1 (by decide) (by decide) rfl (by decide) ?_
        refine x_iload_n (pc2 := 81) C dX3_placeAfter_80 rfl rfl ?_
        refine x_bipush (pc2 := 83) C dX3_placeAfter_81 rfl bc_48 ?_
        refine x_icmp_ne (tgt := 88) (pc2 := 86) C dX3_placeAfter_83 (by decide) rfl ?_ ?_
        · refine x_iload_n (pc2 := 89) C dX3_placeAfter_88 rfl rfl ?_
          refine x_callSi (pc2 := 92) C [.int a2] [] cl_X3_27 (fun q hq => ctX3_isDigit  q hq) rfl rfl ⟨rfl, rfl, Nat.le_of_ble_eq_true rfl, Nat.le_of_ble_eq_true rfl⟩ (Nat.le_of_ble_eq_true rfl) ⟨Nat.zero_le _, Nat.zero_le _⟩ dX3_placeAfter_89 rfl (fun v10 M11 => ?_)
          refine x_if_eq (tgt := 99) (pc2 := 95) C dX3_placeAfter_92 (by decide) rfl ?_ ?_
          · refine x_iconst (pc2 := 100) C dX3_placeAfter_99 rfl ic_m1 ?_
            exact x_iret C rfl rfl dX3_placeAfter_100
          · refine x_iconst (pc2 := 96) C dX3_placeAfter_95 rfl ic_4 ?_
            refine x_goto (tgt := 100) C dX3_placeAfter_96 (by decide) ?_
            exact x_iret C rfl rfl dX3_placeAfter_100
        · refine x_iconst (pc2 := 87) C dX3_placeAfter_86 rfl ic_5 ?_
          exact x_iret C rfl rfl dX3_placeAfter_87
      · refine x_ite (fun hs12 => ?_) (fun hs12 => ?_)
        · refine x_tin (tgt := 101) C hs12 dX3_placeAfter_1 (by decide) (by decide) rfl (by decide) ?_
          refine x_iload_n (pc2 := 102) C dX3_placeAfter_101 rfl rfl ?_
          refine x_callSi (pc2 := 105) C [.int a2] [] cl_X3_27 (fun q hq => ctX3_isDigit  q hq) rfl rfl ⟨rfl, rfl, Nat.le_of_ble_eq_true rfl, Nat.le_of_ble_eq_true rfl⟩ (Nat.le_of_ble_eq_true rfl) ⟨Nat.zero_le _, Nat.zero_le _⟩ dX3_placeAfter_102 rfl (fun v13 M14 => ?_)
          refine x_if_eq (tgt := 118) (pc2 := 108) C dX3_placeAfter_105 (by decide) rfl ?_ ?_
          · refine x_iconst (pc2 := 119) C dX3_placeAfter_118 rfl ic_m1 ?_
            exact x_iret C rfl rfl dX3_placeAfter_119
          · refine x_iload_n (pc2 := 109) C dX3_placeAfter_108 rfl rfl ?_
            refine x_bipush (pc2 := 111) C dX3_placeAfter_109 rfl bc_48 ?_
            refine x_icmp_eq (tgt := 118) (pc2 := 114) C dX3_placeAfter_111 (by decide) rfl ?_ ?_
            · refine x_iconst (pc2 := 119) C dX3_placeAfter_118 rfl ic_m1 ?_
              exact x_iret C rfl rfl dX3_placeAfter_119
            · refine x_iconst (pc2 := 115) C dX3_placeAfter_114 rfl ic_4 ?_
              refine x_goto (tgt := 119) C dX3_placeAfter_115 (by decide) ?_
              exact x_iret C rfl rfl dX3_placeAfter_119
        · refine x_ite (fun hs15 => ?_) (fun hs15 => ?_)
          · refine x_tin (tgt := 120) C hs15 dX3_placeAfter_1 (by decide) (by decide) rfl (by decide) ?_
            refine x_iload_n (pc2 := 121) C dX3_placeAfter_120 rfl rfl ?_
            refine x_callSi (pc2 := 124) C [.int a2] [] cl_X3_27 (fun q hq => ctX3_isDigit  q hq) rfl rfl ⟨rfl, rfl, Nat.le_of_ble_eq_true rfl, Nat.le_of_ble_eq_true rfl⟩ (Nat.le_of_ble_eq_true rfl) ⟨Nat.zero_le _, Nat.zero_le _⟩ dX3_placeAfter_121 rfl (fun v16 M17 => ?_)
            refine x_if_eq (tgt := 129) (pc2 := 127) C dX3_placeAfter_124 (by decide) rfl ?_ ?_
            · refine x_iload_n (pc2 := 130) C dX3_placeAfter_129 rfl rfl ?_
              refine x_bipush (pc2 := 132) C dX3_placeAfter_130 rfl bc_59 ?_
              refine x_icmp_ne (tgt := 139) (pc2 := 135) C dX3_placeAfter_132 (by decide) rfl ?_ ?_
              · refine x_iconst (pc2 := 140) C dX3_placeAfter_139 rfl ic_m1 ?_
                exact x_iret C rfl rfl dX3_placeAfter_140
              · refine x_iconst (pc2 := 136) C dX3_placeAfter_135 rfl ic_0 ?_
                refine x_goto (tgt := 140) C dX3_placeAfter_136 (by decide) ?_
                exact x_iret C rfl rfl dX3_placeAfter_140
            · refine x_iconst (pc2 := 128) C dX3_placeAfter_127 rfl ic_5 ?_
              exact x_iret C rfl rfl dX3_placeAfter_128
          · refine x_tout (tgt := 141) C dX3_placeAfter_1 (by have t0 := lv_neT (a := 0) hs1 rfl; have t1 := lv_neT (a := 1) hs5 rfl; have t2 := lv_neT (a := 2) hs9 rfl; have t3 := lv_neT (a := 3) hs12 rfl; have t4 := lv_neT (a := 4) hs15 rfl; omega) (by decide) ?_
            refine x_iload_n (pc2 := 142) C dX3_placeAfter_141 rfl rfl ?_
            refine x_bipush (pc2 := 144) C dX3_placeAfter_142 rfl bc_59 ?_
            refine x_icmp_ne (tgt := 151) (pc2 := 147) C dX3_placeAfter_144 (by decide) rfl ?_ ?_
            · refine x_iconst (pc2 := 152) C dX3_placeAfter_151 rfl ic_m1 ?_
              exact x_iret C rfl rfl dX3_placeAfter_152
            · refine x_iconst (pc2 := 148) C dX3_placeAfter_147 rfl ic_0 ?_
              refine x_goto (tgt := 152) C dX3_placeAfter_148 (by decide) ?_
              exact x_iret C rfl rfl dX3_placeAfter_152
set_option maxRecDepth 100000 in
set_option maxHeartbeats 4000000 in
theorem ctX3_fault {l : Launch} {G : bkG} {M : Mem} {this : Nat} (hk0 : kd this = 2) : ∀ r, fX3_fault this M = some r → Met l yX3_fault (Cond.code yX3_fault cX3_fault 3 (some .int) :: TT) ({ frames := 2, cells := 0, slots := 0, locals := 41 } : Room) (va_Pc [rv G this] (Wd G M)) (QQ G ((fun v => some (.int v)) r.1) r.2) 0 0 (An G) := by
  refine mkMet (vl := (fun v => some (.int v))) RX3 rfl (by decide +kernel) rfl (Nat.le_of_ble_eq_true rfl) [some (rv G this), none, none] rfl ?_
  intro p e s m args below meth c C _
  refine x_iconst (pc2 := 1) C dX3_fault_0 rfl ic_0 ?_
  refine x_istore_n (pc2 := 2) C dX3_fault_1 rfl [some (rv G this), some (.int 0), none] rfl rfl ?_
  refine x_iconst (pc2 := 3) C dX3_fault_2 rfl ic_0 ?_
  refine x_istore_n (pc2 := 4) C dX3_fault_3 rfl [some (rv G this), some (.int 0), some (.int 0)] rfl rfl ?_
  refine x_wk [some (rv G this), some (.int 0), some (.int 0)] ⟨Or.inr rfl, Or.inr rfl, Or.inr rfl, trivial⟩ ?_
  refine x_lp1 (fun (b1 : Int32 × Int32) => [some (rv G this), some (.int b1.1), some (.int b1.2)]) 35 (fun (b4 : Int32) => [some (rv G this), some (.int b4), none]) ?_ ?_
  · intro b4 M5
    refine x_iload_n (pc2 := 36) C dX3_fault_35 rfl rfl ?_
    refine x_iconst (pc2 := 37) C dX3_fault_36 rfl ic_4 ?_
    refine x_jn 45 (fun (b6 : Unit) => [none, none, none]) (fun (b6 : Unit) => []) ?_ ?_
    · intro b6 M8
      refine x_iconst (pc2 := 46) C dX3_fault_45 rfl ic_m1 ?_
      refine x_goto (tgt := 53) C dX3_fault_46 (by decide) ?_
      exact x_iret C rfl rfl dX3_fault_53
    · intro j7 hj7
      refine x_icmp_eq (tgt := 45) (pc2 := 40) C dX3_fault_37 (by decide) rfl ?_ ?_
      · exact x_wk [none, none, none] ⟨Or.inl rfl, Or.inl rfl, Or.inl rfl, trivial⟩ (hj7 () _)
      · refine x_iload_n (pc2 := 41) C dX3_fault_40 rfl rfl ?_
        refine x_iconst (pc2 := 42) C dX3_fault_41 rfl ic_5 ?_
        refine x_icmp_ne (tgt := 49) (pc2 := 45) C dX3_fault_42 (by decide) rfl ?_ ?_
        · refine x_aload_n (pc2 := 50) C dX3_fault_49 rfl rfl ?_
          refine x_get (pc2 := 53) C fl_X3_15 hk0 (by decide) rfl dX3_fault_50 rfl ?_
          exact x_iret C rfl rfl dX3_fault_53
        · exact x_wk [none, none, none] ⟨Or.inl rfl, Or.inl rfl, Or.inl rfl, trivial⟩ (hj7 () _)
  · intro k9 hk9 rec3 hrec3 b1 M2
    refine x_iload_n (pc2 := 5) C dX3_fault_4 rfl rfl ?_
    refine x_aload_n (pc2 := 6) C dX3_fault_5 rfl rfl ?_
    refine x_get (pc2 := 9) C fl_X3_15 hk0 (by decide) rfl dX3_fault_6 rfl ?_
    refine x_icmp_ge (tgt := 35) (pc2 := 12) C dX3_fault_9 (by decide) rfl ?_ ?_
    · exact x_wk [some (rv G this), some (.int b1.1), none] ⟨Or.inr rfl, Or.inr rfl, Or.inl rfl, trivial⟩ (hk9 b1.1 _)
    · refine x_iload_n (pc2 := 13) C dX3_fault_12 rfl rfl ?_
      refine x_aload_n (pc2 := 14) C dX3_fault_13 rfl rfl ?_
      refine x_iload_n (pc2 := 15) C dX3_fault_14 rfl rfl ?_
      refine x_callVi (pc2 := 18) C [.int b1.2] [.int b1.1] cl_X3_19 (fun q hq => ctX3_characterAt hk0 q hq) hk0 rfl rfl rfl ⟨rfl, rfl, Nat.le_of_ble_eq_true rfl, Nat.le_of_ble_eq_true rfl⟩ (Nat.le_of_ble_eq_true rfl) ⟨Nat.zero_le _, Nat.zero_le _⟩ dX3_fault_15 rfl (fun v10 M11 => ?_)
      refine x_callSi (pc2 := 21) C [.int b1.1, .int v10] [] cl_X3_23 (fun q hq => ctX3_placeAfter  q hq) rfl rfl ⟨rfl, rfl, Nat.le_of_ble_eq_true rfl, Nat.le_of_ble_eq_true rfl⟩ (Nat.le_of_ble_eq_true rfl) ⟨Nat.zero_le _, Nat.zero_le _⟩ dX3_fault_18 rfl (fun v12 M13 => ?_)
      refine x_istore_n (pc2 := 22) C dX3_fault_21 rfl [some (rv G this), some (.int v12), some (.int b1.2)] rfl rfl ?_
      refine x_iload_n (pc2 := 23) C dX3_fault_22 rfl rfl ?_
      refine x_iconst (pc2 := 24) C dX3_fault_23 rfl ic_m1 ?_
      refine x_icmp_ne (tgt := 29) (pc2 := 27) C dX3_fault_24 (by decide) rfl ?_ ?_
      · refine x_iinc (pc2 := 32) (v := b1.2 + 1) C dX3_fault_29 rfl rfl 1 ic_1 rfl [some (rv G this), some (.int v12), some (.int (b1.2 + 1))] rfl rfl ?_
        refine x_goto (tgt := 4) C dX3_fault_32 (by decide) ?_
        exact x_wk [some (rv G this), some (.int v12), some (.int (b1.2 + 1))] ⟨Or.inr rfl, Or.inr rfl, Or.inr rfl, trivial⟩ (hrec3 (v12, b1.2 + 1) _)
      · refine x_iload_n (pc2 := 28) C dX3_fault_27 rfl rfl ?_
        exact x_iret C rfl rfl dX3_fault_28
set_option maxRecDepth 100000 in
set_option maxHeartbeats 4000000 in
theorem ctX3_isMoveEnd {l : Launch} {G : bkG} {M : Mem} {this : Nat} {a1 : Int32} (hk0 : kd this = 2) : ∀ r, fX3_isMoveEnd this a1 M = some r → Met l yX3_isMoveEnd (Cond.code yX3_isMoveEnd cX3_isMoveEnd 2 (some .boolean) :: TT) ({ frames := 1, cells := 0, slots := 0, locals := 21 } : Room) (va_Pc [rv G this, .int a1] (Wd G M)) (QQ G ((fun v => some (.int v)) r.1) r.2) 0 0 (An G) := by
  refine mkMet (vl := (fun v => some (.int v))) RX3 rfl (by decide +kernel) rfl (Nat.le_of_ble_eq_true rfl) [some (rv G this), some (.int a1)] rfl ?_
  intro p e s m args below meth c C _
  refine x_iload_n (pc2 := 1) C dX3_isMoveEnd_0 rfl rfl ?_
  refine x_aload_n (pc2 := 2) C dX3_isMoveEnd_1 rfl rfl ?_
  refine x_get (pc2 := 5) C fl_X3_15 hk0 (by decide) rfl dX3_isMoveEnd_2 rfl ?_
  refine x_jn 18 (fun (b1 : Unit) => [none, none]) (fun (b1 : Unit) => []) ?_ ?_
  · intro b1 M3
    refine x_iconst (pc2 := 19) C dX3_isMoveEnd_18 rfl ic_1 ?_
    refine x_goto (tgt := 23) C dX3_isMoveEnd_19 (by decide) ?_
    exact x_zret C rfl rfl rfl dX3_isMoveEnd_23
  · intro j2 hj2
    refine x_icmp_eq (tgt := 18) (pc2 := 8) C dX3_isMoveEnd_5 (by decide) rfl ?_ ?_
    · exact x_wk [none, none] ⟨Or.inl rfl, Or.inl rfl, trivial⟩ (hj2 () _)
    · refine x_aload_n (pc2 := 9) C dX3_isMoveEnd_8 rfl rfl ?_
      refine x_iload_n (pc2 := 10) C dX3_isMoveEnd_9 rfl rfl ?_
      refine x_callVi (pc2 := 13) C [.int a1] [] cl_X3_19 (fun q hq => ctX3_characterAt hk0 q hq) hk0 rfl rfl rfl ⟨rfl, rfl, Nat.le_of_ble_eq_true rfl, Nat.le_of_ble_eq_true rfl⟩ (Nat.le_of_ble_eq_true rfl) ⟨Nat.zero_le _, Nat.zero_le _⟩ dX3_isMoveEnd_10 rfl (fun v4 M5 => ?_)
      refine x_bipush (pc2 := 15) C dX3_isMoveEnd_13 rfl bc_59 ?_
      refine x_icmp_ne (tgt := 22) (pc2 := 18) C dX3_isMoveEnd_15 (by decide) rfl ?_ ?_
      · refine x_iconst (pc2 := 23) C dX3_isMoveEnd_22 rfl ic_0 ?_
        exact x_zret C rfl rfl rfl dX3_isMoveEnd_23
      · exact x_wk [none, none] ⟨Or.inl rfl, Or.inl rfl, trivial⟩ (hj2 () _)
set_option maxRecDepth 100000 in
set_option maxHeartbeats 4000000 in
theorem ctX3_number {l : Launch} {G : bkG} {M : Mem} {this : Nat} {a1 : Int32} {a2 : Int32} (hk0 : kd this = 2) : ∀ r, fX3_number this a1 a2 M = some r → Met l yX3_number (Cond.code yX3_number cX3_number 5 (some .int) :: TT) ({ frames := 1, cells := 0, slots := 0, locals := 21 } : Room) (va_Pc [rv G this, .int a1, .int a2] (Wd G M)) (QQ G ((fun v => some (.int v)) r.1) r.2) 0 0 (An G) := by
  refine mkMet (vl := (fun v => some (.int v))) RX3 rfl (by decide +kernel) rfl (Nat.le_of_ble_eq_true rfl) [some (rv G this), some (.int a1), some (.int a2), none, none] rfl ?_
  intro p e s m args below meth c C _
  refine x_iconst (pc2 := 1) C dX3_number_0 rfl ic_0 ?_
  refine x_istore_n (pc2 := 2) C dX3_number_1 rfl [some (rv G this), some (.int a1), some (.int a2), some (.int 0), none] rfl rfl ?_
  refine x_iload_n (pc2 := 3) C dX3_number_2 rfl rfl ?_
  refine x_istore (pc2 := 5) C dX3_number_3 rfl [some (rv G this), some (.int a1), some (.int a2), some (.int 0), some (.int a1)] rfl rfl ?_
  refine x_wk [some (rv G this), none, some (.int a2), some (.int 0), some (.int a1)] ⟨Or.inr rfl, Or.inl rfl, Or.inr rfl, Or.inr rfl, Or.inr rfl, trivial⟩ ?_
  refine x_lp (fun (b1 : Int32 × Int32) => [some (rv G this), none, some (.int a2), some (.int b1.1), some (.int b1.2)]) ?_
  · intro rec3 hrec3 b1 M2
    refine x_iload (pc2 := 7) C dX3_number_5 rfl rfl ?_
    refine x_iload_n (pc2 := 8) C dX3_number_7 rfl rfl ?_
    refine x_icmp_ge (tgt := 32) (pc2 := 11) C dX3_number_8 (by decide) rfl ?_ ?_
    · refine x_iload_n (pc2 := 33) C dX3_number_32 rfl rfl ?_
      exact x_iret C rfl rfl dX3_number_33
    · refine x_iload_n (pc2 := 12) C dX3_number_11 rfl rfl ?_
      refine x_bipush (pc2 := 14) C dX3_number_12 rfl bc_10 ?_
      refine x_imul (pc2 := 15) C dX3_number_14 rfl ?_
      refine x_aload_n (pc2 := 16) C dX3_number_15 rfl rfl ?_
      refine x_iload (pc2 := 18) C dX3_number_16 rfl rfl ?_
      refine x_callVi (pc2 := 21) C [.int b1.2] [.int (b1.1 * 10)] cl_X3_19 (fun q hq => ctX3_characterAt hk0 q hq) hk0 rfl rfl rfl ⟨rfl, rfl, Nat.le_of_ble_eq_true rfl, Nat.le_of_ble_eq_true rfl⟩ (Nat.le_of_ble_eq_true rfl) ⟨Nat.zero_le _, Nat.zero_le _⟩ dX3_number_18 rfl (fun v4 M5 => ?_)
      refine x_bipush (pc2 := 23) C dX3_number_21 rfl bc_48 ?_
      refine x_isub (pc2 := 24) C dX3_number_23 rfl ?_
      refine x_iadd (pc2 := 25) C dX3_number_24 rfl ?_
      refine x_topi (fun v6 => ?_)
      refine x_istore_n (pc2 := 26) C dX3_number_25 rfl [some (rv G this), none, some (.int a2), some (.int v6), some (.int b1.2)] rfl rfl ?_
      refine x_iinc (pc2 := 29) (v := b1.2 + 1) C dX3_number_26 rfl rfl 1 ic_1 rfl [some (rv G this), none, some (.int a2), some (.int v6), some (.int (b1.2 + 1))] rfl rfl ?_
      refine x_goto (tgt := 5) C dX3_number_29 (by decide) ?_
      exact x_wk [some (rv G this), none, some (.int a2), some (.int v6), some (.int (b1.2 + 1))] ⟨Or.inr rfl, Or.inl rfl, Or.inr rfl, Or.inr rfl, Or.inr rfl, trivial⟩ (hrec3 (v6, b1.2 + 1) _)
set_option maxRecDepth 100000 in
set_option maxHeartbeats 4000000 in
theorem ctX3_append {l : Launch} {G : bkG} {M : Mem} {this : Nat} {a1 : Int32} (hk0 : kd this = 2) : ∀ r, fX3_append this a1 M = some r → Met l yX3_append (Cond.code yX3_append cX3_append 2 (some .boolean) :: TT) ({ frames := 0, cells := 0, slots := 0, locals := 0 } : Room) (va_Pc [rv G this, .int a1] (Wd G M)) (QQ G ((fun v => some (.int v)) r.1) r.2) 0 0 (An G) := by
  refine mkMet (vl := (fun v => some (.int v))) RX3 rfl (by decide +kernel) rfl (Nat.le_of_ble_eq_true rfl) [some (rv G this), some (.int a1)] rfl ?_
  intro p e s m args below meth c C _
  refine x_aload_n (pc2 := 1) C dX3_append_0 rfl rfl ?_
  refine x_get (pc2 := 4) C fl_X3_15 hk0 (by decide) rfl dX3_append_1 rfl ?_
  refine x_if_lt (tgt := 19) (pc2 := 7) C dX3_append_4 (by decide) rfl ?_ ?_
  · refine x_iconst (pc2 := 20) C dX3_append_19 rfl ic_0 ?_
    exact x_zret C rfl rfl rfl dX3_append_20
  · refine x_aload_n (pc2 := 8) C dX3_append_7 rfl rfl ?_
    refine x_get (pc2 := 11) C fl_X3_15 hk0 (by decide) rfl dX3_append_8 rfl ?_
    refine x_aload_n (pc2 := 12) C dX3_append_11 rfl rfl ?_
    refine x_get (pc2 := 15) C fl_X3_9 hk0 (by decide) rfl dX3_append_12 rfl ?_
    refine x_calen (pc2 := 16) C (kf_2_1 hk0) dX3_append_15 rfl ?_
    refine x_icmp_lt (tgt := 21) (pc2 := 19) C dX3_append_16 (by decide) rfl ?_ ?_
    · refine x_aload_n (pc2 := 22) C dX3_append_21 rfl rfl ?_
      refine x_get (pc2 := 25) C fl_X3_9 hk0 (by decide) rfl dX3_append_22 rfl ?_
      refine x_aload_n (pc2 := 26) C dX3_append_25 rfl rfl ?_
      refine x_get (pc2 := 29) C fl_X3_15 hk0 (by decide) rfl dX3_append_26 rfl ?_
      refine x_iload_n (pc2 := 30) C dX3_append_29 rfl rfl ?_
      refine x_cast (pc2 := 31) C (kf_2_1 hk0) dX3_append_30 rfl (fun M1 => ?_)
      refine x_aload_n (pc2 := 32) C dX3_append_31 rfl rfl ?_
      refine x_dup (pc2 := 33) C dX3_append_32 rfl rfl ?_
      refine x_get (pc2 := 36) C fl_X3_15 hk0 (by decide) rfl dX3_append_33 rfl ?_
      refine x_iconst (pc2 := 37) C dX3_append_36 rfl ic_1 ?_
      refine x_iadd (pc2 := 38) C dX3_append_37 rfl ?_
      refine x_puti (pc2 := 41) C ft_X3_15 hk0 (by decide) hs_2_0 (Nat.le_of_ble_eq_true rfl) dX3_append_38 rfl (fun M2 => ?_)
      refine x_iconst (pc2 := 42) C dX3_append_41 rfl ic_1 ?_
      exact x_zret C rfl rfl rfl dX3_append_42
    · refine x_iconst (pc2 := 20) C dX3_append_19 rfl ic_0 ?_
      exact x_zret C rfl rfl rfl dX3_append_20
