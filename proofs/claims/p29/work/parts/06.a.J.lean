set_option maxRecDepth 100000 in
set_option maxHeartbeats 4000000 in
theorem ctJ6_bitCount_0f7a4 {l : Launch} {G : bkG} {M : Mem} {a1 : Int32}  : ∀ r, fJ6_bitCount_0f7a4 a1 M = some r → Met l yJ6_bitCount_0f7a4 (Cond.code yJ6_bitCount_0f7a4 cJ6_bitCount_0f7a4 1 (some .int) :: TT) ({ frames := 0, cells := 0, slots := 0, locals := 0 } : Room) (va_Pc [.int a1] (Wd G M)) (QQ G ((fun v => some (.int v)) r.1) r.2) 0 0 (An G) := by
  refine mkMet (vl := (fun v => some (.int v))) RJ6 rfl (by decide +kernel) rfl (Nat.le_of_ble_eq_true rfl) [some (.int a1)] rfl ?_
  intro p e s m args below meth c C _
  refine x_iload_n (pc2 := 1) C dJ6_bitCount_0f7a4_0 rfl rfl ?_
  refine x_iload_n (pc2 := 2) C dJ6_bitCount_0f7a4_1 rfl rfl ?_
  refine x_iconst (pc2 := 3) C dJ6_bitCount_0f7a4_2 rfl ic_1 ?_
  refine x_iushr (pc2 := 4) C dJ6_bitCount_0f7a4_3 rfl ?_
  refine x_ldcw (pc2 := 7) C wt2_57 dJ6_bitCount_0f7a4_4 rfl ?_
  refine x_iand (pc2 := 8) C dJ6_bitCount_0f7a4_7 rfl ?_
  refine x_isub (pc2 := 9) C dJ6_bitCount_0f7a4_8 rfl ?_
  refine x_topi (fun v1 => ?_)
  refine x_istore_n (pc2 := 10) C dJ6_bitCount_0f7a4_9 rfl [some (.int v1)] rfl rfl ?_
  refine x_iload_n (pc2 := 11) C dJ6_bitCount_0f7a4_10 rfl rfl ?_
  refine x_ldcw (pc2 := 14) C wt2_58 dJ6_bitCount_0f7a4_11 rfl ?_
  refine x_iand (pc2 := 15) C dJ6_bitCount_0f7a4_14 rfl ?_
  refine x_iload_n (pc2 := 16) C dJ6_bitCount_0f7a4_15 rfl rfl ?_
  refine x_iconst (pc2 := 17) C dJ6_bitCount_0f7a4_16 rfl ic_2 ?_
  refine x_iushr (pc2 := 18) C dJ6_bitCount_0f7a4_17 rfl ?_
  refine x_ldcw (pc2 := 21) C wt2_58 dJ6_bitCount_0f7a4_18 rfl ?_
  refine x_iand (pc2 := 22) C dJ6_bitCount_0f7a4_21 rfl ?_
  refine x_iadd (pc2 := 23) C dJ6_bitCount_0f7a4_22 rfl ?_
  refine x_topi (fun v2 => ?_)
  refine x_istore_n (pc2 := 24) C dJ6_bitCount_0f7a4_23 rfl [some (.int v2)] rfl rfl ?_
  refine x_iload_n (pc2 := 25) C dJ6_bitCount_0f7a4_24 rfl rfl ?_
  refine x_iload_n (pc2 := 26) C dJ6_bitCount_0f7a4_25 rfl rfl ?_
  refine x_iconst (pc2 := 27) C dJ6_bitCount_0f7a4_26 rfl ic_4 ?_
  refine x_iushr (pc2 := 28) C dJ6_bitCount_0f7a4_27 rfl ?_
  refine x_iadd (pc2 := 29) C dJ6_bitCount_0f7a4_28 rfl ?_
  refine x_ldcw (pc2 := 32) C wt2_59 dJ6_bitCount_0f7a4_29 rfl ?_
  refine x_iand (pc2 := 33) C dJ6_bitCount_0f7a4_32 rfl ?_
  refine x_topi (fun v3 => ?_)
  refine x_istore_n (pc2 := 34) C dJ6_bitCount_0f7a4_33 rfl [some (.int v3)] rfl rfl ?_
  refine x_iload_n (pc2 := 35) C dJ6_bitCount_0f7a4_34 rfl rfl ?_
  refine x_iload_n (pc2 := 36) C dJ6_bitCount_0f7a4_35 rfl rfl ?_
  refine x_bipush (pc2 := 38) C dJ6_bitCount_0f7a4_36 rfl bc_8 ?_
  refine x_iushr (pc2 := 39) C dJ6_bitCount_0f7a4_38 rfl ?_
  refine x_iadd (pc2 := 40) C dJ6_bitCount_0f7a4_39 rfl ?_
  refine x_istore_n (pc2 := 41) C dJ6_bitCount_0f7a4_40 rfl [some (.int (v3 + (ushr v3 8)))] rfl rfl ?_
  refine x_iload_n (pc2 := 42) C dJ6_bitCount_0f7a4_41 rfl rfl ?_
  refine x_iload_n (pc2 := 43) C dJ6_bitCount_0f7a4_42 rfl rfl ?_
  refine x_bipush (pc2 := 45) C dJ6_bitCount_0f7a4_43 rfl bc_16 ?_
  refine x_iushr (pc2 := 46) C dJ6_bitCount_0f7a4_45 rfl ?_
  refine x_iadd (pc2 := 47) C dJ6_bitCount_0f7a4_46 rfl ?_
  refine x_topi (fun v4 => ?_)
  refine x_istore_n (pc2 := 48) C dJ6_bitCount_0f7a4_47 rfl [some (.int v4)] rfl rfl ?_
  refine x_iload_n (pc2 := 49) C dJ6_bitCount_0f7a4_48 rfl rfl ?_
  refine x_bipush (pc2 := 51) C dJ6_bitCount_0f7a4_49 rfl bc_63 ?_
  refine x_iand (pc2 := 52) C dJ6_bitCount_0f7a4_51 rfl ?_
  exact x_iret C rfl rfl dJ6_bitCount_0f7a4_52
set_option maxRecDepth 100000 in
set_option maxHeartbeats 4000000 in
theorem ctJ7_fill_53178 {l : Launch} {G : bkG} {M : Mem} {a1 : Nat} {a2 : Int32} (hk1 : kd a1 = 20) : ∀ r, fJ7_fill_53178 a1 a2 M = some r → Met l yJ7_fill_53178 (Cond.code yJ7_fill_53178 cJ7_fill_53178 4 none :: TT) ({ frames := 0, cells := 0, slots := 0, locals := 0 } : Room) (va_Pc [rv G a1, .int a2] (Wd G M)) (QQ G ((fun _ => none) r.1) r.2) 0 0 (An G) := by
  refine mkMet (vl := (fun _ => none)) RJ7 rfl (by decide +kernel) rfl (Nat.le_of_ble_eq_true rfl) [some (rv G a1), some (.int a2), none, none] rfl ?_
  intro p e s m args below meth c C _
  refine x_iconst (pc2 := 1) C dJ7_fill_53178_0 rfl ic_0 ?_
  refine x_istore_n (pc2 := 2) C dJ7_fill_53178_1 rfl [some (rv G a1), some (.int a2), some (.int 0), none] rfl rfl ?_
  refine x_aload_n (pc2 := 3) C dJ7_fill_53178_2 rfl rfl ?_
  refine x_alen (pc2 := 4) C hk1 dJ7_fill_53178_3 rfl ?_
  refine x_istore_n (pc2 := 5) C dJ7_fill_53178_4 rfl [some (rv G a1), some (.int a2), some (.int 0), some (.int (nI (ln a1)))] rfl rfl ?_
  refine x_wk [some (rv G a1), some (.int a2), some (.int 0), some (.int (nI (ln a1)))] ⟨Or.inr rfl, Or.inr rfl, Or.inr rfl, Or.inr rfl, trivial⟩ ?_
  refine x_lp (fun (b1 : Int32) => [some (rv G a1), some (.int a2), some (.int b1), some (.int (nI (ln a1)))]) ?_
  · intro rec3 hrec3 b1 M2
    refine x_iload_n (pc2 := 6) C dJ7_fill_53178_5 rfl rfl ?_
    refine x_iload_n (pc2 := 7) C dJ7_fill_53178_6 rfl rfl ?_
    refine x_icmp_ge (tgt := 20) (pc2 := 10) C dJ7_fill_53178_7 (by decide) rfl ?_ ?_
    · exact x_vret C rfl rfl dJ7_fill_53178_20
    · refine x_aload_n (pc2 := 11) C dJ7_fill_53178_10 rfl rfl ?_
      refine x_iload_n (pc2 := 12) C dJ7_fill_53178_11 rfl rfl ?_
      refine x_iload_n (pc2 := 13) C dJ7_fill_53178_12 rfl rfl ?_
      refine x_iast (pc2 := 14) C hk1 dJ7_fill_53178_13 rfl (fun M4 => ?_)
      refine x_iinc (pc2 := 17) (v := b1 + 1) C dJ7_fill_53178_14 rfl rfl 1 ic_1 rfl [some (rv G a1), some (.int a2), some (.int (b1 + 1)), some (.int (nI (ln a1)))] rfl rfl ?_
      refine x_goto (tgt := 5) C dJ7_fill_53178_17 (by decide) ?_
      exact x_wk [some (rv G a1), some (.int a2), some (.int (b1 + 1)), some (.int (nI (ln a1)))] ⟨Or.inr rfl, Or.inr rfl, Or.inr rfl, Or.inr rfl, trivial⟩ (hrec3 (b1 + 1) _)
set_option maxRecDepth 100000 in
set_option maxHeartbeats 4000000 in
theorem ctJ9_abs_0f7a4 {l : Launch} {G : bkG} {M : Mem} {a1 : Int32}  : ∀ r, fJ9_abs_0f7a4 a1 M = some r → Met l yJ9_abs_0f7a4 (Cond.code yJ9_abs_0f7a4 cJ9_abs_0f7a4 1 (some .int) :: TT) ({ frames := 0, cells := 0, slots := 0, locals := 0 } : Room) (va_Pc [.int a1] (Wd G M)) (QQ G ((fun v => some (.int v)) r.1) r.2) 0 0 (An G) := by
  refine mkMet (vl := (fun v => some (.int v))) RJ9 rfl (by decide +kernel) rfl (Nat.le_of_ble_eq_true rfl) [some (.int a1)] rfl ?_
  intro p e s m args below meth c C _
  refine x_iload_n (pc2 := 1) C dJ9_abs_0f7a4_0 rfl rfl ?_
  refine x_if_ge (tgt := 9) (pc2 := 4) C dJ9_abs_0f7a4_1 (by decide) rfl ?_ ?_
  · refine x_iload_n (pc2 := 10) C dJ9_abs_0f7a4_9 rfl rfl ?_
    exact x_iret C rfl rfl dJ9_abs_0f7a4_10
  · refine x_iload_n (pc2 := 5) C dJ9_abs_0f7a4_4 rfl rfl ?_
    refine x_ineg (pc2 := 6) C dJ9_abs_0f7a4_5 rfl ?_
    refine x_goto (tgt := 10) C dJ9_abs_0f7a4_6 (by decide) ?_
    exact x_iret C rfl rfl dJ9_abs_0f7a4_10
set_option maxRecDepth 100000 in
set_option maxHeartbeats 4000000 in
theorem ctJ9_floorMod_7cf53 {l : Launch} {G : bkG} {M : Mem} {a1 : Int32} {a2 : Int32}  : ∀ r, fJ9_floorMod_7cf53 a1 a2 M = some r → Met l yJ9_floorMod_7cf53 (Cond.code yJ9_floorMod_7cf53 cJ9_floorMod_7cf53 3 (some .int) :: TT) ({ frames := 0, cells := 0, slots := 0, locals := 0 } : Room) (va_Pc [.int a1, .int a2] (Wd G M)) (QQ G ((fun v => some (.int v)) r.1) r.2) 0 0 (An G) := by
  refine mkMet (vl := (fun v => some (.int v))) RJ9 rfl (by decide +kernel) rfl (Nat.le_of_ble_eq_true rfl) [some (.int a1), some (.int a2), none] rfl ?_
  intro p e s m args below meth c C _
  refine x_iload_n (pc2 := 1) C dJ9_floorMod_7cf53_0 rfl rfl ?_
  refine x_iload_n (pc2 := 2) C dJ9_floorMod_7cf53_1 rfl rfl ?_
  refine x_irem (pc2 := 3) C dJ9_floorMod_7cf53_2 rfl ?_
  refine x_istore_n (pc2 := 4) C dJ9_floorMod_7cf53_3 rfl [some (.int a1), some (.int a2), some (.int (remv a1 a2))] rfl rfl ?_
  refine x_iload_n (pc2 := 5) C dJ9_floorMod_7cf53_4 rfl rfl ?_
  refine x_iload_n (pc2 := 6) C dJ9_floorMod_7cf53_5 rfl rfl ?_
  refine x_ixor (pc2 := 7) C dJ9_floorMod_7cf53_6 rfl ?_
  refine x_if_ge (tgt := 18) (pc2 := 10) C dJ9_floorMod_7cf53_7 (by decide) rfl ?_ ?_
  · refine x_iload_n (pc2 := 19) C dJ9_floorMod_7cf53_18 rfl rfl ?_
    exact x_iret C rfl rfl dJ9_floorMod_7cf53_19
  · refine x_iload_n (pc2 := 11) C dJ9_floorMod_7cf53_10 rfl rfl ?_
    refine x_if_eq (tgt := 18) (pc2 := 14) C dJ9_floorMod_7cf53_11 (by decide) rfl ?_ ?_
    · refine x_iload_n (pc2 := 19) C dJ9_floorMod_7cf53_18 rfl rfl ?_
      exact x_iret C rfl rfl dJ9_floorMod_7cf53_19
    · refine x_iload_n (pc2 := 15) C dJ9_floorMod_7cf53_14 rfl rfl ?_
      refine x_iload_n (pc2 := 16) C dJ9_floorMod_7cf53_15 rfl rfl ?_
      refine x_iadd (pc2 := 17) C dJ9_floorMod_7cf53_16 rfl ?_
      exact x_iret C rfl rfl dJ9_floorMod_7cf53_17
set_option maxRecDepth 100000 in
set_option maxHeartbeats 4000000 in
theorem ctJ9_min_7cf53 {l : Launch} {G : bkG} {M : Mem} {a1 : Int32} {a2 : Int32}  : ∀ r, fJ9_min_7cf53 a1 a2 M = some r → Met l yJ9_min_7cf53 (Cond.code yJ9_min_7cf53 cJ9_min_7cf53 2 (some .int) :: TT) ({ frames := 0, cells := 0, slots := 0, locals := 0 } : Room) (va_Pc [.int a1, .int a2] (Wd G M)) (QQ G ((fun v => some (.int v)) r.1) r.2) 0 0 (An G) := by
  refine mkMet (vl := (fun v => some (.int v))) RJ9 rfl (by decide +kernel) rfl (Nat.le_of_ble_eq_true rfl) [some (.int a1), some (.int a2)] rfl ?_
  intro p e s m args below meth c C _
  refine x_iload_n (pc2 := 1) C dJ9_min_7cf53_0 rfl rfl ?_
  refine x_iload_n (pc2 := 2) C dJ9_min_7cf53_1 rfl rfl ?_
  refine x_icmp_gt (tgt := 9) (pc2 := 5) C dJ9_min_7cf53_2 (by decide) rfl ?_ ?_
  · refine x_iload_n (pc2 := 10) C dJ9_min_7cf53_9 rfl rfl ?_
    exact x_iret C rfl rfl dJ9_min_7cf53_10
  · refine x_iload_n (pc2 := 6) C dJ9_min_7cf53_5 rfl rfl ?_
    refine x_goto (tgt := 10) C dJ9_min_7cf53_6 (by decide) ?_
    exact x_iret C rfl rfl dJ9_min_7cf53_10
