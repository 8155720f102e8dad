set_option maxRecDepth 100000 in
set_option maxHeartbeats 4000000 in
theorem ctX9_in {l : Launch} {G : bkG} {M : Mem} {a1 : Int32} {a2 : Int32} {a3 : Int32}  : ∀ r, fX9_in a1 a2 a3 M = some r → Met l yX9_in (Cond.code yX9_in cX9_in 3 (some .boolean) :: TT) ({ frames := 0, cells := 0, slots := 0, locals := 0 } : Room) (va_Pc [.int a1, .int a2, .int a3] (Wd G M)) (QQ G ((fun v => some (.int v)) r.1) r.2) 0 0 (An G) := by
  refine mkMet (vl := (fun v => some (.int v))) RX9 rfl (by decide +kernel) rfl (Nat.le_of_ble_eq_true rfl) [some (.int a1), some (.int a2), some (.int a3)] rfl ?_
  intro p e s m args below meth c C _
  refine x_iload_n (pc2 := 1) C dX9_in_0 rfl rfl ?_
  refine x_iload_n (pc2 := 2) C dX9_in_1 rfl rfl ?_
  refine x_icmp_lt (tgt := 14) (pc2 := 5) C dX9_in_2 (by decide) rfl ?_ ?_
  · refine x_iconst (pc2 := 15) C dX9_in_14 rfl ic_0 ?_
    exact x_zret C rfl rfl rfl dX9_in_15
  · refine x_iload_n (pc2 := 6) C dX9_in_5 rfl rfl ?_
    refine x_iload_n (pc2 := 7) C dX9_in_6 rfl rfl ?_
    refine x_icmp_gt (tgt := 14) (pc2 := 10) C dX9_in_7 (by decide) rfl ?_ ?_
    · refine x_iconst (pc2 := 15) C dX9_in_14 rfl ic_0 ?_
      exact x_zret C rfl rfl rfl dX9_in_15
    · refine x_iconst (pc2 := 11) C dX9_in_10 rfl ic_1 ?_
      refine x_goto (tgt := 15) C dX9_in_11 (by decide) ?_
      exact x_zret C rfl rfl rfl dX9_in_15
set_option maxRecDepth 100000 in
set_option maxHeartbeats 4000000 in
theorem ctX9_noTypist {l : Launch} {G : bkG} {M : Mem} {this : Nat} {a1 : Int32} (hk0 : kd this = 8) : ∀ r, fX9_noTypist this a1 M = some r → Met l yX9_noTypist (Cond.code yX9_noTypist cX9_noTypist 2 (some .boolean) :: TT) ({ frames := 1, cells := 0, slots := 0, locals := 22 } : Room) (va_Pc [rv G this, .int a1] (Wd G M)) (QQ G ((fun v => some (.int v)) r.1) r.2) 0 0 (An G) := by
  refine mkMet (vl := (fun v => some (.int v))) RX9 rfl (by decide +kernel) rfl (Nat.le_of_ble_eq_true rfl) [some (rv G this), some (.int a1)] rfl ?_
  intro p e s m args below meth c C _
  refine x_iload_n (pc2 := 1) C dX9_noTypist_0 rfl rfl ?_
  refine x_iconst (pc2 := 2) C dX9_noTypist_1 rfl ic_0 ?_
  refine x_iconst (pc2 := 3) C dX9_noTypist_2 rfl ic_1 ?_
  refine x_callSi (pc2 := 6) C [.int a1, .int 0, .int 1] [] cl_X9_68 (fun q hq => ctX9_in  q hq) rfl rfl ⟨rfl, rfl, Nat.le_of_ble_eq_true rfl, Nat.le_of_ble_eq_true rfl⟩ (Nat.le_of_ble_eq_true rfl) ⟨Nat.zero_le _, Nat.zero_le _⟩ dX9_noTypist_3 rfl (fun v1 M2 => ?_)
  refine x_if_ne (tgt := 13) (pc2 := 9) C dX9_noTypist_6 (by decide) rfl ?_ ?_
  · refine x_iconst (pc2 := 14) C dX9_noTypist_13 rfl ic_0 ?_
    exact x_zret C rfl rfl rfl dX9_noTypist_14
  · refine x_iconst (pc2 := 10) C dX9_noTypist_9 rfl ic_1 ?_
    refine x_goto (tgt := 14) C dX9_noTypist_10 (by decide) ?_
    exact x_zret C rfl rfl rfl dX9_noTypist_14
set_option maxRecDepth 100000 in
set_option maxHeartbeats 4000000 in
theorem ctX9_keys {l : Launch} {G : bkG} {M : Mem} {this : Nat} (hk0 : kd this = 8) : ∀ r, fX9_keys this M = some r → Met l yX9_keys (Cond.code yX9_keys cX9_keys 1 (some .int) :: TT) ({ frames := 0, cells := 0, slots := 0, locals := 0 } : Room) (va_Pc [rv G this] (Wd G M)) (QQ G ((fun v => some (.int v)) r.1) r.2) 0 0 (An G) := by
  refine mkMet (vl := (fun v => some (.int v))) RX9 rfl (by decide +kernel) rfl (Nat.le_of_ble_eq_true rfl) [some (rv G this)] rfl ?_
  intro p e s m args below meth c C _
  refine x_aload_n (pc2 := 1) C dX9_keys_0 rfl rfl ?_
  refine x_get (pc2 := 4) C fl_X9_7 hk0 (by decide) rfl dX9_keys_1 rfl ?_
  refine x_iconst (pc2 := 5) C dX9_keys_4 rfl ic_0 ?_
  refine x_iald (pc2 := 6) C (kf_8_0 hk0) dX9_keys_5 rfl ?_
  refine x_aload_n (pc2 := 7) C dX9_keys_6 rfl rfl ?_
  refine x_get (pc2 := 10) C fl_X9_7 hk0 (by decide) rfl dX9_keys_7 rfl ?_
  refine x_iconst (pc2 := 11) C dX9_keys_10 rfl ic_1 ?_
  refine x_iald (pc2 := 12) C (kf_8_0 hk0) dX9_keys_11 rfl ?_
  refine x_imul (pc2 := 13) C dX9_keys_12 rfl ?_
  exact x_iret C rfl rfl dX9_keys_13
set_option maxRecDepth 100000 in
set_option maxHeartbeats 4000000 in
theorem ctX9_noKey {l : Launch} {G : bkG} {M : Mem} {this : Nat} {a1 : Int32} (hk0 : kd this = 8) : ∀ r, fX9_noKey this a1 M = some r → Met l yX9_noKey (Cond.code yX9_noKey cX9_noKey 2 (some .boolean) :: TT) ({ frames := 1, cells := 0, slots := 0, locals := 22 } : Room) (va_Pc [rv G this, .int a1] (Wd G M)) (QQ G ((fun v => some (.int v)) r.1) r.2) 0 0 (An G) := by
  refine mkMet (vl := (fun v => some (.int v))) RX9 rfl (by decide +kernel) rfl (Nat.le_of_ble_eq_true rfl) [some (rv G this), some (.int a1)] rfl ?_
  intro p e s m args below meth c C _
  refine x_iload_n (pc2 := 1) C dX9_noKey_0 rfl rfl ?_
  refine x_iconst (pc2 := 2) C dX9_noKey_1 rfl ic_0 ?_
  refine x_aload_n (pc2 := 3) C dX9_noKey_2 rfl rfl ?_
  refine x_callVi (pc2 := 6) C [] [.int 0, .int a1] cl_X9_64 (fun q hq => ctX9_keys hk0 q hq) hk0 rfl rfl rfl ⟨rfl, rfl, Nat.le_of_ble_eq_true rfl, Nat.le_of_ble_eq_true rfl⟩ (Nat.le_of_ble_eq_true rfl) ⟨Nat.zero_le _, Nat.zero_le _⟩ dX9_noKey_3 rfl (fun v1 M2 => ?_)
  refine x_iconst (pc2 := 7) C dX9_noKey_6 rfl ic_1 ?_
  refine x_isub (pc2 := 8) C dX9_noKey_7 rfl ?_
  refine x_callSi (pc2 := 11) C [.int a1, .int 0, .int (v1 - 1)] [] cl_X9_68 (fun q hq => ctX9_in  q hq) rfl rfl ⟨rfl, rfl, Nat.le_of_ble_eq_true rfl, Nat.le_of_ble_eq_true rfl⟩ (Nat.le_of_ble_eq_true rfl) ⟨Nat.zero_le _, Nat.zero_le _⟩ dX9_noKey_8 rfl (fun v3 M4 => ?_)
  refine x_if_ne (tgt := 18) (pc2 := 14) C dX9_noKey_11 (by decide) rfl ?_ ?_
  · refine x_iconst (pc2 := 19) C dX9_noKey_18 rfl ic_0 ?_
    exact x_zret C rfl rfl rfl dX9_noKey_19
  · refine x_iconst (pc2 := 15) C dX9_noKey_14 rfl ic_1 ?_
    refine x_goto (tgt := 19) C dX9_noKey_15 (by decide) ?_
    exact x_zret C rfl rfl rfl dX9_noKey_19
set_option maxRecDepth 100000 in
set_option maxHeartbeats 4000000 in
theorem ctX9_isDown {l : Launch} {G : bkG} {M : Mem} {this : Nat} {a1 : Int32} (hk0 : kd this = 8) : ∀ r, fX9_isDown this a1 M = some r → Met l yX9_isDown (Cond.code yX9_isDown cX9_isDown 2 (some .boolean) :: TT) ({ frames := 0, cells := 0, slots := 0, locals := 0 } : Room) (va_Pc [rv G this, .int a1] (Wd G M)) (QQ G ((fun v => some (.int v)) r.1) r.2) 0 0 (An G) := by
  refine mkMet (vl := (fun v => some (.int v))) RX9 rfl (by decide +kernel) rfl (Nat.le_of_ble_eq_true rfl) [some (rv G this), some (.int a1)] rfl ?_
  intro p e s m args below meth c C _
  refine x_aload_n (pc2 := 1) C dX9_isDown_0 rfl rfl ?_
  refine x_get (pc2 := 4) C fl_X9_7 hk0 (by decide) rfl dX9_isDown_1 rfl ?_
  refine x_bipush (pc2 := 6) C dX9_isDown_4 rfl bc_20 ?_
  refine x_iload_n (pc2 := 7) C dX9_isDown_6 rfl rfl ?_
  refine x_iadd (pc2 := 8) C dX9_isDown_7 rfl ?_
  refine x_iald (pc2 := 9) C (kf_8_0 hk0) dX9_isDown_8 rfl ?_
  refine x_if_lt (tgt := 16) (pc2 := 12) C dX9_isDown_9 (by decide) rfl ?_ ?_
  · refine x_iconst (pc2 := 17) C dX9_isDown_16 rfl ic_0 ?_
    exact x_zret C rfl rfl rfl dX9_isDown_17
  · refine x_iconst (pc2 := 13) C dX9_isDown_12 rfl ic_1 ?_
    refine x_goto (tgt := 17) C dX9_isDown_13 (by decide) ?_
    exact x_zret C rfl rfl rfl dX9_isDown_17
set_option maxRecDepth 100000 in
set_option maxHeartbeats 4000000 in
theorem ctX9_held {l : Launch} {G : bkG} {M : Mem} {this : Nat} {a1 : Int32} (hk0 : kd this = 8) : ∀ r, fX9_held this a1 M = some r → Met l yX9_held (Cond.code yX9_held cX9_held 4 (some .int) :: TT) ({ frames := 1, cells := 0, slots := 0, locals := 20 } : Room) (va_Pc [rv G this, .int a1] (Wd G M)) (QQ G ((fun v => some (.int v)) r.1) r.2) 0 0 (An G) := by
  refine mkMet (vl := (fun v => some (.int v))) RX9 rfl (by decide +kernel) rfl (Nat.le_of_ble_eq_true rfl) [some (rv G this), some (.int a1), none, none] rfl ?_
  intro p e s m args below meth c C _
  refine x_iconst (pc2 := 1) C dX9_held_0 rfl ic_0 ?_
  refine x_istore_n (pc2 := 2) C dX9_held_1 rfl [some (rv G this), some (.int a1), some (.int 0), none] rfl rfl ?_
  refine x_iconst (pc2 := 3) C dX9_held_2 rfl ic_0 ?_
  refine x_istore_n (pc2 := 4) C dX9_held_3 rfl [some (rv G this), some (.int a1), some (.int 0), some (.int 0)] rfl rfl ?_
  refine x_wk [some (rv G this), some (.int a1), some (.int 0), some (.int 0)] ⟨Or.inr rfl, Or.inr rfl, Or.inr rfl, Or.inr rfl, trivial⟩ ?_
  refine x_lp (fun (b1 : Int32 × Int32) => [some (rv G this), some (.int a1), some (.int b1.1), some (.int b1.2)]) ?_
  · intro rec3 hrec3 b1 M2
    refine x_iload_n (pc2 := 5) C dX9_held_4 rfl rfl ?_
    refine x_aload_n (pc2 := 6) C dX9_held_5 rfl rfl ?_
    refine x_callVi (pc2 := 9) C [] [.int b1.2] cl_X9_64 (fun q hq => ctX9_keys hk0 q hq) hk0 rfl rfl rfl ⟨rfl, rfl, Nat.le_of_ble_eq_true rfl, Nat.le_of_ble_eq_true rfl⟩ (Nat.le_of_ble_eq_true rfl) ⟨Nat.zero_le _, Nat.zero_le _⟩ dX9_held_6 rfl (fun v4 M5 => ?_)
    refine x_icmp_ge (tgt := 39) (pc2 := 12) C dX9_held_9 (by decide) rfl ?_ ?_
    · refine x_iload_n (pc2 := 40) C dX9_held_39 rfl rfl ?_
      exact x_iret C rfl rfl dX9_held_40
    · refine x_iload_n (pc2 := 13) C dX9_held_12 rfl rfl ?_
      refine x_aload_n (pc2 := 14) C dX9_held_13 rfl rfl ?_
      refine x_get (pc2 := 17) C fl_X9_7 hk0 (by decide) rfl dX9_held_14 rfl ?_
      refine x_bipush (pc2 := 19) C dX9_held_17 rfl bc_20 ?_
      refine x_iload_n (pc2 := 20) C dX9_held_19 rfl rfl ?_
      refine x_iadd (pc2 := 21) C dX9_held_20 rfl ?_
      refine x_iald (pc2 := 22) C (kf_8_0 hk0) dX9_held_21 rfl ?_
      refine x_iload_n (pc2 := 23) C dX9_held_22 rfl rfl ?_
      refine x_jn 31 (fun (b6 : Int32) => [some (rv G this), some (.int a1), none, some (.int b1.2)]) (fun (b6 : Int32) => [.int b6, .int b1.1]) ?_ ?_
      · intro b6 M8
        refine x_iadd (pc2 := 32) C dX9_held_31 rfl ?_
        refine x_istore_n (pc2 := 33) C dX9_held_32 rfl [some (rv G this), some (.int a1), some (.int (b1.1 + b6)), some (.int b1.2)] rfl rfl ?_
        refine x_iinc (pc2 := 36) (v := b1.2 + 1) C dX9_held_33 rfl rfl 1 ic_1 rfl [some (rv G this), some (.int a1), some (.int (b1.1 + b6)), some (.int (b1.2 + 1))] rfl rfl ?_
        refine x_goto (tgt := 4) C dX9_held_36 (by decide) ?_
        exact x_wk [some (rv G this), some (.int a1), some (.int (b1.1 + b6)), some (.int (b1.2 + 1))] ⟨Or.inr rfl, Or.inr rfl, Or.inr rfl, Or.inr rfl, trivial⟩ (hrec3 (b1.1 + b6, b1.2 + 1) _)
      · intro j7 hj7
        refine x_icmp_ne (tgt := 30) (pc2 := 26) C dX9_held_23 (by decide) rfl ?_ ?_
        · refine x_iconst (pc2 := 31) C dX9_held_30 rfl ic_0 ?_
          exact x_wk [some (rv G this), some (.int a1), none, some (.int b1.2)] ⟨Or.inr rfl, Or.inr rfl, Or.inl rfl, Or.inr rfl, trivial⟩ (hj7 0 _)
        · refine x_iconst (pc2 := 27) C dX9_held_26 rfl ic_1 ?_
          refine x_goto (tgt := 31) C dX9_held_27 (by decide) ?_
          exact x_wk [some (rv G this), some (.int a1), none, some (.int b1.2)] ⟨Or.inr rfl, Or.inr rfl, Or.inl rfl, Or.inr rfl, trivial⟩ (hj7 1 _)
set_option maxRecDepth 100000 in
set_option maxHeartbeats 4000000 in
theorem ctX9_againstPress {l : Launch} {G : bkG} {M : Mem} {this : Nat} {a1 : Int32} {a2 : Int32} (hk0 : kd this = 8) : ∀ r, fX9_againstPress this a1 a2 M = some r → Met l yX9_againstPress (Cond.code yX9_againstPress cX9_againstPress 3 (some .int) :: TT) ({ frames := 2, cells := 0, slots := 0, locals := 43 } : Room) (va_Pc [rv G this, .int a1, .int a2] (Wd G M)) (QQ G ((fun v => some (.int v)) r.1) r.2) 0 0 (An G) := by
  refine mkMet (vl := (fun v => some (.int v))) RX9 rfl (by decide +kernel) rfl (Nat.le_of_ble_eq_true rfl) [some (rv G this), some (.int a1), some (.int a2)] rfl ?_
  intro p e s m args below meth c C _
  refine x_aload_n (pc2 := 1) C dX9_againstPress_0 rfl rfl ?_
  refine x_iload_n (pc2 := 2) C dX9_againstPress_1 rfl rfl ?_
  refine x_callVi (pc2 := 5) C [.int a1] [] cl_X9_86 (fun q hq => ctX9_noTypist hk0 q hq) hk0 rfl rfl rfl ⟨rfl, rfl, Nat.le_of_ble_eq_true rfl, Nat.le_of_ble_eq_true rfl⟩ (Nat.le_of_ble_eq_true rfl) ⟨Nat.zero_le _, Nat.zero_le _⟩ dX9_againstPress_2 rfl (fun v1 M2 => ?_)
  refine x_if_ne (tgt := 16) (pc2 := 8) C dX9_againstPress_5 (by decide) rfl ?_ ?_
  · refine x_iconst (pc2 := 17) C dX9_againstPress_16 rfl ic_m1 ?_
    exact x_iret C rfl rfl dX9_againstPress_17
  · refine x_aload_n (pc2 := 9) C dX9_againstPress_8 rfl rfl ?_
    refine x_iload_n (pc2 := 10) C dX9_againstPress_9 rfl rfl ?_
    refine x_callVi (pc2 := 13) C [.int a2] [] cl_X9_79 (fun q hq => ctX9_noKey hk0 q hq) hk0 rfl rfl rfl ⟨rfl, rfl, Nat.le_of_ble_eq_true rfl, Nat.le_of_ble_eq_true rfl⟩ (Nat.le_of_ble_eq_true rfl) ⟨Nat.zero_le _, Nat.zero_le _⟩ dX9_againstPress_10 rfl (fun v3 M4 => ?_)
    refine x_if_eq (tgt := 18) (pc2 := 16) C dX9_againstPress_13 (by decide) rfl ?_ ?_
    · refine x_aload_n (pc2 := 19) C dX9_againstPress_18 rfl rfl ?_
      refine x_iload_n (pc2 := 20) C dX9_againstPress_19 rfl rfl ?_
      refine x_callVi (pc2 := 23) C [.int a2] [] cl_X9_72 (fun q hq => ctX9_isDown hk0 q hq) hk0 rfl rfl rfl ⟨rfl, rfl, Nat.le_of_ble_eq_true rfl, Nat.le_of_ble_eq_true rfl⟩ (Nat.le_of_ble_eq_true rfl) ⟨Nat.zero_le _, Nat.zero_le _⟩ dX9_againstPress_20 rfl (fun v5 M6 => ?_)
      refine x_if_eq (tgt := 31) (pc2 := 26) C dX9_againstPress_23 (by decide) rfl ?_ ?_
      · refine x_aload_n (pc2 := 32) C dX9_againstPress_31 rfl rfl ?_
        refine x_iload_n (pc2 := 33) C dX9_againstPress_32 rfl rfl ?_
        refine x_callVi (pc2 := 36) C [.int a1] [] cl_X9_150 (fun q hq => ctX9_held hk0 q hq) hk0 rfl rfl rfl ⟨rfl, rfl, Nat.le_of_ble_eq_true rfl, Nat.le_of_ble_eq_true rfl⟩ (Nat.le_of_ble_eq_true rfl) ⟨Nat.zero_le _, Nat.zero_le _⟩ dX9_againstPress_33 rfl (fun v7 M8 => ?_)
        refine x_iconst (pc2 := 37) C dX9_againstPress_36 rfl ic_5 ?_
        refine x_icmp_ne (tgt := 45) (pc2 := 40) C dX9_againstPress_37 (by decide) rfl ?_ ?_
        · refine x_iconst (pc2 := 46) C dX9_againstPress_45 rfl ic_0 ?_
          exact x_iret C rfl rfl dX9_againstPress_46
        · refine x_bipush (pc2 := 42) C dX9_againstPress_40 rfl bc_m3 ?_
          refine x_goto (tgt := 46) C dX9_againstPress_42 (by decide) ?_
          exact x_iret C rfl rfl dX9_againstPress_46
      · refine x_bipush (pc2 := 28) C dX9_againstPress_26 rfl bc_m4 ?_
        refine x_goto (tgt := 46) C dX9_againstPress_28 (by decide) ?_
        exact x_iret C rfl rfl dX9_againstPress_46
    · refine x_iconst (pc2 := 17) C dX9_againstPress_16 rfl ic_m1 ?_
      exact x_iret C rfl rfl dX9_againstPress_17
set_option maxRecDepth 100000 in
set_option maxHeartbeats 4000000 in
theorem ctX9_againstRelease {l : Launch} {G : bkG} {M : Mem} {this : Nat} {a1 : Int32} {a2 : Int32} (hk0 : kd this = 8) : ∀ r, fX9_againstRelease this a1 a2 M = some r → Met l yX9_againstRelease (Cond.code yX9_againstRelease cX9_againstRelease 3 (some .int) :: TT) ({ frames := 2, cells := 0, slots := 0, locals := 43 } : Room) (va_Pc [rv G this, .int a1, .int a2] (Wd G M)) (QQ G ((fun v => some (.int v)) r.1) r.2) 0 0 (An G) := by
  refine mkMet (vl := (fun v => some (.int v))) RX9 rfl (by decide +kernel) rfl (Nat.le_of_ble_eq_true rfl) [some (rv G this), some (.int a1), some (.int a2)] rfl ?_
  intro p e s m args below meth c C _
  refine x_aload_n (pc2 := 1) C dX9_againstRelease_0 rfl rfl ?_
  refine x_iload_n (pc2 := 2) C dX9_againstRelease_1 rfl rfl ?_
  refine x_callVi (pc2 := 5) C [.int a1] [] cl_X9_86 (fun q hq => ctX9_noTypist hk0 q hq) hk0 rfl rfl rfl ⟨rfl, rfl, Nat.le_of_ble_eq_true rfl, Nat.le_of_ble_eq_true rfl⟩ (Nat.le_of_ble_eq_true rfl) ⟨Nat.zero_le _, Nat.zero_le _⟩ dX9_againstRelease_2 rfl (fun v1 M2 => ?_)
  refine x_if_ne (tgt := 16) (pc2 := 8) C dX9_againstRelease_5 (by decide) rfl ?_ ?_
  · refine x_iconst (pc2 := 17) C dX9_againstRelease_16 rfl ic_m1 ?_
    exact x_iret C rfl rfl dX9_againstRelease_17
  · refine x_aload_n (pc2 := 9) C dX9_againstRelease_8 rfl rfl ?_
    refine x_iload_n (pc2 := 10) C dX9_againstRelease_9 rfl rfl ?_
    refine x_callVi (pc2 := 13) C [.int a2] [] cl_X9_79 (fun q hq => ctX9_noKey hk0 q hq) hk0 rfl rfl rfl ⟨rfl, rfl, Nat.le_of_ble_eq_true rfl, Nat.le_of_ble_eq_true rfl⟩ (Nat.le_of_ble_eq_true rfl) ⟨Nat.zero_le _, Nat.zero_le _⟩ dX9_againstRelease_10 rfl (fun v3 M4 => ?_)
    refine x_if_eq (tgt := 18) (pc2 := 16) C dX9_againstRelease_13 (by decide) rfl ?_ ?_
    · refine x_aload_n (pc2 := 19) C dX9_againstRelease_18 rfl rfl ?_
      refine x_get (pc2 := 22) C fl_X9_7 hk0 (by decide) rfl dX9_againstRelease_19 rfl ?_
      refine x_bipush (pc2 := 24) C dX9_againstRelease_22 rfl bc_20 ?_
      refine x_iload_n (pc2 := 25) C dX9_againstRelease_24 rfl rfl ?_
      refine x_iadd (pc2 := 26) C dX9_againstRelease_25 rfl ?_
      refine x_iald (pc2 := 27) C (kf_8_0 hk0) dX9_againstRelease_26 rfl ?_
      refine x_iload_n (pc2 := 28) C dX9_againstRelease_27 rfl rfl ?_
      refine x_icmp_ne (tgt := 35) (pc2 := 31) C dX9_againstRelease_28 (by decide) rfl ?_ ?_
      · refine x_bipush (pc2 := 37) C dX9_againstRelease_35 rfl bc_m4 ?_
        exact x_iret C rfl rfl dX9_againstRelease_37
      · refine x_iconst (pc2 := 32) C dX9_againstRelease_31 rfl ic_0 ?_
        refine x_goto (tgt := 37) C dX9_againstRelease_32 (by decide) ?_
        exact x_iret C rfl rfl dX9_againstRelease_37
    · refine x_iconst (pc2 := 17) C dX9_againstRelease_16 rfl ic_m1 ?_
      exact x_iret C rfl rfl dX9_againstRelease_17
set_option maxRecDepth 100000 in
set_option maxHeartbeats 4000000 in
theorem ctX9_remember {l : Launch} {G : bkG} {M : Mem} {this : Nat} (hk0 : kd this = 8) : ∀ r, fX9_remember this M = some r → Met l yX9_remember (Cond.code yX9_remember cX9_remember 2 none :: TT) ({ frames := 0, cells := 0, slots := 0, locals := 0 } : Room) (va_Pc [rv G this] (Wd G M)) (QQ G ((fun _ => none) r.1) r.2) 0 0 (An G) := by
  refine mkMet (vl := (fun _ => none)) RX9 rfl (by decide +kernel) rfl (Nat.le_of_ble_eq_true rfl) [some (rv G this), none] rfl ?_
  intro p e s m args below meth c C _
  refine x_iconst (pc2 := 1) C dX9_remember_0 rfl ic_0 ?_
  refine x_istore_n (pc2 := 2) C dX9_remember_1 rfl [some (rv G this), some (.int 0)] rfl rfl ?_
  refine x_wk [some (rv G this), some (.int 0)] ⟨Or.inr rfl, Or.inr rfl, trivial⟩ ?_
  refine x_lp1 (fun (b1 : Int32) => [some (rv G this), some (.int b1)]) 27 (fun (b4 : Unit) => [some (rv G this), none]) ?_ ?_
  · intro b4 M5
    refine x_iconst (pc2 := 28) C dX9_remember_27 rfl ic_0 ?_
    refine x_istore_n (pc2 := 29) C dX9_remember_28 rfl [some (rv G this), some (.int 0)] rfl rfl ?_
    refine x_wk [some (rv G this), some (.int 0)] ⟨Or.inr rfl, Or.inr rfl, trivial⟩ ?_
    refine x_lp (fun (b6 : Int32) => [some (rv G this), some (.int b6)]) ?_
    · intro rec8 hrec8 b6 M7
      refine x_iload_n (pc2 := 30) C dX9_remember_29 rfl rfl ?_
      refine x_bipush (pc2 := 32) C dX9_remember_30 rfl bc_7 ?_
      refine x_icmp_ge (tgt := 53) (pc2 := 35) C dX9_remember_32 (by decide) rfl ?_ ?_
      · exact x_vret C rfl rfl dX9_remember_53
      · refine x_aload_n (pc2 := 36) C dX9_remember_35 rfl rfl ?_
        refine x_get (pc2 := 39) C fl_X9_32 hk0 (by decide) rfl dX9_remember_36 rfl ?_
        refine x_iload_n (pc2 := 40) C dX9_remember_39 rfl rfl ?_
        refine x_aload_n (pc2 := 41) C dX9_remember_40 rfl rfl ?_
        refine x_get (pc2 := 44) C fl_X9_22 hk0 (by decide) rfl dX9_remember_41 rfl ?_
        refine x_iload_n (pc2 := 45) C dX9_remember_44 rfl rfl ?_
        refine x_fald (pc2 := 46) C (kf_8_4 hk0) dX9_remember_45 rfl ?_
        refine x_fast (pc2 := 47) C (kf_8_7 hk0) dX9_remember_46 rfl (fun M9 => ?_)
        refine x_iinc (pc2 := 50) (v := b6 + 1) C dX9_remember_47 rfl rfl 1 ic_1 rfl [some (rv G this), some (.int (b6 + 1))] rfl rfl ?_
        refine x_goto (tgt := 29) C dX9_remember_50 (by decide) ?_
        exact x_wk [some (rv G this), some (.int (b6 + 1))] ⟨Or.inr rfl, Or.inr rfl, trivial⟩ (hrec8 (b6 + 1) _)
  · intro k10 hk10 rec3 hrec3 b1 M2
    refine x_iload_n (pc2 := 3) C dX9_remember_2 rfl rfl ?_
    refine x_sipush (pc2 := 6) C dX9_remember_3 rfl sc_592 ?_
    refine x_icmp_ge (tgt := 27) (pc2 := 9) C dX9_remember_6 (by decide) rfl ?_ ?_
    · exact x_wk [some (rv G this), none] ⟨Or.inr rfl, Or.inl rfl, trivial⟩ (hk10 () _)
    · refine x_aload_n (pc2 := 10) C dX9_remember_9 rfl rfl ?_
      refine x_get (pc2 := 13) C fl_X9_19 hk0 (by decide) rfl dX9_remember_10 rfl ?_
      refine x_iload_n (pc2 := 14) C dX9_remember_13 rfl rfl ?_
      refine x_aload_n (pc2 := 15) C dX9_remember_14 rfl rfl ?_
      refine x_get (pc2 := 18) C fl_X9_7 hk0 (by decide) rfl dX9_remember_15 rfl ?_
      refine x_iload_n (pc2 := 19) C dX9_remember_18 rfl rfl ?_
      refine x_iald (pc2 := 20) C (kf_8_0 hk0) dX9_remember_19 rfl ?_
      refine x_iast (pc2 := 21) C (kf_8_3 hk0) dX9_remember_20 rfl (fun M11 => ?_)
      refine x_iinc (pc2 := 24) (v := b1 + 1) C dX9_remember_21 rfl rfl 1 ic_1 rfl [some (rv G this), some (.int (b1 + 1))] rfl rfl ?_
      refine x_goto (tgt := 2) C dX9_remember_24 (by decide) ?_
      exact x_wk [some (rv G this), some (.int (b1 + 1))] ⟨Or.inr rfl, Or.inr rfl, trivial⟩ (hrec3 (b1 + 1) _)
set_option maxRecDepth 100000 in
set_option maxHeartbeats 4000000 in
theorem ctX9_record {l : Launch} {G : bkG} {M : Mem} {this : Nat} (hk0 : kd this = 8) : ∀ r, fX9_record this M = some r → Met l yX9_record (Cond.code yX9_record cX9_record 2 none :: TT) ({ frames := 0, cells := 0, slots := 0, locals := 0 } : Room) (va_Pc [rv G this] (Wd G M)) (QQ G ((fun _ => none) r.1) r.2) 0 0 (An G) := by
  refine mkMet (vl := (fun _ => none)) RX9 rfl (by decide +kernel) rfl (Nat.le_of_ble_eq_true rfl) [some (rv G this), none] rfl ?_
  intro p e s m args below meth c C _
  refine x_aload_n (pc2 := 1) C dX9_record_0 rfl rfl ?_
  refine x_get (pc2 := 4) C fl_X9_47 hk0 (by decide) rfl dX9_record_1 rfl ?_
  refine x_iconst (pc2 := 5) C dX9_record_4 rfl ic_4 ?_
  refine x_jn 78 (fun (b1 : Unit) => [some (rv G this), none]) (fun (b1 : Unit) => []) ?_ ?_
  · intro b1 M3
    refine x_iconst (pc2 := 79) C dX9_record_78 rfl ic_0 ?_
    refine x_istore_n (pc2 := 80) C dX9_record_79 rfl [some (rv G this), some (.int 0)] rfl rfl ?_
    refine x_wk [some (rv G this), some (.int 0)] ⟨Or.inr rfl, Or.inr rfl, trivial⟩ ?_
    refine x_lp1 (fun (b4 : Int32) => [some (rv G this), some (.int b4)]) 114 (fun (b7 : Unit) => [some (rv G this), none]) ?_ ?_
    · intro b7 M8
      refine x_iconst (pc2 := 115) C dX9_record_114 rfl ic_0 ?_
      refine x_istore_n (pc2 := 116) C dX9_record_115 rfl [some (rv G this), some (.int 0)] rfl rfl ?_
      refine x_wk [some (rv G this), some (.int 0)] ⟨Or.inr rfl, Or.inr rfl, trivial⟩ ?_
      refine x_lp1 (fun (b9 : Int32) => [some (rv G this), some (.int b9)]) 148 (fun (b12 : Unit) => [some (rv G this), none]) ?_ ?_
      · intro b12 M13
        refine x_aload_n (pc2 := 149) C dX9_record_148 rfl rfl ?_
        refine x_dup (pc2 := 150) C dX9_record_149 rfl rfl ?_
        refine x_get (pc2 := 153) C fl_X9_47 hk0 (by decide) rfl dX9_record_150 rfl ?_
        refine x_iconst (pc2 := 154) C dX9_record_153 rfl ic_1 ?_
        refine x_iadd (pc2 := 155) C dX9_record_154 rfl ?_
        refine x_puti (pc2 := 158) C ft_X9_47 hk0 (by decide) hs_8_8 (Nat.le_of_ble_eq_true rfl) dX9_record_155 rfl (fun M14 => ?_)
        exact x_vret C rfl rfl dX9_record_158
      · intro k15 hk15 rec11 hrec11 b9 M10
        refine x_iload_n (pc2 := 117) C dX9_record_116 rfl rfl ?_
        refine x_bipush (pc2 := 119) C dX9_record_117 rfl bc_7 ?_
        refine x_icmp_ge (tgt := 148) (pc2 := 122) C dX9_record_119 (by decide) rfl ?_ ?_
        · exact x_wk [some (rv G this), none] ⟨Or.inr rfl, Or.inl rfl, trivial⟩ (hk15 () _)
        · refine x_aload_n (pc2 := 123) C dX9_record_122 rfl rfl ?_
          refine x_get (pc2 := 126) C fl_X9_26 hk0 (by decide) rfl dX9_record_123 rfl ?_
          refine x_bipush (pc2 := 128) C dX9_record_126 rfl bc_7 ?_
          refine x_aload_n (pc2 := 129) C dX9_record_128 rfl rfl ?_
          refine x_get (pc2 := 132) C fl_X9_47 hk0 (by decide) rfl dX9_record_129 rfl ?_
          refine x_imul (pc2 := 133) C dX9_record_132 rfl ?_
          refine x_iload_n (pc2 := 134) C dX9_record_133 rfl rfl ?_
          refine x_iadd (pc2 := 135) C dX9_record_134 rfl ?_
          refine x_aload_n (pc2 := 136) C dX9_record_135 rfl rfl ?_
          refine x_get (pc2 := 139) C fl_X9_32 hk0 (by decide) rfl dX9_record_136 rfl ?_
          refine x_iload_n (pc2 := 140) C dX9_record_139 rfl rfl ?_
          refine x_fald (pc2 := 141) C (kf_8_7 hk0) dX9_record_140 rfl ?_
          refine x_fast (pc2 := 142) C (kf_8_5 hk0) dX9_record_141 rfl (fun M16 => ?_)
          refine x_iinc (pc2 := 145) (v := b9 + 1) C dX9_record_142 rfl rfl 1 ic_1 rfl [some (rv G this), some (.int (b9 + 1))] rfl rfl ?_
          refine x_goto (tgt := 116) C dX9_record_145 (by decide) ?_
          exact x_wk [some (rv G this), some (.int (b9 + 1))] ⟨Or.inr rfl, Or.inr rfl, trivial⟩ (hrec11 (b9 + 1) _)
    · intro k17 hk17 rec6 hrec6 b4 M5
      refine x_iload_n (pc2 := 81) C dX9_record_80 rfl rfl ?_
      refine x_sipush (pc2 := 84) C dX9_record_81 rfl sc_592 ?_
      refine x_icmp_ge (tgt := 114) (pc2 := 87) C dX9_record_84 (by decide) rfl ?_ ?_
      · exact x_wk [some (rv G this), none] ⟨Or.inr rfl, Or.inl rfl, trivial⟩ (hk17 () _)
      · refine x_aload_n (pc2 := 88) C dX9_record_87 rfl rfl ?_
        refine x_get (pc2 := 91) C fl_X9_13 hk0 (by decide) rfl dX9_record_88 rfl ?_
        refine x_sipush (pc2 := 94) C dX9_record_91 rfl sc_592 ?_
        refine x_aload_n (pc2 := 95) C dX9_record_94 rfl rfl ?_
        refine x_get (pc2 := 98) C fl_X9_47 hk0 (by decide) rfl dX9_record_95 rfl ?_
        refine x_imul (pc2 := 99) C dX9_record_98 rfl ?_
        refine x_iload_n (pc2 := 100) C dX9_record_99 rfl rfl ?_
        refine x_iadd (pc2 := 101) C dX9_record_100 rfl ?_
        refine x_aload_n (pc2 := 102) C dX9_record_101 rfl rfl ?_
        refine x_get (pc2 := 105) C fl_X9_19 hk0 (by decide) rfl dX9_record_102 rfl ?_
        refine x_iload_n (pc2 := 106) C dX9_record_105 rfl rfl ?_
        refine x_iald (pc2 := 107) C (kf_8_3 hk0) dX9_record_106 rfl ?_
        refine x_iast (pc2 := 108) C (kf_8_1 hk0) dX9_record_107 rfl (fun M18 => ?_)
        refine x_iinc (pc2 := 111) (v := b4 + 1) C dX9_record_108 rfl rfl 1 ic_1 rfl [some (rv G this), some (.int (b4 + 1))] rfl rfl ?_
        refine x_goto (tgt := 80) C dX9_record_111 (by decide) ?_
        exact x_wk [some (rv G this), some (.int (b4 + 1))] ⟨Or.inr rfl, Or.inr rfl, trivial⟩ (hrec6 (b4 + 1) _)
  · intro j2 hj2
    refine x_icmp_ne (tgt := 78) (pc2 := 8) C dX9_record_5 (by decide) rfl ?_ ?_
    · exact x_wk [some (rv G this), none] ⟨Or.inr rfl, Or.inl rfl, trivial⟩ (hj2 () _)
    · refine x_iconst (pc2 := 9) C dX9_record_8 rfl ic_0 ?_
      refine x_istore_n (pc2 := 10) C dX9_record_9 rfl [some (rv G this), some (.int 0)] rfl rfl ?_
      refine x_wk [some (rv G this), some (.int 0)] ⟨Or.inr rfl, Or.inr rfl, trivial⟩ ?_
      refine x_lp1 (fun (b19 : Int32) => [some (rv G this), some (.int b19)]) 39 (fun (b22 : Unit) => [some (rv G this), none]) ?_ ?_
      · intro b22 M23
        refine x_iconst (pc2 := 40) C dX9_record_39 rfl ic_0 ?_
        refine x_istore_n (pc2 := 41) C dX9_record_40 rfl [some (rv G this), some (.int 0)] rfl rfl ?_
        refine x_wk [some (rv G this), some (.int 0)] ⟨Or.inr rfl, Or.inr rfl, trivial⟩ ?_
        refine x_lp1 (fun (b24 : Int32) => [some (rv G this), some (.int b24)]) 68 (fun (b27 : Unit) => [some (rv G this), none]) ?_ ?_
        · intro b27 M28
          refine x_aload_n (pc2 := 69) C dX9_record_68 rfl rfl ?_
          refine x_dup (pc2 := 70) C dX9_record_69 rfl rfl ?_
          refine x_get (pc2 := 73) C fl_X9_47 hk0 (by decide) rfl dX9_record_70 rfl ?_
          refine x_iconst (pc2 := 74) C dX9_record_73 rfl ic_1 ?_
          refine x_isub (pc2 := 75) C dX9_record_74 rfl ?_
          refine x_puti (pc2 := 78) C ft_X9_47 hk0 (by decide) hs_8_8 (Nat.le_of_ble_eq_true rfl) dX9_record_75 rfl (fun M29 => ?_)
          exact x_wk [some (rv G this), none] ⟨Or.inr rfl, Or.inl rfl, trivial⟩ (hj2 () _)
        · intro k30 hk30 rec26 hrec26 b24 M25
          refine x_iload_n (pc2 := 42) C dX9_record_41 rfl rfl ?_
          refine x_bipush (pc2 := 44) C dX9_record_42 rfl bc_21 ?_
          refine x_icmp_ge (tgt := 68) (pc2 := 47) C dX9_record_44 (by decide) rfl ?_ ?_
          · exact x_wk [some (rv G this), none] ⟨Or.inr rfl, Or.inl rfl, trivial⟩ (hk30 () _)
          · refine x_aload_n (pc2 := 48) C dX9_record_47 rfl rfl ?_
            refine x_get (pc2 := 51) C fl_X9_26 hk0 (by decide) rfl dX9_record_48 rfl ?_
            refine x_iload_n (pc2 := 52) C dX9_record_51 rfl rfl ?_
            refine x_aload_n (pc2 := 53) C dX9_record_52 rfl rfl ?_
            refine x_get (pc2 := 56) C fl_X9_26 hk0 (by decide) rfl dX9_record_53 rfl ?_
            refine x_bipush (pc2 := 58) C dX9_record_56 rfl bc_7 ?_
            refine x_iload_n (pc2 := 59) C dX9_record_58 rfl rfl ?_
            refine x_iadd (pc2 := 60) C dX9_record_59 rfl ?_
            refine x_fald (pc2 := 61) C (kf_8_5 hk0) dX9_record_60 rfl ?_
            refine x_fast (pc2 := 62) C (kf_8_5 hk0) dX9_record_61 rfl (fun M31 => ?_)
            refine x_iinc (pc2 := 65) (v := b24 + 1) C dX9_record_62 rfl rfl 1 ic_1 rfl [some (rv G this), some (.int (b24 + 1))] rfl rfl ?_
            refine x_goto (tgt := 41) C dX9_record_65 (by decide) ?_
            exact x_wk [some (rv G this), some (.int (b24 + 1))] ⟨Or.inr rfl, Or.inr rfl, trivial⟩ (hrec26 (b24 + 1) _)
      · intro k32 hk32 rec21 hrec21 b19 M20
        refine x_iload_n (pc2 := 11) C dX9_record_10 rfl rfl ?_
        refine x_sipush (pc2 := 14) C dX9_record_11 rfl sc_1776 ?_
        refine x_icmp_ge (tgt := 39) (pc2 := 17) C dX9_record_14 (by decide) rfl ?_ ?_
        · exact x_wk [some (rv G this), none] ⟨Or.inr rfl, Or.inl rfl, trivial⟩ (hk32 () _)
        · refine x_aload_n (pc2 := 18) C dX9_record_17 rfl rfl ?_
          refine x_get (pc2 := 21) C fl_X9_13 hk0 (by decide) rfl dX9_record_18 rfl ?_
          refine x_iload_n (pc2 := 22) C dX9_record_21 rfl rfl ?_
          refine x_aload_n (pc2 := 23) C dX9_record_22 rfl rfl ?_
          refine x_get (pc2 := 26) C fl_X9_13 hk0 (by decide) rfl dX9_record_23 rfl ?_
          refine x_sipush (pc2 := 29) C dX9_record_26 rfl sc_592 ?_
          refine x_iload_n (pc2 := 30) C dX9_record_29 rfl rfl ?_
          refine x_iadd (pc2 := 31) C dX9_record_30 rfl ?_
          refine x_iald (pc2 := 32) C (kf_8_1 hk0) dX9_record_31 rfl ?_
          refine x_iast (pc2 := 33) C (kf_8_1 hk0) dX9_record_32 rfl (fun M33 => ?_)
          refine x_iinc (pc2 := 36) (v := b19 + 1) C dX9_record_33 rfl rfl 1 ic_1 rfl [some (rv G this), some (.int (b19 + 1))] rfl rfl ?_
          refine x_goto (tgt := 10) C dX9_record_36 (by decide) ?_
          exact x_wk [some (rv G this), some (.int (b19 + 1))] ⟨Or.inr rfl, Or.inr rfl, trivial⟩ (hrec21 (b19 + 1) _)
set_option maxRecDepth 100000 in
set_option maxHeartbeats 4000000 in
theorem ctX9_begin {l : Launch} {G : bkG} {M : Mem} {this : Nat} (hk0 : kd this = 8) : ∀ r, fX9_begin this M = some r → Met l yX9_begin (Cond.code yX9_begin cX9_begin 1 none :: TT) ({ frames := 1, cells := 0, slots := 0, locals := 21 } : Room) (va_Pc [rv G this] (Wd G M)) (QQ G ((fun _ => none) r.1) r.2) 0 0 (An G) := by
  refine mkMet (vl := (fun _ => none)) RX9 rfl (by decide +kernel) rfl (Nat.le_of_ble_eq_true rfl) [some (rv G this)] rfl ?_
  intro p e s m args below meth c C _
  refine x_aload_n (pc2 := 1) C dX9_begin_0 rfl rfl ?_
  refine x_callVv (pc2 := 4) C [] [] cl_X9_51 (fun q hq => ctX9_remember hk0 q hq) hk0 rfl rfl rfl ⟨rfl, rfl, Nat.le_of_ble_eq_true rfl, Nat.le_of_ble_eq_true rfl⟩ (Nat.le_of_ble_eq_true rfl) ⟨Nat.zero_le _, Nat.zero_le _⟩ dX9_begin_1 rfl (fun v1 M2 => ?_)
  refine x_aload_n (pc2 := 5) C dX9_begin_4 rfl rfl ?_
  refine x_callVv (pc2 := 8) C [] [] cl_X9_54 (fun q hq => ctX9_record hk0 q hq) hk0 rfl rfl rfl ⟨rfl, rfl, Nat.le_of_ble_eq_true rfl, Nat.le_of_ble_eq_true rfl⟩ (Nat.le_of_ble_eq_true rfl) ⟨Nat.zero_le _, Nat.zero_le _⟩ dX9_begin_5 rfl (fun v3 M4 => ?_)
  exact x_vret C rfl rfl dX9_begin_8
set_option maxRecDepth 100000 in
set_option maxHeartbeats 4000000 in
theorem ctX9_borrow {l : Launch} {G : bkG} {M : Mem} {this : Nat} {a1 : Int32} {a2 : Int32} (hk0 : kd this = 8) : ∀ r, fX9_borrow this a1 a2 M = some r → Met l yX9_borrow (Cond.code yX9_borrow cX9_borrow 3 (some .int) :: TT) ({ frames := 2, cells := 0, slots := 0, locals := 43 } : Room) (va_Pc [rv G this, .int a1, .int a2] (Wd G M)) (QQ G ((fun v => some (.int v)) r.1) r.2) 0 0 (An G) := by
  refine mkMet (vl := (fun v => some (.int v))) RX9 rfl (by decide +kernel) rfl (Nat.le_of_ble_eq_true rfl) [some (rv G this), some (.int a1), some (.int a2)] rfl ?_
  intro p e s m args below meth c C _
  refine x_aload_n (pc2 := 1) C dX9_borrow_0 rfl rfl ?_
  refine x_iload_n (pc2 := 2) C dX9_borrow_1 rfl rfl ?_
  refine x_callVi (pc2 := 5) C [.int a1] [] cl_X9_86 (fun q hq => ctX9_noTypist hk0 q hq) hk0 rfl rfl rfl ⟨rfl, rfl, Nat.le_of_ble_eq_true rfl, Nat.le_of_ble_eq_true rfl⟩ (Nat.le_of_ble_eq_true rfl) ⟨Nat.zero_le _, Nat.zero_le _⟩ dX9_borrow_2 rfl (fun v1 M2 => ?_)
  refine x_if_eq (tgt := 10) (pc2 := 8) C dX9_borrow_5 (by decide) rfl ?_ ?_
  · refine x_aload_n (pc2 := 11) C dX9_borrow_10 rfl rfl ?_
    refine x_get (pc2 := 14) C fl_X9_7 hk0 (by decide) rfl dX9_borrow_11 rfl ?_
    refine x_bipush (pc2 := 16) C dX9_borrow_14 rfl bc_7 ?_
    refine x_iload_n (pc2 := 17) C dX9_borrow_16 rfl rfl ?_
    refine x_iadd (pc2 := 18) C dX9_borrow_17 rfl ?_
    refine x_iald (pc2 := 19) C (kf_8_0 hk0) dX9_borrow_18 rfl ?_
    refine x_iconst (pc2 := 20) C dX9_borrow_19 rfl ic_1 ?_
    refine x_jn 28 (fun (b3 : Int32) => [some (rv G this), some (.int a1), some (.int a2)]) (fun (b3 : Int32) => [.int b3]) ?_ ?_
    · intro b3 M5
      refine x_iload_n (pc2 := 29) C dX9_borrow_28 rfl rfl ?_
      refine x_icmp_ne (tgt := 35) (pc2 := 32) C dX9_borrow_29 (by decide) rfl ?_ ?_
      · refine x_aload_n (pc2 := 36) C dX9_borrow_35 rfl rfl ?_
        refine x_callVv (pc2 := 39) C [] [] cl_X9_61 (fun q hq => ctX9_begin hk0 q hq) hk0 rfl rfl rfl ⟨rfl, rfl, Nat.le_of_ble_eq_true rfl, Nat.le_of_ble_eq_true rfl⟩ (Nat.le_of_ble_eq_true rfl) ⟨Nat.zero_le _, Nat.zero_le _⟩ dX9_borrow_36 rfl (fun v6 M7 => ?_)
        refine x_aload_n (pc2 := 40) C dX9_borrow_39 rfl rfl ?_
        refine x_get (pc2 := 43) C fl_X9_7 hk0 (by decide) rfl dX9_borrow_40 rfl ?_
        refine x_bipush (pc2 := 45) C dX9_borrow_43 rfl bc_7 ?_
        refine x_iload_n (pc2 := 46) C dX9_borrow_45 rfl rfl ?_
        refine x_iadd (pc2 := 47) C dX9_borrow_46 rfl ?_
        refine x_iload_n (pc2 := 48) C dX9_borrow_47 rfl rfl ?_
        refine x_jn 56 (fun (b8 : Int32) => [some (rv G this), none, none]) (fun (b8 : Int32) => [.int b8, .int (7 + a1), rv G (this + 1)]) ?_ ?_
        · intro b8 M10
          refine x_iast (pc2 := 57) C (kf_8_0 hk0) dX9_borrow_56 rfl (fun M11 => ?_)
          refine x_aload_n (pc2 := 58) C dX9_borrow_57 rfl rfl ?_
          refine x_get (pc2 := 61) C fl_X9_7 hk0 (by decide) rfl dX9_borrow_58 rfl ?_
          refine x_bipush (pc2 := 63) C dX9_borrow_61 rfl bc_7 ?_
          refine x_iald (pc2 := 64) C (kf_8_0 hk0) dX9_borrow_63 rfl ?_
          refine x_aload_n (pc2 := 65) C dX9_borrow_64 rfl rfl ?_
          refine x_get (pc2 := 68) C fl_X9_7 hk0 (by decide) rfl dX9_borrow_65 rfl ?_
          refine x_bipush (pc2 := 70) C dX9_borrow_68 rfl bc_8 ?_
          refine x_iald (pc2 := 71) C (kf_8_0 hk0) dX9_borrow_70 rfl ?_
          refine x_iadd (pc2 := 72) C dX9_borrow_71 rfl ?_
          exact x_iret C rfl rfl dX9_borrow_72
        · intro j9 hj9
          refine x_if_eq (tgt := 55) (pc2 := 51) C dX9_borrow_48 (by decide) rfl ?_ ?_
          · refine x_iconst (pc2 := 56) C dX9_borrow_55 rfl ic_0 ?_
            exact x_wk [some (rv G this), none, none] ⟨Or.inr rfl, Or.inl rfl, Or.inl rfl, trivial⟩ (hj9 0 _)
          · refine x_iconst (pc2 := 52) C dX9_borrow_51 rfl ic_1 ?_
            refine x_goto (tgt := 56) C dX9_borrow_52 (by decide) ?_
            exact x_wk [some (rv G this), none, none] ⟨Or.inr rfl, Or.inl rfl, Or.inl rfl, trivial⟩ (hj9 1 _)
      · refine x_bipush (pc2 := 34) C dX9_borrow_32 rfl bc_m5 ?_
        exact x_iret C rfl rfl dX9_borrow_34
    · intro j4 hj4
      refine x_icmp_ne (tgt := 27) (pc2 := 23) C dX9_borrow_20 (by decide) rfl ?_ ?_
      · refine x_iconst (pc2 := 28) C dX9_borrow_27 rfl ic_0 ?_
        exact x_wk [some (rv G this), some (.int a1), some (.int a2)] ⟨Or.inr rfl, Or.inr rfl, Or.inr rfl, trivial⟩ (hj4 0 _)
      · refine x_iconst (pc2 := 24) C dX9_borrow_23 rfl ic_1 ?_
        refine x_goto (tgt := 28) C dX9_borrow_24 (by decide) ?_
        exact x_wk [some (rv G this), some (.int a1), some (.int a2)] ⟨Or.inr rfl, Or.inr rfl, Or.inr rfl, trivial⟩ (hj4 1 _)
  · refine x_iconst (pc2 := 9) C dX9_borrow_8 rfl ic_m1 ?_
    exact x_iret C rfl rfl dX9_borrow_9
set_option maxRecDepth 100000 in
set_option maxHeartbeats 4000000 in
theorem ctX9_isSeen {l : Launch} {G : bkG} {M : Mem} {this : Nat} {a1 : Int32} (hk0 : kd this = 8) : ∀ r, fX9_isSeen this a1 M = some r → Met l yX9_isSeen (Cond.code yX9_isSeen cX9_isSeen 2 (some .boolean) :: TT) ({ frames := 0, cells := 0, slots := 0, locals := 0 } : Room) (va_Pc [rv G this, .int a1] (Wd G M)) (QQ G ((fun v => some (.int v)) r.1) r.2) 0 0 (An G) := by
  refine mkMet (vl := (fun v => some (.int v))) RX9 rfl (by decide +kernel) rfl (Nat.le_of_ble_eq_true rfl) [some (rv G this), some (.int a1)] rfl ?_
  intro p e s m args below meth c C _
  refine x_aload_n (pc2 := 1) C dX9_isSeen_0 rfl rfl ?_
  refine x_get (pc2 := 4) C fl_X9_7 hk0 (by decide) rfl dX9_isSeen_1 rfl ?_
  refine x_bipush (pc2 := 6) C dX9_isSeen_4 rfl bc_68 ?_
  refine x_iload_n (pc2 := 7) C dX9_isSeen_6 rfl rfl ?_
  refine x_iadd (pc2 := 8) C dX9_isSeen_7 rfl ?_
  refine x_iald (pc2 := 9) C (kf_8_0 hk0) dX9_isSeen_8 rfl ?_
  refine x_if_lt (tgt := 16) (pc2 := 12) C dX9_isSeen_9 (by decide) rfl ?_ ?_
  · refine x_iconst (pc2 := 17) C dX9_isSeen_16 rfl ic_0 ?_
    exact x_zret C rfl rfl rfl dX9_isSeen_17
  · refine x_iconst (pc2 := 13) C dX9_isSeen_12 rfl ic_1 ?_
    refine x_goto (tgt := 17) C dX9_isSeen_13 (by decide) ?_
    exact x_zret C rfl rfl rfl dX9_isSeen_17
set_option maxRecDepth 100000 in
set_option maxHeartbeats 4000000 in
theorem ctX9_clearKeys {l : Launch} {G : bkG} {M : Mem} {this : Nat} (hk0 : kd this = 8) : ∀ r, fX9_clearKeys this M = some r → Met l yX9_clearKeys (Cond.code yX9_clearKeys cX9_clearKeys 2 none :: TT) ({ frames := 0, cells := 0, slots := 0, locals := 0 } : Room) (va_Pc [rv G this] (Wd G M)) (QQ G ((fun _ => none) r.1) r.2) 0 0 (An G) := by
  refine mkMet (vl := (fun _ => none)) RX9 rfl (by decide +kernel) rfl (Nat.le_of_ble_eq_true rfl) [some (rv G this), none] rfl ?_
  intro p e s m args below meth c C _
  refine x_iconst (pc2 := 1) C dX9_clearKeys_0 rfl ic_0 ?_
  refine x_istore_n (pc2 := 2) C dX9_clearKeys_1 rfl [some (rv G this), some (.int 0)] rfl rfl ?_
  refine x_wk [some (rv G this), some (.int 0)] ⟨Or.inr rfl, Or.inr rfl, trivial⟩ ?_
  refine x_lp (fun (b1 : Int32) => [some (rv G this), some (.int b1)]) ?_
  · intro rec3 hrec3 b1 M2
    refine x_iload_n (pc2 := 3) C dX9_clearKeys_2 rfl rfl ?_
    refine x_bipush (pc2 := 5) C dX9_clearKeys_3 rfl bc_48 ?_
    refine x_icmp_ge (tgt := 81) (pc2 := 8) C dX9_clearKeys_5 (by decide) rfl ?_ ?_
    · exact x_vret C rfl rfl dX9_clearKeys_81
    · refine x_aload_n (pc2 := 9) C dX9_clearKeys_8 rfl rfl ?_
      refine x_get (pc2 := 12) C fl_X9_7 hk0 (by decide) rfl dX9_clearKeys_9 rfl ?_
      refine x_bipush (pc2 := 14) C dX9_clearKeys_12 rfl bc_20 ?_
      refine x_iload_n (pc2 := 15) C dX9_clearKeys_14 rfl rfl ?_
      refine x_iadd (pc2 := 16) C dX9_clearKeys_15 rfl ?_
      refine x_bipush (pc2 := 18) C dX9_clearKeys_16 rfl bc_m5 ?_
      refine x_iast (pc2 := 19) C (kf_8_0 hk0) dX9_clearKeys_18 rfl (fun M4 => ?_)
      refine x_aload_n (pc2 := 20) C dX9_clearKeys_19 rfl rfl ?_
      refine x_get (pc2 := 23) C fl_X9_7 hk0 (by decide) rfl dX9_clearKeys_20 rfl ?_
      refine x_bipush (pc2 := 25) C dX9_clearKeys_23 rfl bc_68 ?_
      refine x_iload_n (pc2 := 26) C dX9_clearKeys_25 rfl rfl ?_
      refine x_iadd (pc2 := 27) C dX9_clearKeys_26 rfl ?_
      refine x_bipush (pc2 := 29) C dX9_clearKeys_27 rfl bc_m5 ?_
      refine x_iast (pc2 := 30) C (kf_8_0 hk0) dX9_clearKeys_29 rfl (fun M5 => ?_)
      refine x_aload_n (pc2 := 31) C dX9_clearKeys_30 rfl rfl ?_
      refine x_get (pc2 := 34) C fl_X9_7 hk0 (by decide) rfl dX9_clearKeys_31 rfl ?_
      refine x_bipush (pc2 := 36) C dX9_clearKeys_34 rfl bc_116 ?_
      refine x_iload_n (pc2 := 37) C dX9_clearKeys_36 rfl rfl ?_
      refine x_iadd (pc2 := 38) C dX9_clearKeys_37 rfl ?_
      refine x_iconst (pc2 := 39) C dX9_clearKeys_38 rfl ic_0 ?_
      refine x_iast (pc2 := 40) C (kf_8_0 hk0) dX9_clearKeys_39 rfl (fun M6 => ?_)
      refine x_aload_n (pc2 := 41) C dX9_clearKeys_40 rfl rfl ?_
      refine x_get (pc2 := 44) C fl_X9_7 hk0 (by decide) rfl dX9_clearKeys_41 rfl ?_
      refine x_sipush (pc2 := 47) C dX9_clearKeys_44 rfl sc_164 ?_
      refine x_iload_n (pc2 := 48) C dX9_clearKeys_47 rfl rfl ?_
      refine x_iadd (pc2 := 49) C dX9_clearKeys_48 rfl ?_
      refine x_iconst (pc2 := 50) C dX9_clearKeys_49 rfl ic_0 ?_
      refine x_iast (pc2 := 51) C (kf_8_0 hk0) dX9_clearKeys_50 rfl (fun M7 => ?_)
      refine x_aload_n (pc2 := 52) C dX9_clearKeys_51 rfl rfl ?_
      refine x_get (pc2 := 55) C fl_X9_7 hk0 (by decide) rfl dX9_clearKeys_52 rfl ?_
      refine x_sipush (pc2 := 58) C dX9_clearKeys_55 rfl sc_212 ?_
      refine x_iload_n (pc2 := 59) C dX9_clearKeys_58 rfl rfl ?_
      refine x_iadd (pc2 := 60) C dX9_clearKeys_59 rfl ?_
      refine x_bipush (pc2 := 62) C dX9_clearKeys_60 rfl bc_m5 ?_
      refine x_iast (pc2 := 63) C (kf_8_0 hk0) dX9_clearKeys_62 rfl (fun M8 => ?_)
      refine x_aload_n (pc2 := 64) C dX9_clearKeys_63 rfl rfl ?_
      refine x_get (pc2 := 67) C fl_X9_7 hk0 (by decide) rfl dX9_clearKeys_64 rfl ?_
      refine x_sipush (pc2 := 70) C dX9_clearKeys_67 rfl sc_260 ?_
      refine x_iload_n (pc2 := 71) C dX9_clearKeys_70 rfl rfl ?_
      refine x_iadd (pc2 := 72) C dX9_clearKeys_71 rfl ?_
      refine x_bipush (pc2 := 74) C dX9_clearKeys_72 rfl bc_46 ?_
      refine x_iast (pc2 := 75) C (kf_8_0 hk0) dX9_clearKeys_74 rfl (fun M9 => ?_)
      refine x_iinc (pc2 := 78) (v := b1 + 1) C dX9_clearKeys_75 rfl rfl 1 ic_1 rfl [some (rv G this), some (.int (b1 + 1))] rfl rfl ?_
      refine x_goto (tgt := 2) C dX9_clearKeys_78 (by decide) ?_
      exact x_wk [some (rv G this), some (.int (b1 + 1))] ⟨Or.inr rfl, Or.inr rfl, trivial⟩ (hrec3 (b1 + 1) _)
set_option maxRecDepth 100000 in
set_option maxHeartbeats 4000000 in
theorem ctX9_build {l : Launch} {G : bkG} {M : Mem} {this : Nat} {a1 : Int32} {a2 : Int32} (hk0 : kd this = 8) : ∀ r, fX9_build this a1 a2 M = some r → Met l yX9_build (Cond.code yX9_build cX9_build 5 (some .int) :: TT) ({ frames := 2, cells := 0, slots := 0, locals := 41 } : Room) (va_Pc [rv G this, .int a1, .int a2] (Wd G M)) (QQ G ((fun v => some (.int v)) r.1) r.2) 0 0 (An G) := by
  refine mkMet (vl := (fun v => some (.int v))) RX9 rfl (by decide +kernel) rfl (Nat.le_of_ble_eq_true rfl) [some (rv G this), some (.int a1), some (.int a2), none, none] rfl ?_
  intro p e s m args below meth c C _
  refine x_iload_n (pc2 := 1) C dX9_build_0 rfl rfl ?_
  refine x_iconst (pc2 := 2) C dX9_build_1 rfl ic_2 ?_
  refine x_bipush (pc2 := 4) C dX9_build_2 rfl bc_6 ?_
  refine x_callSi (pc2 := 7) C [.int a1, .int 2, .int 6] [] cl_X9_68 (fun q hq => ctX9_in  q hq) rfl rfl ⟨rfl, rfl, Nat.le_of_ble_eq_true rfl, Nat.le_of_ble_eq_true rfl⟩ (Nat.le_of_ble_eq_true rfl) ⟨Nat.zero_le _, Nat.zero_le _⟩ dX9_build_4 rfl (fun v1 M2 => ?_)
  refine x_if_eq (tgt := 20) (pc2 := 10) C dX9_build_7 (by decide) rfl ?_ ?_
  · refine x_bipush (pc2 := 22) C dX9_build_20 rfl bc_m2 ?_
    exact x_iret C rfl rfl dX9_build_22
  · refine x_iload_n (pc2 := 11) C dX9_build_10 rfl rfl ?_
    refine x_iconst (pc2 := 12) C dX9_build_11 rfl ic_2 ?_
    refine x_bipush (pc2 := 14) C dX9_build_12 rfl bc_8 ?_
    refine x_callSi (pc2 := 17) C [.int a2, .int 2, .int 8] [] cl_X9_68 (fun q hq => ctX9_in  q hq) rfl rfl ⟨rfl, rfl, Nat.le_of_ble_eq_true rfl, Nat.le_of_ble_eq_true rfl⟩ (Nat.le_of_ble_eq_true rfl) ⟨Nat.zero_le _, Nat.zero_le _⟩ dX9_build_14 rfl (fun v3 M4 => ?_)
    refine x_if_ne (tgt := 23) (pc2 := 20) C dX9_build_17 (by decide) rfl ?_ ?_
    · refine x_iconst (pc2 := 24) C dX9_build_23 rfl ic_1 ?_
      refine x_istore_n (pc2 := 25) C dX9_build_24 rfl [some (rv G this), some (.int a1), some (.int a2), some (.int 1), none] rfl rfl ?_
      refine x_iconst (pc2 := 26) C dX9_build_25 rfl ic_0 ?_
      refine x_istore (pc2 := 28) C dX9_build_26 rfl [some (rv G this), some (.int a1), some (.int a2), some (.int 1), some (.int 0)] rfl rfl ?_
      refine x_wk [some (rv G this), some (.int a1), some (.int a2), some (.int 1), some (.int 0)] ⟨Or.inr rfl, Or.inr rfl, Or.inr rfl, Or.inr rfl, Or.inr rfl, trivial⟩ ?_
      refine x_lp1 (fun (b5 : Int32 × Int32) => [some (rv G this), some (.int a1), some (.int a2), some (.int b5.1), some (.int b5.2)]) 71 (fun (b8 : Int32) => [some (rv G this), some (.int a1), some (.int a2), some (.int b8), none]) ?_ ?_
      · intro b8 M9
        refine x_iload_n (pc2 := 72) C dX9_build_71 rfl rfl ?_
        refine x_if_ne (tgt := 78) (pc2 := 75) C dX9_build_72 (by decide) rfl ?_ ?_
        · refine x_iload_n (pc2 := 79) C dX9_build_78 rfl rfl ?_
          refine x_aload_n (pc2 := 80) C dX9_build_79 rfl rfl ?_
          refine x_get (pc2 := 83) C fl_X9_7 hk0 (by decide) rfl dX9_build_80 rfl ?_
          refine x_iconst (pc2 := 84) C dX9_build_83 rfl ic_0 ?_
          refine x_iald (pc2 := 85) C (kf_8_0 hk0) dX9_build_84 rfl ?_
          refine x_jn 101 (fun (b10 : Unit) => [some (rv G this), some (.int a1), some (.int a2), none, none]) (fun (b10 : Unit) => []) ?_ ?_
          · intro b10 M12
            refine x_aload_n (pc2 := 102) C dX9_build_101 rfl rfl ?_
            refine x_callVv (pc2 := 105) C [] [] cl_X9_61 (fun q hq => ctX9_begin hk0 q hq) hk0 rfl rfl rfl ⟨rfl, rfl, Nat.le_of_ble_eq_true rfl, Nat.le_of_ble_eq_true rfl⟩ (Nat.le_of_ble_eq_true rfl) ⟨Nat.zero_le _, Nat.zero_le _⟩ dX9_build_102 rfl (fun v13 M14 => ?_)
            refine x_aload_n (pc2 := 106) C dX9_build_105 rfl rfl ?_
            refine x_get (pc2 := 109) C fl_X9_7 hk0 (by decide) rfl dX9_build_106 rfl ?_
            refine x_iconst (pc2 := 110) C dX9_build_109 rfl ic_0 ?_
            refine x_iload_n (pc2 := 111) C dX9_build_110 rfl rfl ?_
            refine x_iast (pc2 := 112) C (kf_8_0 hk0) dX9_build_111 rfl (fun M15 => ?_)
            refine x_aload_n (pc2 := 113) C dX9_build_112 rfl rfl ?_
            refine x_get (pc2 := 116) C fl_X9_7 hk0 (by decide) rfl dX9_build_113 rfl ?_
            refine x_iconst (pc2 := 117) C dX9_build_116 rfl ic_1 ?_
            refine x_iload_n (pc2 := 118) C dX9_build_117 rfl rfl ?_
            refine x_iast (pc2 := 119) C (kf_8_0 hk0) dX9_build_118 rfl (fun M16 => ?_)
            refine x_aload_n (pc2 := 120) C dX9_build_119 rfl rfl ?_
            refine x_get (pc2 := 123) C fl_X9_7 hk0 (by decide) rfl dX9_build_120 rfl ?_
            refine x_iconst (pc2 := 124) C dX9_build_123 rfl ic_5 ?_
            refine x_bipush (pc2 := 126) C dX9_build_124 rfl bc_m5 ?_
            refine x_iast (pc2 := 127) C (kf_8_0 hk0) dX9_build_126 rfl (fun M17 => ?_)
            refine x_aload_n (pc2 := 128) C dX9_build_127 rfl rfl ?_
            refine x_get (pc2 := 131) C fl_X9_7 hk0 (by decide) rfl dX9_build_128 rfl ?_
            refine x_bipush (pc2 := 133) C dX9_build_131 rfl bc_6 ?_
            refine x_bipush (pc2 := 135) C dX9_build_133 rfl bc_m5 ?_
            refine x_iast (pc2 := 136) C (kf_8_0 hk0) dX9_build_135 rfl (fun M18 => ?_)
            refine x_aload_n (pc2 := 137) C dX9_build_136 rfl rfl ?_
            refine x_callVv (pc2 := 140) C [] [] cl_X9_44 (fun q hq => ctX9_clearKeys hk0 q hq) hk0 rfl rfl rfl ⟨rfl, rfl, Nat.le_of_ble_eq_true rfl, Nat.le_of_ble_eq_true rfl⟩ (Nat.le_of_ble_eq_true rfl) ⟨Nat.zero_le _, Nat.zero_le _⟩ dX9_build_137 rfl (fun v19 M20 => ?_)
            refine x_aload_n (pc2 := 141) C dX9_build_140 rfl rfl ?_
            refine x_callVi (pc2 := 144) C [] [] cl_X9_64 (fun q hq => ctX9_keys hk0 q hq) hk0 rfl rfl rfl ⟨rfl, rfl, Nat.le_of_ble_eq_true rfl, Nat.le_of_ble_eq_true rfl⟩ (Nat.le_of_ble_eq_true rfl) ⟨Nat.zero_le _, Nat.zero_le _⟩ dX9_build_141 rfl (fun v21 M22 => ?_)
            exact x_iret C rfl rfl dX9_build_144
          · intro j11 hj11
            refine x_icmp_ne (tgt := 101) (pc2 := 88) C dX9_build_85 (by decide) rfl ?_ ?_
            · exact x_wk [some (rv G this), some (.int a1), some (.int a2), none, none] ⟨Or.inr rfl, Or.inr rfl, Or.inr rfl, Or.inl rfl, Or.inl rfl, trivial⟩ (hj11 () _)
            · refine x_iload_n (pc2 := 89) C dX9_build_88 rfl rfl ?_
              refine x_aload_n (pc2 := 90) C dX9_build_89 rfl rfl ?_
              refine x_get (pc2 := 93) C fl_X9_7 hk0 (by decide) rfl dX9_build_90 rfl ?_
              refine x_iconst (pc2 := 94) C dX9_build_93 rfl ic_1 ?_
              refine x_iald (pc2 := 95) C (kf_8_0 hk0) dX9_build_94 rfl ?_
              refine x_icmp_ne (tgt := 101) (pc2 := 98) C dX9_build_95 (by decide) rfl ?_ ?_
              · exact x_wk [some (rv G this), some (.int a1), some (.int a2), none, none] ⟨Or.inr rfl, Or.inr rfl, Or.inr rfl, Or.inl rfl, Or.inl rfl, trivial⟩ (hj11 () _)
              · refine x_bipush (pc2 := 100) C dX9_build_98 rfl bc_m5 ?_
                exact x_iret C rfl rfl dX9_build_100
        · refine x_bipush (pc2 := 77) C dX9_build_75 rfl bc_m4 ?_
          exact x_iret C rfl rfl dX9_build_77
      · intro k23 hk23 rec7 hrec7 b5 M6
        refine x_iload (pc2 := 30) C dX9_build_28 rfl rfl ?_
        refine x_aload_n (pc2 := 31) C dX9_build_30 rfl rfl ?_
        refine x_callVi (pc2 := 34) C [] [.int b5.2] cl_X9_64 (fun q hq => ctX9_keys hk0 q hq) hk0 rfl rfl rfl ⟨rfl, rfl, Nat.le_of_ble_eq_true rfl, Nat.le_of_ble_eq_true rfl⟩ (Nat.le_of_ble_eq_true rfl) ⟨Nat.zero_le _, Nat.zero_le _⟩ dX9_build_31 rfl (fun v24 M25 => ?_)
        refine x_icmp_ge (tgt := 71) (pc2 := 37) C dX9_build_34 (by decide) rfl ?_ ?_
        · exact x_wk [some (rv G this), some (.int a1), some (.int a2), some (.int b5.1), none] ⟨Or.inr rfl, Or.inr rfl, Or.inr rfl, Or.inr rfl, Or.inl rfl, trivial⟩ (hk23 b5.1 _)
        · refine x_iload_n (pc2 := 38) C dX9_build_37 rfl rfl ?_
          refine x_jn 64 (fun (b26 : Int32) => [some (rv G this), some (.int a1), some (.int a2), none, some (.int b5.2)]) (fun (b26 : Int32) => [.int b26]) ?_ ?_
          · intro b26 M28
            refine x_istore_n (pc2 := 65) C dX9_build_64 rfl [some (rv G this), some (.int a1), some (.int a2), some (.int b26), some (.int b5.2)] rfl rfl ?_
            refine x_iinc (pc2 := 68) (v := b5.2 + 1) C dX9_build_65 rfl rfl 1 ic_1 rfl [some (rv G this), some (.int a1), some (.int a2), some (.int b26), some (.int (b5.2 + 1))] rfl rfl ?_
            refine x_goto (tgt := 28) C dX9_build_68 (by decide) ?_
            exact x_wk [some (rv G this), some (.int a1), some (.int a2), some (.int b26), some (.int (b5.2 + 1))] ⟨Or.inr rfl, Or.inr rfl, Or.inr rfl, Or.inr rfl, Or.inr rfl, trivial⟩ (hrec7 (b26, b5.2 + 1) _)
          · intro j27 hj27
            refine x_jn 63 (fun (b29 : Unit) => [some (rv G this), some (.int a1), some (.int a2), none, some (.int b5.2)]) (fun (b29 : Unit) => []) ?_ ?_
            · intro b29 M31
              refine x_iconst (pc2 := 64) C dX9_build_63 rfl ic_0 ?_
              exact x_wk [some (rv G this), some (.int a1), some (.int a2), none, some (.int b5.2)] ⟨Or.inr rfl, Or.inr rfl, Or.inr rfl, Or.inl rfl, Or.inr rfl, trivial⟩ (hj27 0 _)
            · intro j30 hj30
              refine x_if_eq (tgt := 63) (pc2 := 41) C dX9_build_38 (by decide) rfl ?_ ?_
              · exact x_wk [some (rv G this), some (.int a1), some (.int a2), none, some (.int b5.2)] ⟨Or.inr rfl, Or.inr rfl, Or.inr rfl, Or.inl rfl, Or.inr rfl, trivial⟩ (hj30 () _)
              · refine x_aload_n (pc2 := 42) C dX9_build_41 rfl rfl ?_
                refine x_iload (pc2 := 44) C dX9_build_42 rfl rfl ?_
                refine x_callVi (pc2 := 47) C [.int b5.2] [] cl_X9_72 (fun q hq => ctX9_isDown hk0 q hq) hk0 rfl rfl rfl ⟨rfl, rfl, Nat.le_of_ble_eq_true rfl, Nat.le_of_ble_eq_true rfl⟩ (Nat.le_of_ble_eq_true rfl) ⟨Nat.zero_le _, Nat.zero_le _⟩ dX9_build_44 rfl (fun v32 M33 => ?_)
                refine x_if_ne (tgt := 63) (pc2 := 50) C dX9_build_47 (by decide) rfl ?_ ?_
                · exact x_wk [some (rv G this), some (.int a1), some (.int a2), none, some (.int b5.2)] ⟨Or.inr rfl, Or.inr rfl, Or.inr rfl, Or.inl rfl, Or.inr rfl, trivial⟩ (hj30 () _)
                · refine x_aload_n (pc2 := 51) C dX9_build_50 rfl rfl ?_
                  refine x_iload (pc2 := 53) C dX9_build_51 rfl rfl ?_
                  refine x_callVi (pc2 := 56) C [.int b5.2] [] cl_X9_76 (fun q hq => ctX9_isSeen hk0 q hq) hk0 rfl rfl rfl ⟨rfl, rfl, Nat.le_of_ble_eq_true rfl, Nat.le_of_ble_eq_true rfl⟩ (Nat.le_of_ble_eq_true rfl) ⟨Nat.zero_le _, Nat.zero_le _⟩ dX9_build_53 rfl (fun v34 M35 => ?_)
                  refine x_if_ne (tgt := 63) (pc2 := 59) C dX9_build_56 (by decide) rfl ?_ ?_
                  · exact x_wk [some (rv G this), some (.int a1), some (.int a2), none, some (.int b5.2)] ⟨Or.inr rfl, Or.inr rfl, Or.inr rfl, Or.inl rfl, Or.inr rfl, trivial⟩ (hj30 () _)
                  · refine x_iconst (pc2 := 60) C dX9_build_59 rfl ic_1 ?_
                    refine x_goto (tgt := 64) C dX9_build_60 (by decide) ?_
                    exact x_wk [some (rv G this), some (.int a1), some (.int a2), none, some (.int b5.2)] ⟨Or.inr rfl, Or.inr rfl, Or.inr rfl, Or.inl rfl, Or.inr rfl, trivial⟩ (hj27 1 _)
    · refine x_bipush (pc2 := 22) C dX9_build_20 rfl bc_m2 ?_
      exact x_iret C rfl rfl dX9_build_22
set_option maxRecDepth 100000 in
set_option maxHeartbeats 4000000 in
theorem ctX9_clearText {l : Launch} {G : bkG} {M : Mem} {this : Nat} (hk0 : kd this = 8) : ∀ r, fX9_clearText this M = some r → Met l yX9_clearText (Cond.code yX9_clearText cX9_clearText 2 (some .int) :: TT) ({ frames := 0, cells := 0, slots := 0, locals := 0 } : Room) (va_Pc [rv G this] (Wd G M)) (QQ G ((fun v => some (.int v)) r.1) r.2) 0 0 (An G) := by
  refine mkMet (vl := (fun v => some (.int v))) RX9 rfl (by decide +kernel) rfl (Nat.le_of_ble_eq_true rfl) [some (rv G this), none] rfl ?_
  intro p e s m args below meth c C _
  refine x_aload_n (pc2 := 1) C dX9_clearText_0 rfl rfl ?_
  refine x_get (pc2 := 4) C fl_X9_168 hk0 (by decide) rfl dX9_clearText_1 rfl ?_
  refine x_istore_n (pc2 := 5) C dX9_clearText_4 rfl [some (rv G this), some (.int (M.1 this 11))] rfl rfl ?_
  refine x_aload_n (pc2 := 6) C dX9_clearText_5 rfl rfl ?_
  refine x_iconst (pc2 := 7) C dX9_clearText_6 rfl ic_0 ?_
  refine x_puti (pc2 := 10) C ft_X9_168 hk0 (by decide) hs_8_11 (Nat.le_of_ble_eq_true rfl) dX9_clearText_7 rfl (fun M1 => ?_)
  refine x_iload_n (pc2 := 11) C dX9_clearText_10 rfl rfl ?_
  exact x_iret C rfl rfl dX9_clearText_11
set_option maxRecDepth 100000 in
set_option maxHeartbeats 4000000 in
theorem ctX9_closesCorner {l : Launch} {G : bkG} {M : Mem} {this : Nat} {a1 : Int32} (hk0 : kd this = 8) : ∀ r, fX9_closesCorner this a1 M = some r → Met l yX9_closesCorner (Cond.code yX9_closesCorner cX9_closesCorner 7 (some .boolean) :: TT) ({ frames := 1, cells := 0, slots := 0, locals := 21 } : Room) (va_Pc [rv G this, .int a1] (Wd G M)) (QQ G ((fun v => some (.int v)) r.1) r.2) 0 0 (An G) := by
  refine mkMet (vl := (fun v => some (.int v))) RX9 rfl (by decide +kernel) rfl (Nat.le_of_ble_eq_true rfl) [some (rv G this), some (.int a1), none, none, none, none, none] rfl ?_
  intro p e s m args below meth c C _
  refine x_iload_n (pc2 := 1) C dX9_closesCorner_0 rfl rfl ?_
  refine x_aload_n (pc2 := 2) C dX9_closesCorner_1 rfl rfl ?_
  refine x_get (pc2 := 5) C fl_X9_7 hk0 (by decide) rfl dX9_closesCorner_2 rfl ?_
  refine x_iconst (pc2 := 6) C dX9_closesCorner_5 rfl ic_1 ?_
  refine x_iald (pc2 := 7) C (kf_8_0 hk0) dX9_closesCorner_6 rfl ?_
  refine x_idiv (pc2 := 8) C dX9_closesCorner_7 rfl ?_
  refine x_topi (fun v1 => ?_)
  refine x_istore_n (pc2 := 9) C dX9_closesCorner_8 rfl [some (rv G this), some (.int a1), some (.int v1), none, none, none, none] rfl rfl ?_
  refine x_iload_n (pc2 := 10) C dX9_closesCorner_9 rfl rfl ?_
  refine x_aload_n (pc2 := 11) C dX9_closesCorner_10 rfl rfl ?_
  refine x_get (pc2 := 14) C fl_X9_7 hk0 (by decide) rfl dX9_closesCorner_11 rfl ?_
  refine x_iconst (pc2 := 15) C dX9_closesCorner_14 rfl ic_1 ?_
  refine x_iald (pc2 := 16) C (kf_8_0 hk0) dX9_closesCorner_15 rfl ?_
  refine x_irem (pc2 := 17) C dX9_closesCorner_16 rfl ?_
  refine x_topi (fun v2 => ?_)
  refine x_istore_n (pc2 := 18) C dX9_closesCorner_17 rfl [some (rv G this), some (.int a1), some (.int v1), some (.int v2), none, none, none] rfl rfl ?_
  refine x_iconst (pc2 := 19) C dX9_closesCorner_18 rfl ic_0 ?_
  refine x_istore (pc2 := 21) C dX9_closesCorner_19 rfl [some (rv G this), some (.int a1), some (.int v1), some (.int v2), some (.int 0), none, none] rfl rfl ?_
  refine x_iconst (pc2 := 22) C dX9_closesCorner_21 rfl ic_0 ?_
  refine x_istore (pc2 := 24) C dX9_closesCorner_22 rfl [some (rv G this), some (.int a1), some (.int v1), some (.int v2), some (.int 0), some (.int 0), none] rfl rfl ?_
  refine x_wk [some (rv G this), none, some (.int v1), some (.int v2), some (.int 0), some (.int 0), none] ⟨Or.inr rfl, Or.inl rfl, Or.inr rfl, Or.inr rfl, Or.inr rfl, Or.inr rfl, Or.inl rfl, trivial⟩ ?_
  refine x_lp (fun (b3 : Int32 × Int32) => [some (rv G this), none, some (.int v1), some (.int v2), some (.int b3.1), some (.int b3.2), none]) ?_
  · intro rec5 hrec5 b3 M4
    refine x_iload (pc2 := 26) C dX9_closesCorner_24 rfl rfl ?_
    refine x_aload_n (pc2 := 27) C dX9_closesCorner_26 rfl rfl ?_
    refine x_get (pc2 := 30) C fl_X9_7 hk0 (by decide) rfl dX9_closesCorner_27 rfl ?_
    refine x_iconst (pc2 := 31) C dX9_closesCorner_30 rfl ic_0 ?_
    refine x_iald (pc2 := 32) C (kf_8_0 hk0) dX9_closesCorner_31 rfl ?_
    refine x_icmp_ge (tgt := 140) (pc2 := 35) C dX9_closesCorner_32 (by decide) rfl ?_ ?_
    · refine x_iload (pc2 := 142) C dX9_closesCorner_140 rfl rfl ?_
      exact x_asr (fun hb => x_zret C rfl rfl (bzb_nar hb).1 dX9_closesCorner_142)
    · refine x_iconst (pc2 := 36) C dX9_closesCorner_35 rfl ic_0 ?_
      refine x_istore (pc2 := 38) C dX9_closesCorner_36 rfl [some (rv G this), none, some (.int v1), some (.int v2), some (.int b3.1), some (.int b3.2), some (.int 0)] rfl rfl ?_
      refine x_wk [some (rv G this), none, some (.int v1), some (.int v2), some (.int b3.1), some (.int b3.2), some (.int 0)] ⟨Or.inr rfl, Or.inl rfl, Or.inr rfl, Or.inr rfl, Or.inr rfl, Or.inr rfl, Or.inr rfl, trivial⟩ ?_
      refine x_lp1 (fun (b6 : Int32 × Int32) => [some (rv G this), none, some (.int v1), some (.int v2), some (.int b6.1), some (.int b3.2), some (.int b6.2)]) 134 (fun (b9 : Int32) => [some (rv G this), none, some (.int v1), some (.int v2), some (.int b9), some (.int b3.2), none]) ?_ ?_
      · intro b9 M10
        refine x_iinc (pc2 := 137) (v := b3.2 + 1) C dX9_closesCorner_134 rfl rfl 1 ic_1 rfl [some (rv G this), none, some (.int v1), some (.int v2), some (.int b9), some (.int (b3.2 + 1)), none] rfl rfl ?_
        refine x_goto (tgt := 24) C dX9_closesCorner_137 (by decide) ?_
        exact x_wk [some (rv G this), none, some (.int v1), some (.int v2), some (.int b9), some (.int (b3.2 + 1)), none] ⟨Or.inr rfl, Or.inl rfl, Or.inr rfl, Or.inr rfl, Or.inr rfl, Or.inr rfl, Or.inl rfl, trivial⟩ (hrec5 (b9, b3.2 + 1) _)
      · intro k11 hk11 rec8 hrec8 b6 M7
        refine x_iload (pc2 := 40) C dX9_closesCorner_38 rfl rfl ?_
        refine x_aload_n (pc2 := 41) C dX9_closesCorner_40 rfl rfl ?_
        refine x_get (pc2 := 44) C fl_X9_7 hk0 (by decide) rfl dX9_closesCorner_41 rfl ?_
        refine x_iconst (pc2 := 45) C dX9_closesCorner_44 rfl ic_1 ?_
        refine x_iald (pc2 := 46) C (kf_8_0 hk0) dX9_closesCorner_45 rfl ?_
        refine x_icmp_ge (tgt := 134) (pc2 := 49) C dX9_closesCorner_46 (by decide) rfl ?_ ?_
        · exact x_wk [some (rv G this), none, some (.int v1), some (.int v2), some (.int b6.1), some (.int b3.2), none] ⟨Or.inr rfl, Or.inl rfl, Or.inr rfl, Or.inr rfl, Or.inr rfl, Or.inr rfl, Or.inl rfl, trivial⟩ (hk11 b6.1 _)
        · refine x_iload (pc2 := 51) C dX9_closesCorner_49 rfl rfl ?_
          refine x_iload_n (pc2 := 52) C dX9_closesCorner_51 rfl rfl ?_
          refine x_icmp_eq (tgt := 134) (pc2 := 55) C dX9_closesCorner_52 (by decide) rfl ?_ ?_
          · exact x_wk [some (rv G this), none, some (.int v1), some (.int v2), some (.int b6.1), some (.int b3.2), none] ⟨Or.inr rfl, Or.inl rfl, Or.inr rfl, Or.inr rfl, Or.inr rfl, Or.inr rfl, Or.inl rfl, trivial⟩ (hk11 b6.1 _)
          · refine x_iload (pc2 := 57) C dX9_closesCorner_55 rfl rfl ?_
            refine x_jn 126 (fun (b12 : Int32) => [some (rv G this), none, some (.int v1), some (.int v2), none, some (.int b3.2), some (.int b6.2)]) (fun (b12 : Int32) => [.int b12]) ?_ ?_
            · intro b12 M14
              refine x_istore (pc2 := 128) C dX9_closesCorner_126 rfl [some (rv G this), none, some (.int v1), some (.int v2), some (.int b12), some (.int b3.2), some (.int b6.2)] rfl rfl ?_
              refine x_iinc (pc2 := 131) (v := b6.2 + 1) C dX9_closesCorner_128 rfl rfl 1 ic_1 rfl [some (rv G this), none, some (.int v1), some (.int v2), some (.int b12), some (.int b3.2), some (.int (b6.2 + 1))] rfl rfl ?_
              refine x_goto (tgt := 38) C dX9_closesCorner_131 (by decide) ?_
              exact x_wk [some (rv G this), none, some (.int v1), some (.int v2), some (.int b12), some (.int b3.2), some (.int (b6.2 + 1))] ⟨Or.inr rfl, Or.inl rfl, Or.inr rfl, Or.inr rfl, Or.inr rfl, Or.inr rfl, Or.inr rfl, trivial⟩ (hrec8 (b12, b6.2 + 1) _)
            · intro j13 hj13
              refine x_jn 121 (fun (b15 : Unit) => [some (rv G this), none, some (.int v1), some (.int v2), none, some (.int b3.2), some (.int b6.2)]) (fun (b15 : Unit) => []) ?_ ?_
              · intro b15 M17
                refine x_iconst (pc2 := 122) C dX9_closesCorner_121 rfl ic_1 ?_
                refine x_goto (tgt := 126) C dX9_closesCorner_122 (by decide) ?_
                exact x_wk [some (rv G this), none, some (.int v1), some (.int v2), none, some (.int b3.2), some (.int b6.2)] ⟨Or.inr rfl, Or.inl rfl, Or.inr rfl, Or.inr rfl, Or.inl rfl, Or.inr rfl, Or.inr rfl, trivial⟩ (hj13 1 _)
              · intro j16 hj16
                refine x_if_ne (tgt := 121) (pc2 := 60) C dX9_closesCorner_57 (by decide) rfl ?_ ?_
                · exact x_wk [some (rv G this), none, some (.int v1), some (.int v2), none, some (.int b3.2), some (.int b6.2)] ⟨Or.inr rfl, Or.inl rfl, Or.inr rfl, Or.inr rfl, Or.inl rfl, Or.inr rfl, Or.inr rfl, trivial⟩ (hj16 () _)
                · refine x_iload (pc2 := 62) C dX9_closesCorner_60 rfl rfl ?_
                  refine x_iload_n (pc2 := 63) C dX9_closesCorner_62 rfl rfl ?_
                  refine x_jn 125 (fun (b18 : Unit) => [some (rv G this), none, some (.int v1), some (.int v2), none, some (.int b3.2), some (.int b6.2)]) (fun (b18 : Unit) => []) ?_ ?_
                  · intro b18 M20
                    refine x_iconst (pc2 := 126) C dX9_closesCorner_125 rfl ic_0 ?_
                    exact x_wk [some (rv G this), none, some (.int v1), some (.int v2), none, some (.int b3.2), some (.int b6.2)] ⟨Or.inr rfl, Or.inl rfl, Or.inr rfl, Or.inr rfl, Or.inl rfl, Or.inr rfl, Or.inr rfl, trivial⟩ (hj13 0 _)
                  · intro j19 hj19
                    refine x_icmp_eq (tgt := 125) (pc2 := 66) C dX9_closesCorner_63 (by decide) rfl ?_ ?_
                    · exact x_wk [some (rv G this), none, some (.int v1), some (.int v2), none, some (.int b3.2), some (.int b6.2)] ⟨Or.inr rfl, Or.inl rfl, Or.inr rfl, Or.inr rfl, Or.inl rfl, Or.inr rfl, Or.inr rfl, trivial⟩ (hj19 () _)
                    · refine x_aload_n (pc2 := 67) C dX9_closesCorner_66 rfl rfl ?_
                      refine x_aload_n (pc2 := 68) C dX9_closesCorner_67 rfl rfl ?_
                      refine x_get (pc2 := 71) C fl_X9_7 hk0 (by decide) rfl dX9_closesCorner_68 rfl ?_
                      refine x_iconst (pc2 := 72) C dX9_closesCorner_71 rfl ic_1 ?_
                      refine x_iald (pc2 := 73) C (kf_8_0 hk0) dX9_closesCorner_72 rfl ?_
                      refine x_iload_n (pc2 := 74) C dX9_closesCorner_73 rfl rfl ?_
                      refine x_imul (pc2 := 75) C dX9_closesCorner_74 rfl ?_
                      refine x_iload (pc2 := 77) C dX9_closesCorner_75 rfl rfl ?_
                      refine x_iadd (pc2 := 78) C dX9_closesCorner_77 rfl ?_
                      refine x_callVi (pc2 := 81) C [.int (((M7.1 (this + 1) (1 : Int32).toNatClampNeg) * v1) + b6.2)] [] cl_X9_76 (fun q hq => ctX9_isSeen hk0 q hq) hk0 rfl rfl rfl ⟨rfl, rfl, Nat.le_of_ble_eq_true rfl, Nat.le_of_ble_eq_true rfl⟩ (Nat.le_of_ble_eq_true rfl) ⟨Nat.zero_le _, Nat.zero_le _⟩ dX9_closesCorner_78 rfl (fun v21 M22 => ?_)
                      refine x_if_eq (tgt := 125) (pc2 := 84) C dX9_closesCorner_81 (by decide) rfl ?_ ?_
                      · exact x_wk [some (rv G this), none, some (.int v1), some (.int v2), none, some (.int b3.2), some (.int b6.2)] ⟨Or.inr rfl, Or.inl rfl, Or.inr rfl, Or.inr rfl, Or.inl rfl, Or.inr rfl, Or.inr rfl, trivial⟩ (hj19 () _)
                      · refine x_aload_n (pc2 := 85) C dX9_closesCorner_84 rfl rfl ?_
                        refine x_aload_n (pc2 := 86) C dX9_closesCorner_85 rfl rfl ?_
                        refine x_get (pc2 := 89) C fl_X9_7 hk0 (by decide) rfl dX9_closesCorner_86 rfl ?_
                        refine x_iconst (pc2 := 90) C dX9_closesCorner_89 rfl ic_1 ?_
                        refine x_iald (pc2 := 91) C (kf_8_0 hk0) dX9_closesCorner_90 rfl ?_
                        refine x_iload (pc2 := 93) C dX9_closesCorner_91 rfl rfl ?_
                        refine x_imul (pc2 := 94) C dX9_closesCorner_93 rfl ?_
                        refine x_iload_n (pc2 := 95) C dX9_closesCorner_94 rfl rfl ?_
                        refine x_iadd (pc2 := 96) C dX9_closesCorner_95 rfl ?_
                        refine x_callVi (pc2 := 99) C [.int (((M22.1 (this + 1) (1 : Int32).toNatClampNeg) * b3.2) + v2)] [] cl_X9_76 (fun q hq => ctX9_isSeen hk0 q hq) hk0 rfl rfl rfl ⟨rfl, rfl, Nat.le_of_ble_eq_true rfl, Nat.le_of_ble_eq_true rfl⟩ (Nat.le_of_ble_eq_true rfl) ⟨Nat.zero_le _, Nat.zero_le _⟩ dX9_closesCorner_96 rfl (fun v23 M24 => ?_)
                        refine x_if_eq (tgt := 125) (pc2 := 102) C dX9_closesCorner_99 (by decide) rfl ?_ ?_
                        · exact x_wk [some (rv G this), none, some (.int v1), some (.int v2), none, some (.int b3.2), some (.int b6.2)] ⟨Or.inr rfl, Or.inl rfl, Or.inr rfl, Or.inr rfl, Or.inl rfl, Or.inr rfl, Or.inr rfl, trivial⟩ (hj19 () _)
                        · refine x_aload_n (pc2 := 103) C dX9_closesCorner_102 rfl rfl ?_
                          refine x_aload_n (pc2 := 104) C dX9_closesCorner_103 rfl rfl ?_
                          refine x_get (pc2 := 107) C fl_X9_7 hk0 (by decide) rfl dX9_closesCorner_104 rfl ?_
                          refine x_iconst (pc2 := 108) C dX9_closesCorner_107 rfl ic_1 ?_
                          refine x_iald (pc2 := 109) C (kf_8_0 hk0) dX9_closesCorner_108 rfl ?_
                          refine x_iload (pc2 := 111) C dX9_closesCorner_109 rfl rfl ?_
                          refine x_imul (pc2 := 112) C dX9_closesCorner_111 rfl ?_
                          refine x_iload (pc2 := 114) C dX9_closesCorner_112 rfl rfl ?_
                          refine x_iadd (pc2 := 115) C dX9_closesCorner_114 rfl ?_
                          refine x_callVi (pc2 := 118) C [.int (((M24.1 (this + 1) (1 : Int32).toNatClampNeg) * b3.2) + b6.2)] [] cl_X9_76 (fun q hq => ctX9_isSeen hk0 q hq) hk0 rfl rfl rfl ⟨rfl, rfl, Nat.le_of_ble_eq_true rfl, Nat.le_of_ble_eq_true rfl⟩ (Nat.le_of_ble_eq_true rfl) ⟨Nat.zero_le _, Nat.zero_le _⟩ dX9_closesCorner_115 rfl (fun v25 M26 => ?_)
                          refine x_if_eq (tgt := 125) (pc2 := 121) C dX9_closesCorner_118 (by decide) rfl ?_ ?_
                          · exact x_wk [some (rv G this), none, some (.int v1), some (.int v2), none, some (.int b3.2), some (.int b6.2)] ⟨Or.inr rfl, Or.inl rfl, Or.inr rfl, Or.inr rfl, Or.inl rfl, Or.inr rfl, Or.inr rfl, trivial⟩ (hj19 () _)
                          · exact x_wk [some (rv G this), none, some (.int v1), some (.int v2), none, some (.int b3.2), some (.int b6.2)] ⟨Or.inr rfl, Or.inl rfl, Or.inr rfl, Or.inr rfl, Or.inl rfl, Or.inr rfl, Or.inr rfl, trivial⟩ (hj16 () _)
set_option maxRecDepth 100000 in
set_option maxHeartbeats 4000000 in
theorem ctX9_keysThat {l : Launch} {G : bkG} {M : Mem} {this : Nat} {a1 : Int32} (hk0 : kd this = 8) : ∀ r, fX9_keysThat this a1 M = some r → Met l yX9_keysThat (Cond.code yX9_keysThat cX9_keysThat 5 (some .int) :: TT) ({ frames := 1, cells := 0, slots := 0, locals := 21 } : Room) (va_Pc [rv G this, .int a1] (Wd G M)) (QQ G ((fun v => some (.int v)) r.1) r.2) 0 0 (An G) := by
  refine mkMet (vl := (fun v => some (.int v))) RX9 rfl (by decide +kernel) rfl (Nat.le_of_ble_eq_true rfl) [some (rv G this), some (.int a1), none, none, none] rfl ?_
  intro p e s m args below meth c C _
  refine x_iconst (pc2 := 1) C dX9_keysThat_0 rfl ic_0 ?_
  refine x_istore_n (pc2 := 2) C dX9_keysThat_1 rfl [some (rv G this), some (.int a1), some (.int 0), none, none] rfl rfl ?_
  refine x_iconst (pc2 := 3) C dX9_keysThat_2 rfl ic_0 ?_
  refine x_istore_n (pc2 := 4) C dX9_keysThat_3 rfl [some (rv G this), some (.int a1), some (.int 0), some (.int 0), none] rfl rfl ?_
  refine x_wk [some (rv G this), some (.int a1), some (.int 0), some (.int 0), none] ⟨Or.inr rfl, Or.inr rfl, Or.inr rfl, Or.inr rfl, Or.inl rfl, trivial⟩ ?_
  refine x_lp (fun (b1 : Int32 × Int32) => [some (rv G this), some (.int a1), some (.int b1.1), some (.int b1.2), none]) ?_
  · intro rec3 hrec3 b1 M2
    refine x_iload_n (pc2 := 5) C dX9_keysThat_4 rfl rfl ?_
    refine x_aload_n (pc2 := 6) C dX9_keysThat_5 rfl rfl ?_
    refine x_callVi (pc2 := 9) C [] [.int b1.2] cl_X9_64 (fun q hq => ctX9_keys hk0 q hq) hk0 rfl rfl rfl ⟨rfl, rfl, Nat.le_of_ble_eq_true rfl, Nat.le_of_ble_eq_true rfl⟩ (Nat.le_of_ble_eq_true rfl) ⟨Nat.zero_le _, Nat.zero_le _⟩ dX9_keysThat_6 rfl (fun v4 M5 => ?_)
    refine x_icmp_ge (tgt := 85) (pc2 := 12) C dX9_keysThat_9 (by decide) rfl ?_ ?_
    · refine x_iload_n (pc2 := 86) C dX9_keysThat_85 rfl rfl ?_
      exact x_iret C rfl rfl dX9_keysThat_86
    · refine x_iload_n (pc2 := 13) C dX9_keysThat_12 rfl rfl ?_
      refine x_iconst (pc2 := 14) C dX9_keysThat_13 rfl ic_3 ?_
      refine x_jn 64 (fun (b6 : Int32) => [some (rv G this), some (.int a1), some (.int b1.1), some (.int b1.2), none]) (fun (b6 : Int32) => [.int b6]) ?_ ?_
      · intro b6 M8
        refine x_istore (pc2 := 66) C dX9_keysThat_64 rfl [some (rv G this), some (.int a1), some (.int b1.1), some (.int b1.2), some (.int b6)] rfl rfl ?_
        refine x_iload_n (pc2 := 67) C dX9_keysThat_66 rfl rfl ?_
        refine x_iload (pc2 := 69) C dX9_keysThat_67 rfl rfl ?_
        refine x_jn 77 (fun (b9 : Int32) => [some (rv G this), some (.int a1), none, some (.int b1.2), none]) (fun (b9 : Int32) => [.int b9, .int b1.1]) ?_ ?_
        · intro b9 M11
          refine x_iadd (pc2 := 78) C dX9_keysThat_77 rfl ?_
          refine x_istore_n (pc2 := 79) C dX9_keysThat_78 rfl [some (rv G this), some (.int a1), some (.int (b1.1 + b9)), some (.int b1.2), none] rfl rfl ?_
          refine x_iinc (pc2 := 82) (v := b1.2 + 1) C dX9_keysThat_79 rfl rfl 1 ic_1 rfl [some (rv G this), some (.int a1), some (.int (b1.1 + b9)), some (.int (b1.2 + 1)), none] rfl rfl ?_
          refine x_goto (tgt := 4) C dX9_keysThat_82 (by decide) ?_
          exact x_wk [some (rv G this), some (.int a1), some (.int (b1.1 + b9)), some (.int (b1.2 + 1)), none] ⟨Or.inr rfl, Or.inr rfl, Or.inr rfl, Or.inr rfl, Or.inl rfl, trivial⟩ (hrec3 (b1.1 + b9, b1.2 + 1) _)
        · intro j10 hj10
          refine x_if_eq (tgt := 76) (pc2 := 72) C dX9_keysThat_69 (by decide) rfl ?_ ?_
          · refine x_iconst (pc2 := 77) C dX9_keysThat_76 rfl ic_0 ?_
            exact x_wk [some (rv G this), some (.int a1), none, some (.int b1.2), none] ⟨Or.inr rfl, Or.inr rfl, Or.inl rfl, Or.inr rfl, Or.inl rfl, trivial⟩ (hj10 0 _)
          · refine x_iconst (pc2 := 73) C dX9_keysThat_72 rfl ic_1 ?_
            refine x_goto (tgt := 77) C dX9_keysThat_73 (by decide) ?_
            exact x_wk [some (rv G this), some (.int a1), none, some (.int b1.2), none] ⟨Or.inr rfl, Or.inr rfl, Or.inl rfl, Or.inr rfl, Or.inl rfl, trivial⟩ (hj10 1 _)
      · intro j7 hj7
        refine x_icmp_ne (tgt := 25) (pc2 := 17) C dX9_keysThat_14 (by decide) rfl ?_ ?_
        · refine x_iload_n (pc2 := 26) C dX9_keysThat_25 rfl rfl ?_
          refine x_iconst (pc2 := 27) C dX9_keysThat_26 rfl ic_4 ?_
          refine x_icmp_ne (tgt := 38) (pc2 := 30) C dX9_keysThat_27 (by decide) rfl ?_ ?_
          · refine x_aload_n (pc2 := 39) C dX9_keysThat_38 rfl rfl ?_
            refine x_iload_n (pc2 := 40) C dX9_keysThat_39 rfl rfl ?_
            refine x_callVi (pc2 := 43) C [.int b1.2] [] cl_X9_76 (fun q hq => ctX9_isSeen hk0 q hq) hk0 rfl rfl rfl ⟨rfl, rfl, Nat.le_of_ble_eq_true rfl, Nat.le_of_ble_eq_true rfl⟩ (Nat.le_of_ble_eq_true rfl) ⟨Nat.zero_le _, Nat.zero_le _⟩ dX9_keysThat_40 rfl (fun v12 M13 => ?_)
            refine x_jn 63 (fun (b14 : Unit) => [some (rv G this), some (.int a1), some (.int b1.1), some (.int b1.2), none]) (fun (b14 : Unit) => []) ?_ ?_
            · intro b14 M16
              refine x_iconst (pc2 := 64) C dX9_keysThat_63 rfl ic_0 ?_
              exact x_wk [some (rv G this), some (.int a1), some (.int b1.1), some (.int b1.2), none] ⟨Or.inr rfl, Or.inr rfl, Or.inr rfl, Or.inr rfl, Or.inl rfl, trivial⟩ (hj7 0 _)
            · intro j15 hj15
              refine x_if_eq (tgt := 63) (pc2 := 46) C dX9_keysThat_43 (by decide) rfl ?_ ?_
              · exact x_wk [some (rv G this), some (.int a1), some (.int b1.1), some (.int b1.2), none] ⟨Or.inr rfl, Or.inr rfl, Or.inr rfl, Or.inr rfl, Or.inl rfl, trivial⟩ (hj15 () _)
              · refine x_aload_n (pc2 := 47) C dX9_keysThat_46 rfl rfl ?_
                refine x_get (pc2 := 50) C fl_X9_7 hk0 (by decide) rfl dX9_keysThat_47 rfl ?_
                refine x_bipush (pc2 := 52) C dX9_keysThat_50 rfl bc_116 ?_
                refine x_iload_n (pc2 := 53) C dX9_keysThat_52 rfl rfl ?_
                refine x_iadd (pc2 := 54) C dX9_keysThat_53 rfl ?_
                refine x_iald (pc2 := 55) C (kf_8_0 hk0) dX9_keysThat_54 rfl ?_
                refine x_iconst (pc2 := 56) C dX9_keysThat_55 rfl ic_1 ?_
                refine x_icmp_ne (tgt := 63) (pc2 := 59) C dX9_keysThat_56 (by decide) rfl ?_ ?_
                · exact x_wk [some (rv G this), some (.int a1), some (.int b1.1), some (.int b1.2), none] ⟨Or.inr rfl, Or.inr rfl, Or.inr rfl, Or.inr rfl, Or.inl rfl, trivial⟩ (hj15 () _)
                · refine x_iconst (pc2 := 60) C dX9_keysThat_59 rfl ic_1 ?_
                  refine x_goto (tgt := 64) C dX9_keysThat_60 (by decide) ?_
                  exact x_wk [some (rv G this), some (.int a1), some (.int b1.1), some (.int b1.2), none] ⟨Or.inr rfl, Or.inr rfl, Or.inr rfl, Or.inr rfl, Or.inl rfl, trivial⟩ (hj7 1 _)
          · refine x_aload_n (pc2 := 31) C dX9_keysThat_30 rfl rfl ?_
            refine x_iload_n (pc2 := 32) C dX9_keysThat_31 rfl rfl ?_
            refine x_callVi (pc2 := 35) C [.int b1.2] [] cl_X9_76 (fun q hq => ctX9_isSeen hk0 q hq) hk0 rfl rfl rfl ⟨rfl, rfl, Nat.le_of_ble_eq_true rfl, Nat.le_of_ble_eq_true rfl⟩ (Nat.le_of_ble_eq_true rfl) ⟨Nat.zero_le _, Nat.zero_le _⟩ dX9_keysThat_32 rfl (fun v17 M18 => ?_)
            refine x_goto (tgt := 64) C dX9_keysThat_35 (by decide) ?_
            exact x_wk [some (rv G this), some (.int a1), some (.int b1.1), some (.int b1.2), none] ⟨Or.inr rfl, Or.inr rfl, Or.inr rfl, Or.inr rfl, Or.inl rfl, trivial⟩ (hj7 v17 _)
        · refine x_aload_n (pc2 := 18) C dX9_keysThat_17 rfl rfl ?_
          refine x_iload_n (pc2 := 19) C dX9_keysThat_18 rfl rfl ?_
          refine x_callVi (pc2 := 22) C [.int b1.2] [] cl_X9_72 (fun q hq => ctX9_isDown hk0 q hq) hk0 rfl rfl rfl ⟨rfl, rfl, Nat.le_of_ble_eq_true rfl, Nat.le_of_ble_eq_true rfl⟩ (Nat.le_of_ble_eq_true rfl) ⟨Nat.zero_le _, Nat.zero_le _⟩ dX9_keysThat_19 rfl (fun v19 M20 => ?_)
          refine x_goto (tgt := 64) C dX9_keysThat_22 (by decide) ?_
          exact x_wk [some (rv G this), some (.int a1), some (.int b1.1), some (.int b1.2), none] ⟨Or.inr rfl, Or.inr rfl, Or.inr rfl, Or.inr rfl, Or.inl rfl, trivial⟩ (hj7 v19 _)
set_option maxRecDepth 100000 in
set_option maxHeartbeats 4000000 in
theorem ctX9_openDisputes {l : Launch} {G : bkG} {M : Mem} {this : Nat} (hk0 : kd this = 8) : ∀ r, fX9_openDisputes this M = some r → Met l yX9_openDisputes (Cond.code yX9_openDisputes cX9_openDisputes 3 (some .int) :: TT) ({ frames := 0, cells := 0, slots := 0, locals := 0 } : Room) (va_Pc [rv G this] (Wd G M)) (QQ G ((fun v => some (.int v)) r.1) r.2) 0 0 (An G) := by
  refine mkMet (vl := (fun v => some (.int v))) RX9 rfl (by decide +kernel) rfl (Nat.le_of_ble_eq_true rfl) [some (rv G this), none, none] rfl ?_
  intro p e s m args below meth c C _
  refine x_iconst (pc2 := 1) C dX9_openDisputes_0 rfl ic_0 ?_
  refine x_istore_n (pc2 := 2) C dX9_openDisputes_1 rfl [some (rv G this), some (.int 0), none] rfl rfl ?_
  refine x_iconst (pc2 := 3) C dX9_openDisputes_2 rfl ic_0 ?_
  refine x_istore_n (pc2 := 4) C dX9_openDisputes_3 rfl [some (rv G this), some (.int 0), some (.int 0)] rfl rfl ?_
  refine x_wk [some (rv G this), some (.int 0), some (.int 0)] ⟨Or.inr rfl, Or.inr rfl, Or.inr rfl, trivial⟩ ?_
  refine x_lp (fun (b1 : Int32 × Int32) => [some (rv G this), some (.int b1.1), some (.int b1.2)]) ?_
  · intro rec3 hrec3 b1 M2
    refine x_iload_n (pc2 := 5) C dX9_openDisputes_4 rfl rfl ?_
    refine x_aload_n (pc2 := 6) C dX9_openDisputes_5 rfl rfl ?_
    refine x_get (pc2 := 9) C fl_X9_7 hk0 (by decide) rfl dX9_openDisputes_6 rfl ?_
    refine x_bipush (pc2 := 11) C dX9_openDisputes_9 rfl bc_16 ?_
    refine x_iald (pc2 := 12) C (kf_8_0 hk0) dX9_openDisputes_11 rfl ?_
    refine x_icmp_ge (tgt := 47) (pc2 := 15) C dX9_openDisputes_12 (by decide) rfl ?_ ?_
    · refine x_iload_n (pc2 := 48) C dX9_openDisputes_47 rfl rfl ?_
      exact x_iret C rfl rfl dX9_openDisputes_48
    · refine x_iload_n (pc2 := 16) C dX9_openDisputes_15 rfl rfl ?_
      refine x_aload_n (pc2 := 17) C dX9_openDisputes_16 rfl rfl ?_
      refine x_get (pc2 := 20) C fl_X9_7 hk0 (by decide) rfl dX9_openDisputes_17 rfl ?_
      refine x_sipush (pc2 := 23) C dX9_openDisputes_20 rfl sc_404 ?_
      refine x_bipush (pc2 := 25) C dX9_openDisputes_23 rfl bc_7 ?_
      refine x_iload_n (pc2 := 26) C dX9_openDisputes_25 rfl rfl ?_
      refine x_imul (pc2 := 27) C dX9_openDisputes_26 rfl ?_
      refine x_iadd (pc2 := 28) C dX9_openDisputes_27 rfl ?_
      refine x_iconst (pc2 := 29) C dX9_openDisputes_28 rfl ic_3 ?_
      refine x_iadd (pc2 := 30) C dX9_openDisputes_29 rfl ?_
      refine x_iald (pc2 := 31) C (kf_8_0 hk0) dX9_openDisputes_30 rfl ?_
      refine x_jn 39 (fun (b4 : Int32) => [some (rv G this), none, some (.int b1.2)]) (fun (b4 : Int32) => [.int b4, .int b1.1]) ?_ ?_
      · intro b4 M6
        refine x_iadd (pc2 := 40) C dX9_openDisputes_39 rfl ?_
        refine x_istore_n (pc2 := 41) C dX9_openDisputes_40 rfl [some (rv G this), some (.int (b1.1 + b4)), some (.int b1.2)] rfl rfl ?_
        refine x_iinc (pc2 := 44) (v := b1.2 + 1) C dX9_openDisputes_41 rfl rfl 1 ic_1 rfl [some (rv G this), some (.int (b1.1 + b4)), some (.int (b1.2 + 1))] rfl rfl ?_
        refine x_goto (tgt := 4) C dX9_openDisputes_44 (by decide) ?_
        exact x_wk [some (rv G this), some (.int (b1.1 + b4)), some (.int (b1.2 + 1))] ⟨Or.inr rfl, Or.inr rfl, Or.inr rfl, trivial⟩ (hrec3 (b1.1 + b4, b1.2 + 1) _)
      · intro j5 hj5
        refine x_if_ge (tgt := 38) (pc2 := 34) C dX9_openDisputes_31 (by decide) rfl ?_ ?_
        · refine x_iconst (pc2 := 39) C dX9_openDisputes_38 rfl ic_0 ?_
          exact x_wk [some (rv G this), none, some (.int b1.2)] ⟨Or.inr rfl, Or.inl rfl, Or.inr rfl, trivial⟩ (hj5 0 _)
        · refine x_iconst (pc2 := 35) C dX9_openDisputes_34 rfl ic_1 ?_
          refine x_goto (tgt := 39) C dX9_openDisputes_35 (by decide) ?_
          exact x_wk [some (rv G this), none, some (.int b1.2)] ⟨Or.inr rfl, Or.inl rfl, Or.inr rfl, trivial⟩ (hj5 1 _)
set_option maxRecDepth 100000 in
set_option maxHeartbeats 4000000 in
theorem ctX9_count {l : Launch} {G : bkG} {M : Mem} {this : Nat} {a1 : Int32} (hk0 : kd this = 8) : ∀ r, fX9_count this a1 M = some r → Met l yX9_count (Cond.code yX9_count cX9_count 2 (some .int) :: TT) ({ frames := 2, cells := 0, slots := 0, locals := 45 } : Room) (va_Pc [rv G this, .int a1] (Wd G M)) (QQ G ((fun v => some (.int v)) r.1) r.2) 0 0 (An G) := by
  refine mkMet (vl := (fun v => some (.int v))) RX9 rfl (by decide +kernel) rfl (Nat.le_of_ble_eq_true rfl) [some (rv G this), some (.int a1)] rfl ?_
  intro p e s m args below meth c C _
  refine x_iload_n (pc2 := 1) C dX9_count_0 rfl rfl ?_
  refine x_jn 101 (fun (b1 : Unit) => [some (rv G this), some (.int a1)]) (fun (b1 : Unit) => []) ?_ ?_
  · intro b1 M3
    refine x_aload_n (pc2 := 102) C dX9_count_101 rfl rfl ?_
    refine x_iload_n (pc2 := 103) C dX9_count_102 rfl rfl ?_
    refine x_callVi (pc2 := 106) C [.int a1] [] cl_X9_196 (fun q hq => ctX9_keysThat hk0 q hq) hk0 rfl rfl rfl ⟨rfl, rfl, Nat.le_of_ble_eq_true rfl, Nat.le_of_ble_eq_true rfl⟩ (Nat.le_of_ble_eq_true rfl) ⟨Nat.zero_le _, Nat.zero_le _⟩ dX9_count_103 rfl (fun v4 M5 => ?_)
    exact x_iret C rfl rfl dX9_count_106
  · intro j2 hj2
    refine x_ite (fun hs6 => ?_) (fun hs6 => ?_)
    · refine x_tin (tgt := 80) C hs6 dX9_count_1 (by decide) (by decide) rfl (by decide) ?_
      refine x_aload_n (pc2 := 81) C dX9_count_80 rfl rfl ?_
      refine x_get (pc2 := 84) C fl_X9_7 hk0 (by decide) rfl dX9_count_81 rfl ?_
      refine x_iconst (pc2 := 85) C dX9_count_84 rfl ic_2 ?_
      refine x_iald (pc2 := 86) C (kf_8_0 hk0) dX9_count_85 rfl ?_
      exact x_iret C rfl rfl dX9_count_86
    · refine x_ite (fun hs7 => ?_) (fun hs7 => ?_)
      · refine x_tin (tgt := 87) C hs7 dX9_count_1 (by decide) (by decide) rfl (by decide) ?_
        refine x_aload_n (pc2 := 88) C dX9_count_87 rfl rfl ?_
        refine x_get (pc2 := 91) C fl_X9_7 hk0 (by decide) rfl dX9_count_88 rfl ?_
        refine x_iconst (pc2 := 92) C dX9_count_91 rfl ic_0 ?_
        refine x_iald (pc2 := 93) C (kf_8_0 hk0) dX9_count_92 rfl ?_
        exact x_iret C rfl rfl dX9_count_93
      · refine x_ite (fun hs8 => ?_) (fun hs8 => ?_)
        · refine x_tin (tgt := 94) C hs8 dX9_count_1 (by decide) (by decide) rfl (by decide) ?_
          refine x_aload_n (pc2 := 95) C dX9_count_94 rfl rfl ?_
          refine x_get (pc2 := 98) C fl_X9_7 hk0 (by decide) rfl dX9_count_95 rfl ?_
          refine x_iconst (pc2 := 99) C dX9_count_98 rfl ic_1 ?_
          refine x_iald (pc2 := 100) C (kf_8_0 hk0) dX9_count_99 rfl ?_
          exact x_iret C rfl rfl dX9_count_100
        · refine x_ite (fun hs9 => ?_) (fun hs9 => ?_)
          · refine x_tin (tgt := 101) C hs9 dX9_count_1 (by decide) (by decide) rfl (by decide) ?_
            exact x_wk [some (rv G this), some (.int a1)] ⟨Or.inr rfl, Or.inr rfl, trivial⟩ (hj2 () _)
          · refine x_ite (fun hs10 => ?_) (fun hs10 => ?_)
            · refine x_tin (tgt := 101) C hs10 dX9_count_1 (by decide) (by decide) rfl (by decide) ?_
              exact x_wk [some (rv G this), some (.int a1)] ⟨Or.inr rfl, Or.inr rfl, trivial⟩ (hj2 () _)
            · refine x_ite (fun hs11 => ?_) (fun hs11 => ?_)
              · refine x_tin (tgt := 101) C hs11 dX9_count_1 (by decide) (by decide) rfl (by decide) ?_
                exact x_wk [some (rv G this), some (.int a1)] ⟨Or.inr rfl, Or.inr rfl, trivial⟩ (hj2 () _)
              · refine x_ite (fun hs12 => ?_) (fun hs12 => ?_)
                · refine x_tin (tgt := 107) C hs12 dX9_count_1 (by decide) (by decide) rfl (by decide) ?_
                  refine x_aload_n (pc2 := 108) C dX9_count_107 rfl rfl ?_
                  refine x_get (pc2 := 111) C fl_X9_7 hk0 (by decide) rfl dX9_count_108 rfl ?_
                  refine x_bipush (pc2 := 113) C dX9_count_111 rfl bc_9 ?_
                  refine x_iald (pc2 := 114) C (kf_8_0 hk0) dX9_count_113 rfl ?_
                  exact x_iret C rfl rfl dX9_count_114
                · refine x_ite (fun hs13 => ?_) (fun hs13 => ?_)
                  · refine x_tin (tgt := 115) C hs13 dX9_count_1 (by decide) (by decide) rfl (by decide) ?_
                    refine x_aload_n (pc2 := 116) C dX9_count_115 rfl rfl ?_
                    refine x_get (pc2 := 119) C fl_X9_7 hk0 (by decide) rfl dX9_count_116 rfl ?_
                    refine x_bipush (pc2 := 121) C dX9_count_119 rfl bc_10 ?_
                    refine x_iald (pc2 := 122) C (kf_8_0 hk0) dX9_count_121 rfl ?_
                    refine x_aload_n (pc2 := 123) C dX9_count_122 rfl rfl ?_
                    refine x_get (pc2 := 126) C fl_X9_7 hk0 (by decide) rfl dX9_count_123 rfl ?_
                    refine x_bipush (pc2 := 128) C dX9_count_126 rfl bc_11 ?_
                    refine x_iald (pc2 := 129) C (kf_8_0 hk0) dX9_count_128 rfl ?_
                    refine x_iadd (pc2 := 130) C dX9_count_129 rfl ?_
                    exact x_iret C rfl rfl dX9_count_130
                  · refine x_ite (fun hs14 => ?_) (fun hs14 => ?_)
                    · refine x_tin (tgt := 131) C hs14 dX9_count_1 (by decide) (by decide) rfl (by decide) ?_
                      refine x_aload_n (pc2 := 132) C dX9_count_131 rfl rfl ?_
                      refine x_get (pc2 := 135) C fl_X9_7 hk0 (by decide) rfl dX9_count_132 rfl ?_
                      refine x_bipush (pc2 := 137) C dX9_count_135 rfl bc_14 ?_
                      refine x_iald (pc2 := 138) C (kf_8_0 hk0) dX9_count_137 rfl ?_
                      exact x_iret C rfl rfl dX9_count_138
                    · refine x_ite (fun hs15 => ?_) (fun hs15 => ?_)
                      · refine x_tin (tgt := 139) C hs15 dX9_count_1 (by decide) (by decide) rfl (by decide) ?_
                        refine x_aload_n (pc2 := 140) C dX9_count_139 rfl rfl ?_
                        refine x_callVi (pc2 := 143) C [] [] cl_X9_199 (fun q hq => ctX9_openDisputes hk0 q hq) hk0 rfl rfl rfl ⟨rfl, rfl, Nat.le_of_ble_eq_true rfl, Nat.le_of_ble_eq_true rfl⟩ (Nat.le_of_ble_eq_true rfl) ⟨Nat.zero_le _, Nat.zero_le _⟩ dX9_count_140 rfl (fun v16 M17 => ?_)
                        exact x_iret C rfl rfl dX9_count_143
                      · refine x_ite (fun hs18 => ?_) (fun hs18 => ?_)
                        · refine x_tin (tgt := 144) C hs18 dX9_count_1 (by decide) (by decide) rfl (by decide) ?_
                          refine x_aload_n (pc2 := 145) C dX9_count_144 rfl rfl ?_
                          refine x_get (pc2 := 148) C fl_X9_7 hk0 (by decide) rfl dX9_count_145 rfl ?_
                          refine x_bipush (pc2 := 150) C dX9_count_148 rfl bc_16 ?_
                          refine x_iald (pc2 := 151) C (kf_8_0 hk0) dX9_count_150 rfl ?_
                          exact x_iret C rfl rfl dX9_count_151
                        · refine x_ite (fun hs19 => ?_) (fun hs19 => ?_)
                          · refine x_tin (tgt := 152) C hs19 dX9_count_1 (by decide) (by decide) rfl (by decide) ?_
                            refine x_aload_n (pc2 := 153) C dX9_count_152 rfl rfl ?_
                            refine x_get (pc2 := 156) C fl_X9_7 hk0 (by decide) rfl dX9_count_153 rfl ?_
                            refine x_bipush (pc2 := 158) C dX9_count_156 rfl bc_12 ?_
                            refine x_iald (pc2 := 159) C (kf_8_0 hk0) dX9_count_158 rfl ?_
                            refine x_aload_n (pc2 := 160) C dX9_count_159 rfl rfl ?_
                            refine x_get (pc2 := 163) C fl_X9_7 hk0 (by decide) rfl dX9_count_160 rfl ?_
                            refine x_bipush (pc2 := 165) C dX9_count_163 rfl bc_13 ?_
                            refine x_iald (pc2 := 166) C (kf_8_0 hk0) dX9_count_165 rfl ?_
                            refine x_iadd (pc2 := 167) C dX9_count_166 rfl ?_
                            exact x_iret C rfl rfl dX9_count_167
                          · refine x_ite (fun hs20 => ?_) (fun hs20 => ?_)
                            · refine x_tin (tgt := 168) C hs20 dX9_count_1 (by decide) (by decide) rfl (by decide) ?_
                              refine x_aload_n (pc2 := 169) C dX9_count_168 rfl rfl ?_
                              refine x_get (pc2 := 172) C fl_X9_7 hk0 (by decide) rfl dX9_count_169 rfl ?_
                              refine x_bipush (pc2 := 174) C dX9_count_172 rfl bc_15 ?_
                              refine x_iald (pc2 := 175) C (kf_8_0 hk0) dX9_count_174 rfl ?_
                              exact x_iret C rfl rfl dX9_count_175
                            · refine x_ite (fun hs21 => ?_) (fun hs21 => ?_)
                              · refine x_tin (tgt := 176) C hs21 dX9_count_1 (by decide) (by decide) rfl (by decide) ?_
                                refine x_aload_n (pc2 := 177) C dX9_count_176 rfl rfl ?_
                                refine x_get (pc2 := 180) C fl_X9_7 hk0 (by decide) rfl dX9_count_177 rfl ?_
                                refine x_iconst (pc2 := 181) C dX9_count_180 rfl ic_2 ?_
                                refine x_iald (pc2 := 182) C (kf_8_0 hk0) dX9_count_181 rfl ?_
                                refine x_aload_n (pc2 := 183) C dX9_count_182 rfl rfl ?_
                                refine x_get (pc2 := 186) C fl_X9_7 hk0 (by decide) rfl dX9_count_183 rfl ?_
                                refine x_iconst (pc2 := 187) C dX9_count_186 rfl ic_0 ?_
                                refine x_iald (pc2 := 188) C (kf_8_0 hk0) dX9_count_187 rfl ?_
                                refine x_irem (pc2 := 189) C dX9_count_188 rfl ?_
                                exact x_iret C rfl rfl dX9_count_189
                              · refine x_ite (fun hs22 => ?_) (fun hs22 => ?_)
                                · refine x_tin (tgt := 190) C hs22 dX9_count_1 (by decide) (by decide) rfl (by decide) ?_
                                  refine x_aload_n (pc2 := 191) C dX9_count_190 rfl rfl ?_
                                  refine x_get (pc2 := 194) C fl_X9_47 hk0 (by decide) rfl dX9_count_191 rfl ?_
                                  exact x_iret C rfl rfl dX9_count_194
                                · refine x_ite (fun hs23 => ?_) (fun hs23 => ?_)
                                  · refine x_tin (tgt := 195) C hs23 dX9_count_1 (by decide) (by decide) rfl (by decide) ?_
                                    refine x_aload_n (pc2 := 196) C dX9_count_195 rfl rfl ?_
                                    refine x_get (pc2 := 199) C fl_X9_168 hk0 (by decide) rfl dX9_count_196 rfl ?_
                                    exact x_iret C rfl rfl dX9_count_199
                                  · refine x_tout (tgt := 200) C dX9_count_1 (by have t0 := lv_neT (a := 0) hs6 rfl; have t1 := lv_neT (a := 1) hs7 rfl; have t2 := lv_neT (a := 2) hs8 rfl; have t3 := lv_neT (a := 3) hs9 rfl; have t4 := lv_neT (a := 4) hs10 rfl; have t5 := lv_neT (a := 5) hs11 rfl; have t6 := lv_neT (a := 6) hs12 rfl; have t7 := lv_neT (a := 7) hs13 rfl; have t8 := lv_neT (a := 8) hs14 rfl; have t9 := lv_neT (a := 9) hs15 rfl; have t10 := lv_neT (a := 10) hs18 rfl; have t11 := lv_neT (a := 11) hs19 rfl; have t12 := lv_neT (a := 12) hs20 rfl; have t13 := lv_neT (a := 13) hs21 rfl; have t14 := lv_neT (a := 14) hs22 rfl; have t15 := lv_neT (a := 15) hs23 rfl; omega) (by decide) ?_
                                    refine x_bipush (pc2 := 202) C dX9_count_200 rfl bc_m2 ?_
                                    exact x_iret C rfl rfl dX9_count_202
set_option maxRecDepth 100000 in
set_option maxHeartbeats 4000000 in
theorem ctX9_countIt {l : Launch} {G : bkG} {M : Mem} {this : Nat} {a1 : Int32} {a2 : Int32} (hk0 : kd this = 8) : ∀ r, fX9_countIt this a1 a2 M = some r → Met l yX9_countIt (Cond.code yX9_countIt cX9_countIt 3 none :: TT) ({ frames := 0, cells := 0, slots := 0, locals := 0 } : Room) (va_Pc [rv G this, .int a1, .int a2] (Wd G M)) (QQ G ((fun _ => none) r.1) r.2) 0 0 (An G) := by
  refine mkMet (vl := (fun _ => none)) RX9 rfl (by decide +kernel) rfl (Nat.le_of_ble_eq_true rfl) [some (rv G this), some (.int a1), some (.int a2)] rfl ?_
  intro p e s m args below meth c C _
  refine x_iload_n (pc2 := 1) C dX9_countIt_0 rfl rfl ?_
  refine x_iconst (pc2 := 2) C dX9_countIt_1 rfl ic_2 ?_
  refine x_icmp_ge (tgt := 43) (pc2 := 5) C dX9_countIt_2 (by decide) rfl ?_ ?_
  · refine x_iload_n (pc2 := 44) C dX9_countIt_43 rfl rfl ?_
    refine x_iconst (pc2 := 45) C dX9_countIt_44 rfl ic_2 ?_
    refine x_icmp_ne (tgt := 78) (pc2 := 48) C dX9_countIt_45 (by decide) rfl ?_ ?_
    · exact x_vret C rfl rfl dX9_countIt_78
    · refine x_aload_n (pc2 := 49) C dX9_countIt_48 rfl rfl ?_
      refine x_get (pc2 := 52) C fl_X9_7 hk0 (by decide) rfl dX9_countIt_49 rfl ?_
      refine x_bipush (pc2 := 54) C dX9_countIt_52 rfl bc_14 ?_
      refine x_dup2 (pc2 := 55) C dX9_countIt_54 rfl rfl rfl ?_
      refine x_iald (pc2 := 56) C (kf_8_0 hk0) dX9_countIt_55 rfl ?_
      refine x_iconst (pc2 := 57) C dX9_countIt_56 rfl ic_1 ?_
      refine x_iadd (pc2 := 58) C dX9_countIt_57 rfl ?_
      refine x_iast (pc2 := 59) C (kf_8_0 hk0) dX9_countIt_58 rfl (fun M1 => ?_)
      refine x_aload_n (pc2 := 60) C dX9_countIt_59 rfl rfl ?_
      refine x_get (pc2 := 63) C fl_X9_7 hk0 (by decide) rfl dX9_countIt_60 rfl ?_
      refine x_bipush (pc2 := 65) C dX9_countIt_63 rfl bc_15 ?_
      refine x_dup2 (pc2 := 66) C dX9_countIt_65 rfl rfl rfl ?_
      refine x_iald (pc2 := 67) C (kf_8_0 hk0) dX9_countIt_66 rfl ?_
      refine x_iload_n (pc2 := 68) C dX9_countIt_67 rfl rfl ?_
      refine x_jn 76 (fun (b2 : Int32) => [none, none, none]) (fun (b2 : Int32) => [.int b2, .int (M1.1 (this + 1) (15 : Int32).toNatClampNeg), .int 15, rv G (this + 1)]) ?_ ?_
      · intro b2 M4
        refine x_iadd (pc2 := 77) C dX9_countIt_76 rfl ?_
        refine x_iast (pc2 := 78) C (kf_8_0 hk0) dX9_countIt_77 rfl (fun M5 => ?_)
        exact x_vret C rfl rfl dX9_countIt_78
      · intro j3 hj3
        refine x_if_ge (tgt := 75) (pc2 := 71) C dX9_countIt_68 (by decide) rfl ?_ ?_
        · refine x_iconst (pc2 := 76) C dX9_countIt_75 rfl ic_0 ?_
          exact x_wk [none, none, none] ⟨Or.inl rfl, Or.inl rfl, Or.inl rfl, trivial⟩ (hj3 0 _)
        · refine x_iconst (pc2 := 72) C dX9_countIt_71 rfl ic_1 ?_
          refine x_goto (tgt := 76) C dX9_countIt_72 (by decide) ?_
          exact x_wk [none, none, none] ⟨Or.inl rfl, Or.inl rfl, Or.inl rfl, trivial⟩ (hj3 1 _)
  · refine x_aload_n (pc2 := 6) C dX9_countIt_5 rfl rfl ?_
    refine x_get (pc2 := 9) C fl_X9_7 hk0 (by decide) rfl dX9_countIt_6 rfl ?_
    refine x_bipush (pc2 := 11) C dX9_countIt_9 rfl bc_10 ?_
    refine x_iload_n (pc2 := 12) C dX9_countIt_11 rfl rfl ?_
    refine x_iadd (pc2 := 13) C dX9_countIt_12 rfl ?_
    refine x_dup2 (pc2 := 14) C dX9_countIt_13 rfl rfl rfl ?_
    refine x_iald (pc2 := 15) C (kf_8_0 hk0) dX9_countIt_14 rfl ?_
    refine x_iconst (pc2 := 16) C dX9_countIt_15 rfl ic_1 ?_
    refine x_iadd (pc2 := 17) C dX9_countIt_16 rfl ?_
    refine x_iast (pc2 := 18) C (kf_8_0 hk0) dX9_countIt_17 rfl (fun M6 => ?_)
    refine x_aload_n (pc2 := 19) C dX9_countIt_18 rfl rfl ?_
    refine x_get (pc2 := 22) C fl_X9_7 hk0 (by decide) rfl dX9_countIt_19 rfl ?_
    refine x_bipush (pc2 := 24) C dX9_countIt_22 rfl bc_12 ?_
    refine x_iload_n (pc2 := 25) C dX9_countIt_24 rfl rfl ?_
    refine x_iadd (pc2 := 26) C dX9_countIt_25 rfl ?_
    refine x_dup2 (pc2 := 27) C dX9_countIt_26 rfl rfl rfl ?_
    refine x_iald (pc2 := 28) C (kf_8_0 hk0) dX9_countIt_27 rfl ?_
    refine x_iload_n (pc2 := 29) C dX9_countIt_28 rfl rfl ?_
    refine x_iload_n (pc2 := 30) C dX9_countIt_29 rfl rfl ?_
    refine x_jn 38 (fun (b7 : Int32) => [none, none, none]) (fun (b7 : Int32) => [.int b7, .int (M6.1 (this + 1) (12 + a1).toNatClampNeg), .int (12 + a1), rv G (this + 1)]) ?_ ?_
    · intro b7 M9
      refine x_iadd (pc2 := 39) C dX9_countIt_38 rfl ?_
      refine x_iast (pc2 := 40) C (kf_8_0 hk0) dX9_countIt_39 rfl (fun M10 => ?_)
      refine x_goto (tgt := 78) C dX9_countIt_40 (by decide) ?_
      exact x_vret C rfl rfl dX9_countIt_78
    · intro j8 hj8
      refine x_icmp_ne (tgt := 37) (pc2 := 33) C dX9_countIt_30 (by decide) rfl ?_ ?_
      · refine x_iconst (pc2 := 38) C dX9_countIt_37 rfl ic_0 ?_
        exact x_wk [none, none, none] ⟨Or.inl rfl, Or.inl rfl, Or.inl rfl, trivial⟩ (hj8 0 _)
      · refine x_iconst (pc2 := 34) C dX9_countIt_33 rfl ic_1 ?_
        refine x_goto (tgt := 38) C dX9_countIt_34 (by decide) ?_
        exact x_wk [none, none, none] ⟨Or.inl rfl, Or.inl rfl, Or.inl rfl, trivial⟩ (hj8 1 _)
set_option maxRecDepth 100000 in
set_option maxHeartbeats 4000000 in
theorem ctX9_noDispute {l : Launch} {G : bkG} {M : Mem} {this : Nat} {a1 : Int32} (hk0 : kd this = 8) : ∀ r, fX9_noDispute this a1 M = some r → Met l yX9_noDispute (Cond.code yX9_noDispute cX9_noDispute 2 (some .boolean) :: TT) ({ frames := 1, cells := 0, slots := 0, locals := 22 } : Room) (va_Pc [rv G this, .int a1] (Wd G M)) (QQ G ((fun v => some (.int v)) r.1) r.2) 0 0 (An G) := by
  refine mkMet (vl := (fun v => some (.int v))) RX9 rfl (by decide +kernel) rfl (Nat.le_of_ble_eq_true rfl) [some (rv G this), some (.int a1)] rfl ?_
  intro p e s m args below meth c C _
  refine x_iload_n (pc2 := 1) C dX9_noDispute_0 rfl rfl ?_
  refine x_iconst (pc2 := 2) C dX9_noDispute_1 rfl ic_0 ?_
  refine x_aload_n (pc2 := 3) C dX9_noDispute_2 rfl rfl ?_
  refine x_get (pc2 := 6) C fl_X9_7 hk0 (by decide) rfl dX9_noDispute_3 rfl ?_
  refine x_bipush (pc2 := 8) C dX9_noDispute_6 rfl bc_16 ?_
  refine x_iald (pc2 := 9) C (kf_8_0 hk0) dX9_noDispute_8 rfl ?_
  refine x_iconst (pc2 := 10) C dX9_noDispute_9 rfl ic_1 ?_
  refine x_isub (pc2 := 11) C dX9_noDispute_10 rfl ?_
  refine x_callSi (pc2 := 14) C [.int a1, .int 0, .int ((M.1 (this + 1) (16 : Int32).toNatClampNeg) - 1)] [] cl_X9_68 (fun q hq => ctX9_in  q hq) rfl rfl ⟨rfl, rfl, Nat.le_of_ble_eq_true rfl, Nat.le_of_ble_eq_true rfl⟩ (Nat.le_of_ble_eq_true rfl) ⟨Nat.zero_le _, Nat.zero_le _⟩ dX9_noDispute_11 rfl (fun v1 M2 => ?_)
  refine x_if_ne (tgt := 21) (pc2 := 17) C dX9_noDispute_14 (by decide) rfl ?_ ?_
  · refine x_iconst (pc2 := 22) C dX9_noDispute_21 rfl ic_0 ?_
    exact x_zret C rfl rfl rfl dX9_noDispute_22
  · refine x_iconst (pc2 := 18) C dX9_noDispute_17 rfl ic_1 ?_
    refine x_goto (tgt := 22) C dX9_noDispute_18 (by decide) ?_
    exact x_zret C rfl rfl rfl dX9_noDispute_22
set_option maxRecDepth 100000 in
set_option maxHeartbeats 4000000 in
theorem ctX9_dispute {l : Launch} {G : bkG} {M : Mem} {this : Nat} {a1 : Int32} {a2 : Int32} (hk0 : kd this = 8) : ∀ r, fX9_dispute this a1 a2 M = some r → Met l yX9_dispute (Cond.code yX9_dispute cX9_dispute 3 (some .int) :: TT) ({ frames := 2, cells := 0, slots := 0, locals := 43 } : Room) (va_Pc [rv G this, .int a1, .int a2] (Wd G M)) (QQ G ((fun v => some (.int v)) r.1) r.2) 0 0 (An G) := by
  refine mkMet (vl := (fun v => some (.int v))) RX9 rfl (by decide +kernel) rfl (Nat.le_of_ble_eq_true rfl) [some (rv G this), some (.int a1), some (.int a2)] rfl ?_
  intro p e s m args below meth c C _
  refine x_aload_n (pc2 := 1) C dX9_dispute_0 rfl rfl ?_
  refine x_iload_n (pc2 := 2) C dX9_dispute_1 rfl rfl ?_
  refine x_callVi (pc2 := 5) C [.int a1] [] cl_X9_165 (fun q hq => ctX9_noDispute hk0 q hq) hk0 rfl rfl rfl ⟨rfl, rfl, Nat.le_of_ble_eq_true rfl, Nat.le_of_ble_eq_true rfl⟩ (Nat.le_of_ble_eq_true rfl) ⟨Nat.zero_le _, Nat.zero_le _⟩ dX9_dispute_2 rfl (fun v1 M2 => ?_)
  refine x_if_eq (tgt := 10) (pc2 := 8) C dX9_dispute_5 (by decide) rfl ?_ ?_
  · refine x_iload_n (pc2 := 11) C dX9_dispute_10 rfl rfl ?_
    refine x_iconst (pc2 := 12) C dX9_dispute_11 rfl ic_0 ?_
    refine x_iconst (pc2 := 13) C dX9_dispute_12 rfl ic_4 ?_
    refine x_callSi (pc2 := 16) C [.int a2, .int 0, .int 4] [] cl_X9_68 (fun q hq => ctX9_in  q hq) rfl rfl ⟨rfl, rfl, Nat.le_of_ble_eq_true rfl, Nat.le_of_ble_eq_true rfl⟩ (Nat.le_of_ble_eq_true rfl) ⟨Nat.zero_le _, Nat.zero_le _⟩ dX9_dispute_13 rfl (fun v3 M4 => ?_)
    refine x_if_eq (tgt := 37) (pc2 := 19) C dX9_dispute_16 (by decide) rfl ?_ ?_
    · refine x_bipush (pc2 := 39) C dX9_dispute_37 rfl bc_m2 ?_
      exact x_iret C rfl rfl dX9_dispute_39
    · refine x_aload_n (pc2 := 20) C dX9_dispute_19 rfl rfl ?_
      refine x_get (pc2 := 23) C fl_X9_7 hk0 (by decide) rfl dX9_dispute_20 rfl ?_
      refine x_sipush (pc2 := 26) C dX9_dispute_23 rfl sc_404 ?_
      refine x_bipush (pc2 := 28) C dX9_dispute_26 rfl bc_7 ?_
      refine x_iload_n (pc2 := 29) C dX9_dispute_28 rfl rfl ?_
      refine x_imul (pc2 := 30) C dX9_dispute_29 rfl ?_
      refine x_iadd (pc2 := 31) C dX9_dispute_30 rfl ?_
      refine x_iload_n (pc2 := 32) C dX9_dispute_31 rfl rfl ?_
      refine x_iadd (pc2 := 33) C dX9_dispute_32 rfl ?_
      refine x_iald (pc2 := 34) C (kf_8_0 hk0) dX9_dispute_33 rfl ?_
      refine x_goto (tgt := 39) C dX9_dispute_34 (by decide) ?_
      exact x_iret C rfl rfl dX9_dispute_39
  · refine x_iconst (pc2 := 9) C dX9_dispute_8 rfl ic_m1 ?_
    exact x_iret C rfl rfl dX9_dispute_9
set_option maxRecDepth 100000 in
set_option maxHeartbeats 4000000 in
theorem ctX9_size {l : Launch} {G : bkG} {M : Mem} {a1 : UInt32}  : ∀ r, fX9_size a1 M = some r → Met l yX9_size (Cond.code yX9_size cX9_size 1 (some .float) :: TT) ({ frames := 0, cells := 0, slots := 0, locals := 0 } : Room) (va_Pc [.float a1] (Wd G M)) (QQ G ((fun v => some (.float v)) r.1) r.2) 0 0 (An G) := by
  refine mkMet (vl := (fun v => some (.float v))) RX9 rfl (by decide +kernel) rfl (Nat.le_of_ble_eq_true rfl) [some (.float a1)] rfl ?_
  intro p e s m args below meth c C _
  refine x_fload_n (pc2 := 1) C dX9_size_0 rfl rfl ?_
  refine x_fconst0 (pc2 := 2) C dX9_size_1 rfl ?_
  refine x_fcmpg (pc2 := 3) C dX9_size_2 rfl ?_
  refine x_if_ge (tgt := 11) (pc2 := 6) C dX9_size_3 (by decide) rfl ?_ ?_
  · refine x_fload_n (pc2 := 12) C dX9_size_11 rfl rfl ?_
    exact x_fret C rfl rfl dX9_size_12
  · refine x_fload_n (pc2 := 7) C dX9_size_6 rfl rfl ?_
    refine x_fneg (pc2 := 8) C dX9_size_7 rfl ?_
    refine x_goto (tgt := 12) C dX9_size_8 (by decide) ?_
    exact x_fret C rfl rfl dX9_size_12
set_option maxRecDepth 100000 in
set_option maxHeartbeats 4000000 in
theorem ctX9_gap {l : Launch} {G : bkG} {M : Mem} {this : Nat} {a1 : Int32} {a2 : Int32} (hk0 : kd this = 8) : ∀ r, fX9_gap this a1 a2 M = some r → Met l yX9_gap (Cond.code yX9_gap cX9_gap 4 (some .int) :: TT) ({ frames := 0, cells := 0, slots := 0, locals := 0 } : Room) (va_Pc [rv G this, .int a1, .int a2] (Wd G M)) (QQ G ((fun v => some (.int v)) r.1) r.2) 0 0 (An G) := by
  refine mkMet (vl := (fun v => some (.int v))) RX9 rfl (by decide +kernel) rfl (Nat.le_of_ble_eq_true rfl) [some (rv G this), some (.int a1), some (.int a2), none] rfl ?_
  intro p e s m args below meth c C _
  refine x_aload_n (pc2 := 1) C dX9_gap_0 rfl rfl ?_
  refine x_get (pc2 := 4) C fl_X9_7 hk0 (by decide) rfl dX9_gap_1 rfl ?_
  refine x_iconst (pc2 := 5) C dX9_gap_4 rfl ic_3 ?_
  refine x_iload_n (pc2 := 6) C dX9_gap_5 rfl rfl ?_
  refine x_iadd (pc2 := 7) C dX9_gap_6 rfl ?_
  refine x_iald (pc2 := 8) C (kf_8_0 hk0) dX9_gap_7 rfl ?_
  refine x_topi (fun v1 => ?_)
  refine x_istore_n (pc2 := 9) C dX9_gap_8 rfl [some (rv G this), some (.int a1), some (.int a2), some (.int v1)] rfl rfl ?_
  refine x_iload_n (pc2 := 10) C dX9_gap_9 rfl rfl ?_
  refine x_if_ge (tgt := 18) (pc2 := 13) C dX9_gap_10 (by decide) rfl ?_ ?_
  · refine x_iload_n (pc2 := 19) C dX9_gap_18 rfl rfl ?_
    refine x_iload_n (pc2 := 20) C dX9_gap_19 rfl rfl ?_
    refine x_icmp_ge (tgt := 29) (pc2 := 23) C dX9_gap_20 (by decide) rfl ?_ ?_
    · refine x_iload_n (pc2 := 30) C dX9_gap_29 rfl rfl ?_
      refine x_iload_n (pc2 := 31) C dX9_gap_30 rfl rfl ?_
      refine x_isub (pc2 := 32) C dX9_gap_31 rfl ?_
      exact x_iret C rfl rfl dX9_gap_32
    · refine x_iload_n (pc2 := 24) C dX9_gap_23 rfl rfl ?_
      refine x_iload_n (pc2 := 25) C dX9_gap_24 rfl rfl ?_
      refine x_isub (pc2 := 26) C dX9_gap_25 rfl ?_
      refine x_goto (tgt := 32) C dX9_gap_26 (by decide) ?_
      exact x_iret C rfl rfl dX9_gap_32
  · refine x_bipush (pc2 := 15) C dX9_gap_13 rfl bc_m5 ?_
    refine x_goto (tgt := 32) C dX9_gap_15 (by decide) ?_
    exact x_iret C rfl rfl dX9_gap_32
set_option maxRecDepth 100000 in
set_option maxHeartbeats 4000000 in
theorem ctX9_off {l : Launch} {G : bkG} {M : Mem} {this : Nat} {a1 : Int32} {a2 : Int32} {a3 : Int32} (hk0 : kd this = 8) : ∀ r, fX9_off this a1 a2 a3 M = some r → Met l yX9_off (Cond.code yX9_off cX9_off 8 (some .float) :: TT) ({ frames := 1, cells := 0, slots := 0, locals := 23 } : Room) (va_Pc [rv G this, .int a1, .int a2, .int a3] (Wd G M)) (QQ G ((fun v => some (.float v)) r.1) r.2) 0 0 (An G) := by
  refine mkMet (vl := (fun v => some (.float v))) RX9 rfl (by decide +kernel) rfl (Nat.le_of_ble_eq_true rfl) [some (rv G this), some (.int a1), some (.int a2), some (.int a3), none, none, none, none] rfl ?_
  intro p e s m args below meth c C _
  refine x_aload_n (pc2 := 1) C dX9_off_0 rfl rfl ?_
  refine x_get (pc2 := 4) C fl_X9_22 hk0 (by decide) rfl dX9_off_1 rfl ?_
  refine x_iconst (pc2 := 5) C dX9_off_4 rfl ic_0 ?_
  refine x_iload_n (pc2 := 6) C dX9_off_5 rfl rfl ?_
  refine x_iadd (pc2 := 7) C dX9_off_6 rfl ?_
  refine x_fald (pc2 := 8) C (kf_8_4 hk0) dX9_off_7 rfl ?_
  refine x_topf (fun v1 => ?_)
  refine x_fstore (pc2 := 10) C dX9_off_8 rfl [some (rv G this), some (.int a1), some (.int a2), some (.int a3), some (.float v1), none, none, none] rfl rfl ?_
  refine x_iload_n (pc2 := 11) C dX9_off_10 rfl rfl ?_
  refine x_i2f (pc2 := 12) C dX9_off_11 rfl ?_
  refine x_fload (pc2 := 14) C dX9_off_12 rfl rfl ?_
  refine x_fsub (pc2 := 15) C dX9_off_14 rfl ?_
  refine x_topf (fun v2 => ?_)
  refine x_callSf (pc2 := 18) C [.float v2] [] cl_X9_120 (fun q hq => ctX9_size  q hq) rfl rfl ⟨rfl, rfl, Nat.le_of_ble_eq_true rfl, Nat.le_of_ble_eq_true rfl⟩ (Nat.le_of_ble_eq_true rfl) ⟨Nat.zero_le _, Nat.zero_le _⟩ dX9_off_15 rfl (fun v3 M4 => ?_)
  refine x_fload (pc2 := 20) C dX9_off_18 rfl rfl ?_
  refine x_fdiv (pc2 := 21) C dX9_off_20 rfl ?_
  refine x_topf (fun v5 => ?_)
  refine x_fstore (pc2 := 23) C dX9_off_21 rfl [some (rv G this), some (.int a1), some (.int a2), some (.int a3), some (.float v1), some (.float v5), none, none] rfl rfl ?_
  refine x_aload_n (pc2 := 24) C dX9_off_23 rfl rfl ?_
  refine x_iload_n (pc2 := 25) C dX9_off_24 rfl rfl ?_
  refine x_iload_n (pc2 := 26) C dX9_off_25 rfl rfl ?_
  refine x_callVi (pc2 := 29) C [.int a1, .int a2] [] cl_X9_124 (fun q hq => ctX9_gap hk0 q hq) hk0 rfl rfl rfl ⟨rfl, rfl, Nat.le_of_ble_eq_true rfl, Nat.le_of_ble_eq_true rfl⟩ (Nat.le_of_ble_eq_true rfl) ⟨Nat.zero_le _, Nat.zero_le _⟩ dX9_off_26 rfl (fun v6 M7 => ?_)
  refine x_istore (pc2 := 31) C dX9_off_29 rfl [some (rv G this), some (.int a1), some (.int a2), some (.int a3), some (.float v1), some (.float v5), some (.int v6), none] rfl rfl ?_
  refine x_iload (pc2 := 33) C dX9_off_31 rfl rfl ?_
  refine x_if_ge (tgt := 39) (pc2 := 36) C dX9_off_33 (by decide) rfl ?_ ?_
  · refine x_aload_n (pc2 := 40) C dX9_off_39 rfl rfl ?_
    refine x_get (pc2 := 43) C fl_X9_22 hk0 (by decide) rfl dX9_off_40 rfl ?_
    refine x_iconst (pc2 := 44) C dX9_off_43 rfl ic_2 ?_
    refine x_iload_n (pc2 := 45) C dX9_off_44 rfl rfl ?_
    refine x_iadd (pc2 := 46) C dX9_off_45 rfl ?_
    refine x_fald (pc2 := 47) C (kf_8_4 hk0) dX9_off_46 rfl ?_
    refine x_topf (fun v8 => ?_)
    refine x_fstore (pc2 := 49) C dX9_off_47 rfl [some (rv G this), some (.int a1), some (.int a2), some (.int a3), some (.float v1), some (.float v5), some (.int v6), some (.float v8)] rfl rfl ?_
    refine x_fload (pc2 := 51) C dX9_off_49 rfl rfl ?_
    refine x_iload (pc2 := 53) C dX9_off_51 rfl rfl ?_
    refine x_i2f (pc2 := 54) C dX9_off_53 rfl ?_
    refine x_fload (pc2 := 56) C dX9_off_54 rfl rfl ?_
    refine x_fsub (pc2 := 57) C dX9_off_56 rfl ?_
    refine x_topf (fun v9 => ?_)
    refine x_callSf (pc2 := 60) C [.float v9] [.float v5] cl_X9_120 (fun q hq => ctX9_size  q hq) rfl rfl ⟨rfl, rfl, Nat.le_of_ble_eq_true rfl, Nat.le_of_ble_eq_true rfl⟩ (Nat.le_of_ble_eq_true rfl) ⟨Nat.zero_le _, Nat.zero_le _⟩ dX9_off_57 rfl (fun v10 M11 => ?_)
    refine x_fload (pc2 := 62) C dX9_off_60 rfl rfl ?_
    refine x_fdiv (pc2 := 63) C dX9_off_62 rfl ?_
    refine x_topf (fun v12 => ?_)
    refine x_ldcf (pc2 := 65) C wt4_80 dX9_off_63 rfl ?_
    refine x_fmul (pc2 := 66) C dX9_off_65 rfl ?_
    refine x_topf (fun v13 => ?_)
    refine x_fadd (pc2 := 67) C dX9_off_66 rfl ?_
    refine x_topf (fun v14 => ?_)
    exact x_fret C rfl rfl dX9_off_67
  · refine x_fload (pc2 := 38) C dX9_off_36 rfl rfl ?_
    exact x_fret C rfl rfl dX9_off_38
set_option maxRecDepth 100000 in
set_option maxHeartbeats 4000000 in
theorem ctX9_distance {l : Launch} {G : bkG} {M : Mem} {this : Nat} {a1 : Int32} {a2 : Int32} {a3 : Int32} (hk0 : kd this = 8) : ∀ r, fX9_distance this a1 a2 a3 M = some r → Met l yX9_distance (Cond.code yX9_distance cX9_distance 4 (some .float) :: TT) ({ frames := 2, cells := 0, slots := 0, locals := 50 } : Room) (va_Pc [rv G this, .int a1, .int a2, .int a3] (Wd G M)) (QQ G ((fun v => some (.float v)) r.1) r.2) 0 0 (An G) := by
  refine mkMet (vl := (fun v => some (.float v))) RX9 rfl (by decide +kernel) rfl (Nat.le_of_ble_eq_true rfl) [some (rv G this), some (.int a1), some (.int a2), some (.int a3)] rfl ?_
  intro p e s m args below meth c C _
  refine x_aload_n (pc2 := 1) C dX9_distance_0 rfl rfl ?_
  refine x_iload_n (pc2 := 2) C dX9_distance_1 rfl rfl ?_
  refine x_callVi (pc2 := 5) C [.int a1] [] cl_X9_86 (fun q hq => ctX9_noTypist hk0 q hq) hk0 rfl rfl rfl ⟨rfl, rfl, Nat.le_of_ble_eq_true rfl, Nat.le_of_ble_eq_true rfl⟩ (Nat.le_of_ble_eq_true rfl) ⟨Nat.zero_le _, Nat.zero_le _⟩ dX9_distance_2 rfl (fun v1 M2 => ?_)
  refine x_jn 23 (fun (b3 : Unit) => [none, none, none, none]) (fun (b3 : Unit) => []) ?_ ?_
  · intro b3 M5
    refine x_ldcf (pc2 := 25) C wt5_114 dX9_distance_23 rfl ?_
    refine x_goto (tgt := 35) C dX9_distance_25 (by decide) ?_
    exact x_fret C rfl rfl dX9_distance_35
  · intro j4 hj4
    refine x_if_ne (tgt := 23) (pc2 := 8) C dX9_distance_5 (by decide) rfl ?_ ?_
    · exact x_wk [none, none, none, none] ⟨Or.inl rfl, Or.inl rfl, Or.inl rfl, Or.inl rfl, trivial⟩ (hj4 () _)
    · refine x_iload_n (pc2 := 9) C dX9_distance_8 rfl rfl ?_
      refine x_if_lt (tgt := 23) (pc2 := 12) C dX9_distance_9 (by decide) rfl ?_ ?_
      · exact x_wk [none, none, none, none] ⟨Or.inl rfl, Or.inl rfl, Or.inl rfl, Or.inl rfl, trivial⟩ (hj4 () _)
      · refine x_iload_n (pc2 := 13) C dX9_distance_12 rfl rfl ?_
        refine x_iconst (pc2 := 14) C dX9_distance_13 rfl ic_0 ?_
        refine x_sipush (pc2 := 17) C dX9_distance_14 rfl sc_9999 ?_
        refine x_callSi (pc2 := 20) C [.int a3, .int 0, .int 9999] [] cl_X9_68 (fun q hq => ctX9_in  q hq) rfl rfl ⟨rfl, rfl, Nat.le_of_ble_eq_true rfl, Nat.le_of_ble_eq_true rfl⟩ (Nat.le_of_ble_eq_true rfl) ⟨Nat.zero_le _, Nat.zero_le _⟩ dX9_distance_17 rfl (fun v6 M7 => ?_)
        refine x_if_ne (tgt := 28) (pc2 := 23) C dX9_distance_20 (by decide) rfl ?_ ?_
        · refine x_aload_n (pc2 := 29) C dX9_distance_28 rfl rfl ?_
          refine x_iload_n (pc2 := 30) C dX9_distance_29 rfl rfl ?_
          refine x_iload_n (pc2 := 31) C dX9_distance_30 rfl rfl ?_
          refine x_iload_n (pc2 := 32) C dX9_distance_31 rfl rfl ?_
          refine x_callVf (pc2 := 35) C [.int a1, .int a2, .int a3] [] cl_X9_132 (fun q hq => ctX9_off hk0 q hq) hk0 rfl rfl rfl ⟨rfl, rfl, Nat.le_of_ble_eq_true rfl, Nat.le_of_ble_eq_true rfl⟩ (Nat.le_of_ble_eq_true rfl) ⟨Nat.zero_le _, Nat.zero_le _⟩ dX9_distance_32 rfl (fun v8 M9 => ?_)
          exact x_fret C rfl rfl dX9_distance_35
        · exact x_wk [none, none, none, none] ⟨Or.inl rfl, Or.inl rfl, Or.inl rfl, Or.inl rfl, trivial⟩ (hj4 () _)
set_option maxRecDepth 100000 in
set_option maxHeartbeats 4000000 in
theorem ctX9_drive {l : Launch} {G : bkG} {M : Mem} {this : Nat} {a1 : Int32} (hk0 : kd this = 8) : ∀ r, fX9_drive this a1 M = some r → Met l yX9_drive (Cond.code yX9_drive cX9_drive 9 none :: TT) ({ frames := 1, cells := 0, slots := 0, locals := 21 } : Room) (va_Pc [rv G this, .int a1] (Wd G M)) (QQ G ((fun _ => none) r.1) r.2) 0 0 (An G) := by
  refine mkMet (vl := (fun _ => none)) RX9 rfl (by decide +kernel) rfl (Nat.le_of_ble_eq_true rfl) [some (rv G this), some (.int a1), none, none, none, none, none, none, none] rfl ?_
  intro p e s m args below meth c C _
  refine x_aload_n (pc2 := 1) C dX9_drive_0 rfl rfl ?_
  refine x_iconst (pc2 := 2) C dX9_drive_1 rfl ic_1 ?_
  refine x_iload_n (pc2 := 3) C dX9_drive_2 rfl rfl ?_
  refine x_ishl (pc2 := 4) C dX9_drive_3 rfl ?_
  refine x_puti (pc2 := 7) C ft_X9_101 hk0 (by decide) hs_8_14 (Nat.le_of_ble_eq_true rfl) dX9_drive_4 rfl (fun M1 => ?_)
  refine x_aload_n (pc2 := 8) C dX9_drive_7 rfl rfl ?_
  refine x_iconst (pc2 := 9) C dX9_drive_8 rfl ic_0 ?_
  refine x_puti (pc2 := 12) C ft_X9_104 hk0 (by decide) hs_8_13 (Nat.le_of_ble_eq_true rfl) dX9_drive_9 rfl (fun M2 => ?_)
  refine x_iconst (pc2 := 13) C dX9_drive_12 rfl ic_1 ?_
  refine x_istore_n (pc2 := 14) C dX9_drive_13 rfl [some (rv G this), some (.int a1), some (.int 1), none, none, none, none, none, none] rfl rfl ?_
  refine x_wk [some (rv G this), none, some (.int 1), none, none, none, none, none, none] ⟨Or.inr rfl, Or.inl rfl, Or.inr rfl, Or.inl rfl, Or.inl rfl, Or.inl rfl, Or.inl rfl, Or.inl rfl, Or.inl rfl, trivial⟩ ?_
  refine x_lp (fun (b3 : Int32) => [some (rv G this), none, some (.int b3), none, none, none, none, none, none]) ?_
  · intro rec5 hrec5 b3 M4
    refine x_iload_n (pc2 := 15) C dX9_drive_14 rfl rfl ?_
    refine x_if_eq (tgt := 181) (pc2 := 18) C dX9_drive_15 (by decide) rfl ?_ ?_
    · exact x_vret C rfl rfl dX9_drive_181
    · refine x_aload_n (pc2 := 19) C dX9_drive_18 rfl rfl ?_
      refine x_get (pc2 := 22) C fl_X9_104 hk0 (by decide) rfl dX9_drive_19 rfl ?_
      refine x_istore_n (pc2 := 23) C dX9_drive_22 rfl [some (rv G this), none, some (.int b3), some (.int (M4.1 this 13)), none, none, none, none, none] rfl rfl ?_
      refine x_aload_n (pc2 := 24) C dX9_drive_23 rfl rfl ?_
      refine x_get (pc2 := 27) C fl_X9_101 hk0 (by decide) rfl dX9_drive_24 rfl ?_
      refine x_istore (pc2 := 29) C dX9_drive_27 rfl [some (rv G this), none, some (.int b3), some (.int (M4.1 this 13)), some (.int (M4.1 this 14)), none, none, none, none] rfl rfl ?_
      refine x_iconst (pc2 := 30) C dX9_drive_29 rfl ic_0 ?_
      refine x_istore (pc2 := 32) C dX9_drive_30 rfl [some (rv G this), none, some (.int b3), some (.int (M4.1 this 13)), some (.int (M4.1 this 14)), some (.int 0), none, none, none] rfl rfl ?_
      refine x_wk [some (rv G this), none, none, some (.int (M4.1 this 13)), some (.int (M4.1 this 14)), some (.int 0), none, none, none] ⟨Or.inr rfl, Or.inl rfl, Or.inl rfl, Or.inr rfl, Or.inr rfl, Or.inr rfl, Or.inl rfl, Or.inl rfl, Or.inl rfl, trivial⟩ ?_
      refine x_lp1 (fun (b6 : Int32) => [some (rv G this), none, none, some (.int (M4.1 this 13)), some (.int (M4.1 this 14)), some (.int b6), none, none, none]) 155 (fun (b9 : Unit) => [some (rv G this), none, none, some (.int (M4.1 this 13)), some (.int (M4.1 this 14)), none, none, none, none]) ?_ ?_
      · intro b9 M10
        refine x_iload_n (pc2 := 156) C dX9_drive_155 rfl rfl ?_
        refine x_aload_n (pc2 := 157) C dX9_drive_156 rfl rfl ?_
        refine x_get (pc2 := 160) C fl_X9_104 hk0 (by decide) rfl dX9_drive_157 rfl ?_
        refine x_jn 177 (fun (b11 : Int32) => [some (rv G this), none, none, none, none, none, none, none, none]) (fun (b11 : Int32) => [.int b11]) ?_ ?_
        · intro b11 M13
          refine x_istore_n (pc2 := 178) C dX9_drive_177 rfl [some (rv G this), none, some (.int b11), none, none, none, none, none, none] rfl rfl ?_
          refine x_goto (tgt := 14) C dX9_drive_178 (by decide) ?_
          exact x_wk [some (rv G this), none, some (.int b11), none, none, none, none, none, none] ⟨Or.inr rfl, Or.inl rfl, Or.inr rfl, Or.inl rfl, Or.inl rfl, Or.inl rfl, Or.inl rfl, Or.inl rfl, Or.inl rfl, trivial⟩ (hrec5 b11 _)
        · intro j12 hj12
          refine x_jn 172 (fun (b14 : Unit) => [some (rv G this), none, none, none, none, none, none, none, none]) (fun (b14 : Unit) => []) ?_ ?_
          · intro b14 M16
            refine x_iconst (pc2 := 173) C dX9_drive_172 rfl ic_1 ?_
            refine x_goto (tgt := 177) C dX9_drive_173 (by decide) ?_
            exact x_wk [some (rv G this), none, none, none, none, none, none, none, none] ⟨Or.inr rfl, Or.inl rfl, Or.inl rfl, Or.inl rfl, Or.inl rfl, Or.inl rfl, Or.inl rfl, Or.inl rfl, Or.inl rfl, trivial⟩ (hj12 1 _)
          · intro j15 hj15
            refine x_icmp_ne (tgt := 172) (pc2 := 163) C dX9_drive_160 (by decide) rfl ?_ ?_
            · exact x_wk [some (rv G this), none, none, none, none, none, none, none, none] ⟨Or.inr rfl, Or.inl rfl, Or.inl rfl, Or.inl rfl, Or.inl rfl, Or.inl rfl, Or.inl rfl, Or.inl rfl, Or.inl rfl, trivial⟩ (hj15 () _)
            · refine x_iload (pc2 := 165) C dX9_drive_163 rfl rfl ?_
              refine x_aload_n (pc2 := 166) C dX9_drive_165 rfl rfl ?_
              refine x_get (pc2 := 169) C fl_X9_101 hk0 (by decide) rfl dX9_drive_166 rfl ?_
              refine x_icmp_eq (tgt := 176) (pc2 := 172) C dX9_drive_169 (by decide) rfl ?_ ?_
              · refine x_iconst (pc2 := 177) C dX9_drive_176 rfl ic_0 ?_
                exact x_wk [some (rv G this), none, none, none, none, none, none, none, none] ⟨Or.inr rfl, Or.inl rfl, Or.inl rfl, Or.inl rfl, Or.inl rfl, Or.inl rfl, Or.inl rfl, Or.inl rfl, Or.inl rfl, trivial⟩ (hj12 0 _)
              · exact x_wk [some (rv G this), none, none, none, none, none, none, none, none] ⟨Or.inr rfl, Or.inl rfl, Or.inl rfl, Or.inl rfl, Or.inl rfl, Or.inl rfl, Or.inl rfl, Or.inl rfl, Or.inl rfl, trivial⟩ (hj15 () _)
      · intro k17 hk17 rec8 hrec8 b6 M7
        refine x_iload (pc2 := 34) C dX9_drive_32 rfl rfl ?_
        refine x_aload_n (pc2 := 35) C dX9_drive_34 rfl rfl ?_
        refine x_callVi (pc2 := 38) C [] [.int b6] cl_X9_64 (fun q hq => ctX9_keys hk0 q hq) hk0 rfl rfl rfl ⟨rfl, rfl, Nat.le_of_ble_eq_true rfl, Nat.le_of_ble_eq_true rfl⟩ (Nat.le_of_ble_eq_true rfl) ⟨Nat.zero_le _, Nat.zero_le _⟩ dX9_drive_35 rfl (fun v18 M19 => ?_)
        refine x_icmp_ge (tgt := 155) (pc2 := 41) C dX9_drive_38 (by decide) rfl ?_ ?_
        · exact x_wk [some (rv G this), none, none, some (.int (M4.1 this 13)), some (.int (M4.1 this 14)), none, none, none, none] ⟨Or.inr rfl, Or.inl rfl, Or.inl rfl, Or.inr rfl, Or.inr rfl, Or.inl rfl, Or.inl rfl, Or.inl rfl, Or.inl rfl, trivial⟩ (hk17 () _)
        · refine x_iload (pc2 := 43) C dX9_drive_41 rfl rfl ?_
          refine x_aload_n (pc2 := 44) C dX9_drive_43 rfl rfl ?_
          refine x_get (pc2 := 47) C fl_X9_7 hk0 (by decide) rfl dX9_drive_44 rfl ?_
          refine x_iconst (pc2 := 48) C dX9_drive_47 rfl ic_1 ?_
          refine x_iald (pc2 := 49) C (kf_8_0 hk0) dX9_drive_48 rfl ?_
          refine x_idiv (pc2 := 50) C dX9_drive_49 rfl ?_
          refine x_topi (fun v20 => ?_)
          refine x_istore (pc2 := 52) C dX9_drive_50 rfl [some (rv G this), none, none, some (.int (M4.1 this 13)), some (.int (M4.1 this 14)), some (.int b6), some (.int v20), none, none] rfl rfl ?_
          refine x_iload (pc2 := 54) C dX9_drive_52 rfl rfl ?_
          refine x_aload_n (pc2 := 55) C dX9_drive_54 rfl rfl ?_
          refine x_get (pc2 := 58) C fl_X9_7 hk0 (by decide) rfl dX9_drive_55 rfl ?_
          refine x_iconst (pc2 := 59) C dX9_drive_58 rfl ic_1 ?_
          refine x_iald (pc2 := 60) C (kf_8_0 hk0) dX9_drive_59 rfl ?_
          refine x_irem (pc2 := 61) C dX9_drive_60 rfl ?_
          refine x_topi (fun v21 => ?_)
          refine x_istore (pc2 := 63) C dX9_drive_61 rfl [some (rv G this), none, none, some (.int (M4.1 this 13)), some (.int (M4.1 this 14)), some (.int b6), some (.int v20), some (.int v21), none] rfl rfl ?_
          refine x_aload_n (pc2 := 64) C dX9_drive_63 rfl rfl ?_
          refine x_iload (pc2 := 66) C dX9_drive_64 rfl rfl ?_
          refine x_callVi (pc2 := 69) C [.int b6] [] cl_X9_72 (fun q hq => ctX9_isDown hk0 q hq) hk0 rfl rfl rfl ⟨rfl, rfl, Nat.le_of_ble_eq_true rfl, Nat.le_of_ble_eq_true rfl⟩ (Nat.le_of_ble_eq_true rfl) ⟨Nat.zero_le _, Nat.zero_le _⟩ dX9_drive_66 rfl (fun v22 M23 => ?_)
          refine x_jn 103 (fun (b24 : Int32) => [some (rv G this), none, none, some (.int (M4.1 this 13)), some (.int (M4.1 this 14)), some (.int b6), some (.int v20), some (.int v21), none]) (fun (b24 : Int32) => [.int b24]) ?_ ?_
          · intro b24 M26
            refine x_istore (pc2 := 105) C dX9_drive_103 rfl [some (rv G this), none, none, some (.int (M4.1 this 13)), some (.int (M4.1 this 14)), some (.int b6), some (.int v20), some (.int v21), some (.int b24)] rfl rfl ?_
            refine x_aload_n (pc2 := 106) C dX9_drive_105 rfl rfl ?_
            refine x_dup (pc2 := 107) C dX9_drive_106 rfl rfl ?_
            refine x_get (pc2 := 110) C fl_X9_101 hk0 (by decide) rfl dX9_drive_107 rfl ?_
            refine x_iload (pc2 := 112) C dX9_drive_110 rfl rfl ?_
            refine x_jn 123 (fun (b27 : Int32) => [some (rv G this), none, none, some (.int (M4.1 this 13)), some (.int (M4.1 this 14)), some (.int b6), none, some (.int v21), some (.int b24)]) (fun (b27 : Int32) => [.int b27, .int (M26.1 this 14), rv G this]) ?_ ?_
            · intro b27 M29
              refine x_ior (pc2 := 124) C dX9_drive_123 rfl ?_
              refine x_puti (pc2 := 127) C ft_X9_101 hk0 (by decide) hs_8_14 (Nat.le_of_ble_eq_true rfl) dX9_drive_124 rfl (fun M30 => ?_)
              refine x_aload_n (pc2 := 128) C dX9_drive_127 rfl rfl ?_
              refine x_dup (pc2 := 129) C dX9_drive_128 rfl rfl ?_
              refine x_get (pc2 := 132) C fl_X9_104 hk0 (by decide) rfl dX9_drive_129 rfl ?_
              refine x_iload (pc2 := 134) C dX9_drive_132 rfl rfl ?_
              refine x_jn 145 (fun (b31 : Int32) => [some (rv G this), none, none, some (.int (M4.1 this 13)), some (.int (M4.1 this 14)), some (.int b6), none, none, none]) (fun (b31 : Int32) => [.int b31, .int (M30.1 this 13), rv G this]) ?_ ?_
              · intro b31 M33
                refine x_ior (pc2 := 146) C dX9_drive_145 rfl ?_
                refine x_puti (pc2 := 149) C ft_X9_104 hk0 (by decide) hs_8_13 (Nat.le_of_ble_eq_true rfl) dX9_drive_146 rfl (fun M34 => ?_)
                refine x_iinc (pc2 := 152) (v := b6 + 1) C dX9_drive_149 rfl rfl 1 ic_1 rfl [some (rv G this), none, none, some (.int (M4.1 this 13)), some (.int (M4.1 this 14)), some (.int (b6 + 1)), none, none, none] rfl rfl ?_
                refine x_goto (tgt := 32) C dX9_drive_152 (by decide) ?_
                exact x_wk [some (rv G this), none, none, some (.int (M4.1 this 13)), some (.int (M4.1 this 14)), some (.int (b6 + 1)), none, none, none] ⟨Or.inr rfl, Or.inl rfl, Or.inl rfl, Or.inr rfl, Or.inr rfl, Or.inr rfl, Or.inl rfl, Or.inl rfl, Or.inl rfl, trivial⟩ (hrec8 (b6 + 1) _)
              · intro j32 hj32
                refine x_if_eq (tgt := 144) (pc2 := 137) C dX9_drive_134 (by decide) rfl ?_ ?_
                · refine x_iconst (pc2 := 145) C dX9_drive_144 rfl ic_0 ?_
                  exact x_wk [some (rv G this), none, none, some (.int (M4.1 this 13)), some (.int (M4.1 this 14)), some (.int b6), none, none, none] ⟨Or.inr rfl, Or.inl rfl, Or.inl rfl, Or.inr rfl, Or.inr rfl, Or.inr rfl, Or.inl rfl, Or.inl rfl, Or.inl rfl, trivial⟩ (hj32 0 _)
                · refine x_iconst (pc2 := 138) C dX9_drive_137 rfl ic_1 ?_
                  refine x_iload (pc2 := 140) C dX9_drive_138 rfl rfl ?_
                  refine x_ishl (pc2 := 141) C dX9_drive_140 rfl ?_
                  refine x_goto (tgt := 145) C dX9_drive_141 (by decide) ?_
                  exact x_wk [some (rv G this), none, none, some (.int (M4.1 this 13)), some (.int (M4.1 this 14)), some (.int b6), none, none, none] ⟨Or.inr rfl, Or.inl rfl, Or.inl rfl, Or.inr rfl, Or.inr rfl, Or.inr rfl, Or.inl rfl, Or.inl rfl, Or.inl rfl, trivial⟩ (hj32 ((1 : Int32) <<< (v21 &&& 31)) _)
            · intro j28 hj28
              refine x_if_eq (tgt := 122) (pc2 := 115) C dX9_drive_112 (by decide) rfl ?_ ?_
              · refine x_iconst (pc2 := 123) C dX9_drive_122 rfl ic_0 ?_
                exact x_wk [some (rv G this), none, none, some (.int (M4.1 this 13)), some (.int (M4.1 this 14)), some (.int b6), none, some (.int v21), some (.int b24)] ⟨Or.inr rfl, Or.inl rfl, Or.inl rfl, Or.inr rfl, Or.inr rfl, Or.inr rfl, Or.inl rfl, Or.inr rfl, Or.inr rfl, trivial⟩ (hj28 0 _)
              · refine x_iconst (pc2 := 116) C dX9_drive_115 rfl ic_1 ?_
                refine x_iload (pc2 := 118) C dX9_drive_116 rfl rfl ?_
                refine x_ishl (pc2 := 119) C dX9_drive_118 rfl ?_
                refine x_goto (tgt := 123) C dX9_drive_119 (by decide) ?_
                exact x_wk [some (rv G this), none, none, some (.int (M4.1 this 13)), some (.int (M4.1 this 14)), some (.int b6), none, some (.int v21), some (.int b24)] ⟨Or.inr rfl, Or.inl rfl, Or.inl rfl, Or.inr rfl, Or.inr rfl, Or.inr rfl, Or.inl rfl, Or.inr rfl, Or.inr rfl, trivial⟩ (hj28 ((1 : Int32) <<< (v20 &&& 31)) _)
          · intro j25 hj25
            refine x_jn 102 (fun (b35 : Unit) => [some (rv G this), none, none, some (.int (M4.1 this 13)), some (.int (M4.1 this 14)), some (.int b6), some (.int v20), some (.int v21), none]) (fun (b35 : Unit) => []) ?_ ?_
            · intro b35 M37
              refine x_iconst (pc2 := 103) C dX9_drive_102 rfl ic_0 ?_
              exact x_wk [some (rv G this), none, none, some (.int (M4.1 this 13)), some (.int (M4.1 this 14)), some (.int b6), some (.int v20), some (.int v21), none] ⟨Or.inr rfl, Or.inl rfl, Or.inl rfl, Or.inr rfl, Or.inr rfl, Or.inr rfl, Or.inr rfl, Or.inr rfl, Or.inl rfl, trivial⟩ (hj25 0 _)
            · intro j36 hj36
              refine x_if_eq (tgt := 102) (pc2 := 72) C dX9_drive_69 (by decide) rfl ?_ ?_
              · exact x_wk [some (rv G this), none, none, some (.int (M4.1 this 13)), some (.int (M4.1 this 14)), some (.int b6), some (.int v20), some (.int v21), none] ⟨Or.inr rfl, Or.inl rfl, Or.inl rfl, Or.inr rfl, Or.inr rfl, Or.inr rfl, Or.inr rfl, Or.inr rfl, Or.inl rfl, trivial⟩ (hj36 () _)
              · refine x_aload_n (pc2 := 73) C dX9_drive_72 rfl rfl ?_
                refine x_get (pc2 := 76) C fl_X9_101 hk0 (by decide) rfl dX9_drive_73 rfl ?_
                refine x_iload (pc2 := 78) C dX9_drive_76 rfl rfl ?_
                refine x_ishr (pc2 := 79) C dX9_drive_78 rfl ?_
                refine x_iconst (pc2 := 80) C dX9_drive_79 rfl ic_1 ?_
                refine x_iand (pc2 := 81) C dX9_drive_80 rfl ?_
                refine x_iconst (pc2 := 82) C dX9_drive_81 rfl ic_1 ?_
                refine x_jn 98 (fun (b38 : Unit) => [some (rv G this), none, none, some (.int (M4.1 this 13)), some (.int (M4.1 this 14)), some (.int b6), some (.int v20), some (.int v21), none]) (fun (b38 : Unit) => []) ?_ ?_
                · intro b38 M40
                  refine x_iconst (pc2 := 99) C dX9_drive_98 rfl ic_1 ?_
                  refine x_goto (tgt := 103) C dX9_drive_99 (by decide) ?_
                  exact x_wk [some (rv G this), none, none, some (.int (M4.1 this 13)), some (.int (M4.1 this 14)), some (.int b6), some (.int v20), some (.int v21), none] ⟨Or.inr rfl, Or.inl rfl, Or.inl rfl, Or.inr rfl, Or.inr rfl, Or.inr rfl, Or.inr rfl, Or.inr rfl, Or.inl rfl, trivial⟩ (hj25 1 _)
                · intro j39 hj39
                  refine x_icmp_eq (tgt := 98) (pc2 := 85) C dX9_drive_82 (by decide) rfl ?_ ?_
                  · exact x_wk [some (rv G this), none, none, some (.int (M4.1 this 13)), some (.int (M4.1 this 14)), some (.int b6), some (.int v20), some (.int v21), none] ⟨Or.inr rfl, Or.inl rfl, Or.inl rfl, Or.inr rfl, Or.inr rfl, Or.inr rfl, Or.inr rfl, Or.inr rfl, Or.inl rfl, trivial⟩ (hj39 () _)
                  · refine x_aload_n (pc2 := 86) C dX9_drive_85 rfl rfl ?_
                    refine x_get (pc2 := 89) C fl_X9_104 hk0 (by decide) rfl dX9_drive_86 rfl ?_
                    refine x_iload (pc2 := 91) C dX9_drive_89 rfl rfl ?_
                    refine x_ishr (pc2 := 92) C dX9_drive_91 rfl ?_
                    refine x_iconst (pc2 := 93) C dX9_drive_92 rfl ic_1 ?_
                    refine x_iand (pc2 := 94) C dX9_drive_93 rfl ?_
                    refine x_iconst (pc2 := 95) C dX9_drive_94 rfl ic_1 ?_
                    refine x_icmp_ne (tgt := 102) (pc2 := 98) C dX9_drive_95 (by decide) rfl ?_ ?_
                    · exact x_wk [some (rv G this), none, none, some (.int (M4.1 this 13)), some (.int (M4.1 this 14)), some (.int b6), some (.int v20), some (.int v21), none] ⟨Or.inr rfl, Or.inl rfl, Or.inl rfl, Or.inr rfl, Or.inr rfl, Or.inr rfl, Or.inr rfl, Or.inr rfl, Or.inl rfl, trivial⟩ (hj36 () _)
                    · exact x_wk [some (rv G this), none, none, some (.int (M4.1 this 13)), some (.int (M4.1 this 14)), some (.int b6), some (.int v20), some (.int v21), none] ⟨Or.inr rfl, Or.inl rfl, Or.inl rfl, Or.inr rfl, Or.inr rfl, Or.inr rfl, Or.inr rfl, Or.inr rfl, Or.inl rfl, trivial⟩ (hj39 () _)
set_option maxRecDepth 100000 in
set_option maxHeartbeats 4000000 in
theorem ctX9_shiftOf {l : Launch} {G : bkG} {M : Mem} {this : Nat} {a1 : Int32} (hk0 : kd this = 8) : ∀ r, fX9_shiftOf this a1 M = some r → Met l yX9_shiftOf (Cond.code yX9_shiftOf cX9_shiftOf 2 (some .int) :: TT) ({ frames := 0, cells := 0, slots := 0, locals := 0 } : Room) (va_Pc [rv G this, .int a1] (Wd G M)) (QQ G ((fun v => some (.int v)) r.1) r.2) 0 0 (An G) := by
  refine mkMet (vl := (fun v => some (.int v))) RX9 rfl (by decide +kernel) rfl (Nat.le_of_ble_eq_true rfl) [some (rv G this), some (.int a1)] rfl ?_
  intro p e s m args below meth c C _
  refine x_aload_n (pc2 := 1) C dX9_shiftOf_0 rfl rfl ?_
  refine x_get (pc2 := 4) C fl_X9_7 hk0 (by decide) rfl dX9_shiftOf_1 rfl ?_
  refine x_iconst (pc2 := 5) C dX9_shiftOf_4 rfl ic_5 ?_
  refine x_iald (pc2 := 6) C (kf_8_0 hk0) dX9_shiftOf_5 rfl ?_
  refine x_iload_n (pc2 := 7) C dX9_shiftOf_6 rfl rfl ?_
  refine x_icmp_ne (tgt := 14) (pc2 := 10) C dX9_shiftOf_7 (by decide) rfl ?_ ?_
  · refine x_aload_n (pc2 := 15) C dX9_shiftOf_14 rfl rfl ?_
    refine x_get (pc2 := 18) C fl_X9_7 hk0 (by decide) rfl dX9_shiftOf_15 rfl ?_
    refine x_bipush (pc2 := 20) C dX9_shiftOf_18 rfl bc_6 ?_
    refine x_iald (pc2 := 21) C (kf_8_0 hk0) dX9_shiftOf_20 rfl ?_
    refine x_iload_n (pc2 := 22) C dX9_shiftOf_21 rfl rfl ?_
    refine x_icmp_ne (tgt := 29) (pc2 := 25) C dX9_shiftOf_22 (by decide) rfl ?_ ?_
    · refine x_bipush (pc2 := 31) C dX9_shiftOf_29 rfl bc_m5 ?_
      exact x_iret C rfl rfl dX9_shiftOf_31
    · refine x_iconst (pc2 := 26) C dX9_shiftOf_25 rfl ic_1 ?_
      refine x_goto (tgt := 31) C dX9_shiftOf_26 (by decide) ?_
      exact x_iret C rfl rfl dX9_shiftOf_31
  · refine x_iconst (pc2 := 11) C dX9_shiftOf_10 rfl ic_0 ?_
    refine x_goto (tgt := 31) C dX9_shiftOf_11 (by decide) ?_
    exact x_iret C rfl rfl dX9_shiftOf_31
set_option maxRecDepth 100000 in
set_option maxHeartbeats 4000000 in
theorem ctX9_judged {l : Launch} {G : bkG} {M : Mem} {this : Nat} {a1 : Int32} (hk0 : kd this = 8) : ∀ r, fX9_judged this a1 M = some r → Met l yX9_judged (Cond.code yX9_judged cX9_judged 9 (some .int) :: TT) ({ frames := 2, cells := 0, slots := 0, locals := 50 } : Room) (va_Pc [rv G this, .int a1] (Wd G M)) (QQ G ((fun v => some (.int v)) r.1) r.2) 0 0 (An G) := by
  refine mkMet (vl := (fun v => some (.int v))) RX9 rfl (by decide +kernel) rfl (Nat.le_of_ble_eq_true rfl) [some (rv G this), some (.int a1), none, none, none, none, none, none, none] rfl ?_
  intro p e s m args below meth c C _
  refine x_aload_n (pc2 := 1) C dX9_judged_0 rfl rfl ?_
  refine x_iload_n (pc2 := 2) C dX9_judged_1 rfl rfl ?_
  refine x_callVi (pc2 := 5) C [.int a1] [] cl_X9_82 (fun q hq => ctX9_shiftOf hk0 q hq) hk0 rfl rfl rfl ⟨rfl, rfl, Nat.le_of_ble_eq_true rfl, Nat.le_of_ble_eq_true rfl⟩ (Nat.le_of_ble_eq_true rfl) ⟨Nat.zero_le _, Nat.zero_le _⟩ dX9_judged_2 rfl (fun v1 M2 => ?_)
  refine x_istore_n (pc2 := 6) C dX9_judged_5 rfl [some (rv G this), some (.int a1), some (.int v1), none, none, none, none, none, none] rfl rfl ?_
  refine x_aload_n (pc2 := 7) C dX9_judged_6 rfl rfl ?_
  refine x_get (pc2 := 10) C fl_X9_7 hk0 (by decide) rfl dX9_judged_7 rfl ?_
  refine x_bipush (pc2 := 12) C dX9_judged_10 rfl bc_116 ?_
  refine x_iload_n (pc2 := 13) C dX9_judged_12 rfl rfl ?_
  refine x_iadd (pc2 := 14) C dX9_judged_13 rfl ?_
  refine x_iald (pc2 := 15) C (kf_8_0 hk0) dX9_judged_14 rfl ?_
  refine x_iconst (pc2 := 16) C dX9_judged_15 rfl ic_1 ?_
  refine x_jn 24 (fun (b3 : Int32) => [some (rv G this), some (.int a1), some (.int v1), none, none, none, none, none, none]) (fun (b3 : Int32) => [.int b3]) ?_ ?_
  · intro b3 M5
    refine x_istore_n (pc2 := 25) C dX9_judged_24 rfl [some (rv G this), some (.int a1), some (.int v1), some (.int b3), none, none, none, none, none] rfl rfl ?_
    refine x_iload_n (pc2 := 26) C dX9_judged_25 rfl rfl ?_
    refine x_if_lt (tgt := 39) (pc2 := 29) C dX9_judged_26 (by decide) rfl ?_ ?_
    · refine x_aload_n (pc2 := 40) C dX9_judged_39 rfl rfl ?_
      refine x_get (pc2 := 43) C fl_X9_7 hk0 (by decide) rfl dX9_judged_40 rfl ?_
      refine x_bipush (pc2 := 45) C dX9_judged_43 rfl bc_68 ?_
      refine x_iload_n (pc2 := 46) C dX9_judged_45 rfl rfl ?_
      refine x_iadd (pc2 := 47) C dX9_judged_46 rfl ?_
      refine x_iald (pc2 := 48) C (kf_8_0 hk0) dX9_judged_47 rfl ?_
      refine x_topi (fun v6 => ?_)
      refine x_istore (pc2 := 50) C dX9_judged_48 rfl [some (rv G this), some (.int a1), some (.int v1), some (.int b3), some (.int v6), none, none, none, none] rfl rfl ?_
      refine x_aload_n (pc2 := 51) C dX9_judged_50 rfl rfl ?_
      refine x_get (pc2 := 54) C fl_X9_7 hk0 (by decide) rfl dX9_judged_51 rfl ?_
      refine x_iconst (pc2 := 55) C dX9_judged_54 rfl ic_2 ?_
      refine x_iald (pc2 := 56) C (kf_8_0 hk0) dX9_judged_55 rfl ?_
      refine x_iload (pc2 := 58) C dX9_judged_56 rfl rfl ?_
      refine x_isub (pc2 := 59) C dX9_judged_58 rfl ?_
      refine x_topi (fun v7 => ?_)
      refine x_istore (pc2 := 61) C dX9_judged_59 rfl [some (rv G this), some (.int a1), some (.int v1), some (.int b3), some (.int v6), some (.int v7), none, none, none] rfl rfl ?_
      refine x_aload_n (pc2 := 62) C dX9_judged_61 rfl rfl ?_
      refine x_iconst (pc2 := 63) C dX9_judged_62 rfl ic_0 ?_
      refine x_iload (pc2 := 65) C dX9_judged_63 rfl rfl ?_
      refine x_iload (pc2 := 67) C dX9_judged_65 rfl rfl ?_
      refine x_callVf (pc2 := 70) C [.int 0, .int v6, .int v7] [] cl_X9_132 (fun q hq => ctX9_off hk0 q hq) hk0 rfl rfl rfl ⟨rfl, rfl, Nat.le_of_ble_eq_true rfl, Nat.le_of_ble_eq_true rfl⟩ (Nat.le_of_ble_eq_true rfl) ⟨Nat.zero_le _, Nat.zero_le _⟩ dX9_judged_67 rfl (fun v8 M9 => ?_)
      refine x_fstore (pc2 := 72) C dX9_judged_70 rfl [some (rv G this), some (.int a1), some (.int v1), some (.int b3), some (.int v6), some (.int v7), some (.float v8), none, none] rfl rfl ?_
      refine x_aload_n (pc2 := 73) C dX9_judged_72 rfl rfl ?_
      refine x_iconst (pc2 := 74) C dX9_judged_73 rfl ic_1 ?_
      refine x_iload (pc2 := 76) C dX9_judged_74 rfl rfl ?_
      refine x_iload (pc2 := 78) C dX9_judged_76 rfl rfl ?_
      refine x_callVf (pc2 := 81) C [.int 1, .int v6, .int v7] [] cl_X9_132 (fun q hq => ctX9_off hk0 q hq) hk0 rfl rfl rfl ⟨rfl, rfl, Nat.le_of_ble_eq_true rfl, Nat.le_of_ble_eq_true rfl⟩ (Nat.le_of_ble_eq_true rfl) ⟨Nat.zero_le _, Nat.zero_le _⟩ dX9_judged_78 rfl (fun v10 M11 => ?_)
      refine x_fstore (pc2 := 83) C dX9_judged_81 rfl [some (rv G this), some (.int a1), some (.int v1), some (.int b3), some (.int v6), some (.int v7), some (.float v8), some (.float v10), none] rfl rfl ?_
      refine x_fload (pc2 := 85) C dX9_judged_83 rfl rfl ?_
      refine x_fload (pc2 := 87) C dX9_judged_85 rfl rfl ?_
      refine x_fcmpg (pc2 := 88) C dX9_judged_87 rfl ?_
      refine x_jn 96 (fun (b12 : Int32) => [some (rv G this), none, none, some (.int b3), none, none, some (.float v8), some (.float v10), none]) (fun (b12 : Int32) => [.int b12]) ?_ ?_
      · intro b12 M14
        refine x_istore (pc2 := 98) C dX9_judged_96 rfl [some (rv G this), none, none, some (.int b3), none, none, some (.float v8), some (.float v10), some (.int b12)] rfl rfl ?_
        refine x_iload_n (pc2 := 99) C dX9_judged_98 rfl rfl ?_
        refine x_if_eq (tgt := 131) (pc2 := 102) C dX9_judged_99 (by decide) rfl ?_ ?_
        · refine x_fload (pc2 := 133) C dX9_judged_131 rfl rfl ?_
          refine x_fload (pc2 := 135) C dX9_judged_133 rfl rfl ?_
          refine x_fsub (pc2 := 136) C dX9_judged_135 rfl ?_
          refine x_topf (fun v15 => ?_)
          refine x_callSf (pc2 := 139) C [.float v15] [] cl_X9_120 (fun q hq => ctX9_size  q hq) rfl rfl ⟨rfl, rfl, Nat.le_of_ble_eq_true rfl, Nat.le_of_ble_eq_true rfl⟩ (Nat.le_of_ble_eq_true rfl) ⟨Nat.zero_le _, Nat.zero_le _⟩ dX9_judged_136 rfl (fun v16 M17 => ?_)
          refine x_aload_n (pc2 := 140) C dX9_judged_139 rfl rfl ?_
          refine x_get (pc2 := 143) C fl_X9_22 hk0 (by decide) rfl dX9_judged_140 rfl ?_
          refine x_iconst (pc2 := 144) C dX9_judged_143 rfl ic_4 ?_
          refine x_fald (pc2 := 145) C (kf_8_4 hk0) dX9_judged_144 rfl ?_
          refine x_fcmpg (pc2 := 146) C dX9_judged_145 rfl ?_
          refine x_if_ge (tgt := 167) (pc2 := 149) C dX9_judged_146 (by decide) rfl ?_ ?_
          · refine x_iload (pc2 := 169) C dX9_judged_167 rfl rfl ?_
            exact x_iret C rfl rfl dX9_judged_169
          · refine x_aload_n (pc2 := 150) C dX9_judged_149 rfl rfl ?_
            refine x_get (pc2 := 153) C fl_X9_7 hk0 (by decide) rfl dX9_judged_150 rfl ?_
            refine x_bipush (pc2 := 155) C dX9_judged_153 rfl bc_16 ?_
            refine x_iald (pc2 := 156) C (kf_8_0 hk0) dX9_judged_155 rfl ?_
            refine x_bipush (pc2 := 158) C dX9_judged_156 rfl bc_20 ?_
            refine x_icmp_ne (tgt := 165) (pc2 := 161) C dX9_judged_158 (by decide) rfl ?_ ?_
            · refine x_iconst (pc2 := 166) C dX9_judged_165 rfl ic_3 ?_
              exact x_iret C rfl rfl dX9_judged_166
            · refine x_iconst (pc2 := 162) C dX9_judged_161 rfl ic_2 ?_
              refine x_goto (tgt := 166) C dX9_judged_162 (by decide) ?_
              exact x_iret C rfl rfl dX9_judged_166
        · refine x_iload (pc2 := 104) C dX9_judged_102 rfl rfl ?_
          refine x_jn 114 (fun (b18 : UInt32) => [some (rv G this), none, none, none, none, none, none, none, some (.int b12)]) (fun (b18 : UInt32) => [.float b18]) ?_ ?_
          · intro b18 M20
            refine x_aload_n (pc2 := 115) C dX9_judged_114 rfl rfl ?_
            refine x_get (pc2 := 118) C fl_X9_22 hk0 (by decide) rfl dX9_judged_115 rfl ?_
            refine x_iconst (pc2 := 119) C dX9_judged_118 rfl ic_5 ?_
            refine x_fald (pc2 := 120) C (kf_8_4 hk0) dX9_judged_119 rfl ?_
            refine x_fcmpg (pc2 := 121) C dX9_judged_120 rfl ?_
            refine x_if_gt (tgt := 129) (pc2 := 124) C dX9_judged_121 (by decide) rfl ?_ ?_
            · refine x_iconst (pc2 := 130) C dX9_judged_129 rfl ic_2 ?_
              exact x_iret C rfl rfl dX9_judged_130
            · refine x_iload (pc2 := 126) C dX9_judged_124 rfl rfl ?_
              refine x_goto (tgt := 130) C dX9_judged_126 (by decide) ?_
              exact x_iret C rfl rfl dX9_judged_130
          · intro j19 hj19
            refine x_if_ne (tgt := 112) (pc2 := 107) C dX9_judged_104 (by decide) rfl ?_ ?_
            · refine x_fload (pc2 := 114) C dX9_judged_112 rfl rfl ?_
              exact x_wk [some (rv G this), none, none, none, none, none, none, none, some (.int b12)] ⟨Or.inr rfl, Or.inl rfl, Or.inl rfl, Or.inl rfl, Or.inl rfl, Or.inl rfl, Or.inl rfl, Or.inl rfl, Or.inr rfl, trivial⟩ (hj19 v10 _)
            · refine x_fload (pc2 := 109) C dX9_judged_107 rfl rfl ?_
              refine x_goto (tgt := 114) C dX9_judged_109 (by decide) ?_
              exact x_wk [some (rv G this), none, none, none, none, none, none, none, some (.int b12)] ⟨Or.inr rfl, Or.inl rfl, Or.inl rfl, Or.inl rfl, Or.inl rfl, Or.inl rfl, Or.inl rfl, Or.inl rfl, Or.inr rfl, trivial⟩ (hj19 v8 _)
      · intro j13 hj13
        refine x_if_ge (tgt := 95) (pc2 := 91) C dX9_judged_88 (by decide) rfl ?_ ?_
        · refine x_iconst (pc2 := 96) C dX9_judged_95 rfl ic_0 ?_
          exact x_wk [some (rv G this), none, none, some (.int b3), none, none, some (.float v8), some (.float v10), none] ⟨Or.inr rfl, Or.inl rfl, Or.inl rfl, Or.inr rfl, Or.inl rfl, Or.inl rfl, Or.inr rfl, Or.inr rfl, Or.inl rfl, trivial⟩ (hj13 0 _)
        · refine x_iconst (pc2 := 92) C dX9_judged_91 rfl ic_1 ?_
          refine x_goto (tgt := 96) C dX9_judged_92 (by decide) ?_
          exact x_wk [some (rv G this), none, none, some (.int b3), none, none, some (.float v8), some (.float v10), none] ⟨Or.inr rfl, Or.inl rfl, Or.inl rfl, Or.inr rfl, Or.inl rfl, Or.inl rfl, Or.inr rfl, Or.inr rfl, Or.inl rfl, trivial⟩ (hj13 1 _)
    · refine x_iload_n (pc2 := 30) C dX9_judged_29 rfl rfl ?_
      refine x_if_eq (tgt := 37) (pc2 := 33) C dX9_judged_30 (by decide) rfl ?_ ?_
      · refine x_iload_n (pc2 := 38) C dX9_judged_37 rfl rfl ?_
        exact x_iret C rfl rfl dX9_judged_38
      · refine x_iconst (pc2 := 34) C dX9_judged_33 rfl ic_2 ?_
        refine x_goto (tgt := 38) C dX9_judged_34 (by decide) ?_
        exact x_iret C rfl rfl dX9_judged_38
  · intro j4 hj4
    refine x_icmp_ne (tgt := 23) (pc2 := 19) C dX9_judged_16 (by decide) rfl ?_ ?_
    · refine x_iconst (pc2 := 24) C dX9_judged_23 rfl ic_0 ?_
      exact x_wk [some (rv G this), some (.int a1), some (.int v1), none, none, none, none, none, none] ⟨Or.inr rfl, Or.inr rfl, Or.inr rfl, Or.inl rfl, Or.inl rfl, Or.inl rfl, Or.inl rfl, Or.inl rfl, Or.inl rfl, trivial⟩ (hj4 0 _)
    · refine x_iconst (pc2 := 20) C dX9_judged_19 rfl ic_1 ?_
      refine x_goto (tgt := 24) C dX9_judged_20 (by decide) ?_
      exact x_wk [some (rv G this), some (.int a1), some (.int v1), none, none, none, none, none, none] ⟨Or.inr rfl, Or.inr rfl, Or.inr rfl, Or.inl rfl, Or.inl rfl, Or.inl rfl, Or.inl rfl, Or.inl rfl, Or.inl rfl, trivial⟩ (hj4 1 _)
set_option maxRecDepth 100000 in
set_option maxHeartbeats 4000000 in
theorem ctX9_learned {l : Launch} {G : bkG} {M : Mem} {this : Nat} {a1 : UInt32} {a2 : Int32} (hk0 : kd this = 8) : ∀ r, fX9_learned this a1 a2 M = some r → Met l yX9_learned (Cond.code yX9_learned cX9_learned 4 (some .float) :: TT) ({ frames := 0, cells := 0, slots := 0, locals := 0 } : Room) (va_Pc [rv G this, .float a1, .int a2] (Wd G M)) (QQ G ((fun v => some (.float v)) r.1) r.2) 0 0 (An G) := by
  refine mkMet (vl := (fun v => some (.float v))) RX9 rfl (by decide +kernel) rfl (Nat.le_of_ble_eq_true rfl) [some (rv G this), some (.float a1), some (.int a2), none] rfl ?_
  intro p e s m args below meth c C _
  refine x_fload_n (pc2 := 1) C dX9_learned_0 rfl rfl ?_
  refine x_iload_n (pc2 := 2) C dX9_learned_1 rfl rfl ?_
  refine x_i2f (pc2 := 3) C dX9_learned_2 rfl ?_
  refine x_fload_n (pc2 := 4) C dX9_learned_3 rfl rfl ?_
  refine x_fsub (pc2 := 5) C dX9_learned_4 rfl ?_
  refine x_topf (fun v1 => ?_)
  refine x_aload_n (pc2 := 6) C dX9_learned_5 rfl rfl ?_
  refine x_get (pc2 := 9) C fl_X9_22 hk0 (by decide) rfl dX9_learned_6 rfl ?_
  refine x_bipush (pc2 := 11) C dX9_learned_9 rfl bc_6 ?_
  refine x_fald (pc2 := 12) C (kf_8_4 hk0) dX9_learned_11 rfl ?_
  refine x_fmul (pc2 := 13) C dX9_learned_12 rfl ?_
  refine x_topf (fun v2 => ?_)
  refine x_fadd (pc2 := 14) C dX9_learned_13 rfl ?_
  refine x_topf (fun v3 => ?_)
  refine x_fstore_n (pc2 := 15) C dX9_learned_14 rfl [some (rv G this), some (.float a1), some (.int a2), some (.float v3)] rfl rfl ?_
  refine x_fload_n (pc2 := 16) C dX9_learned_15 rfl rfl ?_
  refine x_ldcf (pc2 := 18) C wt4_80 dX9_learned_16 rfl ?_
  refine x_fcmpg (pc2 := 19) C dX9_learned_18 rfl ?_
  refine x_if_ge (tgt := 27) (pc2 := 22) C dX9_learned_19 (by decide) rfl ?_ ?_
  · refine x_fload_n (pc2 := 28) C dX9_learned_27 rfl rfl ?_
    exact x_fret C rfl rfl dX9_learned_28
  · refine x_ldcf (pc2 := 24) C wt4_80 dX9_learned_22 rfl ?_
    refine x_goto (tgt := 28) C dX9_learned_24 (by decide) ?_
    exact x_fret C rfl rfl dX9_learned_28
set_option maxRecDepth 100000 in
set_option maxHeartbeats 4000000 in
theorem ctX9_learn {l : Launch} {G : bkG} {M : Mem} {this : Nat} {a1 : Int32} {a2 : Int32} {a3 : Int32} (hk0 : kd this = 8) : ∀ r, fX9_learn this a1 a2 a3 M = some r → Met l yX9_learn (Cond.code yX9_learn cX9_learn 5 none :: TT) ({ frames := 1, cells := 0, slots := 0, locals := 23 } : Room) (va_Pc [rv G this, .int a1, .int a2, .int a3] (Wd G M)) (QQ G ((fun _ => none) r.1) r.2) 0 0 (An G) := by
  refine mkMet (vl := (fun _ => none)) RX9 rfl (by decide +kernel) rfl (Nat.le_of_ble_eq_true rfl) [some (rv G this), some (.int a1), some (.int a2), some (.int a3), none] rfl ?_
  intro p e s m args below meth c C _
  refine x_aload_n (pc2 := 1) C dX9_learn_0 rfl rfl ?_
  refine x_iload_n (pc2 := 2) C dX9_learn_1 rfl rfl ?_
  refine x_iload_n (pc2 := 3) C dX9_learn_2 rfl rfl ?_
  refine x_callVi (pc2 := 6) C [.int a1, .int a2] [] cl_X9_124 (fun q hq => ctX9_gap hk0 q hq) hk0 rfl rfl rfl ⟨rfl, rfl, Nat.le_of_ble_eq_true rfl, Nat.le_of_ble_eq_true rfl⟩ (Nat.le_of_ble_eq_true rfl) ⟨Nat.zero_le _, Nat.zero_le _⟩ dX9_learn_3 rfl (fun v1 M2 => ?_)
  refine x_istore (pc2 := 8) C dX9_learn_6 rfl [some (rv G this), some (.int a1), some (.int a2), some (.int a3), some (.int v1)] rfl rfl ?_
  refine x_aload_n (pc2 := 9) C dX9_learn_8 rfl rfl ?_
  refine x_get (pc2 := 12) C fl_X9_22 hk0 (by decide) rfl dX9_learn_9 rfl ?_
  refine x_iconst (pc2 := 13) C dX9_learn_12 rfl ic_0 ?_
  refine x_iload_n (pc2 := 14) C dX9_learn_13 rfl rfl ?_
  refine x_iadd (pc2 := 15) C dX9_learn_14 rfl ?_
  refine x_aload_n (pc2 := 16) C dX9_learn_15 rfl rfl ?_
  refine x_aload_n (pc2 := 17) C dX9_learn_16 rfl rfl ?_
  refine x_get (pc2 := 20) C fl_X9_22 hk0 (by decide) rfl dX9_learn_17 rfl ?_
  refine x_iconst (pc2 := 21) C dX9_learn_20 rfl ic_0 ?_
  refine x_iload_n (pc2 := 22) C dX9_learn_21 rfl rfl ?_
  refine x_iadd (pc2 := 23) C dX9_learn_22 rfl ?_
  refine x_fald (pc2 := 24) C (kf_8_4 hk0) dX9_learn_23 rfl ?_
  refine x_iload_n (pc2 := 25) C dX9_learn_24 rfl rfl ?_
  refine x_callVf (pc2 := 28) C [.float (M2.2 (this + 5) (0 + a1).toNatClampNeg), .int a3] [.int (0 + a1), rv G (this + 5)] cl_X9_128 (fun q hq => ctX9_learned hk0 q hq) hk0 rfl rfl rfl ⟨rfl, rfl, Nat.le_of_ble_eq_true rfl, Nat.le_of_ble_eq_true rfl⟩ (Nat.le_of_ble_eq_true rfl) ⟨Nat.zero_le _, Nat.zero_le _⟩ dX9_learn_25 rfl (fun v3 M4 => ?_)
  refine x_fast (pc2 := 29) C (kf_8_4 hk0) dX9_learn_28 rfl (fun M5 => ?_)
  refine x_iload (pc2 := 31) C dX9_learn_29 rfl rfl ?_
  refine x_jn 56 (fun (b6 : Unit) => [some (rv G this), some (.int a1), some (.int a2), none, none]) (fun (b6 : Unit) => []) ?_ ?_
  · intro b6 M8
    refine x_aload_n (pc2 := 57) C dX9_learn_56 rfl rfl ?_
    refine x_get (pc2 := 60) C fl_X9_7 hk0 (by decide) rfl dX9_learn_57 rfl ?_
    refine x_iconst (pc2 := 61) C dX9_learn_60 rfl ic_3 ?_
    refine x_iload_n (pc2 := 62) C dX9_learn_61 rfl rfl ?_
    refine x_iadd (pc2 := 63) C dX9_learn_62 rfl ?_
    refine x_iload_n (pc2 := 64) C dX9_learn_63 rfl rfl ?_
    refine x_iast (pc2 := 65) C (kf_8_0 hk0) dX9_learn_64 rfl (fun M9 => ?_)
    exact x_vret C rfl rfl dX9_learn_65
  · intro j7 hj7
    refine x_if_lt (tgt := 56) (pc2 := 34) C dX9_learn_31 (by decide) rfl ?_ ?_
    · exact x_wk [some (rv G this), some (.int a1), some (.int a2), none, none] ⟨Or.inr rfl, Or.inr rfl, Or.inr rfl, Or.inl rfl, Or.inl rfl, trivial⟩ (hj7 () _)
    · refine x_aload_n (pc2 := 35) C dX9_learn_34 rfl rfl ?_
      refine x_get (pc2 := 38) C fl_X9_22 hk0 (by decide) rfl dX9_learn_35 rfl ?_
      refine x_iconst (pc2 := 39) C dX9_learn_38 rfl ic_2 ?_
      refine x_iload_n (pc2 := 40) C dX9_learn_39 rfl rfl ?_
      refine x_iadd (pc2 := 41) C dX9_learn_40 rfl ?_
      refine x_aload_n (pc2 := 42) C dX9_learn_41 rfl rfl ?_
      refine x_aload_n (pc2 := 43) C dX9_learn_42 rfl rfl ?_
      refine x_get (pc2 := 46) C fl_X9_22 hk0 (by decide) rfl dX9_learn_43 rfl ?_
      refine x_iconst (pc2 := 47) C dX9_learn_46 rfl ic_2 ?_
      refine x_iload_n (pc2 := 48) C dX9_learn_47 rfl rfl ?_
      refine x_iadd (pc2 := 49) C dX9_learn_48 rfl ?_
      refine x_fald (pc2 := 50) C (kf_8_4 hk0) dX9_learn_49 rfl ?_
      refine x_iload (pc2 := 52) C dX9_learn_50 rfl rfl ?_
      refine x_callVf (pc2 := 55) C [.float (M5.2 (this + 5) (2 + a1).toNatClampNeg), .int v1] [.int (2 + a1), rv G (this + 5)] cl_X9_128 (fun q hq => ctX9_learned hk0 q hq) hk0 rfl rfl rfl ⟨rfl, rfl, Nat.le_of_ble_eq_true rfl, Nat.le_of_ble_eq_true rfl⟩ (Nat.le_of_ble_eq_true rfl) ⟨Nat.zero_le _, Nat.zero_le _⟩ dX9_learn_52 rfl (fun v10 M11 => ?_)
      refine x_fast (pc2 := 56) C (kf_8_4 hk0) dX9_learn_55 rfl (fun M12 => ?_)
      exact x_wk [some (rv G this), some (.int a1), some (.int a2), none, none] ⟨Or.inr rfl, Or.inr rfl, Or.inr rfl, Or.inl rfl, Or.inl rfl, trivial⟩ (hj7 () _)
set_option maxRecDepth 100000 in
set_option maxHeartbeats 4000000 in
theorem ctX9_giveSign {l : Launch} {G : bkG} {M : Mem} {this : Nat} {a1 : Int32} {a2 : Int32} {a3 : Int32} (hk0 : kd this = 8) : ∀ r, fX9_giveSign this a1 a2 a3 M = some r → Met l yX9_giveSign (Cond.code yX9_giveSign cX9_giveSign 5 none :: TT) ({ frames := 2, cells := 0, slots := 0, locals := 43 } : Room) (va_Pc [rv G this, .int a1, .int a2, .int a3] (Wd G M)) (QQ G ((fun _ => none) r.1) r.2) 0 0 (An G) := by
  refine mkMet (vl := (fun _ => none)) RX9 rfl (by decide +kernel) rfl (Nat.le_of_ble_eq_true rfl) [some (rv G this), some (.int a1), some (.int a2), some (.int a3), none] rfl ?_
  intro p e s m args below meth c C _
  refine x_aload_n (pc2 := 1) C dX9_giveSign_0 rfl rfl ?_
  refine x_iload_n (pc2 := 2) C dX9_giveSign_1 rfl rfl ?_
  refine x_callVi (pc2 := 5) C [.int a2] [] cl_X9_79 (fun q hq => ctX9_noKey hk0 q hq) hk0 rfl rfl rfl ⟨rfl, rfl, Nat.le_of_ble_eq_true rfl, Nat.le_of_ble_eq_true rfl⟩ (Nat.le_of_ble_eq_true rfl) ⟨Nat.zero_le _, Nat.zero_le _⟩ dX9_giveSign_2 rfl (fun v1 M2 => ?_)
  refine x_if_ne (tgt := 23) (pc2 := 8) C dX9_giveSign_5 (by decide) rfl ?_ ?_
  · exact x_vret C rfl rfl dX9_giveSign_23
  · refine x_aload_n (pc2 := 9) C dX9_giveSign_8 rfl rfl ?_
    refine x_get (pc2 := 12) C fl_X9_7 hk0 (by decide) rfl dX9_giveSign_9 rfl ?_
    refine x_sipush (pc2 := 15) C dX9_giveSign_12 rfl sc_260 ?_
    refine x_iload_n (pc2 := 16) C dX9_giveSign_15 rfl rfl ?_
    refine x_iadd (pc2 := 17) C dX9_giveSign_16 rfl ?_
    refine x_iald (pc2 := 18) C (kf_8_0 hk0) dX9_giveSign_17 rfl ?_
    refine x_bipush (pc2 := 20) C dX9_giveSign_18 rfl bc_46 ?_
    refine x_icmp_ne (tgt := 24) (pc2 := 23) C dX9_giveSign_20 (by decide) rfl ?_ ?_
    · refine x_iload_n (pc2 := 25) C dX9_giveSign_24 rfl rfl ?_
      refine x_iload_n (pc2 := 26) C dX9_giveSign_25 rfl rfl ?_
      refine x_ishr (pc2 := 27) C dX9_giveSign_26 rfl ?_
      refine x_iconst (pc2 := 28) C dX9_giveSign_27 rfl ic_1 ?_
      refine x_iand (pc2 := 29) C dX9_giveSign_28 rfl ?_
      refine x_iconst (pc2 := 30) C dX9_giveSign_29 rfl ic_1 ?_
      refine x_jn 62 (fun (b3 : Int32) => [some (rv G this), some (.int a1), some (.int a2), none, none]) (fun (b3 : Int32) => [.int b3]) ?_ ?_
      · intro b3 M5
        refine x_istore (pc2 := 64) C dX9_giveSign_62 rfl [some (rv G this), some (.int a1), some (.int a2), none, some (.int b3)] rfl rfl ?_
        refine x_aload_n (pc2 := 65) C dX9_giveSign_64 rfl rfl ?_
        refine x_get (pc2 := 68) C fl_X9_7 hk0 (by decide) rfl dX9_giveSign_65 rfl ?_
        refine x_sipush (pc2 := 71) C dX9_giveSign_68 rfl sc_544 ?_
        refine x_bipush (pc2 := 73) C dX9_giveSign_71 rfl bc_24 ?_
        refine x_iload_n (pc2 := 74) C dX9_giveSign_73 rfl rfl ?_
        refine x_imul (pc2 := 75) C dX9_giveSign_74 rfl ?_
        refine x_iadd (pc2 := 76) C dX9_giveSign_75 rfl ?_
        refine x_aload_n (pc2 := 77) C dX9_giveSign_76 rfl rfl ?_
        refine x_get (pc2 := 80) C fl_X9_7 hk0 (by decide) rfl dX9_giveSign_77 rfl ?_
        refine x_bipush (pc2 := 82) C dX9_giveSign_80 rfl bc_17 ?_
        refine x_iload_n (pc2 := 83) C dX9_giveSign_82 rfl rfl ?_
        refine x_iadd (pc2 := 84) C dX9_giveSign_83 rfl ?_
        refine x_iald (pc2 := 85) C (kf_8_0 hk0) dX9_giveSign_84 rfl ?_
        refine x_bipush (pc2 := 87) C dX9_giveSign_85 rfl bc_24 ?_
        refine x_iremL (pc2 := 88) C dX9_giveSign_87 rfl (by decide) ?_
        refine x_iadd (pc2 := 89) C dX9_giveSign_88 rfl ?_
        refine x_aload_n (pc2 := 90) C dX9_giveSign_89 rfl rfl ?_
        refine x_get (pc2 := 93) C fl_X9_7 hk0 (by decide) rfl dX9_giveSign_90 rfl ?_
        refine x_sipush (pc2 := 96) C dX9_giveSign_93 rfl sc_260 ?_
        refine x_iload_n (pc2 := 97) C dX9_giveSign_96 rfl rfl ?_
        refine x_iadd (pc2 := 98) C dX9_giveSign_97 rfl ?_
        refine x_iald (pc2 := 99) C (kf_8_0 hk0) dX9_giveSign_98 rfl ?_
        refine x_iload (pc2 := 101) C dX9_giveSign_99 rfl rfl ?_
        refine x_jn 110 (fun (b6 : Int32) => [some (rv G this), some (.int a1), none, none, none]) (fun (b6 : Int32) => [.int b6, .int (M5.1 (this + 1) (260 + a2).toNatClampNeg), .int ((544 + (24 * a1)) + (remv (M5.1 (this + 1) (17 + a1).toNatClampNeg) 24)), rv G (this + 1)]) ?_ ?_
        · intro b6 M8
          refine x_isub (pc2 := 111) C dX9_giveSign_110 rfl ?_
          refine x_iast (pc2 := 112) C (kf_8_0 hk0) dX9_giveSign_111 rfl (fun M9 => ?_)
          refine x_aload_n (pc2 := 113) C dX9_giveSign_112 rfl rfl ?_
          refine x_get (pc2 := 116) C fl_X9_7 hk0 (by decide) rfl dX9_giveSign_113 rfl ?_
          refine x_bipush (pc2 := 118) C dX9_giveSign_116 rfl bc_17 ?_
          refine x_iload_n (pc2 := 119) C dX9_giveSign_118 rfl rfl ?_
          refine x_iadd (pc2 := 120) C dX9_giveSign_119 rfl ?_
          refine x_dup2 (pc2 := 121) C dX9_giveSign_120 rfl rfl rfl ?_
          refine x_iald (pc2 := 122) C (kf_8_0 hk0) dX9_giveSign_121 rfl ?_
          refine x_iconst (pc2 := 123) C dX9_giveSign_122 rfl ic_1 ?_
          refine x_iadd (pc2 := 124) C dX9_giveSign_123 rfl ?_
          refine x_iast (pc2 := 125) C (kf_8_0 hk0) dX9_giveSign_124 rfl (fun M10 => ?_)
          exact x_vret C rfl rfl dX9_giveSign_125
        · intro j7 hj7
          refine x_if_eq (tgt := 109) (pc2 := 104) C dX9_giveSign_101 (by decide) rfl ?_ ?_
          · refine x_iconst (pc2 := 110) C dX9_giveSign_109 rfl ic_0 ?_
            exact x_wk [some (rv G this), some (.int a1), none, none, none] ⟨Or.inr rfl, Or.inr rfl, Or.inl rfl, Or.inl rfl, Or.inl rfl, trivial⟩ (hj7 0 _)
          · refine x_bipush (pc2 := 106) C dX9_giveSign_104 rfl bc_32 ?_
            refine x_goto (tgt := 110) C dX9_giveSign_106 (by decide) ?_
            exact x_wk [some (rv G this), some (.int a1), none, none, none] ⟨Or.inr rfl, Or.inr rfl, Or.inl rfl, Or.inl rfl, Or.inl rfl, trivial⟩ (hj7 32 _)
      · intro j4 hj4
        refine x_jn 57 (fun (b11 : Unit) => [some (rv G this), some (.int a1), some (.int a2), none, none]) (fun (b11 : Unit) => []) ?_ ?_
        · intro b11 M13
          refine x_iconst (pc2 := 58) C dX9_giveSign_57 rfl ic_1 ?_
          refine x_goto (tgt := 62) C dX9_giveSign_58 (by decide) ?_
          exact x_wk [some (rv G this), some (.int a1), some (.int a2), none, none] ⟨Or.inr rfl, Or.inr rfl, Or.inr rfl, Or.inl rfl, Or.inl rfl, trivial⟩ (hj4 1 _)
        · intro j12 hj12
          refine x_icmp_eq (tgt := 57) (pc2 := 33) C dX9_giveSign_30 (by decide) rfl ?_ ?_
          · exact x_wk [some (rv G this), some (.int a1), some (.int a2), none, none] ⟨Or.inr rfl, Or.inr rfl, Or.inr rfl, Or.inl rfl, Or.inl rfl, trivial⟩ (hj12 () _)
          · refine x_aload_n (pc2 := 34) C dX9_giveSign_33 rfl rfl ?_
            refine x_get (pc2 := 37) C fl_X9_7 hk0 (by decide) rfl dX9_giveSign_34 rfl ?_
            refine x_bipush (pc2 := 39) C dX9_giveSign_37 rfl bc_7 ?_
            refine x_iload_n (pc2 := 40) C dX9_giveSign_39 rfl rfl ?_
            refine x_iadd (pc2 := 41) C dX9_giveSign_40 rfl ?_
            refine x_iald (pc2 := 42) C (kf_8_0 hk0) dX9_giveSign_41 rfl ?_
            refine x_iconst (pc2 := 43) C dX9_giveSign_42 rfl ic_1 ?_
            refine x_jn 61 (fun (b14 : Unit) => [some (rv G this), some (.int a1), some (.int a2), none, none]) (fun (b14 : Unit) => []) ?_ ?_
            · intro b14 M16
              refine x_iconst (pc2 := 62) C dX9_giveSign_61 rfl ic_0 ?_
              exact x_wk [some (rv G this), some (.int a1), some (.int a2), none, none] ⟨Or.inr rfl, Or.inr rfl, Or.inr rfl, Or.inl rfl, Or.inl rfl, trivial⟩ (hj4 0 _)
            · intro j15 hj15
              refine x_icmp_ne (tgt := 61) (pc2 := 46) C dX9_giveSign_43 (by decide) rfl ?_ ?_
              · exact x_wk [some (rv G this), some (.int a1), some (.int a2), none, none] ⟨Or.inr rfl, Or.inr rfl, Or.inr rfl, Or.inl rfl, Or.inl rfl, trivial⟩ (hj15 () _)
              · refine x_iload_n (pc2 := 47) C dX9_giveSign_46 rfl rfl ?_
                refine x_iconst (pc2 := 48) C dX9_giveSign_47 rfl ic_1 ?_
                refine x_iload_n (pc2 := 49) C dX9_giveSign_48 rfl rfl ?_
                refine x_isub (pc2 := 50) C dX9_giveSign_49 rfl ?_
                refine x_ishr (pc2 := 51) C dX9_giveSign_50 rfl ?_
                refine x_iconst (pc2 := 52) C dX9_giveSign_51 rfl ic_1 ?_
                refine x_iand (pc2 := 53) C dX9_giveSign_52 rfl ?_
                refine x_iconst (pc2 := 54) C dX9_giveSign_53 rfl ic_1 ?_
                refine x_icmp_ne (tgt := 61) (pc2 := 57) C dX9_giveSign_54 (by decide) rfl ?_ ?_
                · exact x_wk [some (rv G this), some (.int a1), some (.int a2), none, none] ⟨Or.inr rfl, Or.inr rfl, Or.inr rfl, Or.inl rfl, Or.inl rfl, trivial⟩ (hj15 () _)
                · exact x_wk [some (rv G this), some (.int a1), some (.int a2), none, none] ⟨Or.inr rfl, Or.inr rfl, Or.inr rfl, Or.inl rfl, Or.inl rfl, trivial⟩ (hj12 () _)
    · exact x_vret C rfl rfl dX9_giveSign_23
set_option maxRecDepth 100000 in
set_option maxHeartbeats 4000000 in
theorem ctX9_endStroke {l : Launch} {G : bkG} {M : Mem} {this : Nat} {a1 : Int32} (hk0 : kd this = 8) : ∀ r, fX9_endStroke this a1 M = some r → Met l yX9_endStroke (Cond.code yX9_endStroke cX9_endStroke 9 none :: TT) ({ frames := 3, cells := 0, slots := 0, locals := 78 } : Room) (va_Pc [rv G this, .int a1] (Wd G M)) (QQ G ((fun _ => none) r.1) r.2) 0 0 (An G) := by
  refine mkMet (vl := (fun _ => none)) RX9 rfl (by decide +kernel) rfl (Nat.le_of_ble_eq_true rfl) [some (rv G this), some (.int a1), none, none, none, none, none, none, none] rfl ?_
  intro p e s m args below meth c C _
  refine x_aload_n (pc2 := 1) C dX9_endStroke_0 rfl rfl ?_
  refine x_iload_n (pc2 := 2) C dX9_endStroke_1 rfl rfl ?_
  refine x_callVi (pc2 := 5) C [.int a1] [] cl_X9_136 (fun q hq => ctX9_judged hk0 q hq) hk0 rfl rfl rfl ⟨rfl, rfl, Nat.le_of_ble_eq_true rfl, Nat.le_of_ble_eq_true rfl⟩ (Nat.le_of_ble_eq_true rfl) ⟨Nat.zero_le _, Nat.zero_le _⟩ dX9_endStroke_2 rfl (fun v1 M2 => ?_)
  refine x_istore_n (pc2 := 6) C dX9_endStroke_5 rfl [some (rv G this), some (.int a1), some (.int v1), none, none, none, none, none, none] rfl rfl ?_
  refine x_aload_n (pc2 := 7) C dX9_endStroke_6 rfl rfl ?_
  refine x_get (pc2 := 10) C fl_X9_7 hk0 (by decide) rfl dX9_endStroke_7 rfl ?_
  refine x_bipush (pc2 := 12) C dX9_endStroke_10 rfl bc_68 ?_
  refine x_iload_n (pc2 := 13) C dX9_endStroke_12 rfl rfl ?_
  refine x_iadd (pc2 := 14) C dX9_endStroke_13 rfl ?_
  refine x_iald (pc2 := 15) C (kf_8_0 hk0) dX9_endStroke_14 rfl ?_
  refine x_topi (fun v3 => ?_)
  refine x_istore_n (pc2 := 16) C dX9_endStroke_15 rfl [some (rv G this), some (.int a1), some (.int v1), some (.int v3), none, none, none, none, none] rfl rfl ?_
  refine x_aload_n (pc2 := 17) C dX9_endStroke_16 rfl rfl ?_
  refine x_get (pc2 := 20) C fl_X9_7 hk0 (by decide) rfl dX9_endStroke_17 rfl ?_
  refine x_iconst (pc2 := 21) C dX9_endStroke_20 rfl ic_2 ?_
  refine x_iald (pc2 := 22) C (kf_8_0 hk0) dX9_endStroke_21 rfl ?_
  refine x_iload_n (pc2 := 23) C dX9_endStroke_22 rfl rfl ?_
  refine x_isub (pc2 := 24) C dX9_endStroke_23 rfl ?_
  refine x_topi (fun v4 => ?_)
  refine x_istore (pc2 := 26) C dX9_endStroke_24 rfl [some (rv G this), some (.int a1), some (.int v1), some (.int v3), some (.int v4), none, none, none, none] rfl rfl ?_
  refine x_aload_n (pc2 := 27) C dX9_endStroke_26 rfl rfl ?_
  refine x_get (pc2 := 30) C fl_X9_7 hk0 (by decide) rfl dX9_endStroke_27 rfl ?_
  refine x_bipush (pc2 := 32) C dX9_endStroke_30 rfl bc_9 ?_
  refine x_iald (pc2 := 33) C (kf_8_0 hk0) dX9_endStroke_32 rfl ?_
  refine x_topi (fun v5 => ?_)
  refine x_istore (pc2 := 35) C dX9_endStroke_33 rfl [some (rv G this), some (.int a1), some (.int v1), some (.int v3), some (.int v4), some (.int v5), none, none, none] rfl rfl ?_
  refine x_sipush (pc2 := 38) C dX9_endStroke_35 rfl sc_308 ?_
  refine x_bipush (pc2 := 40) C dX9_endStroke_38 rfl bc_6 ?_
  refine x_iload (pc2 := 42) C dX9_endStroke_40 rfl rfl ?_
  refine x_bipush (pc2 := 44) C dX9_endStroke_42 rfl bc_16 ?_
  refine x_iremL (pc2 := 45) C dX9_endStroke_44 rfl (by decide) ?_
  refine x_imul (pc2 := 46) C dX9_endStroke_45 rfl ?_
  refine x_iadd (pc2 := 47) C dX9_endStroke_46 rfl ?_
  refine x_topi (fun v6 => ?_)
  refine x_istore (pc2 := 49) C dX9_endStroke_47 rfl [some (rv G this), some (.int a1), some (.int v1), some (.int v3), some (.int v4), some (.int v5), some (.int v6), none, none] rfl rfl ?_
  refine x_aload_n (pc2 := 50) C dX9_endStroke_49 rfl rfl ?_
  refine x_get (pc2 := 53) C fl_X9_7 hk0 (by decide) rfl dX9_endStroke_50 rfl ?_
  refine x_iload (pc2 := 55) C dX9_endStroke_53 rfl rfl ?_
  refine x_iconst (pc2 := 56) C dX9_endStroke_55 rfl ic_0 ?_
  refine x_iadd (pc2 := 57) C dX9_endStroke_56 rfl ?_
  refine x_iload_n (pc2 := 58) C dX9_endStroke_57 rfl rfl ?_
  refine x_iast (pc2 := 59) C (kf_8_0 hk0) dX9_endStroke_58 rfl (fun M7 => ?_)
  refine x_aload_n (pc2 := 60) C dX9_endStroke_59 rfl rfl ?_
  refine x_get (pc2 := 63) C fl_X9_7 hk0 (by decide) rfl dX9_endStroke_60 rfl ?_
  refine x_iload (pc2 := 65) C dX9_endStroke_63 rfl rfl ?_
  refine x_iconst (pc2 := 66) C dX9_endStroke_65 rfl ic_1 ?_
  refine x_iadd (pc2 := 67) C dX9_endStroke_66 rfl ?_
  refine x_iload_n (pc2 := 68) C dX9_endStroke_67 rfl rfl ?_
  refine x_iast (pc2 := 69) C (kf_8_0 hk0) dX9_endStroke_68 rfl (fun M8 => ?_)
  refine x_aload_n (pc2 := 70) C dX9_endStroke_69 rfl rfl ?_
  refine x_get (pc2 := 73) C fl_X9_7 hk0 (by decide) rfl dX9_endStroke_70 rfl ?_
  refine x_iload (pc2 := 75) C dX9_endStroke_73 rfl rfl ?_
  refine x_iconst (pc2 := 76) C dX9_endStroke_75 rfl ic_2 ?_
  refine x_iadd (pc2 := 77) C dX9_endStroke_76 rfl ?_
  refine x_iload (pc2 := 79) C dX9_endStroke_77 rfl rfl ?_
  refine x_iast (pc2 := 80) C (kf_8_0 hk0) dX9_endStroke_79 rfl (fun M9 => ?_)
  refine x_aload_n (pc2 := 81) C dX9_endStroke_80 rfl rfl ?_
  refine x_get (pc2 := 84) C fl_X9_7 hk0 (by decide) rfl dX9_endStroke_81 rfl ?_
  refine x_iload (pc2 := 86) C dX9_endStroke_84 rfl rfl ?_
  refine x_iconst (pc2 := 87) C dX9_endStroke_86 rfl ic_3 ?_
  refine x_iadd (pc2 := 88) C dX9_endStroke_87 rfl ?_
  refine x_iload_n (pc2 := 89) C dX9_endStroke_88 rfl rfl ?_
  refine x_iast (pc2 := 90) C (kf_8_0 hk0) dX9_endStroke_89 rfl (fun M10 => ?_)
  refine x_aload_n (pc2 := 91) C dX9_endStroke_90 rfl rfl ?_
  refine x_get (pc2 := 94) C fl_X9_7 hk0 (by decide) rfl dX9_endStroke_91 rfl ?_
  refine x_iload (pc2 := 96) C dX9_endStroke_94 rfl rfl ?_
  refine x_iconst (pc2 := 97) C dX9_endStroke_96 rfl ic_4 ?_
  refine x_iadd (pc2 := 98) C dX9_endStroke_97 rfl ?_
  refine x_aload_n (pc2 := 99) C dX9_endStroke_98 rfl rfl ?_
  refine x_get (pc2 := 102) C fl_X9_7 hk0 (by decide) rfl dX9_endStroke_99 rfl ?_
  refine x_sipush (pc2 := 105) C dX9_endStroke_102 rfl sc_212 ?_
  refine x_iload_n (pc2 := 106) C dX9_endStroke_105 rfl rfl ?_
  refine x_iadd (pc2 := 107) C dX9_endStroke_106 rfl ?_
  refine x_iald (pc2 := 108) C (kf_8_0 hk0) dX9_endStroke_107 rfl ?_
  refine x_iast (pc2 := 109) C (kf_8_0 hk0) dX9_endStroke_108 rfl (fun M11 => ?_)
  refine x_aload_n (pc2 := 110) C dX9_endStroke_109 rfl rfl ?_
  refine x_get (pc2 := 113) C fl_X9_7 hk0 (by decide) rfl dX9_endStroke_110 rfl ?_
  refine x_iload (pc2 := 115) C dX9_endStroke_113 rfl rfl ?_
  refine x_iconst (pc2 := 116) C dX9_endStroke_115 rfl ic_5 ?_
  refine x_iadd (pc2 := 117) C dX9_endStroke_116 rfl ?_
  refine x_aload_n (pc2 := 118) C dX9_endStroke_117 rfl rfl ?_
  refine x_get (pc2 := 121) C fl_X9_7 hk0 (by decide) rfl dX9_endStroke_118 rfl ?_
  refine x_sipush (pc2 := 124) C dX9_endStroke_121 rfl sc_164 ?_
  refine x_iload_n (pc2 := 125) C dX9_endStroke_124 rfl rfl ?_
  refine x_iadd (pc2 := 126) C dX9_endStroke_125 rfl ?_
  refine x_iald (pc2 := 127) C (kf_8_0 hk0) dX9_endStroke_126 rfl ?_
  refine x_iast (pc2 := 128) C (kf_8_0 hk0) dX9_endStroke_127 rfl (fun M12 => ?_)
  refine x_aload_n (pc2 := 129) C dX9_endStroke_128 rfl rfl ?_
  refine x_get (pc2 := 132) C fl_X9_7 hk0 (by decide) rfl dX9_endStroke_129 rfl ?_
  refine x_bipush (pc2 := 134) C dX9_endStroke_132 rfl bc_9 ?_
  refine x_dup2 (pc2 := 135) C dX9_endStroke_134 rfl rfl rfl ?_
  refine x_iald (pc2 := 136) C (kf_8_0 hk0) dX9_endStroke_135 rfl ?_
  refine x_iconst (pc2 := 137) C dX9_endStroke_136 rfl ic_1 ?_
  refine x_iadd (pc2 := 138) C dX9_endStroke_137 rfl ?_
  refine x_iast (pc2 := 139) C (kf_8_0 hk0) dX9_endStroke_138 rfl (fun M13 => ?_)
  refine x_iload_n (pc2 := 140) C dX9_endStroke_139 rfl rfl ?_
  refine x_iconst (pc2 := 141) C dX9_endStroke_140 rfl ic_3 ?_
  refine x_jn 230 (fun (b14 : Unit) => [some (rv G this), some (.int a1), some (.int v1), some (.int v3), some (.int v4), none, none, none, none]) (fun (b14 : Unit) => []) ?_ ?_
  · intro b14 M16
    refine x_aload_n (pc2 := 231) C dX9_endStroke_230 rfl rfl ?_
    refine x_iload_n (pc2 := 232) C dX9_endStroke_231 rfl rfl ?_
    refine x_aload_n (pc2 := 233) C dX9_endStroke_232 rfl rfl ?_
    refine x_get (pc2 := 236) C fl_X9_7 hk0 (by decide) rfl dX9_endStroke_233 rfl ?_
    refine x_sipush (pc2 := 239) C dX9_endStroke_236 rfl sc_212 ?_
    refine x_iload_n (pc2 := 240) C dX9_endStroke_239 rfl rfl ?_
    refine x_iadd (pc2 := 241) C dX9_endStroke_240 rfl ?_
    refine x_iald (pc2 := 242) C (kf_8_0 hk0) dX9_endStroke_241 rfl ?_
    refine x_callVv (pc2 := 245) C [.int v1, .int (M16.1 (this + 1) (212 + a1).toNatClampNeg)] [] cl_X9_139 (fun q hq => ctX9_countIt hk0 q hq) hk0 rfl rfl rfl ⟨rfl, rfl, Nat.le_of_ble_eq_true rfl, Nat.le_of_ble_eq_true rfl⟩ (Nat.le_of_ble_eq_true rfl) ⟨Nat.zero_le _, Nat.zero_le _⟩ dX9_endStroke_242 rfl (fun v17 M18 => ?_)
    refine x_iload_n (pc2 := 246) C dX9_endStroke_245 rfl rfl ?_
    refine x_iconst (pc2 := 247) C dX9_endStroke_246 rfl ic_2 ?_
    refine x_jn 282 (fun (b19 : Unit) => [some (rv G this), some (.int a1), none, none, none, none, none, none, none]) (fun (b19 : Unit) => []) ?_ ?_
    · intro b19 M21
      refine x_aload_n (pc2 := 283) C dX9_endStroke_282 rfl rfl ?_
      refine x_get (pc2 := 286) C fl_X9_7 hk0 (by decide) rfl dX9_endStroke_283 rfl ?_
      refine x_bipush (pc2 := 288) C dX9_endStroke_286 rfl bc_68 ?_
      refine x_iload_n (pc2 := 289) C dX9_endStroke_288 rfl rfl ?_
      refine x_iadd (pc2 := 290) C dX9_endStroke_289 rfl ?_
      refine x_bipush (pc2 := 292) C dX9_endStroke_290 rfl bc_m5 ?_
      refine x_iast (pc2 := 293) C (kf_8_0 hk0) dX9_endStroke_292 rfl (fun M22 => ?_)
      refine x_aload_n (pc2 := 294) C dX9_endStroke_293 rfl rfl ?_
      refine x_get (pc2 := 297) C fl_X9_7 hk0 (by decide) rfl dX9_endStroke_294 rfl ?_
      refine x_bipush (pc2 := 299) C dX9_endStroke_297 rfl bc_116 ?_
      refine x_iload_n (pc2 := 300) C dX9_endStroke_299 rfl rfl ?_
      refine x_iadd (pc2 := 301) C dX9_endStroke_300 rfl ?_
      refine x_iconst (pc2 := 302) C dX9_endStroke_301 rfl ic_0 ?_
      refine x_iast (pc2 := 303) C (kf_8_0 hk0) dX9_endStroke_302 rfl (fun M23 => ?_)
      exact x_vret C rfl rfl dX9_endStroke_303
    · intro j20 hj20
      refine x_icmp_ge (tgt := 282) (pc2 := 250) C dX9_endStroke_247 (by decide) rfl ?_ ?_
      · exact x_wk [some (rv G this), some (.int a1), none, none, none, none, none, none, none] ⟨Or.inr rfl, Or.inr rfl, Or.inl rfl, Or.inl rfl, Or.inl rfl, Or.inl rfl, Or.inl rfl, Or.inl rfl, Or.inl rfl, trivial⟩ (hj20 () _)
      · refine x_aload_n (pc2 := 251) C dX9_endStroke_250 rfl rfl ?_
        refine x_iload_n (pc2 := 252) C dX9_endStroke_251 rfl rfl ?_
        refine x_callVi (pc2 := 255) C [.int a1] [] cl_X9_82 (fun q hq => ctX9_shiftOf hk0 q hq) hk0 rfl rfl rfl ⟨rfl, rfl, Nat.le_of_ble_eq_true rfl, Nat.le_of_ble_eq_true rfl⟩ (Nat.le_of_ble_eq_true rfl) ⟨Nat.zero_le _, Nat.zero_le _⟩ dX9_endStroke_252 rfl (fun v24 M25 => ?_)
        refine x_jn 266 (fun (b26 : Unit) => [some (rv G this), some (.int a1), some (.int v1), none, none, none, none, none, none]) (fun (b26 : Unit) => []) ?_ ?_
        · intro b26 M28
          refine x_aload_n (pc2 := 267) C dX9_endStroke_266 rfl rfl ?_
          refine x_iload_n (pc2 := 268) C dX9_endStroke_267 rfl rfl ?_
          refine x_iload_n (pc2 := 269) C dX9_endStroke_268 rfl rfl ?_
          refine x_aload_n (pc2 := 270) C dX9_endStroke_269 rfl rfl ?_
          refine x_get (pc2 := 273) C fl_X9_7 hk0 (by decide) rfl dX9_endStroke_270 rfl ?_
          refine x_sipush (pc2 := 276) C dX9_endStroke_273 rfl sc_164 ?_
          refine x_iload_n (pc2 := 277) C dX9_endStroke_276 rfl rfl ?_
          refine x_iadd (pc2 := 278) C dX9_endStroke_277 rfl ?_
          refine x_iald (pc2 := 279) C (kf_8_0 hk0) dX9_endStroke_278 rfl ?_
          refine x_callVv (pc2 := 282) C [.int v1, .int a1, .int (M28.1 (this + 1) (164 + a1).toNatClampNeg)] [] cl_X9_147 (fun q hq => ctX9_giveSign hk0 q hq) hk0 rfl rfl rfl ⟨rfl, rfl, Nat.le_of_ble_eq_true rfl, Nat.le_of_ble_eq_true rfl⟩ (Nat.le_of_ble_eq_true rfl) ⟨Nat.zero_le _, Nat.zero_le _⟩ dX9_endStroke_279 rfl (fun v29 M30 => ?_)
          exact x_wk [some (rv G this), some (.int a1), none, none, none, none, none, none, none] ⟨Or.inr rfl, Or.inr rfl, Or.inl rfl, Or.inl rfl, Or.inl rfl, Or.inl rfl, Or.inl rfl, Or.inl rfl, Or.inl rfl, trivial⟩ (hj20 () _)
        · intro j27 hj27
          refine x_if_ge (tgt := 266) (pc2 := 258) C dX9_endStroke_255 (by decide) rfl ?_ ?_
          · exact x_wk [some (rv G this), some (.int a1), some (.int v1), none, none, none, none, none, none] ⟨Or.inr rfl, Or.inr rfl, Or.inr rfl, Or.inl rfl, Or.inl rfl, Or.inl rfl, Or.inl rfl, Or.inl rfl, Or.inl rfl, trivial⟩ (hj27 () _)
          · refine x_aload_n (pc2 := 259) C dX9_endStroke_258 rfl rfl ?_
            refine x_iload_n (pc2 := 260) C dX9_endStroke_259 rfl rfl ?_
            refine x_iload_n (pc2 := 261) C dX9_endStroke_260 rfl rfl ?_
            refine x_iload (pc2 := 263) C dX9_endStroke_261 rfl rfl ?_
            refine x_callVv (pc2 := 266) C [.int v1, .int v3, .int v4] [] cl_X9_143 (fun q hq => ctX9_learn hk0 q hq) hk0 rfl rfl rfl ⟨rfl, rfl, Nat.le_of_ble_eq_true rfl, Nat.le_of_ble_eq_true rfl⟩ (Nat.le_of_ble_eq_true rfl) ⟨Nat.zero_le _, Nat.zero_le _⟩ dX9_endStroke_263 rfl (fun v31 M32 => ?_)
            exact x_wk [some (rv G this), some (.int a1), some (.int v1), none, none, none, none, none, none] ⟨Or.inr rfl, Or.inr rfl, Or.inr rfl, Or.inl rfl, Or.inl rfl, Or.inl rfl, Or.inl rfl, Or.inl rfl, Or.inl rfl, trivial⟩ (hj27 () _)
  · intro j15 hj15
    refine x_icmp_ne (tgt := 230) (pc2 := 144) C dX9_endStroke_141 (by decide) rfl ?_ ?_
    · exact x_wk [some (rv G this), some (.int a1), some (.int v1), some (.int v3), some (.int v4), none, none, none, none] ⟨Or.inr rfl, Or.inr rfl, Or.inr rfl, Or.inr rfl, Or.inr rfl, Or.inl rfl, Or.inl rfl, Or.inl rfl, Or.inl rfl, trivial⟩ (hj15 () _)
    · refine x_sipush (pc2 := 147) C dX9_endStroke_144 rfl sc_404 ?_
      refine x_bipush (pc2 := 149) C dX9_endStroke_147 rfl bc_7 ?_
      refine x_aload_n (pc2 := 150) C dX9_endStroke_149 rfl rfl ?_
      refine x_get (pc2 := 153) C fl_X9_7 hk0 (by decide) rfl dX9_endStroke_150 rfl ?_
      refine x_bipush (pc2 := 155) C dX9_endStroke_153 rfl bc_16 ?_
      refine x_iald (pc2 := 156) C (kf_8_0 hk0) dX9_endStroke_155 rfl ?_
      refine x_imul (pc2 := 157) C dX9_endStroke_156 rfl ?_
      refine x_iadd (pc2 := 158) C dX9_endStroke_157 rfl ?_
      refine x_topi (fun v33 => ?_)
      refine x_istore (pc2 := 160) C dX9_endStroke_158 rfl [some (rv G this), some (.int a1), some (.int v1), some (.int v3), some (.int v4), some (.int v5), some (.int v6), some (.int v33), none] rfl rfl ?_
      refine x_iconst (pc2 := 161) C dX9_endStroke_160 rfl ic_0 ?_
      refine x_istore (pc2 := 163) C dX9_endStroke_161 rfl [some (rv G this), some (.int a1), some (.int v1), some (.int v3), some (.int v4), some (.int v5), some (.int v6), some (.int v33), some (.int 0)] rfl rfl ?_
      refine x_wk [some (rv G this), some (.int a1), some (.int v1), some (.int v3), some (.int v4), some (.int v5), some (.int v6), some (.int v33), some (.int 0)] ⟨Or.inr rfl, Or.inr rfl, Or.inr rfl, Or.inr rfl, Or.inr rfl, Or.inr rfl, Or.inr rfl, Or.inr rfl, Or.inr rfl, trivial⟩ ?_
      refine x_lp1 (fun (b34 : Int32) => [some (rv G this), some (.int a1), some (.int v1), some (.int v3), some (.int v4), some (.int v5), some (.int v6), some (.int v33), some (.int b34)]) 196 (fun (b37 : Unit) => [some (rv G this), some (.int a1), some (.int v1), some (.int v3), some (.int v4), some (.int v5), none, some (.int v33), none]) ?_ ?_
      · intro b37 M38
        refine x_aload_n (pc2 := 197) C dX9_endStroke_196 rfl rfl ?_
        refine x_get (pc2 := 200) C fl_X9_7 hk0 (by decide) rfl dX9_endStroke_197 rfl ?_
        refine x_iload (pc2 := 202) C dX9_endStroke_200 rfl rfl ?_
        refine x_iconst (pc2 := 203) C dX9_endStroke_202 rfl ic_3 ?_
        refine x_iadd (pc2 := 204) C dX9_endStroke_203 rfl ?_
        refine x_bipush (pc2 := 206) C dX9_endStroke_204 rfl bc_m5 ?_
        refine x_iast (pc2 := 207) C (kf_8_0 hk0) dX9_endStroke_206 rfl (fun M39 => ?_)
        refine x_aload_n (pc2 := 208) C dX9_endStroke_207 rfl rfl ?_
        refine x_get (pc2 := 211) C fl_X9_7 hk0 (by decide) rfl dX9_endStroke_208 rfl ?_
        refine x_iload (pc2 := 213) C dX9_endStroke_211 rfl rfl ?_
        refine x_bipush (pc2 := 215) C dX9_endStroke_213 rfl bc_6 ?_
        refine x_iadd (pc2 := 216) C dX9_endStroke_215 rfl ?_
        refine x_iload (pc2 := 218) C dX9_endStroke_216 rfl rfl ?_
        refine x_iast (pc2 := 219) C (kf_8_0 hk0) dX9_endStroke_218 rfl (fun M40 => ?_)
        refine x_aload_n (pc2 := 220) C dX9_endStroke_219 rfl rfl ?_
        refine x_get (pc2 := 223) C fl_X9_7 hk0 (by decide) rfl dX9_endStroke_220 rfl ?_
        refine x_bipush (pc2 := 225) C dX9_endStroke_223 rfl bc_16 ?_
        refine x_dup2 (pc2 := 226) C dX9_endStroke_225 rfl rfl rfl ?_
        refine x_iald (pc2 := 227) C (kf_8_0 hk0) dX9_endStroke_226 rfl ?_
        refine x_iconst (pc2 := 228) C dX9_endStroke_227 rfl ic_1 ?_
        refine x_iadd (pc2 := 229) C dX9_endStroke_228 rfl ?_
        refine x_iast (pc2 := 230) C (kf_8_0 hk0) dX9_endStroke_229 rfl (fun M41 => ?_)
        exact x_wk [some (rv G this), some (.int a1), some (.int v1), some (.int v3), some (.int v4), none, none, none, none] ⟨Or.inr rfl, Or.inr rfl, Or.inr rfl, Or.inr rfl, Or.inr rfl, Or.inl rfl, Or.inl rfl, Or.inl rfl, Or.inl rfl, trivial⟩ (hj15 () _)
      · intro k42 hk42 rec36 hrec36 b34 M35
        refine x_iload (pc2 := 165) C dX9_endStroke_163 rfl rfl ?_
        refine x_bipush (pc2 := 167) C dX9_endStroke_165 rfl bc_6 ?_
        refine x_icmp_ge (tgt := 196) (pc2 := 170) C dX9_endStroke_167 (by decide) rfl ?_ ?_
        · exact x_wk [some (rv G this), some (.int a1), some (.int v1), some (.int v3), some (.int v4), some (.int v5), none, some (.int v33), none] ⟨Or.inr rfl, Or.inr rfl, Or.inr rfl, Or.inr rfl, Or.inr rfl, Or.inr rfl, Or.inl rfl, Or.inr rfl, Or.inl rfl, trivial⟩ (hk42 () _)
        · refine x_aload_n (pc2 := 171) C dX9_endStroke_170 rfl rfl ?_
          refine x_get (pc2 := 174) C fl_X9_7 hk0 (by decide) rfl dX9_endStroke_171 rfl ?_
          refine x_iload (pc2 := 176) C dX9_endStroke_174 rfl rfl ?_
          refine x_iload (pc2 := 178) C dX9_endStroke_176 rfl rfl ?_
          refine x_iadd (pc2 := 179) C dX9_endStroke_178 rfl ?_
          refine x_aload_n (pc2 := 180) C dX9_endStroke_179 rfl rfl ?_
          refine x_get (pc2 := 183) C fl_X9_7 hk0 (by decide) rfl dX9_endStroke_180 rfl ?_
          refine x_iload (pc2 := 185) C dX9_endStroke_183 rfl rfl ?_
          refine x_iload (pc2 := 187) C dX9_endStroke_185 rfl rfl ?_
          refine x_iadd (pc2 := 188) C dX9_endStroke_187 rfl ?_
          refine x_iald (pc2 := 189) C (kf_8_0 hk0) dX9_endStroke_188 rfl ?_
          refine x_iast (pc2 := 190) C (kf_8_0 hk0) dX9_endStroke_189 rfl (fun M43 => ?_)
          refine x_iinc (pc2 := 193) (v := b34 + 1) C dX9_endStroke_190 rfl rfl 1 ic_1 rfl [some (rv G this), some (.int a1), some (.int v1), some (.int v3), some (.int v4), some (.int v5), some (.int v6), some (.int v33), some (.int (b34 + 1))] rfl rfl ?_
          refine x_goto (tgt := 163) C dX9_endStroke_193 (by decide) ?_
          exact x_wk [some (rv G this), some (.int a1), some (.int v1), some (.int v3), some (.int v4), some (.int v5), some (.int v6), some (.int v33), some (.int (b34 + 1))] ⟨Or.inr rfl, Or.inr rfl, Or.inr rfl, Or.inr rfl, Or.inr rfl, Or.inr rfl, Or.inr rfl, Or.inr rfl, Or.inr rfl, trivial⟩ (hrec36 (b34 + 1) _)
set_option maxRecDepth 100000 in
set_option maxHeartbeats 4000000 in
theorem ctX9_wouldSense {l : Launch} {G : bkG} {M : Mem} {this : Nat} {a1 : Int32} (hk0 : kd this = 8) : ∀ r, fX9_wouldSense this a1 M = some r → Met l yX9_wouldSense (Cond.code yX9_wouldSense cX9_wouldSense 2 (some .boolean) :: TT) ({ frames := 2, cells := 0, slots := 0, locals := 49 } : Room) (va_Pc [rv G this, .int a1] (Wd G M)) (QQ G ((fun v => some (.int v)) r.1) r.2) 0 0 (An G) := by
  refine mkMet (vl := (fun v => some (.int v))) RX9 rfl (by decide +kernel) rfl (Nat.le_of_ble_eq_true rfl) [some (rv G this), some (.int a1)] rfl ?_
  intro p e s m args below meth c C _
  refine x_aload_n (pc2 := 1) C dX9_wouldSense_0 rfl rfl ?_
  refine x_iload_n (pc2 := 2) C dX9_wouldSense_1 rfl rfl ?_
  refine x_aload_n (pc2 := 3) C dX9_wouldSense_2 rfl rfl ?_
  refine x_get (pc2 := 6) C fl_X9_7 hk0 (by decide) rfl dX9_wouldSense_3 rfl ?_
  refine x_iconst (pc2 := 7) C dX9_wouldSense_6 rfl ic_1 ?_
  refine x_iald (pc2 := 8) C (kf_8_0 hk0) dX9_wouldSense_7 rfl ?_
  refine x_idiv (pc2 := 9) C dX9_wouldSense_8 rfl ?_
  refine x_callVv (pc2 := 12) C [.int (a1 / (M.1 (this + 1) (1 : Int32).toNatClampNeg))] [] cl_X9_107 (fun q hq => ctX9_drive hk0 q hq) hk0 rfl rfl rfl ⟨rfl, rfl, Nat.le_of_ble_eq_true rfl, Nat.le_of_ble_eq_true rfl⟩ (Nat.le_of_ble_eq_true rfl) ⟨Nat.zero_le _, Nat.zero_le _⟩ dX9_wouldSense_9 rfl (fun v1 M2 => ?_)
  refine x_aload_n (pc2 := 13) C dX9_wouldSense_12 rfl rfl ?_
  refine x_get (pc2 := 16) C fl_X9_104 hk0 (by decide) rfl dX9_wouldSense_13 rfl ?_
  refine x_iload_n (pc2 := 17) C dX9_wouldSense_16 rfl rfl ?_
  refine x_aload_n (pc2 := 18) C dX9_wouldSense_17 rfl rfl ?_
  refine x_get (pc2 := 21) C fl_X9_7 hk0 (by decide) rfl dX9_wouldSense_18 rfl ?_
  refine x_iconst (pc2 := 22) C dX9_wouldSense_21 rfl ic_1 ?_
  refine x_iald (pc2 := 23) C (kf_8_0 hk0) dX9_wouldSense_22 rfl ?_
  refine x_irem (pc2 := 24) C dX9_wouldSense_23 rfl ?_
  refine x_ishr (pc2 := 25) C dX9_wouldSense_24 rfl ?_
  refine x_iconst (pc2 := 26) C dX9_wouldSense_25 rfl ic_1 ?_
  refine x_iand (pc2 := 27) C dX9_wouldSense_26 rfl ?_
  refine x_iconst (pc2 := 28) C dX9_wouldSense_27 rfl ic_1 ?_
  refine x_icmp_ne (tgt := 35) (pc2 := 31) C dX9_wouldSense_28 (by decide) rfl ?_ ?_
  · refine x_iconst (pc2 := 36) C dX9_wouldSense_35 rfl ic_0 ?_
    exact x_zret C rfl rfl rfl dX9_wouldSense_36
  · refine x_iconst (pc2 := 32) C dX9_wouldSense_31 rfl ic_1 ?_
    refine x_goto (tgt := 36) C dX9_wouldSense_32 (by decide) ?_
    exact x_zret C rfl rfl rfl dX9_wouldSense_36
set_option maxRecDepth 100000 in
set_option maxHeartbeats 4000000 in
theorem ctX9_ghostsBy {l : Launch} {G : bkG} {M : Mem} {this : Nat} {a1 : Int32} (hk0 : kd this = 8) : ∀ r, fX9_ghostsBy this a1 M = some r → Met l yX9_ghostsBy (Cond.code yX9_ghostsBy cX9_ghostsBy 8 (some .int) :: TT) ({ frames := 3, cells := 0, slots := 0, locals := 70 } : Room) (va_Pc [rv G this, .int a1] (Wd G M)) (QQ G ((fun v => some (.int v)) r.1) r.2) 0 0 (An G) := by
  refine mkMet (vl := (fun v => some (.int v))) RX9 rfl (by decide +kernel) rfl (Nat.le_of_ble_eq_true rfl) [some (rv G this), some (.int a1), none, none, none, none, none, none] rfl ?_
  intro p e s m args below meth c C _
  refine x_aload_n (pc2 := 1) C dX9_ghostsBy_0 rfl rfl ?_
  refine x_iload_n (pc2 := 2) C dX9_ghostsBy_1 rfl rfl ?_
  refine x_callVi (pc2 := 5) C [.int a1] [] cl_X9_79 (fun q hq => ctX9_noKey hk0 q hq) hk0 rfl rfl rfl ⟨rfl, rfl, Nat.le_of_ble_eq_true rfl, Nat.le_of_ble_eq_true rfl⟩ (Nat.le_of_ble_eq_true rfl) ⟨Nat.zero_le _, Nat.zero_le _⟩ dX9_ghostsBy_2 rfl (fun v1 M2 => ?_)
  refine x_if_eq (tgt := 10) (pc2 := 8) C dX9_ghostsBy_5 (by decide) rfl ?_ ?_
  · refine x_aload_n (pc2 := 11) C dX9_ghostsBy_10 rfl rfl ?_
    refine x_get (pc2 := 14) C fl_X9_7 hk0 (by decide) rfl dX9_ghostsBy_11 rfl ?_
    refine x_bipush (pc2 := 16) C dX9_ghostsBy_14 rfl bc_20 ?_
    refine x_iload_n (pc2 := 17) C dX9_ghostsBy_16 rfl rfl ?_
    refine x_iadd (pc2 := 18) C dX9_ghostsBy_17 rfl ?_
    refine x_iald (pc2 := 19) C (kf_8_0 hk0) dX9_ghostsBy_18 rfl ?_
    refine x_topi (fun v3 => ?_)
    refine x_istore_n (pc2 := 20) C dX9_ghostsBy_19 rfl [some (rv G this), some (.int a1), some (.int v3), none, none, none, none, none] rfl rfl ?_
    refine x_iload_n (pc2 := 21) C dX9_ghostsBy_20 rfl rfl ?_
    refine x_jn 30 (fun (b4 : Int32) => [some (rv G this), some (.int a1), some (.int v3), none, none, none, none, none]) (fun (b4 : Int32) => [.int b4]) ?_ ?_
    · intro b4 M6
      refine x_istore_n (pc2 := 31) C dX9_ghostsBy_30 rfl [some (rv G this), some (.int a1), some (.int v3), some (.int b4), none, none, none, none] rfl rfl ?_
      refine x_bipush (pc2 := 33) C dX9_ghostsBy_31 rfl bc_100 ?_
      refine x_istore (pc2 := 35) C dX9_ghostsBy_33 rfl [some (rv G this), some (.int a1), some (.int v3), some (.int b4), some (.int 100), none, none, none] rfl rfl ?_
      refine x_iconst (pc2 := 36) C dX9_ghostsBy_35 rfl ic_0 ?_
      refine x_istore (pc2 := 38) C dX9_ghostsBy_36 rfl [some (rv G this), some (.int a1), some (.int v3), some (.int b4), some (.int 100), some (.int 0), none, none] rfl rfl ?_
      refine x_wk [some (rv G this), some (.int a1), some (.int v3), some (.int b4), some (.int 100), some (.int 0), none, none] ⟨Or.inr rfl, Or.inr rfl, Or.inr rfl, Or.inr rfl, Or.inr rfl, Or.inr rfl, Or.inl rfl, Or.inl rfl, trivial⟩ ?_
      refine x_lp (fun (b7 : Int32 × Int32) => [some (rv G this), some (.int a1), some (.int v3), some (.int b4), some (.int b7.1), some (.int b7.2), none, none]) ?_
      · intro rec9 hrec9 b7 M8
        refine x_iload (pc2 := 40) C dX9_ghostsBy_38 rfl rfl ?_
        refine x_aload_n (pc2 := 41) C dX9_ghostsBy_40 rfl rfl ?_
        refine x_callVi (pc2 := 44) C [] [.int b7.2] cl_X9_64 (fun q hq => ctX9_keys hk0 q hq) hk0 rfl rfl rfl ⟨rfl, rfl, Nat.le_of_ble_eq_true rfl, Nat.le_of_ble_eq_true rfl⟩ (Nat.le_of_ble_eq_true rfl) ⟨Nat.zero_le _, Nat.zero_le _⟩ dX9_ghostsBy_41 rfl (fun v10 M11 => ?_)
        refine x_icmp_ge (tgt := 138) (pc2 := 47) C dX9_ghostsBy_44 (by decide) rfl ?_ ?_
        · refine x_iload (pc2 := 140) C dX9_ghostsBy_138 rfl rfl ?_
          exact x_iret C rfl rfl dX9_ghostsBy_140
        · refine x_iload (pc2 := 49) C dX9_ghostsBy_47 rfl rfl ?_
          refine x_iload_n (pc2 := 50) C dX9_ghostsBy_49 rfl rfl ?_
          refine x_jn 132 (fun (b12 : Int32) => [some (rv G this), some (.int a1), some (.int v3), some (.int b4), some (.int b12), some (.int b7.2), none, none]) (fun (b12 : Int32) => []) ?_ ?_
          · intro b12 M14
            refine x_iinc (pc2 := 135) (v := b7.2 + 1) C dX9_ghostsBy_132 rfl rfl 1 ic_1 rfl [some (rv G this), some (.int a1), some (.int v3), some (.int b4), some (.int b12), some (.int (b7.2 + 1)), none, none] rfl rfl ?_
            refine x_goto (tgt := 38) C dX9_ghostsBy_135 (by decide) ?_
            exact x_wk [some (rv G this), some (.int a1), some (.int v3), some (.int b4), some (.int b12), some (.int (b7.2 + 1)), none, none] ⟨Or.inr rfl, Or.inr rfl, Or.inr rfl, Or.inr rfl, Or.inr rfl, Or.inr rfl, Or.inl rfl, Or.inl rfl, trivial⟩ (hrec9 (b12, b7.2 + 1) _)
          · intro j13 hj13
            refine x_icmp_eq (tgt := 132) (pc2 := 53) C dX9_ghostsBy_50 (by decide) rfl ?_ ?_
            · exact x_wk [some (rv G this), some (.int a1), some (.int v3), some (.int b4), some (.int b7.1), some (.int b7.2), none, none] ⟨Or.inr rfl, Or.inr rfl, Or.inr rfl, Or.inr rfl, Or.inr rfl, Or.inr rfl, Or.inl rfl, Or.inl rfl, trivial⟩ (hj13 b7.1 _)
            · refine x_aload_n (pc2 := 54) C dX9_ghostsBy_53 rfl rfl ?_
              refine x_iload (pc2 := 56) C dX9_ghostsBy_54 rfl rfl ?_
              refine x_callVi (pc2 := 59) C [.int b7.2] [] cl_X9_72 (fun q hq => ctX9_isDown hk0 q hq) hk0 rfl rfl rfl ⟨rfl, rfl, Nat.le_of_ble_eq_true rfl, Nat.le_of_ble_eq_true rfl⟩ (Nat.le_of_ble_eq_true rfl) ⟨Nat.zero_le _, Nat.zero_le _⟩ dX9_ghostsBy_56 rfl (fun v15 M16 => ?_)
              refine x_if_ne (tgt := 132) (pc2 := 62) C dX9_ghostsBy_59 (by decide) rfl ?_ ?_
              · exact x_wk [some (rv G this), some (.int a1), some (.int v3), some (.int b4), some (.int b7.1), some (.int b7.2), none, none] ⟨Or.inr rfl, Or.inr rfl, Or.inr rfl, Or.inr rfl, Or.inr rfl, Or.inr rfl, Or.inl rfl, Or.inl rfl, trivial⟩ (hj13 b7.1 _)
              · refine x_aload_n (pc2 := 63) C dX9_ghostsBy_62 rfl rfl ?_
                refine x_iload (pc2 := 65) C dX9_ghostsBy_63 rfl rfl ?_
                refine x_callVi (pc2 := 68) C [.int b7.2] [] cl_X9_191 (fun q hq => ctX9_wouldSense hk0 q hq) hk0 rfl rfl rfl ⟨rfl, rfl, Nat.le_of_ble_eq_true rfl, Nat.le_of_ble_eq_true rfl⟩ (Nat.le_of_ble_eq_true rfl) ⟨Nat.zero_le _, Nat.zero_le _⟩ dX9_ghostsBy_65 rfl (fun v17 M18 => ?_)
                refine x_istore (pc2 := 70) C dX9_ghostsBy_68 rfl [some (rv G this), some (.int a1), some (.int v3), some (.int b4), some (.int b7.1), some (.int b7.2), some (.int v17), none] rfl rfl ?_
                refine x_aload_n (pc2 := 71) C dX9_ghostsBy_70 rfl rfl ?_
                refine x_get (pc2 := 74) C fl_X9_7 hk0 (by decide) rfl dX9_ghostsBy_71 rfl ?_
                refine x_bipush (pc2 := 76) C dX9_ghostsBy_74 rfl bc_20 ?_
                refine x_iload_n (pc2 := 77) C dX9_ghostsBy_76 rfl rfl ?_
                refine x_iadd (pc2 := 78) C dX9_ghostsBy_77 rfl ?_
                refine x_iload_n (pc2 := 79) C dX9_ghostsBy_78 rfl rfl ?_
                refine x_iast (pc2 := 80) C (kf_8_0 hk0) dX9_ghostsBy_79 rfl (fun M19 => ?_)
                refine x_aload_n (pc2 := 81) C dX9_ghostsBy_80 rfl rfl ?_
                refine x_iload (pc2 := 83) C dX9_ghostsBy_81 rfl rfl ?_
                refine x_callVi (pc2 := 86) C [.int b7.2] [] cl_X9_191 (fun q hq => ctX9_wouldSense hk0 q hq) hk0 rfl rfl rfl ⟨rfl, rfl, Nat.le_of_ble_eq_true rfl, Nat.le_of_ble_eq_true rfl⟩ (Nat.le_of_ble_eq_true rfl) ⟨Nat.zero_le _, Nat.zero_le _⟩ dX9_ghostsBy_83 rfl (fun v20 M21 => ?_)
                refine x_istore (pc2 := 88) C dX9_ghostsBy_86 rfl [some (rv G this), some (.int a1), some (.int v3), some (.int b4), some (.int b7.1), some (.int b7.2), some (.int v17), some (.int v20)] rfl rfl ?_
                refine x_aload_n (pc2 := 89) C dX9_ghostsBy_88 rfl rfl ?_
                refine x_get (pc2 := 92) C fl_X9_7 hk0 (by decide) rfl dX9_ghostsBy_89 rfl ?_
                refine x_bipush (pc2 := 94) C dX9_ghostsBy_92 rfl bc_20 ?_
                refine x_iload_n (pc2 := 95) C dX9_ghostsBy_94 rfl rfl ?_
                refine x_iadd (pc2 := 96) C dX9_ghostsBy_95 rfl ?_
                refine x_iload_n (pc2 := 97) C dX9_ghostsBy_96 rfl rfl ?_
                refine x_iast (pc2 := 98) C (kf_8_0 hk0) dX9_ghostsBy_97 rfl (fun M22 => ?_)
                refine x_iload (pc2 := 100) C dX9_ghostsBy_98 rfl rfl ?_
                refine x_iload (pc2 := 102) C dX9_ghostsBy_100 rfl rfl ?_
                refine x_jn 129 (fun (b23 : Int32) => [some (rv G this), some (.int a1), some (.int v3), some (.int b4), none, some (.int b7.2), none, none]) (fun (b23 : Int32) => [.int b23, .int b7.1]) ?_ ?_
                · intro b23 M25
                  refine x_iadd (pc2 := 130) C dX9_ghostsBy_129 rfl ?_
                  refine x_istore (pc2 := 132) C dX9_ghostsBy_130 rfl [some (rv G this), some (.int a1), some (.int v3), some (.int b4), some (.int (b7.1 + b23)), some (.int b7.2), none, none] rfl rfl ?_
                  exact x_wk [some (rv G this), some (.int a1), some (.int v3), some (.int b4), some (.int (b7.1 + b23)), some (.int b7.2), none, none] ⟨Or.inr rfl, Or.inr rfl, Or.inr rfl, Or.inr rfl, Or.inr rfl, Or.inr rfl, Or.inl rfl, Or.inl rfl, trivial⟩ (hj13 (b7.1 + b23) _)
                · intro j24 hj24
                  refine x_jn 114 (fun (b26 : Unit) => [some (rv G this), some (.int a1), some (.int v3), some (.int b4), none, some (.int b7.2), some (.int v17), some (.int v20)]) (fun (b26 : Unit) => [.int b7.1]) ?_ ?_
                  · intro b26 M28
                    refine x_iload (pc2 := 116) C dX9_ghostsBy_114 rfl rfl ?_
                    refine x_jn 128 (fun (b29 : Unit) => [some (rv G this), some (.int a1), some (.int v3), some (.int b4), none, some (.int b7.2), none, none]) (fun (b29 : Unit) => [.int b7.1]) ?_ ?_
                    · intro b29 M31
                      refine x_iconst (pc2 := 129) C dX9_ghostsBy_128 rfl ic_0 ?_
                      exact x_wk [some (rv G this), some (.int a1), some (.int v3), some (.int b4), none, some (.int b7.2), none, none] ⟨Or.inr rfl, Or.inr rfl, Or.inr rfl, Or.inr rfl, Or.inl rfl, Or.inr rfl, Or.inl rfl, Or.inl rfl, trivial⟩ (hj24 0 _)
                    · intro j30 hj30
                      refine x_if_ne (tgt := 128) (pc2 := 119) C dX9_ghostsBy_116 (by decide) rfl ?_ ?_
                      · exact x_wk [some (rv G this), some (.int a1), some (.int v3), some (.int b4), none, some (.int b7.2), none, none] ⟨Or.inr rfl, Or.inr rfl, Or.inr rfl, Or.inr rfl, Or.inl rfl, Or.inr rfl, Or.inl rfl, Or.inl rfl, trivial⟩ (hj30 () _)
                      · refine x_iload (pc2 := 121) C dX9_ghostsBy_119 rfl rfl ?_
                        refine x_if_eq (tgt := 128) (pc2 := 124) C dX9_ghostsBy_121 (by decide) rfl ?_ ?_
                        · exact x_wk [some (rv G this), some (.int a1), some (.int v3), some (.int b4), none, some (.int b7.2), none, none] ⟨Or.inr rfl, Or.inr rfl, Or.inr rfl, Or.inr rfl, Or.inl rfl, Or.inr rfl, Or.inl rfl, Or.inl rfl, trivial⟩ (hj30 () _)
                        · refine x_iconst (pc2 := 125) C dX9_ghostsBy_124 rfl ic_m1 ?_
                          refine x_goto (tgt := 129) C dX9_ghostsBy_125 (by decide) ?_
                          exact x_wk [some (rv G this), some (.int a1), some (.int v3), some (.int b4), none, some (.int b7.2), none, none] ⟨Or.inr rfl, Or.inr rfl, Or.inr rfl, Or.inr rfl, Or.inl rfl, Or.inr rfl, Or.inl rfl, Or.inl rfl, trivial⟩ (hj24 (-1) _)
                  · intro j27 hj27
                    refine x_if_eq (tgt := 114) (pc2 := 105) C dX9_ghostsBy_102 (by decide) rfl ?_ ?_
                    · exact x_wk [some (rv G this), some (.int a1), some (.int v3), some (.int b4), none, some (.int b7.2), some (.int v17), some (.int v20)] ⟨Or.inr rfl, Or.inr rfl, Or.inr rfl, Or.inr rfl, Or.inl rfl, Or.inr rfl, Or.inr rfl, Or.inr rfl, trivial⟩ (hj27 () _)
                    · refine x_iload (pc2 := 107) C dX9_ghostsBy_105 rfl rfl ?_
                      refine x_if_ne (tgt := 114) (pc2 := 110) C dX9_ghostsBy_107 (by decide) rfl ?_ ?_
                      · exact x_wk [some (rv G this), some (.int a1), some (.int v3), some (.int b4), none, some (.int b7.2), some (.int v17), some (.int v20)] ⟨Or.inr rfl, Or.inr rfl, Or.inr rfl, Or.inr rfl, Or.inl rfl, Or.inr rfl, Or.inr rfl, Or.inr rfl, trivial⟩ (hj27 () _)
                      · refine x_iconst (pc2 := 111) C dX9_ghostsBy_110 rfl ic_1 ?_
                        refine x_goto (tgt := 129) C dX9_ghostsBy_111 (by decide) ?_
                        exact x_wk [some (rv G this), some (.int a1), some (.int v3), some (.int b4), none, some (.int b7.2), none, none] ⟨Or.inr rfl, Or.inr rfl, Or.inr rfl, Or.inr rfl, Or.inl rfl, Or.inr rfl, Or.inl rfl, Or.inl rfl, trivial⟩ (hj24 1 _)
    · intro j5 hj5
      refine x_if_ge (tgt := 28) (pc2 := 24) C dX9_ghostsBy_21 (by decide) rfl ?_ ?_
      · refine x_bipush (pc2 := 30) C dX9_ghostsBy_28 rfl bc_m5 ?_
        exact x_wk [some (rv G this), some (.int a1), some (.int v3), none, none, none, none, none] ⟨Or.inr rfl, Or.inr rfl, Or.inr rfl, Or.inl rfl, Or.inl rfl, Or.inl rfl, Or.inl rfl, Or.inl rfl, trivial⟩ (hj5 (-5) _)
      · refine x_iconst (pc2 := 25) C dX9_ghostsBy_24 rfl ic_0 ?_
        refine x_goto (tgt := 30) C dX9_ghostsBy_25 (by decide) ?_
        exact x_wk [some (rv G this), some (.int a1), some (.int v3), none, none, none, none, none] ⟨Or.inr rfl, Or.inr rfl, Or.inr rfl, Or.inl rfl, Or.inl rfl, Or.inl rfl, Or.inl rfl, Or.inl rfl, trivial⟩ (hj5 0 _)
  · refine x_iconst (pc2 := 9) C dX9_ghostsBy_8 rfl ic_m1 ?_
    exact x_iret C rfl rfl dX9_ghostsBy_9
set_option maxRecDepth 100000 in
set_option maxHeartbeats 4000000 in
theorem ctX9_goBack {l : Launch} {G : bkG} {M : Mem} {this : Nat} (hk0 : kd this = 8) : ∀ r, fX9_goBack this M = some r → Met l yX9_goBack (Cond.code yX9_goBack cX9_goBack 2 none :: TT) ({ frames := 0, cells := 0, slots := 0, locals := 0 } : Room) (va_Pc [rv G this] (Wd G M)) (QQ G ((fun _ => none) r.1) r.2) 0 0 (An G) := by
  refine mkMet (vl := (fun _ => none)) RX9 rfl (by decide +kernel) rfl (Nat.le_of_ble_eq_true rfl) [some (rv G this), none] rfl ?_
  intro p e s m args below meth c C _
  refine x_iconst (pc2 := 1) C dX9_goBack_0 rfl ic_0 ?_
  refine x_istore_n (pc2 := 2) C dX9_goBack_1 rfl [some (rv G this), some (.int 0)] rfl rfl ?_
  refine x_wk [some (rv G this), some (.int 0)] ⟨Or.inr rfl, Or.inr rfl, trivial⟩ ?_
  refine x_lp1 (fun (b1 : Int32) => [some (rv G this), some (.int b1)]) 27 (fun (b4 : Unit) => [some (rv G this), none]) ?_ ?_
  · intro b4 M5
    refine x_iconst (pc2 := 28) C dX9_goBack_27 rfl ic_0 ?_
    refine x_istore_n (pc2 := 29) C dX9_goBack_28 rfl [some (rv G this), some (.int 0)] rfl rfl ?_
    refine x_wk [some (rv G this), some (.int 0)] ⟨Or.inr rfl, Or.inr rfl, trivial⟩ ?_
    refine x_lp (fun (b6 : Int32) => [some (rv G this), some (.int b6)]) ?_
    · intro rec8 hrec8 b6 M7
      refine x_iload_n (pc2 := 30) C dX9_goBack_29 rfl rfl ?_
      refine x_bipush (pc2 := 32) C dX9_goBack_30 rfl bc_7 ?_
      refine x_icmp_ge (tgt := 53) (pc2 := 35) C dX9_goBack_32 (by decide) rfl ?_ ?_
      · exact x_vret C rfl rfl dX9_goBack_53
      · refine x_aload_n (pc2 := 36) C dX9_goBack_35 rfl rfl ?_
        refine x_get (pc2 := 39) C fl_X9_22 hk0 (by decide) rfl dX9_goBack_36 rfl ?_
        refine x_iload_n (pc2 := 40) C dX9_goBack_39 rfl rfl ?_
        refine x_aload_n (pc2 := 41) C dX9_goBack_40 rfl rfl ?_
        refine x_get (pc2 := 44) C fl_X9_32 hk0 (by decide) rfl dX9_goBack_41 rfl ?_
        refine x_iload_n (pc2 := 45) C dX9_goBack_44 rfl rfl ?_
        refine x_fald (pc2 := 46) C (kf_8_7 hk0) dX9_goBack_45 rfl ?_
        refine x_fast (pc2 := 47) C (kf_8_4 hk0) dX9_goBack_46 rfl (fun M9 => ?_)
        refine x_iinc (pc2 := 50) (v := b6 + 1) C dX9_goBack_47 rfl rfl 1 ic_1 rfl [some (rv G this), some (.int (b6 + 1))] rfl rfl ?_
        refine x_goto (tgt := 29) C dX9_goBack_50 (by decide) ?_
        exact x_wk [some (rv G this), some (.int (b6 + 1))] ⟨Or.inr rfl, Or.inr rfl, trivial⟩ (hrec8 (b6 + 1) _)
  · intro k10 hk10 rec3 hrec3 b1 M2
    refine x_iload_n (pc2 := 3) C dX9_goBack_2 rfl rfl ?_
    refine x_sipush (pc2 := 6) C dX9_goBack_3 rfl sc_592 ?_
    refine x_icmp_ge (tgt := 27) (pc2 := 9) C dX9_goBack_6 (by decide) rfl ?_ ?_
    · exact x_wk [some (rv G this), none] ⟨Or.inr rfl, Or.inl rfl, trivial⟩ (hk10 () _)
    · refine x_aload_n (pc2 := 10) C dX9_goBack_9 rfl rfl ?_
      refine x_get (pc2 := 13) C fl_X9_7 hk0 (by decide) rfl dX9_goBack_10 rfl ?_
      refine x_iload_n (pc2 := 14) C dX9_goBack_13 rfl rfl ?_
      refine x_aload_n (pc2 := 15) C dX9_goBack_14 rfl rfl ?_
      refine x_get (pc2 := 18) C fl_X9_19 hk0 (by decide) rfl dX9_goBack_15 rfl ?_
      refine x_iload_n (pc2 := 19) C dX9_goBack_18 rfl rfl ?_
      refine x_iald (pc2 := 20) C (kf_8_3 hk0) dX9_goBack_19 rfl ?_
      refine x_iast (pc2 := 21) C (kf_8_0 hk0) dX9_goBack_20 rfl (fun M11 => ?_)
      refine x_iinc (pc2 := 24) (v := b1 + 1) C dX9_goBack_21 rfl rfl 1 ic_1 rfl [some (rv G this), some (.int (b1 + 1))] rfl rfl ?_
      refine x_goto (tgt := 2) C dX9_goBack_24 (by decide) ?_
      exact x_wk [some (rv G this), some (.int (b1 + 1))] ⟨Or.inr rfl, Or.inr rfl, trivial⟩ (hrec3 (b1 + 1) _)
set_option maxRecDepth 100000 in
set_option maxHeartbeats 4000000 in
theorem ctX9_hundredths {l : Launch} {G : bkG} {M : Mem} {this : Nat} {a1 : Int32} {a2 : Int32} (hk0 : kd this = 8) : ∀ r, fX9_hundredths this a1 a2 M = some r → Met l yX9_hundredths (Cond.code yX9_hundredths cX9_hundredths 3 (some .int) :: TT) ({ frames := 2, cells := 0, slots := 0, locals := 43 } : Room) (va_Pc [rv G this, .int a1, .int a2] (Wd G M)) (QQ G ((fun v => some (.int v)) r.1) r.2) 0 0 (An G) := by
  refine mkMet (vl := (fun v => some (.int v))) RX9 rfl (by decide +kernel) rfl (Nat.le_of_ble_eq_true rfl) [some (rv G this), some (.int a1), some (.int a2)] rfl ?_
  intro p e s m args below meth c C _
  refine x_aload_n (pc2 := 1) C dX9_hundredths_0 rfl rfl ?_
  refine x_iload_n (pc2 := 2) C dX9_hundredths_1 rfl rfl ?_
  refine x_callVi (pc2 := 5) C [.int a1] [] cl_X9_86 (fun q hq => ctX9_noTypist hk0 q hq) hk0 rfl rfl rfl ⟨rfl, rfl, Nat.le_of_ble_eq_true rfl, Nat.le_of_ble_eq_true rfl⟩ (Nat.le_of_ble_eq_true rfl) ⟨Nat.zero_le _, Nat.zero_le _⟩ dX9_hundredths_2 rfl (fun v1 M2 => ?_)
  refine x_if_eq (tgt := 10) (pc2 := 8) C dX9_hundredths_5 (by decide) rfl ?_ ?_
  · refine x_iload_n (pc2 := 11) C dX9_hundredths_10 rfl rfl ?_
    refine x_iconst (pc2 := 12) C dX9_hundredths_11 rfl ic_0 ?_
    refine x_iconst (pc2 := 13) C dX9_hundredths_12 rfl ic_1 ?_
    refine x_callSi (pc2 := 16) C [.int a2, .int 0, .int 1] [] cl_X9_68 (fun q hq => ctX9_in  q hq) rfl rfl ⟨rfl, rfl, Nat.le_of_ble_eq_true rfl, Nat.le_of_ble_eq_true rfl⟩ (Nat.le_of_ble_eq_true rfl) ⟨Nat.zero_le _, Nat.zero_le _⟩ dX9_hundredths_13 rfl (fun v3 M4 => ?_)
    refine x_if_eq (tgt := 36) (pc2 := 19) C dX9_hundredths_16 (by decide) rfl ?_ ?_
    · refine x_bipush (pc2 := 38) C dX9_hundredths_36 rfl bc_m2 ?_
      exact x_iret C rfl rfl dX9_hundredths_38
    · refine x_aload_n (pc2 := 20) C dX9_hundredths_19 rfl rfl ?_
      refine x_get (pc2 := 23) C fl_X9_22 hk0 (by decide) rfl dX9_hundredths_20 rfl ?_
      refine x_iconst (pc2 := 24) C dX9_hundredths_23 rfl ic_2 ?_
      refine x_iload_n (pc2 := 25) C dX9_hundredths_24 rfl rfl ?_
      refine x_imul (pc2 := 26) C dX9_hundredths_25 rfl ?_
      refine x_iload_n (pc2 := 27) C dX9_hundredths_26 rfl rfl ?_
      refine x_iadd (pc2 := 28) C dX9_hundredths_27 rfl ?_
      refine x_fald (pc2 := 29) C (kf_8_4 hk0) dX9_hundredths_28 rfl ?_
      refine x_ldcf (pc2 := 31) C wt5_119 dX9_hundredths_29 rfl ?_
      refine x_fmul (pc2 := 32) C dX9_hundredths_31 rfl ?_
      refine x_topf (fun v5 => ?_)
      refine x_f2i (pc2 := 33) C dX9_hundredths_32 rfl ?_
      refine x_goto (tgt := 38) C dX9_hundredths_33 (by decide) ?_
      exact x_iret C rfl rfl dX9_hundredths_38
  · refine x_iconst (pc2 := 9) C dX9_hundredths_8 rfl ic_m1 ?_
    exact x_iret C rfl rfl dX9_hundredths_9
set_option maxRecDepth 100000 in
set_option maxHeartbeats 4000000 in
theorem ctX9_isOn {l : Launch} {G : bkG} {M : Mem} {this : Nat} {a1 : Int32} (hk0 : kd this = 8) : ∀ r, fX9_isOn this a1 M = some r → Met l yX9_isOn (Cond.code yX9_isOn cX9_isOn 3 (some .boolean) :: TT) ({ frames := 1, cells := 0, slots := 0, locals := 21 } : Room) (va_Pc [rv G this, .int a1] (Wd G M)) (QQ G ((fun v => some (.int v)) r.1) r.2) 0 0 (An G) := by
  refine mkMet (vl := (fun v => some (.int v))) RX9 rfl (by decide +kernel) rfl (Nat.le_of_ble_eq_true rfl) [some (rv G this), some (.int a1), none] rfl ?_
  intro p e s m args below meth c C _
  refine x_aload_n (pc2 := 1) C dX9_isOn_0 rfl rfl ?_
  refine x_get (pc2 := 4) C fl_X9_7 hk0 (by decide) rfl dX9_isOn_1 rfl ?_
  refine x_iconst (pc2 := 5) C dX9_isOn_4 rfl ic_5 ?_
  refine x_iload_n (pc2 := 6) C dX9_isOn_5 rfl rfl ?_
  refine x_iadd (pc2 := 7) C dX9_isOn_6 rfl ?_
  refine x_iald (pc2 := 8) C (kf_8_0 hk0) dX9_isOn_7 rfl ?_
  refine x_topi (fun v1 => ?_)
  refine x_istore_n (pc2 := 9) C dX9_isOn_8 rfl [some (rv G this), some (.int a1), some (.int v1)] rfl rfl ?_
  refine x_iload_n (pc2 := 10) C dX9_isOn_9 rfl rfl ?_
  refine x_if_lt (tgt := 37) (pc2 := 13) C dX9_isOn_10 (by decide) rfl ?_ ?_
  · refine x_iconst (pc2 := 38) C dX9_isOn_37 rfl ic_0 ?_
    exact x_zret C rfl rfl rfl dX9_isOn_38
  · refine x_aload_n (pc2 := 14) C dX9_isOn_13 rfl rfl ?_
    refine x_iload_n (pc2 := 15) C dX9_isOn_14 rfl rfl ?_
    refine x_callVi (pc2 := 18) C [.int v1] [] cl_X9_76 (fun q hq => ctX9_isSeen hk0 q hq) hk0 rfl rfl rfl ⟨rfl, rfl, Nat.le_of_ble_eq_true rfl, Nat.le_of_ble_eq_true rfl⟩ (Nat.le_of_ble_eq_true rfl) ⟨Nat.zero_le _, Nat.zero_le _⟩ dX9_isOn_15 rfl (fun v2 M3 => ?_)
    refine x_if_eq (tgt := 37) (pc2 := 21) C dX9_isOn_18 (by decide) rfl ?_ ?_
    · refine x_iconst (pc2 := 38) C dX9_isOn_37 rfl ic_0 ?_
      exact x_zret C rfl rfl rfl dX9_isOn_38
    · refine x_aload_n (pc2 := 22) C dX9_isOn_21 rfl rfl ?_
      refine x_get (pc2 := 25) C fl_X9_7 hk0 (by decide) rfl dX9_isOn_22 rfl ?_
      refine x_bipush (pc2 := 27) C dX9_isOn_25 rfl bc_116 ?_
      refine x_iload_n (pc2 := 28) C dX9_isOn_27 rfl rfl ?_
      refine x_iadd (pc2 := 29) C dX9_isOn_28 rfl ?_
      refine x_iald (pc2 := 30) C (kf_8_0 hk0) dX9_isOn_29 rfl ?_
      refine x_if_ne (tgt := 37) (pc2 := 33) C dX9_isOn_30 (by decide) rfl ?_ ?_
      · refine x_iconst (pc2 := 38) C dX9_isOn_37 rfl ic_0 ?_
        exact x_zret C rfl rfl rfl dX9_isOn_38
      · refine x_iconst (pc2 := 34) C dX9_isOn_33 rfl ic_1 ?_
        refine x_goto (tgt := 38) C dX9_isOn_34 (by decide) ?_
        exact x_zret C rfl rfl rfl dX9_isOn_38
set_option maxRecDepth 100000 in
set_option maxHeartbeats 4000000 in
theorem ctX9_keep {l : Launch} {G : bkG} {M : Mem} {this : Nat} (hk0 : kd this = 8) : ∀ r, fX9_keep this M = some r → Met l yX9_keep (Cond.code yX9_keep cX9_keep 2 (some .int) :: TT) ({ frames := 0, cells := 0, slots := 0, locals := 0 } : Room) (va_Pc [rv G this] (Wd G M)) (QQ G ((fun v => some (.int v)) r.1) r.2) 0 0 (An G) := by
  refine mkMet (vl := (fun v => some (.int v))) RX9 rfl (by decide +kernel) rfl (Nat.le_of_ble_eq_true rfl) [some (rv G this), none] rfl ?_
  intro p e s m args below meth c C _
  refine x_iconst (pc2 := 1) C dX9_keep_0 rfl ic_0 ?_
  refine x_istore_n (pc2 := 2) C dX9_keep_1 rfl [some (rv G this), some (.int 0)] rfl rfl ?_
  refine x_wk [some (rv G this), some (.int 0)] ⟨Or.inr rfl, Or.inr rfl, trivial⟩ ?_
  refine x_lp1 (fun (b1 : Int32) => [some (rv G this), some (.int b1)]) 27 (fun (b4 : Unit) => [some (rv G this), none]) ?_ ?_
  · intro b4 M5
    refine x_iconst (pc2 := 28) C dX9_keep_27 rfl ic_0 ?_
    refine x_istore_n (pc2 := 29) C dX9_keep_28 rfl [some (rv G this), some (.int 0)] rfl rfl ?_
    refine x_wk [some (rv G this), some (.int 0)] ⟨Or.inr rfl, Or.inr rfl, trivial⟩ ?_
    refine x_lp1 (fun (b6 : Int32) => [some (rv G this), some (.int b6)]) 53 (fun (b9 : Unit) => [some (rv G this), none]) ?_ ?_
    · intro b9 M10
      refine x_aload_n (pc2 := 54) C dX9_keep_53 rfl rfl ?_
      refine x_iconst (pc2 := 55) C dX9_keep_54 rfl ic_1 ?_
      refine x_putz (pc2 := 58) C ft_X9_57 hk0 (by decide) hs_8_9 (Nat.le_of_ble_eq_true rfl) dX9_keep_55 rfl (fun M11 => ?_)
      refine x_aload_n (pc2 := 59) C dX9_keep_58 rfl rfl ?_
      refine x_get (pc2 := 62) C fl_X9_7 hk0 (by decide) rfl dX9_keep_59 rfl ?_
      refine x_iconst (pc2 := 63) C dX9_keep_62 rfl ic_2 ?_
      refine x_iald (pc2 := 64) C (kf_8_0 hk0) dX9_keep_63 rfl ?_
      exact x_iret C rfl rfl dX9_keep_64
    · intro k12 hk12 rec8 hrec8 b6 M7
      refine x_iload_n (pc2 := 30) C dX9_keep_29 rfl rfl ?_
      refine x_bipush (pc2 := 32) C dX9_keep_30 rfl bc_7 ?_
      refine x_icmp_ge (tgt := 53) (pc2 := 35) C dX9_keep_32 (by decide) rfl ?_ ?_
      · exact x_wk [some (rv G this), none] ⟨Or.inr rfl, Or.inl rfl, trivial⟩ (hk12 () _)
      · refine x_aload_n (pc2 := 36) C dX9_keep_35 rfl rfl ?_
        refine x_get (pc2 := 39) C fl_X9_29 hk0 (by decide) rfl dX9_keep_36 rfl ?_
        refine x_iload_n (pc2 := 40) C dX9_keep_39 rfl rfl ?_
        refine x_aload_n (pc2 := 41) C dX9_keep_40 rfl rfl ?_
        refine x_get (pc2 := 44) C fl_X9_22 hk0 (by decide) rfl dX9_keep_41 rfl ?_
        refine x_iload_n (pc2 := 45) C dX9_keep_44 rfl rfl ?_
        refine x_fald (pc2 := 46) C (kf_8_4 hk0) dX9_keep_45 rfl ?_
        refine x_fast (pc2 := 47) C (kf_8_6 hk0) dX9_keep_46 rfl (fun M13 => ?_)
        refine x_iinc (pc2 := 50) (v := b6 + 1) C dX9_keep_47 rfl rfl 1 ic_1 rfl [some (rv G this), some (.int (b6 + 1))] rfl rfl ?_
        refine x_goto (tgt := 29) C dX9_keep_50 (by decide) ?_
        exact x_wk [some (rv G this), some (.int (b6 + 1))] ⟨Or.inr rfl, Or.inr rfl, trivial⟩ (hrec8 (b6 + 1) _)
  · intro k14 hk14 rec3 hrec3 b1 M2
    refine x_iload_n (pc2 := 3) C dX9_keep_2 rfl rfl ?_
    refine x_sipush (pc2 := 6) C dX9_keep_3 rfl sc_592 ?_
    refine x_icmp_ge (tgt := 27) (pc2 := 9) C dX9_keep_6 (by decide) rfl ?_ ?_
    · exact x_wk [some (rv G this), none] ⟨Or.inr rfl, Or.inl rfl, trivial⟩ (hk14 () _)
    · refine x_aload_n (pc2 := 10) C dX9_keep_9 rfl rfl ?_
      refine x_get (pc2 := 13) C fl_X9_16 hk0 (by decide) rfl dX9_keep_10 rfl ?_
      refine x_iload_n (pc2 := 14) C dX9_keep_13 rfl rfl ?_
      refine x_aload_n (pc2 := 15) C dX9_keep_14 rfl rfl ?_
      refine x_get (pc2 := 18) C fl_X9_7 hk0 (by decide) rfl dX9_keep_15 rfl ?_
      refine x_iload_n (pc2 := 19) C dX9_keep_18 rfl rfl ?_
      refine x_iald (pc2 := 20) C (kf_8_0 hk0) dX9_keep_19 rfl ?_
      refine x_iast (pc2 := 21) C (kf_8_2 hk0) dX9_keep_20 rfl (fun M15 => ?_)
      refine x_iinc (pc2 := 24) (v := b1 + 1) C dX9_keep_21 rfl rfl 1 ic_1 rfl [some (rv G this), some (.int (b1 + 1))] rfl rfl ?_
      refine x_goto (tgt := 2) C dX9_keep_24 (by decide) ?_
      exact x_wk [some (rv G this), some (.int (b1 + 1))] ⟨Or.inr rfl, Or.inr rfl, trivial⟩ (hrec3 (b1 + 1) _)
set_option maxRecDepth 100000 in
set_option maxHeartbeats 4000000 in
theorem ctX9_key {l : Launch} {G : bkG} {M : Mem} {this : Nat} {a1 : Int32} {a2 : Int32} (hk0 : kd this = 8) : ∀ r, fX9_key this a1 a2 M = some r → Met l yX9_key (Cond.code yX9_key cX9_key 3 (some .int) :: TT) ({ frames := 3, cells := 0, slots := 0, locals := 70 } : Room) (va_Pc [rv G this, .int a1, .int a2] (Wd G M)) (QQ G ((fun v => some (.int v)) r.1) r.2) 0 0 (An G) := by
  refine mkMet (vl := (fun v => some (.int v))) RX9 rfl (by decide +kernel) rfl (Nat.le_of_ble_eq_true rfl) [some (rv G this), some (.int a1), some (.int a2)] rfl ?_
  intro p e s m args below meth c C _
  refine x_aload_n (pc2 := 1) C dX9_key_0 rfl rfl ?_
  refine x_iload_n (pc2 := 2) C dX9_key_1 rfl rfl ?_
  refine x_callVi (pc2 := 5) C [.int a1] [] cl_X9_79 (fun q hq => ctX9_noKey hk0 q hq) hk0 rfl rfl rfl ⟨rfl, rfl, Nat.le_of_ble_eq_true rfl, Nat.le_of_ble_eq_true rfl⟩ (Nat.le_of_ble_eq_true rfl) ⟨Nat.zero_le _, Nat.zero_le _⟩ dX9_key_2 rfl (fun v1 M2 => ?_)
  refine x_if_eq (tgt := 10) (pc2 := 8) C dX9_key_5 (by decide) rfl ?_ ?_
  · refine x_iload_n (pc2 := 11) C dX9_key_10 rfl rfl ?_
    refine x_ite (fun hs3 => ?_) (fun hs3 => ?_)
    · refine x_tin (tgt := 52) C hs3 dX9_key_11 (by decide) (by decide) rfl (by decide) ?_
      refine x_aload_n (pc2 := 53) C dX9_key_52 rfl rfl ?_
      refine x_get (pc2 := 56) C fl_X9_7 hk0 (by decide) rfl dX9_key_53 rfl ?_
      refine x_bipush (pc2 := 58) C dX9_key_56 rfl bc_20 ?_
      refine x_iload_n (pc2 := 59) C dX9_key_58 rfl rfl ?_
      refine x_iadd (pc2 := 60) C dX9_key_59 rfl ?_
      refine x_iald (pc2 := 61) C (kf_8_0 hk0) dX9_key_60 rfl ?_
      exact x_iret C rfl rfl dX9_key_61
    · refine x_ite (fun hs4 => ?_) (fun hs4 => ?_)
      · refine x_tin (tgt := 62) C hs4 dX9_key_11 (by decide) (by decide) rfl (by decide) ?_
        refine x_aload_n (pc2 := 63) C dX9_key_62 rfl rfl ?_
        refine x_iload_n (pc2 := 64) C dX9_key_63 rfl rfl ?_
        refine x_callVi (pc2 := 67) C [.int a1] [] cl_X9_76 (fun q hq => ctX9_isSeen hk0 q hq) hk0 rfl rfl rfl ⟨rfl, rfl, Nat.le_of_ble_eq_true rfl, Nat.le_of_ble_eq_true rfl⟩ (Nat.le_of_ble_eq_true rfl) ⟨Nat.zero_le _, Nat.zero_le _⟩ dX9_key_64 rfl (fun v5 M6 => ?_)
        refine x_if_eq (tgt := 74) (pc2 := 70) C dX9_key_67 (by decide) rfl ?_ ?_
        · refine x_iconst (pc2 := 75) C dX9_key_74 rfl ic_0 ?_
          exact x_iret C rfl rfl dX9_key_75
        · refine x_iconst (pc2 := 71) C dX9_key_70 rfl ic_1 ?_
          refine x_goto (tgt := 75) C dX9_key_71 (by decide) ?_
          exact x_iret C rfl rfl dX9_key_75
      · refine x_ite (fun hs7 => ?_) (fun hs7 => ?_)
        · refine x_tin (tgt := 76) C hs7 dX9_key_11 (by decide) (by decide) rfl (by decide) ?_
          refine x_aload_n (pc2 := 77) C dX9_key_76 rfl rfl ?_
          refine x_get (pc2 := 80) C fl_X9_7 hk0 (by decide) rfl dX9_key_77 rfl ?_
          refine x_bipush (pc2 := 82) C dX9_key_80 rfl bc_68 ?_
          refine x_iload_n (pc2 := 83) C dX9_key_82 rfl rfl ?_
          refine x_iadd (pc2 := 84) C dX9_key_83 rfl ?_
          refine x_iald (pc2 := 85) C (kf_8_0 hk0) dX9_key_84 rfl ?_
          exact x_iret C rfl rfl dX9_key_85
        · refine x_ite (fun hs8 => ?_) (fun hs8 => ?_)
          · refine x_tin (tgt := 86) C hs8 dX9_key_11 (by decide) (by decide) rfl (by decide) ?_
            refine x_aload_n (pc2 := 87) C dX9_key_86 rfl rfl ?_
            refine x_iload_n (pc2 := 88) C dX9_key_87 rfl rfl ?_
            refine x_callVi (pc2 := 91) C [.int a1] [] cl_X9_76 (fun q hq => ctX9_isSeen hk0 q hq) hk0 rfl rfl rfl ⟨rfl, rfl, Nat.le_of_ble_eq_true rfl, Nat.le_of_ble_eq_true rfl⟩ (Nat.le_of_ble_eq_true rfl) ⟨Nat.zero_le _, Nat.zero_le _⟩ dX9_key_88 rfl (fun v9 M10 => ?_)
            refine x_if_eq (tgt := 106) (pc2 := 94) C dX9_key_91 (by decide) rfl ?_ ?_
            · refine x_iconst (pc2 := 107) C dX9_key_106 rfl ic_0 ?_
              exact x_iret C rfl rfl dX9_key_107
            · refine x_aload_n (pc2 := 95) C dX9_key_94 rfl rfl ?_
              refine x_get (pc2 := 98) C fl_X9_7 hk0 (by decide) rfl dX9_key_95 rfl ?_
              refine x_bipush (pc2 := 100) C dX9_key_98 rfl bc_116 ?_
              refine x_iload_n (pc2 := 101) C dX9_key_100 rfl rfl ?_
              refine x_iadd (pc2 := 102) C dX9_key_101 rfl ?_
              refine x_iald (pc2 := 103) C (kf_8_0 hk0) dX9_key_102 rfl ?_
              refine x_goto (tgt := 107) C dX9_key_103 (by decide) ?_
              exact x_iret C rfl rfl dX9_key_107
          · refine x_ite (fun hs11 => ?_) (fun hs11 => ?_)
            · refine x_tin (tgt := 108) C hs11 dX9_key_11 (by decide) (by decide) rfl (by decide) ?_
              refine x_aload_n (pc2 := 109) C dX9_key_108 rfl rfl ?_
              refine x_get (pc2 := 112) C fl_X9_7 hk0 (by decide) rfl dX9_key_109 rfl ?_
              refine x_sipush (pc2 := 115) C dX9_key_112 rfl sc_260 ?_
              refine x_iload_n (pc2 := 116) C dX9_key_115 rfl rfl ?_
              refine x_iadd (pc2 := 117) C dX9_key_116 rfl ?_
              refine x_iald (pc2 := 118) C (kf_8_0 hk0) dX9_key_117 rfl ?_
              exact x_iret C rfl rfl dX9_key_118
            · refine x_ite (fun hs12 => ?_) (fun hs12 => ?_)
              · refine x_tin (tgt := 119) C hs12 dX9_key_11 (by decide) (by decide) rfl (by decide) ?_
                refine x_aload_n (pc2 := 120) C dX9_key_119 rfl rfl ?_
                refine x_iload_n (pc2 := 121) C dX9_key_120 rfl rfl ?_
                refine x_callVi (pc2 := 124) C [.int a1] [] cl_X9_82 (fun q hq => ctX9_shiftOf hk0 q hq) hk0 rfl rfl rfl ⟨rfl, rfl, Nat.le_of_ble_eq_true rfl, Nat.le_of_ble_eq_true rfl⟩ (Nat.le_of_ble_eq_true rfl) ⟨Nat.zero_le _, Nat.zero_le _⟩ dX9_key_121 rfl (fun v13 M14 => ?_)
                exact x_iret C rfl rfl dX9_key_124
              · refine x_ite (fun hs15 => ?_) (fun hs15 => ?_)
                · refine x_tin (tgt := 125) C hs15 dX9_key_11 (by decide) (by decide) rfl (by decide) ?_
                  refine x_aload_n (pc2 := 126) C dX9_key_125 rfl rfl ?_
                  refine x_iload_n (pc2 := 127) C dX9_key_126 rfl rfl ?_
                  refine x_callVi (pc2 := 130) C [.int a1] [] cl_X9_191 (fun q hq => ctX9_wouldSense hk0 q hq) hk0 rfl rfl rfl ⟨rfl, rfl, Nat.le_of_ble_eq_true rfl, Nat.le_of_ble_eq_true rfl⟩ (Nat.le_of_ble_eq_true rfl) ⟨Nat.zero_le _, Nat.zero_le _⟩ dX9_key_127 rfl (fun v16 M17 => ?_)
                  refine x_if_eq (tgt := 137) (pc2 := 133) C dX9_key_130 (by decide) rfl ?_ ?_
                  · refine x_iconst (pc2 := 138) C dX9_key_137 rfl ic_0 ?_
                    exact x_iret C rfl rfl dX9_key_138
                  · refine x_iconst (pc2 := 134) C dX9_key_133 rfl ic_1 ?_
                    refine x_goto (tgt := 138) C dX9_key_134 (by decide) ?_
                    exact x_iret C rfl rfl dX9_key_138
                · refine x_tout (tgt := 139) C dX9_key_11 (by have t0 := lv_neT (a := 0) hs3 rfl; have t1 := lv_neT (a := 1) hs4 rfl; have t2 := lv_neT (a := 2) hs7 rfl; have t3 := lv_neT (a := 3) hs8 rfl; have t4 := lv_neT (a := 4) hs11 rfl; have t5 := lv_neT (a := 5) hs12 rfl; have t6 := lv_neT (a := 6) hs15 rfl; omega) (by decide) ?_
                  refine x_bipush (pc2 := 141) C dX9_key_139 rfl bc_m2 ?_
                  exact x_iret C rfl rfl dX9_key_141
  · refine x_iconst (pc2 := 9) C dX9_key_8 rfl ic_m1 ?_
    exact x_iret C rfl rfl dX9_key_9
set_option maxRecDepth 100000 in
set_option maxHeartbeats 4000000 in
theorem ctX9_sees {l : Launch} {G : bkG} {M : Mem} {this : Nat} {a1 : Int32} {a2 : Int32} (hk0 : kd this = 8) : ∀ r, fX9_sees this a1 a2 M = some r → Met l yX9_sees (Cond.code yX9_sees cX9_sees 3 (some .boolean) :: TT) ({ frames := 1, cells := 0, slots := 0, locals := 22 } : Room) (va_Pc [rv G this, .int a1, .int a2] (Wd G M)) (QQ G ((fun v => some (.int v)) r.1) r.2) 0 0 (An G) := by
  refine mkMet (vl := (fun v => some (.int v))) RX9 rfl (by decide +kernel) rfl (Nat.le_of_ble_eq_true rfl) [some (rv G this), some (.int a1), some (.int a2)] rfl ?_
  intro p e s m args below meth c C _
  refine x_aload_n (pc2 := 1) C dX9_sees_0 rfl rfl ?_
  refine x_get (pc2 := 4) C fl_X9_171 hk0 (by decide) rfl dX9_sees_1 rfl ?_
  refine x_aload_n (pc2 := 5) C dX9_sees_4 rfl rfl ?_
  refine x_get (pc2 := 8) C fl_X9_168 hk0 (by decide) rfl dX9_sees_5 rfl ?_
  refine x_icmp_ge (tgt := 32) (pc2 := 11) C dX9_sees_8 (by decide) rfl ?_ ?_
  · refine x_iconst (pc2 := 33) C dX9_sees_32 rfl ic_0 ?_
    exact x_zret C rfl rfl rfl dX9_sees_33
  · refine x_aload_n (pc2 := 12) C dX9_sees_11 rfl rfl ?_
    refine x_get (pc2 := 15) C fl_X9_35 hk0 (by decide) rfl dX9_sees_12 rfl ?_
    refine x_aload_n (pc2 := 16) C dX9_sees_15 rfl rfl ?_
    refine x_get (pc2 := 19) C fl_X9_171 hk0 (by decide) rfl dX9_sees_16 rfl ?_
    refine x_cald (pc2 := 20) C (kf_8_10 hk0) dX9_sees_19 rfl ?_
    refine x_iload_n (pc2 := 21) C dX9_sees_20 rfl rfl ?_
    refine x_iload_n (pc2 := 22) C dX9_sees_21 rfl rfl ?_
    refine x_callSi (pc2 := 25) C [.int (M.1 (this + 9) (M.1 this 12).toNatClampNeg), .int a1, .int a2] [] cl_X9_68 (fun q hq => ctX9_in  q hq) rfl rfl ⟨rfl, rfl, Nat.le_of_ble_eq_true rfl, Nat.le_of_ble_eq_true rfl⟩ (Nat.le_of_ble_eq_true rfl) ⟨Nat.zero_le _, Nat.zero_le _⟩ dX9_sees_22 rfl (fun v1 M2 => ?_)
    refine x_if_eq (tgt := 32) (pc2 := 28) C dX9_sees_25 (by decide) rfl ?_ ?_
    · refine x_iconst (pc2 := 33) C dX9_sees_32 rfl ic_0 ?_
      exact x_zret C rfl rfl rfl dX9_sees_33
    · refine x_iconst (pc2 := 29) C dX9_sees_28 rfl ic_1 ?_
      refine x_goto (tgt := 33) C dX9_sees_29 (by decide) ?_
      exact x_zret C rfl rfl rfl dX9_sees_33
set_option maxRecDepth 100000 in
set_option maxHeartbeats 4000000 in
theorem ctX9_readsNumber {l : Launch} {G : bkG} {M : Mem} {this : Nat} {a1 : Int32} (hk0 : kd this = 8) : ∀ r, fX9_readsNumber this a1 M = some r → Met l yX9_readsNumber (Cond.code yX9_readsNumber cX9_readsNumber 3 (some .int) :: TT) ({ frames := 2, cells := 0, slots := 0, locals := 44 } : Room) (va_Pc [rv G this, .int a1] (Wd G M)) (QQ G ((fun v => some (.int v)) r.1) r.2) 0 0 (An G) := by
  refine mkMet (vl := (fun v => some (.int v))) RX9 rfl (by decide +kernel) rfl (Nat.le_of_ble_eq_true rfl) [some (rv G this), some (.int a1), none] rfl ?_
  intro p e s m args below meth c C _
  refine x_aload_n (pc2 := 1) C dX9_readsNumber_0 rfl rfl ?_
  refine x_bipush (pc2 := 3) C dX9_readsNumber_1 rfl bc_48 ?_
  refine x_iload_n (pc2 := 4) C dX9_readsNumber_3 rfl rfl ?_
  refine x_iadd (pc2 := 5) C dX9_readsNumber_4 rfl ?_
  refine x_bipush (pc2 := 7) C dX9_readsNumber_5 rfl bc_57 ?_
  refine x_callVi (pc2 := 10) C [.int (48 + a1), .int 57] [] cl_X9_174 (fun q hq => ctX9_sees hk0 q hq) hk0 rfl rfl rfl ⟨rfl, rfl, Nat.le_of_ble_eq_true rfl, Nat.le_of_ble_eq_true rfl⟩ (Nat.le_of_ble_eq_true rfl) ⟨Nat.zero_le _, Nat.zero_le _⟩ dX9_readsNumber_7 rfl (fun v1 M2 => ?_)
  refine x_if_ne (tgt := 15) (pc2 := 13) C dX9_readsNumber_10 (by decide) rfl ?_ ?_
  · refine x_aload_n (pc2 := 16) C dX9_readsNumber_15 rfl rfl ?_
    refine x_get (pc2 := 19) C fl_X9_35 hk0 (by decide) rfl dX9_readsNumber_16 rfl ?_
    refine x_aload_n (pc2 := 20) C dX9_readsNumber_19 rfl rfl ?_
    refine x_get (pc2 := 23) C fl_X9_171 hk0 (by decide) rfl dX9_readsNumber_20 rfl ?_
    refine x_cald (pc2 := 24) C (kf_8_10 hk0) dX9_readsNumber_23 rfl ?_
    refine x_bipush (pc2 := 26) C dX9_readsNumber_24 rfl bc_48 ?_
    refine x_isub (pc2 := 27) C dX9_readsNumber_26 rfl ?_
    refine x_topi (fun v3 => ?_)
    refine x_istore_n (pc2 := 28) C dX9_readsNumber_27 rfl [some (rv G this), some (.int a1), some (.int v3)] rfl rfl ?_
    refine x_aload_n (pc2 := 29) C dX9_readsNumber_28 rfl rfl ?_
    refine x_dup (pc2 := 30) C dX9_readsNumber_29 rfl rfl ?_
    refine x_get (pc2 := 33) C fl_X9_171 hk0 (by decide) rfl dX9_readsNumber_30 rfl ?_
    refine x_iconst (pc2 := 34) C dX9_readsNumber_33 rfl ic_1 ?_
    refine x_iadd (pc2 := 35) C dX9_readsNumber_34 rfl ?_
    refine x_puti (pc2 := 38) C ft_X9_171 hk0 (by decide) hs_8_12 (Nat.le_of_ble_eq_true rfl) dX9_readsNumber_35 rfl (fun M4 => ?_)
    refine x_iload_n (pc2 := 39) C dX9_readsNumber_38 rfl rfl ?_
    refine x_if_le (tgt := 81) (pc2 := 42) C dX9_readsNumber_39 (by decide) rfl ?_ ?_
    · refine x_iload_n (pc2 := 82) C dX9_readsNumber_81 rfl rfl ?_
      exact x_iret C rfl rfl dX9_readsNumber_82
    · refine x_aload_n (pc2 := 43) C dX9_readsNumber_42 rfl rfl ?_
      refine x_bipush (pc2 := 45) C dX9_readsNumber_43 rfl bc_48 ?_
      refine x_bipush (pc2 := 47) C dX9_readsNumber_45 rfl bc_57 ?_
      refine x_callVi (pc2 := 50) C [.int 48, .int 57] [] cl_X9_174 (fun q hq => ctX9_sees hk0 q hq) hk0 rfl rfl rfl ⟨rfl, rfl, Nat.le_of_ble_eq_true rfl, Nat.le_of_ble_eq_true rfl⟩ (Nat.le_of_ble_eq_true rfl) ⟨Nat.zero_le _, Nat.zero_le _⟩ dX9_readsNumber_47 rfl (fun v5 M6 => ?_)
      refine x_if_eq (tgt := 81) (pc2 := 53) C dX9_readsNumber_50 (by decide) rfl ?_ ?_
      · refine x_iload_n (pc2 := 82) C dX9_readsNumber_81 rfl rfl ?_
        exact x_iret C rfl rfl dX9_readsNumber_82
      · refine x_bipush (pc2 := 55) C dX9_readsNumber_53 rfl bc_10 ?_
        refine x_iload_n (pc2 := 56) C dX9_readsNumber_55 rfl rfl ?_
        refine x_imul (pc2 := 57) C dX9_readsNumber_56 rfl ?_
        refine x_aload_n (pc2 := 58) C dX9_readsNumber_57 rfl rfl ?_
        refine x_get (pc2 := 61) C fl_X9_35 hk0 (by decide) rfl dX9_readsNumber_58 rfl ?_
        refine x_aload_n (pc2 := 62) C dX9_readsNumber_61 rfl rfl ?_
        refine x_get (pc2 := 65) C fl_X9_171 hk0 (by decide) rfl dX9_readsNumber_62 rfl ?_
        refine x_cald (pc2 := 66) C (kf_8_10 hk0) dX9_readsNumber_65 rfl ?_
        refine x_iadd (pc2 := 67) C dX9_readsNumber_66 rfl ?_
        refine x_bipush (pc2 := 69) C dX9_readsNumber_67 rfl bc_48 ?_
        refine x_isub (pc2 := 70) C dX9_readsNumber_69 rfl ?_
        refine x_topi (fun v7 => ?_)
        refine x_istore_n (pc2 := 71) C dX9_readsNumber_70 rfl [some (rv G this), some (.int a1), some (.int v7)] rfl rfl ?_
        refine x_aload_n (pc2 := 72) C dX9_readsNumber_71 rfl rfl ?_
        refine x_dup (pc2 := 73) C dX9_readsNumber_72 rfl rfl ?_
        refine x_get (pc2 := 76) C fl_X9_171 hk0 (by decide) rfl dX9_readsNumber_73 rfl ?_
        refine x_iconst (pc2 := 77) C dX9_readsNumber_76 rfl ic_1 ?_
        refine x_iadd (pc2 := 78) C dX9_readsNumber_77 rfl ?_
        refine x_puti (pc2 := 81) C ft_X9_171 hk0 (by decide) hs_8_12 (Nat.le_of_ble_eq_true rfl) dX9_readsNumber_78 rfl (fun M8 => ?_)
        refine x_iload_n (pc2 := 82) C dX9_readsNumber_81 rfl rfl ?_
        exact x_iret C rfl rfl dX9_readsNumber_82
  · refine x_iconst (pc2 := 14) C dX9_readsNumber_13 rfl ic_m1 ?_
    exact x_iret C rfl rfl dX9_readsNumber_14
set_option maxRecDepth 100000 in
set_option maxHeartbeats 4000000 in
theorem ctX9_step {l : Launch} {G : bkG} {M : Mem} {this : Nat} (hk0 : kd this = 8) : ∀ r, fX9_step this M = some r → Met l yX9_step (Cond.code yX9_step cX9_step 7 (some .int) :: TT) ({ frames := 4, cells := 0, slots := 0, locals := 106 } : Room) (va_Pc [rv G this] (Wd G M)) (QQ G ((fun v => some (.int v)) r.1) r.2) 0 0 (An G) := by
  refine mkMet (vl := (fun v => some (.int v))) RX9 rfl (by decide +kernel) rfl (Nat.le_of_ble_eq_true rfl) [some (rv G this), none, none, none, none, none, none] rfl ?_
  intro p e s m args below meth c C _
  refine x_aload_n (pc2 := 1) C dX9_step_0 rfl rfl ?_
  refine x_get (pc2 := 4) C fl_X9_7 hk0 (by decide) rfl dX9_step_1 rfl ?_
  refine x_iconst (pc2 := 5) C dX9_step_4 rfl ic_1 ?_
  refine x_iald (pc2 := 6) C (kf_8_0 hk0) dX9_step_5 rfl ?_
  refine x_topi (fun v1 => ?_)
  refine x_istore_n (pc2 := 7) C dX9_step_6 rfl [some (rv G this), some (.int v1), none, none, none, none, none] rfl rfl ?_
  refine x_aload_n (pc2 := 8) C dX9_step_7 rfl rfl ?_
  refine x_get (pc2 := 11) C fl_X9_7 hk0 (by decide) rfl dX9_step_8 rfl ?_
  refine x_iconst (pc2 := 12) C dX9_step_11 rfl ic_2 ?_
  refine x_iald (pc2 := 13) C (kf_8_0 hk0) dX9_step_12 rfl ?_
  refine x_aload_n (pc2 := 14) C dX9_step_13 rfl rfl ?_
  refine x_get (pc2 := 17) C fl_X9_7 hk0 (by decide) rfl dX9_step_14 rfl ?_
  refine x_iconst (pc2 := 18) C dX9_step_17 rfl ic_0 ?_
  refine x_iald (pc2 := 19) C (kf_8_0 hk0) dX9_step_18 rfl ?_
  refine x_irem (pc2 := 20) C dX9_step_19 rfl ?_
  refine x_iload_n (pc2 := 21) C dX9_step_20 rfl rfl ?_
  refine x_imul (pc2 := 22) C dX9_step_21 rfl ?_
  refine x_topi (fun v2 => ?_)
  refine x_istore_n (pc2 := 23) C dX9_step_22 rfl [some (rv G this), some (.int v1), some (.int v2), none, none, none, none] rfl rfl ?_
  refine x_aload_n (pc2 := 24) C dX9_step_23 rfl rfl ?_
  refine x_iload_n (pc2 := 25) C dX9_step_24 rfl rfl ?_
  refine x_iload_n (pc2 := 26) C dX9_step_25 rfl rfl ?_
  refine x_idiv (pc2 := 27) C dX9_step_26 rfl ?_
  refine x_callVv (pc2 := 30) C [.int (v2 / v1)] [] cl_X9_107 (fun q hq => ctX9_drive hk0 q hq) hk0 rfl rfl rfl ⟨rfl, rfl, Nat.le_of_ble_eq_true rfl, Nat.le_of_ble_eq_true rfl⟩ (Nat.le_of_ble_eq_true rfl) ⟨Nat.zero_le _, Nat.zero_le _⟩ dX9_step_27 rfl (fun v3 M4 => ?_)
  refine x_aload_n (pc2 := 31) C dX9_step_30 rfl rfl ?_
  refine x_get (pc2 := 34) C fl_X9_104 hk0 (by decide) rfl dX9_step_31 rfl ?_
  refine x_istore_n (pc2 := 35) C dX9_step_34 rfl [some (rv G this), some (.int v1), some (.int v2), some (.int (M4.1 this 13)), none, none, none] rfl rfl ?_
  refine x_iconst (pc2 := 36) C dX9_step_35 rfl ic_0 ?_
  refine x_istore (pc2 := 38) C dX9_step_36 rfl [some (rv G this), some (.int v1), some (.int v2), some (.int (M4.1 this 13)), some (.int 0), none, none] rfl rfl ?_
  refine x_iconst (pc2 := 39) C dX9_step_38 rfl ic_0 ?_
  refine x_istore (pc2 := 41) C dX9_step_39 rfl [some (rv G this), some (.int v1), some (.int v2), some (.int (M4.1 this 13)), some (.int 0), some (.int 0), none] rfl rfl ?_
  refine x_iconst (pc2 := 42) C dX9_step_41 rfl ic_0 ?_
  refine x_istore (pc2 := 44) C dX9_step_42 rfl [some (rv G this), some (.int v1), some (.int v2), some (.int (M4.1 this 13)), some (.int 0), some (.int 0), some (.int 0)] rfl rfl ?_
  refine x_wk [some (rv G this), some (.int v1), some (.int v2), some (.int (M4.1 this 13)), some (.int 0), some (.int 0), some (.int 0)] ⟨Or.inr rfl, Or.inr rfl, Or.inr rfl, Or.inr rfl, Or.inr rfl, Or.inr rfl, Or.inr rfl, trivial⟩ ?_
  refine x_lp1 (fun (b5 : Int32 × Int32) => [some (rv G this), some (.int v1), some (.int v2), some (.int (M4.1 this 13)), some (.int b5.1), some (.int 0), some (.int b5.2)]) 87 (fun (b8 : Int32) => [some (rv G this), some (.int v1), some (.int v2), some (.int (M4.1 this 13)), some (.int b8), some (.int 0), none]) ?_ ?_
  · intro b8 M9
    refine x_iconst (pc2 := 88) C dX9_step_87 rfl ic_0 ?_
    refine x_istore (pc2 := 90) C dX9_step_88 rfl [some (rv G this), some (.int v1), some (.int v2), some (.int (M4.1 this 13)), some (.int b8), some (.int 0), some (.int 0)] rfl rfl ?_
    refine x_wk [some (rv G this), some (.int v1), some (.int v2), some (.int (M4.1 this 13)), some (.int b8), some (.int 0), some (.int 0)] ⟨Or.inr rfl, Or.inr rfl, Or.inr rfl, Or.inr rfl, Or.inr rfl, Or.inr rfl, Or.inr rfl, trivial⟩ ?_
    refine x_lp1 (fun (b10 : Int32 × Int32) => [some (rv G this), some (.int v1), some (.int v2), some (.int (M4.1 this 13)), some (.int b8), some (.int b10.1), some (.int b10.2)]) 150 (fun (b13 : Int32) => [some (rv G this), some (.int v1), some (.int v2), none, some (.int b8), some (.int b13), none]) ?_ ?_
    · intro b13 M14
      refine x_iconst (pc2 := 151) C dX9_step_150 rfl ic_0 ?_
      refine x_istore (pc2 := 153) C dX9_step_151 rfl [some (rv G this), some (.int v1), some (.int v2), none, some (.int b8), some (.int b13), some (.int 0)] rfl rfl ?_
      refine x_wk [some (rv G this), some (.int v1), some (.int v2), none, some (.int b8), some (.int b13), some (.int 0)] ⟨Or.inr rfl, Or.inr rfl, Or.inr rfl, Or.inl rfl, Or.inr rfl, Or.inr rfl, Or.inr rfl, trivial⟩ ?_
      refine x_lp1 (fun (b15 : Int32) => [some (rv G this), some (.int v1), some (.int v2), none, some (.int b8), some (.int b13), some (.int b15)]) 204 (fun (b18 : Unit) => [some (rv G this), some (.int v1), some (.int v2), none, some (.int b8), some (.int b13), none]) ?_ ?_
      · intro b18 M19
        refine x_iconst (pc2 := 205) C dX9_step_204 rfl ic_0 ?_
        refine x_istore (pc2 := 207) C dX9_step_205 rfl [some (rv G this), some (.int v1), some (.int v2), none, some (.int b8), some (.int b13), some (.int 0)] rfl rfl ?_
        refine x_wk [some (rv G this), some (.int v1), some (.int v2), none, some (.int b8), some (.int b13), some (.int 0)] ⟨Or.inr rfl, Or.inr rfl, Or.inr rfl, Or.inl rfl, Or.inr rfl, Or.inr rfl, Or.inr rfl, trivial⟩ ?_
        refine x_lp1 (fun (b20 : Int32) => [some (rv G this), some (.int v1), some (.int v2), none, some (.int b8), some (.int b13), some (.int b20)]) 295 (fun (b23 : Unit) => [some (rv G this), none, none, none, some (.int b8), none, none]) ?_ ?_
        · intro b23 M24
          refine x_aload_n (pc2 := 296) C dX9_step_295 rfl rfl ?_
          refine x_get (pc2 := 299) C fl_X9_7 hk0 (by decide) rfl dX9_step_296 rfl ?_
          refine x_iconst (pc2 := 300) C dX9_step_299 rfl ic_2 ?_
          refine x_dup2 (pc2 := 301) C dX9_step_300 rfl rfl rfl ?_
          refine x_iald (pc2 := 302) C (kf_8_0 hk0) dX9_step_301 rfl ?_
          refine x_iconst (pc2 := 303) C dX9_step_302 rfl ic_1 ?_
          refine x_iadd (pc2 := 304) C dX9_step_303 rfl ?_
          refine x_iast (pc2 := 305) C (kf_8_0 hk0) dX9_step_304 rfl (fun M25 => ?_)
          refine x_iload (pc2 := 307) C dX9_step_305 rfl rfl ?_
          exact x_iret C rfl rfl dX9_step_307
        · intro k26 hk26 rec22 hrec22 b20 M21
          refine x_iload (pc2 := 209) C dX9_step_207 rfl rfl ?_
          refine x_iload_n (pc2 := 210) C dX9_step_209 rfl rfl ?_
          refine x_icmp_ge (tgt := 295) (pc2 := 213) C dX9_step_210 (by decide) rfl ?_ ?_
          · exact x_wk [some (rv G this), none, none, none, some (.int b8), none, none] ⟨Or.inr rfl, Or.inl rfl, Or.inl rfl, Or.inl rfl, Or.inr rfl, Or.inl rfl, Or.inl rfl, trivial⟩ (hk26 () _)
          · refine x_iload (pc2 := 215) C dX9_step_213 rfl rfl ?_
            refine x_iload (pc2 := 217) C dX9_step_215 rfl rfl ?_
            refine x_ishr (pc2 := 218) C dX9_step_217 rfl ?_
            refine x_iconst (pc2 := 219) C dX9_step_218 rfl ic_1 ?_
            refine x_iand (pc2 := 220) C dX9_step_219 rfl ?_
            refine x_iconst (pc2 := 221) C dX9_step_220 rfl ic_1 ?_
            refine x_jn 289 (fun (b27 : Unit) => [some (rv G this), some (.int v1), some (.int v2), none, some (.int b8), some (.int b13), some (.int b20)]) (fun (b27 : Unit) => []) ?_ ?_
            · intro b27 M29
              refine x_iinc (pc2 := 292) (v := b20 + 1) C dX9_step_289 rfl rfl 1 ic_1 rfl [some (rv G this), some (.int v1), some (.int v2), none, some (.int b8), some (.int b13), some (.int (b20 + 1))] rfl rfl ?_
              refine x_goto (tgt := 207) C dX9_step_292 (by decide) ?_
              exact x_wk [some (rv G this), some (.int v1), some (.int v2), none, some (.int b8), some (.int b13), some (.int (b20 + 1))] ⟨Or.inr rfl, Or.inr rfl, Or.inr rfl, Or.inl rfl, Or.inr rfl, Or.inr rfl, Or.inr rfl, trivial⟩ (hrec22 (b20 + 1) _)
            · intro j28 hj28
              refine x_icmp_ne (tgt := 289) (pc2 := 224) C dX9_step_221 (by decide) rfl ?_ ?_
              · exact x_wk [some (rv G this), some (.int v1), some (.int v2), none, some (.int b8), some (.int b13), some (.int b20)] ⟨Or.inr rfl, Or.inr rfl, Or.inr rfl, Or.inl rfl, Or.inr rfl, Or.inr rfl, Or.inr rfl, trivial⟩ (hj28 () _)
              · refine x_aload_n (pc2 := 225) C dX9_step_224 rfl rfl ?_
                refine x_get (pc2 := 228) C fl_X9_7 hk0 (by decide) rfl dX9_step_225 rfl ?_
                refine x_sipush (pc2 := 231) C dX9_step_228 rfl sc_164 ?_
                refine x_iload_n (pc2 := 232) C dX9_step_231 rfl rfl ?_
                refine x_iadd (pc2 := 233) C dX9_step_232 rfl ?_
                refine x_iload (pc2 := 235) C dX9_step_233 rfl rfl ?_
                refine x_iadd (pc2 := 236) C dX9_step_235 rfl ?_
                refine x_aload_n (pc2 := 237) C dX9_step_236 rfl rfl ?_
                refine x_iconst (pc2 := 238) C dX9_step_237 rfl ic_0 ?_
                refine x_callVi (pc2 := 241) C [.int 0] [.int ((164 + v2) + b20), rv G (this + 1)] cl_X9_117 (fun q hq => ctX9_isOn hk0 q hq) hk0 rfl rfl rfl ⟨rfl, rfl, Nat.le_of_ble_eq_true rfl, Nat.le_of_ble_eq_true rfl⟩ (Nat.le_of_ble_eq_true rfl) ⟨Nat.zero_le _, Nat.zero_le _⟩ dX9_step_238 rfl (fun v30 M31 => ?_)
                refine x_jn 249 (fun (b32 : Int32) => [some (rv G this), some (.int v1), some (.int v2), none, some (.int b8), some (.int b13), some (.int b20)]) (fun (b32 : Int32) => [.int b32, .int ((164 + v2) + b20), rv G (this + 1)]) ?_ ?_
                · intro b32 M34
                  refine x_aload_n (pc2 := 250) C dX9_step_249 rfl rfl ?_
                  refine x_iconst (pc2 := 251) C dX9_step_250 rfl ic_1 ?_
                  refine x_callVi (pc2 := 254) C [.int 1] [.int b32, .int ((164 + v2) + b20), rv G (this + 1)] cl_X9_117 (fun q hq => ctX9_isOn hk0 q hq) hk0 rfl rfl rfl ⟨rfl, rfl, Nat.le_of_ble_eq_true rfl, Nat.le_of_ble_eq_true rfl⟩ (Nat.le_of_ble_eq_true rfl) ⟨Nat.zero_le _, Nat.zero_le _⟩ dX9_step_251 rfl (fun v35 M36 => ?_)
                  refine x_jn 262 (fun (b37 : Int32) => [some (rv G this), some (.int v1), some (.int v2), none, some (.int b8), some (.int b13), some (.int b20)]) (fun (b37 : Int32) => [.int b37, .int b32, .int ((164 + v2) + b20), rv G (this + 1)]) ?_ ?_
                  · intro b37 M39
                    refine x_iadd (pc2 := 263) C dX9_step_262 rfl ?_
                    refine x_iast (pc2 := 264) C (kf_8_0 hk0) dX9_step_263 rfl (fun M40 => ?_)
                    refine x_aload_n (pc2 := 265) C dX9_step_264 rfl rfl ?_
                    refine x_get (pc2 := 268) C fl_X9_7 hk0 (by decide) rfl dX9_step_265 rfl ?_
                    refine x_sipush (pc2 := 271) C dX9_step_268 rfl sc_212 ?_
                    refine x_iload_n (pc2 := 272) C dX9_step_271 rfl rfl ?_
                    refine x_iadd (pc2 := 273) C dX9_step_272 rfl ?_
                    refine x_iload (pc2 := 275) C dX9_step_273 rfl rfl ?_
                    refine x_iadd (pc2 := 276) C dX9_step_275 rfl ?_
                    refine x_aload_n (pc2 := 277) C dX9_step_276 rfl rfl ?_
                    refine x_get (pc2 := 280) C fl_X9_7 hk0 (by decide) rfl dX9_step_277 rfl ?_
                    refine x_bipush (pc2 := 282) C dX9_step_280 rfl bc_20 ?_
                    refine x_iload_n (pc2 := 283) C dX9_step_282 rfl rfl ?_
                    refine x_iadd (pc2 := 284) C dX9_step_283 rfl ?_
                    refine x_iload (pc2 := 286) C dX9_step_284 rfl rfl ?_
                    refine x_iadd (pc2 := 287) C dX9_step_286 rfl ?_
                    refine x_iald (pc2 := 288) C (kf_8_0 hk0) dX9_step_287 rfl ?_
                    refine x_iast (pc2 := 289) C (kf_8_0 hk0) dX9_step_288 rfl (fun M41 => ?_)
                    exact x_wk [some (rv G this), some (.int v1), some (.int v2), none, some (.int b8), some (.int b13), some (.int b20)] ⟨Or.inr rfl, Or.inr rfl, Or.inr rfl, Or.inl rfl, Or.inr rfl, Or.inr rfl, Or.inr rfl, trivial⟩ (hj28 () _)
                  · intro j38 hj38
                    refine x_if_eq (tgt := 261) (pc2 := 257) C dX9_step_254 (by decide) rfl ?_ ?_
                    · refine x_iconst (pc2 := 262) C dX9_step_261 rfl ic_0 ?_
                      exact x_wk [some (rv G this), some (.int v1), some (.int v2), none, some (.int b8), some (.int b13), some (.int b20)] ⟨Or.inr rfl, Or.inr rfl, Or.inr rfl, Or.inl rfl, Or.inr rfl, Or.inr rfl, Or.inr rfl, trivial⟩ (hj38 0 _)
                    · refine x_iconst (pc2 := 258) C dX9_step_257 rfl ic_2 ?_
                      refine x_goto (tgt := 262) C dX9_step_258 (by decide) ?_
                      exact x_wk [some (rv G this), some (.int v1), some (.int v2), none, some (.int b8), some (.int b13), some (.int b20)] ⟨Or.inr rfl, Or.inr rfl, Or.inr rfl, Or.inl rfl, Or.inr rfl, Or.inr rfl, Or.inr rfl, trivial⟩ (hj38 2 _)
                · intro j33 hj33
                  refine x_if_eq (tgt := 248) (pc2 := 244) C dX9_step_241 (by decide) rfl ?_ ?_
                  · refine x_iconst (pc2 := 249) C dX9_step_248 rfl ic_0 ?_
                    exact x_wk [some (rv G this), some (.int v1), some (.int v2), none, some (.int b8), some (.int b13), some (.int b20)] ⟨Or.inr rfl, Or.inr rfl, Or.inr rfl, Or.inl rfl, Or.inr rfl, Or.inr rfl, Or.inr rfl, trivial⟩ (hj33 0 _)
                  · refine x_iconst (pc2 := 245) C dX9_step_244 rfl ic_1 ?_
                    refine x_goto (tgt := 249) C dX9_step_245 (by decide) ?_
                    exact x_wk [some (rv G this), some (.int v1), some (.int v2), none, some (.int b8), some (.int b13), some (.int b20)] ⟨Or.inr rfl, Or.inr rfl, Or.inr rfl, Or.inl rfl, Or.inr rfl, Or.inr rfl, Or.inr rfl, trivial⟩ (hj33 1 _)
      · intro k42 hk42 rec17 hrec17 b15 M16
        refine x_iload (pc2 := 155) C dX9_step_153 rfl rfl ?_
        refine x_iload_n (pc2 := 156) C dX9_step_155 rfl rfl ?_
        refine x_icmp_ge (tgt := 204) (pc2 := 159) C dX9_step_156 (by decide) rfl ?_ ?_
        · exact x_wk [some (rv G this), some (.int v1), some (.int v2), none, some (.int b8), some (.int b13), none] ⟨Or.inr rfl, Or.inr rfl, Or.inr rfl, Or.inl rfl, Or.inr rfl, Or.inr rfl, Or.inl rfl, trivial⟩ (hk42 () _)
        · refine x_iload (pc2 := 161) C dX9_step_159 rfl rfl ?_
          refine x_iload (pc2 := 163) C dX9_step_161 rfl rfl ?_
          refine x_ishr (pc2 := 164) C dX9_step_163 rfl ?_
          refine x_iconst (pc2 := 165) C dX9_step_164 rfl ic_1 ?_
          refine x_iand (pc2 := 166) C dX9_step_165 rfl ?_
          refine x_iconst (pc2 := 167) C dX9_step_166 rfl ic_1 ?_
          refine x_jn 198 (fun (b43 : Unit) => [some (rv G this), some (.int v1), some (.int v2), none, some (.int b8), some (.int b13), some (.int b15)]) (fun (b43 : Unit) => []) ?_ ?_
          · intro b43 M45
            refine x_iinc (pc2 := 201) (v := b15 + 1) C dX9_step_198 rfl rfl 1 ic_1 rfl [some (rv G this), some (.int v1), some (.int v2), none, some (.int b8), some (.int b13), some (.int (b15 + 1))] rfl rfl ?_
            refine x_goto (tgt := 153) C dX9_step_201 (by decide) ?_
            exact x_wk [some (rv G this), some (.int v1), some (.int v2), none, some (.int b8), some (.int b13), some (.int (b15 + 1))] ⟨Or.inr rfl, Or.inr rfl, Or.inr rfl, Or.inl rfl, Or.inr rfl, Or.inr rfl, Or.inr rfl, trivial⟩ (hrec17 (b15 + 1) _)
          · intro j44 hj44
            refine x_icmp_ne (tgt := 198) (pc2 := 170) C dX9_step_167 (by decide) rfl ?_ ?_
            · exact x_wk [some (rv G this), some (.int v1), some (.int v2), none, some (.int b8), some (.int b13), some (.int b15)] ⟨Or.inr rfl, Or.inr rfl, Or.inr rfl, Or.inl rfl, Or.inr rfl, Or.inr rfl, Or.inr rfl, trivial⟩ (hj44 () _)
            · refine x_aload_n (pc2 := 171) C dX9_step_170 rfl rfl ?_
              refine x_get (pc2 := 174) C fl_X9_7 hk0 (by decide) rfl dX9_step_171 rfl ?_
              refine x_bipush (pc2 := 176) C dX9_step_174 rfl bc_116 ?_
              refine x_iload_n (pc2 := 177) C dX9_step_176 rfl rfl ?_
              refine x_iadd (pc2 := 178) C dX9_step_177 rfl ?_
              refine x_iload (pc2 := 180) C dX9_step_178 rfl rfl ?_
              refine x_iadd (pc2 := 181) C dX9_step_180 rfl ?_
              refine x_aload_n (pc2 := 182) C dX9_step_181 rfl rfl ?_
              refine x_iload_n (pc2 := 183) C dX9_step_182 rfl rfl ?_
              refine x_iload (pc2 := 185) C dX9_step_183 rfl rfl ?_
              refine x_iadd (pc2 := 186) C dX9_step_185 rfl ?_
              refine x_callVi (pc2 := 189) C [.int (v2 + b15)] [.int ((116 + v2) + b15), rv G (this + 1)] cl_X9_114 (fun q hq => ctX9_closesCorner hk0 q hq) hk0 rfl rfl rfl ⟨rfl, rfl, Nat.le_of_ble_eq_true rfl, Nat.le_of_ble_eq_true rfl⟩ (Nat.le_of_ble_eq_true rfl) ⟨Nat.zero_le _, Nat.zero_le _⟩ dX9_step_186 rfl (fun v46 M47 => ?_)
              refine x_jn 197 (fun (b48 : Int32) => [some (rv G this), some (.int v1), some (.int v2), none, some (.int b8), some (.int b13), some (.int b15)]) (fun (b48 : Int32) => [.int b48, .int ((116 + v2) + b15), rv G (this + 1)]) ?_ ?_
              · intro b48 M50
                refine x_iast (pc2 := 198) C (kf_8_0 hk0) dX9_step_197 rfl (fun M51 => ?_)
                exact x_wk [some (rv G this), some (.int v1), some (.int v2), none, some (.int b8), some (.int b13), some (.int b15)] ⟨Or.inr rfl, Or.inr rfl, Or.inr rfl, Or.inl rfl, Or.inr rfl, Or.inr rfl, Or.inr rfl, trivial⟩ (hj44 () _)
              · intro j49 hj49
                refine x_if_eq (tgt := 196) (pc2 := 192) C dX9_step_189 (by decide) rfl ?_ ?_
                · refine x_iconst (pc2 := 197) C dX9_step_196 rfl ic_0 ?_
                  exact x_wk [some (rv G this), some (.int v1), some (.int v2), none, some (.int b8), some (.int b13), some (.int b15)] ⟨Or.inr rfl, Or.inr rfl, Or.inr rfl, Or.inl rfl, Or.inr rfl, Or.inr rfl, Or.inr rfl, trivial⟩ (hj49 0 _)
                · refine x_iconst (pc2 := 193) C dX9_step_192 rfl ic_1 ?_
                  refine x_goto (tgt := 197) C dX9_step_193 (by decide) ?_
                  exact x_wk [some (rv G this), some (.int v1), some (.int v2), none, some (.int b8), some (.int b13), some (.int b15)] ⟨Or.inr rfl, Or.inr rfl, Or.inr rfl, Or.inl rfl, Or.inr rfl, Or.inr rfl, Or.inr rfl, trivial⟩ (hj49 1 _)
    · intro k52 hk52 rec12 hrec12 b10 M11
      refine x_iload (pc2 := 92) C dX9_step_90 rfl rfl ?_
      refine x_iload_n (pc2 := 93) C dX9_step_92 rfl rfl ?_
      refine x_icmp_ge (tgt := 150) (pc2 := 96) C dX9_step_93 (by decide) rfl ?_ ?_
      · exact x_wk [some (rv G this), some (.int v1), some (.int v2), none, some (.int b8), some (.int b10.1), none] ⟨Or.inr rfl, Or.inr rfl, Or.inr rfl, Or.inl rfl, Or.inr rfl, Or.inr rfl, Or.inl rfl, trivial⟩ (hk52 b10.1 _)
      · refine x_aload_n (pc2 := 97) C dX9_step_96 rfl rfl ?_
        refine x_iload_n (pc2 := 98) C dX9_step_97 rfl rfl ?_
        refine x_iload (pc2 := 100) C dX9_step_98 rfl rfl ?_
        refine x_iadd (pc2 := 101) C dX9_step_100 rfl ?_
        refine x_callVi (pc2 := 104) C [.int (v2 + b10.2)] [] cl_X9_76 (fun q hq => ctX9_isSeen hk0 q hq) hk0 rfl rfl rfl ⟨rfl, rfl, Nat.le_of_ble_eq_true rfl, Nat.le_of_ble_eq_true rfl⟩ (Nat.le_of_ble_eq_true rfl) ⟨Nat.zero_le _, Nat.zero_le _⟩ dX9_step_101 rfl (fun v53 M54 => ?_)
        refine x_jn 144 (fun (b55 : Int32) => [some (rv G this), some (.int v1), some (.int v2), some (.int (M4.1 this 13)), some (.int b8), some (.int b55), some (.int b10.2)]) (fun (b55 : Int32) => []) ?_ ?_
        · intro b55 M57
          refine x_iinc (pc2 := 147) (v := b10.2 + 1) C dX9_step_144 rfl rfl 1 ic_1 rfl [some (rv G this), some (.int v1), some (.int v2), some (.int (M4.1 this 13)), some (.int b8), some (.int b55), some (.int (b10.2 + 1))] rfl rfl ?_
          refine x_goto (tgt := 90) C dX9_step_147 (by decide) ?_
          exact x_wk [some (rv G this), some (.int v1), some (.int v2), some (.int (M4.1 this 13)), some (.int b8), some (.int b55), some (.int (b10.2 + 1))] ⟨Or.inr rfl, Or.inr rfl, Or.inr rfl, Or.inr rfl, Or.inr rfl, Or.inr rfl, Or.inr rfl, trivial⟩ (hrec12 (b55, b10.2 + 1) _)
        · intro j56 hj56
          refine x_if_ne (tgt := 144) (pc2 := 107) C dX9_step_104 (by decide) rfl ?_ ?_
          · exact x_wk [some (rv G this), some (.int v1), some (.int v2), some (.int (M4.1 this 13)), some (.int b8), some (.int b10.1), some (.int b10.2)] ⟨Or.inr rfl, Or.inr rfl, Or.inr rfl, Or.inr rfl, Or.inr rfl, Or.inr rfl, Or.inr rfl, trivial⟩ (hj56 b10.1 _)
          · refine x_iload_n (pc2 := 108) C dX9_step_107 rfl rfl ?_
            refine x_iload (pc2 := 110) C dX9_step_108 rfl rfl ?_
            refine x_ishr (pc2 := 111) C dX9_step_110 rfl ?_
            refine x_iconst (pc2 := 112) C dX9_step_111 rfl ic_1 ?_
            refine x_iand (pc2 := 113) C dX9_step_112 rfl ?_
            refine x_iconst (pc2 := 114) C dX9_step_113 rfl ic_1 ?_
            refine x_icmp_ne (tgt := 144) (pc2 := 117) C dX9_step_114 (by decide) rfl ?_ ?_
            · exact x_wk [some (rv G this), some (.int v1), some (.int v2), some (.int (M4.1 this 13)), some (.int b8), some (.int b10.1), some (.int b10.2)] ⟨Or.inr rfl, Or.inr rfl, Or.inr rfl, Or.inr rfl, Or.inr rfl, Or.inr rfl, Or.inr rfl, trivial⟩ (hj56 b10.1 _)
            · refine x_aload_n (pc2 := 118) C dX9_step_117 rfl rfl ?_
              refine x_get (pc2 := 121) C fl_X9_7 hk0 (by decide) rfl dX9_step_118 rfl ?_
              refine x_bipush (pc2 := 123) C dX9_step_121 rfl bc_68 ?_
              refine x_iload_n (pc2 := 124) C dX9_step_123 rfl rfl ?_
              refine x_iadd (pc2 := 125) C dX9_step_124 rfl ?_
              refine x_iload (pc2 := 127) C dX9_step_125 rfl rfl ?_
              refine x_iadd (pc2 := 128) C dX9_step_127 rfl ?_
              refine x_aload_n (pc2 := 129) C dX9_step_128 rfl rfl ?_
              refine x_get (pc2 := 132) C fl_X9_7 hk0 (by decide) rfl dX9_step_129 rfl ?_
              refine x_iconst (pc2 := 133) C dX9_step_132 rfl ic_2 ?_
              refine x_iald (pc2 := 134) C (kf_8_0 hk0) dX9_step_133 rfl ?_
              refine x_iast (pc2 := 135) C (kf_8_0 hk0) dX9_step_134 rfl (fun M58 => ?_)
              refine x_iload (pc2 := 137) C dX9_step_135 rfl rfl ?_
              refine x_iconst (pc2 := 138) C dX9_step_137 rfl ic_1 ?_
              refine x_iload (pc2 := 140) C dX9_step_138 rfl rfl ?_
              refine x_ishl (pc2 := 141) C dX9_step_140 rfl ?_
              refine x_ior (pc2 := 142) C dX9_step_141 rfl ?_
              refine x_topi (fun v59 => ?_)
              refine x_istore (pc2 := 144) C dX9_step_142 rfl [some (rv G this), some (.int v1), some (.int v2), some (.int (M4.1 this 13)), some (.int b8), some (.int v59), some (.int b10.2)] rfl rfl ?_
              exact x_wk [some (rv G this), some (.int v1), some (.int v2), some (.int (M4.1 this 13)), some (.int b8), some (.int v59), some (.int b10.2)] ⟨Or.inr rfl, Or.inr rfl, Or.inr rfl, Or.inr rfl, Or.inr rfl, Or.inr rfl, Or.inr rfl, trivial⟩ (hj56 v59 _)
  · intro k60 hk60 rec7 hrec7 b5 M6
    refine x_iload (pc2 := 46) C dX9_step_44 rfl rfl ?_
    refine x_iload_n (pc2 := 47) C dX9_step_46 rfl rfl ?_
    refine x_icmp_ge (tgt := 87) (pc2 := 50) C dX9_step_47 (by decide) rfl ?_ ?_
    · exact x_wk [some (rv G this), some (.int v1), some (.int v2), some (.int (M4.1 this 13)), some (.int b5.1), some (.int 0), none] ⟨Or.inr rfl, Or.inr rfl, Or.inr rfl, Or.inr rfl, Or.inr rfl, Or.inr rfl, Or.inl rfl, trivial⟩ (hk60 b5.1 _)
    · refine x_aload_n (pc2 := 51) C dX9_step_50 rfl rfl ?_
      refine x_iload_n (pc2 := 52) C dX9_step_51 rfl rfl ?_
      refine x_iload (pc2 := 54) C dX9_step_52 rfl rfl ?_
      refine x_iadd (pc2 := 55) C dX9_step_54 rfl ?_
      refine x_callVi (pc2 := 58) C [.int (v2 + b5.2)] [] cl_X9_76 (fun q hq => ctX9_isSeen hk0 q hq) hk0 rfl rfl rfl ⟨rfl, rfl, Nat.le_of_ble_eq_true rfl, Nat.le_of_ble_eq_true rfl⟩ (Nat.le_of_ble_eq_true rfl) ⟨Nat.zero_le _, Nat.zero_le _⟩ dX9_step_55 rfl (fun v61 M62 => ?_)
      refine x_jn 81 (fun (b63 : Int32) => [some (rv G this), some (.int v1), some (.int v2), some (.int (M4.1 this 13)), some (.int b63), some (.int 0), some (.int b5.2)]) (fun (b63 : Int32) => []) ?_ ?_
      · intro b63 M65
        refine x_iinc (pc2 := 84) (v := b5.2 + 1) C dX9_step_81 rfl rfl 1 ic_1 rfl [some (rv G this), some (.int v1), some (.int v2), some (.int (M4.1 this 13)), some (.int b63), some (.int 0), some (.int (b5.2 + 1))] rfl rfl ?_
        refine x_goto (tgt := 44) C dX9_step_84 (by decide) ?_
        exact x_wk [some (rv G this), some (.int v1), some (.int v2), some (.int (M4.1 this 13)), some (.int b63), some (.int 0), some (.int (b5.2 + 1))] ⟨Or.inr rfl, Or.inr rfl, Or.inr rfl, Or.inr rfl, Or.inr rfl, Or.inr rfl, Or.inr rfl, trivial⟩ (hrec7 (b63, b5.2 + 1) _)
      · intro j64 hj64
        refine x_if_eq (tgt := 81) (pc2 := 61) C dX9_step_58 (by decide) rfl ?_ ?_
        · exact x_wk [some (rv G this), some (.int v1), some (.int v2), some (.int (M4.1 this 13)), some (.int b5.1), some (.int 0), some (.int b5.2)] ⟨Or.inr rfl, Or.inr rfl, Or.inr rfl, Or.inr rfl, Or.inr rfl, Or.inr rfl, Or.inr rfl, trivial⟩ (hj64 b5.1 _)
        · refine x_iload_n (pc2 := 62) C dX9_step_61 rfl rfl ?_
          refine x_iload (pc2 := 64) C dX9_step_62 rfl rfl ?_
          refine x_ishr (pc2 := 65) C dX9_step_64 rfl ?_
          refine x_iconst (pc2 := 66) C dX9_step_65 rfl ic_1 ?_
          refine x_iand (pc2 := 67) C dX9_step_66 rfl ?_
          refine x_if_ne (tgt := 81) (pc2 := 70) C dX9_step_67 (by decide) rfl ?_ ?_
          · exact x_wk [some (rv G this), some (.int v1), some (.int v2), some (.int (M4.1 this 13)), some (.int b5.1), some (.int 0), some (.int b5.2)] ⟨Or.inr rfl, Or.inr rfl, Or.inr rfl, Or.inr rfl, Or.inr rfl, Or.inr rfl, Or.inr rfl, trivial⟩ (hj64 b5.1 _)
          · refine x_aload_n (pc2 := 71) C dX9_step_70 rfl rfl ?_
            refine x_iload_n (pc2 := 72) C dX9_step_71 rfl rfl ?_
            refine x_iload (pc2 := 74) C dX9_step_72 rfl rfl ?_
            refine x_iadd (pc2 := 75) C dX9_step_74 rfl ?_
            refine x_callVv (pc2 := 78) C [.int (v2 + b5.2)] [] cl_X9_111 (fun q hq => ctX9_endStroke hk0 q hq) hk0 rfl rfl rfl ⟨rfl, rfl, Nat.le_of_ble_eq_true rfl, Nat.le_of_ble_eq_true rfl⟩ (Nat.le_of_ble_eq_true rfl) ⟨Nat.zero_le _, Nat.zero_le _⟩ dX9_step_75 rfl (fun v66 M67 => ?_)
            refine x_iinc (pc2 := 81) (v := b5.1 + 1) C dX9_step_78 rfl rfl 1 ic_1 rfl [some (rv G this), some (.int v1), some (.int v2), some (.int (M4.1 this 13)), some (.int (b5.1 + 1)), some (.int 0), some (.int b5.2)] rfl rfl ?_
            exact x_wk [some (rv G this), some (.int v1), some (.int v2), some (.int (M4.1 this 13)), some (.int (b5.1 + 1)), some (.int 0), some (.int b5.2)] ⟨Or.inr rfl, Or.inr rfl, Or.inr rfl, Or.inr rfl, Or.inr rfl, Or.inr rfl, Or.inr rfl, trivial⟩ (hj64 (b5.1 + 1) _)
set_option maxRecDepth 100000 in
set_option maxHeartbeats 4000000 in
theorem ctX9_steps {l : Launch} {G : bkG} {M : Mem} {this : Nat} {a1 : Int32} (hk0 : kd this = 8) : ∀ r, fX9_steps this a1 M = some r → Met l yX9_steps (Cond.code yX9_steps cX9_steps 4 (some .int) :: TT) ({ frames := 5, cells := 0, slots := 0, locals := 132 } : Room) (va_Pc [rv G this, .int a1] (Wd G M)) (QQ G ((fun v => some (.int v)) r.1) r.2) 0 0 (An G) := by
  refine mkMet (vl := (fun v => some (.int v))) RX9 rfl (by decide +kernel) rfl (Nat.le_of_ble_eq_true rfl) [some (rv G this), some (.int a1), none, none] rfl ?_
  intro p e s m args below meth c C _
  refine x_iconst (pc2 := 1) C dX9_steps_0 rfl ic_0 ?_
  refine x_istore_n (pc2 := 2) C dX9_steps_1 rfl [some (rv G this), some (.int a1), some (.int 0), none] rfl rfl ?_
  refine x_iconst (pc2 := 3) C dX9_steps_2 rfl ic_0 ?_
  refine x_istore_n (pc2 := 4) C dX9_steps_3 rfl [some (rv G this), some (.int a1), some (.int 0), some (.int 0)] rfl rfl ?_
  refine x_wk [some (rv G this), some (.int a1), some (.int 0), some (.int 0)] ⟨Or.inr rfl, Or.inr rfl, Or.inr rfl, Or.inr rfl, trivial⟩ ?_
  refine x_lp (fun (b1 : Int32 × Int32) => [some (rv G this), some (.int a1), some (.int b1.1), some (.int b1.2)]) ?_
  · intro rec3 hrec3 b1 M2
    refine x_iload_n (pc2 := 5) C dX9_steps_4 rfl rfl ?_
    refine x_iload_n (pc2 := 6) C dX9_steps_5 rfl rfl ?_
    refine x_icmp_ge (tgt := 22) (pc2 := 9) C dX9_steps_6 (by decide) rfl ?_ ?_
    · refine x_iload_n (pc2 := 23) C dX9_steps_22 rfl rfl ?_
      exact x_iret C rfl rfl dX9_steps_23
    · refine x_iload_n (pc2 := 10) C dX9_steps_9 rfl rfl ?_
      refine x_aload_n (pc2 := 11) C dX9_steps_10 rfl rfl ?_
      refine x_callVi (pc2 := 14) C [] [.int b1.1] cl_X9_159 (fun q hq => ctX9_step hk0 q hq) hk0 rfl rfl rfl ⟨rfl, rfl, Nat.le_of_ble_eq_true rfl, Nat.le_of_ble_eq_true rfl⟩ (Nat.le_of_ble_eq_true rfl) ⟨Nat.zero_le _, Nat.zero_le _⟩ dX9_steps_11 rfl (fun v4 M5 => ?_)
      refine x_iadd (pc2 := 15) C dX9_steps_14 rfl ?_
      refine x_istore_n (pc2 := 16) C dX9_steps_15 rfl [some (rv G this), some (.int a1), some (.int (b1.1 + v4)), some (.int b1.2)] rfl rfl ?_
      refine x_iinc (pc2 := 19) (v := b1.2 + 1) C dX9_steps_16 rfl rfl 1 ic_1 rfl [some (rv G this), some (.int a1), some (.int (b1.1 + v4)), some (.int (b1.2 + 1))] rfl rfl ?_
      refine x_goto (tgt := 4) C dX9_steps_19 (by decide) ?_
      exact x_wk [some (rv G this), some (.int a1), some (.int (b1.1 + v4)), some (.int (b1.2 + 1))] ⟨Or.inr rfl, Or.inr rfl, Or.inr rfl, Or.inr rfl, trivial⟩ (hrec3 (b1.1 + v4, b1.2 + 1) _)
set_option maxRecDepth 100000 in
set_option maxHeartbeats 4000000 in
theorem ctX9_move {l : Launch} {G : bkG} {M : Mem} {this : Nat} {a1 : Int32} (hk0 : kd this = 8) : ∀ r, fX9_move this a1 M = some r → Met l yX9_move (Cond.code yX9_move cX9_move 6 (some .int) :: TT) ({ frames := 6, cells := 0, slots := 0, locals := 155 } : Room) (va_Pc [rv G this, .int a1] (Wd G M)) (QQ G ((fun v => some (.int v)) r.1) r.2) 0 0 (An G) := by
  refine mkMet (vl := (fun v => some (.int v))) RX9 rfl (by decide +kernel) rfl (Nat.le_of_ble_eq_true rfl) [some (rv G this), some (.int a1), none, none, none, none] rfl ?_
  intro p e s m args below meth c C _
  refine x_aload_n (pc2 := 1) C dX9_move_0 rfl rfl ?_
  refine x_bipush (pc2 := 3) C dX9_move_1 rfl bc_116 ?_
  refine x_bipush (pc2 := 5) C dX9_move_3 rfl bc_116 ?_
  refine x_callVi (pc2 := 8) C [.int 116, .int 116] [] cl_X9_174 (fun q hq => ctX9_sees hk0 q hq) hk0 rfl rfl rfl ⟨rfl, rfl, Nat.le_of_ble_eq_true rfl, Nat.le_of_ble_eq_true rfl⟩ (Nat.le_of_ble_eq_true rfl) ⟨Nat.zero_le _, Nat.zero_le _⟩ dX9_move_5 rfl (fun v1 M2 => ?_)
  refine x_if_eq (tgt := 50) (pc2 := 11) C dX9_move_8 (by decide) rfl ?_ ?_
  · refine x_aload_n (pc2 := 51) C dX9_move_50 rfl rfl ?_
    refine x_bipush (pc2 := 53) C dX9_move_51 rfl bc_48 ?_
    refine x_bipush (pc2 := 55) C dX9_move_53 rfl bc_49 ?_
    refine x_callVi (pc2 := 58) C [.int 48, .int 49] [] cl_X9_174 (fun q hq => ctX9_sees hk0 q hq) hk0 rfl rfl rfl ⟨rfl, rfl, Nat.le_of_ble_eq_true rfl, Nat.le_of_ble_eq_true rfl⟩ (Nat.le_of_ble_eq_true rfl) ⟨Nat.zero_le _, Nat.zero_le _⟩ dX9_move_55 rfl (fun v3 M4 => ?_)
    refine x_if_ne (tgt := 64) (pc2 := 61) C dX9_move_58 (by decide) rfl ?_ ?_
    · refine x_aload_n (pc2 := 65) C dX9_move_64 rfl rfl ?_
      refine x_get (pc2 := 68) C fl_X9_35 hk0 (by decide) rfl dX9_move_65 rfl ?_
      refine x_aload_n (pc2 := 69) C dX9_move_68 rfl rfl ?_
      refine x_get (pc2 := 72) C fl_X9_171 hk0 (by decide) rfl dX9_move_69 rfl ?_
      refine x_cald (pc2 := 73) C (kf_8_10 hk0) dX9_move_72 rfl ?_
      refine x_bipush (pc2 := 75) C dX9_move_73 rfl bc_48 ?_
      refine x_isub (pc2 := 76) C dX9_move_75 rfl ?_
      refine x_topi (fun v5 => ?_)
      refine x_istore_n (pc2 := 77) C dX9_move_76 rfl [some (rv G this), some (.int a1), some (.int v5), none, none, none] rfl rfl ?_
      refine x_aload_n (pc2 := 78) C dX9_move_77 rfl rfl ?_
      refine x_dup (pc2 := 79) C dX9_move_78 rfl rfl ?_
      refine x_get (pc2 := 82) C fl_X9_171 hk0 (by decide) rfl dX9_move_79 rfl ?_
      refine x_iconst (pc2 := 83) C dX9_move_82 rfl ic_1 ?_
      refine x_iadd (pc2 := 84) C dX9_move_83 rfl ?_
      refine x_puti (pc2 := 87) C ft_X9_171 hk0 (by decide) hs_8_12 (Nat.le_of_ble_eq_true rfl) dX9_move_84 rfl (fun M6 => ?_)
      refine x_aload_n (pc2 := 88) C dX9_move_87 rfl rfl ?_
      refine x_bipush (pc2 := 90) C dX9_move_88 rfl bc_100 ?_
      refine x_bipush (pc2 := 92) C dX9_move_90 rfl bc_100 ?_
      refine x_callVi (pc2 := 95) C [.int 100, .int 100] [] cl_X9_174 (fun q hq => ctX9_sees hk0 q hq) hk0 rfl rfl rfl ⟨rfl, rfl, Nat.le_of_ble_eq_true rfl, Nat.le_of_ble_eq_true rfl⟩ (Nat.le_of_ble_eq_true rfl) ⟨Nat.zero_le _, Nat.zero_le _⟩ dX9_move_92 rfl (fun v7 M8 => ?_)
      refine x_istore_n (pc2 := 96) C dX9_move_95 rfl [some (rv G this), some (.int a1), some (.int v5), some (.int v7), none, none] rfl rfl ?_
      refine x_iload_n (pc2 := 97) C dX9_move_96 rfl rfl ?_
      refine x_jn 114 (fun (b9 : Unit) => [some (rv G this), some (.int a1), some (.int v5), some (.int v7), none, none]) (fun (b9 : Unit) => []) ?_ ?_
      · intro b9 M11
        refine x_aload_n (pc2 := 115) C dX9_move_114 rfl rfl ?_
        refine x_dup (pc2 := 116) C dX9_move_115 rfl rfl ?_
        refine x_get (pc2 := 119) C fl_X9_171 hk0 (by decide) rfl dX9_move_116 rfl ?_
        refine x_iconst (pc2 := 120) C dX9_move_119 rfl ic_1 ?_
        refine x_iadd (pc2 := 121) C dX9_move_120 rfl ?_
        refine x_puti (pc2 := 124) C ft_X9_171 hk0 (by decide) hs_8_12 (Nat.le_of_ble_eq_true rfl) dX9_move_121 rfl (fun M12 => ?_)
        refine x_aload_n (pc2 := 125) C dX9_move_124 rfl rfl ?_
        refine x_iconst (pc2 := 126) C dX9_move_125 rfl ic_0 ?_
        refine x_callVi (pc2 := 129) C [.int 0] [] cl_X9_178 (fun q hq => ctX9_readsNumber hk0 q hq) hk0 rfl rfl rfl ⟨rfl, rfl, Nat.le_of_ble_eq_true rfl, Nat.le_of_ble_eq_true rfl⟩ (Nat.le_of_ble_eq_true rfl) ⟨Nat.zero_le _, Nat.zero_le _⟩ dX9_move_126 rfl (fun v13 M14 => ?_)
        refine x_istore (pc2 := 131) C dX9_move_129 rfl [some (rv G this), some (.int a1), some (.int v5), some (.int v7), some (.int v13), none] rfl rfl ?_
        refine x_iload (pc2 := 133) C dX9_move_131 rfl rfl ?_
        refine x_if_ge (tgt := 139) (pc2 := 136) C dX9_move_133 (by decide) rfl ?_ ?_
        · refine x_iload_n (pc2 := 140) C dX9_move_139 rfl rfl ?_
          refine x_if_ne (tgt := 145) (pc2 := 143) C dX9_move_140 (by decide) rfl ?_ ?_
          · refine x_iload_n (pc2 := 146) C dX9_move_145 rfl rfl ?_
            refine x_jn 166 (fun (b15 : Int32) => [some (rv G this), none, some (.int v5), some (.int v7), some (.int v13), none]) (fun (b15 : Int32) => [.int b15]) ?_ ?_
            · intro b15 M17
              refine x_istore (pc2 := 168) C dX9_move_166 rfl [some (rv G this), none, some (.int v5), some (.int v7), some (.int v13), some (.int b15)] rfl rfl ?_
              refine x_iload (pc2 := 170) C dX9_move_168 rfl rfl ?_
              refine x_if_ne (tgt := 193) (pc2 := 173) C dX9_move_170 (by decide) rfl ?_ ?_
              · refine x_iload (pc2 := 195) C dX9_move_193 rfl rfl ?_
                exact x_iret C rfl rfl dX9_move_195
              · refine x_aload_n (pc2 := 174) C dX9_move_173 rfl rfl ?_
                refine x_get (pc2 := 177) C fl_X9_7 hk0 (by decide) rfl dX9_move_174 rfl ?_
                refine x_bipush (pc2 := 179) C dX9_move_177 rfl bc_20 ?_
                refine x_iload (pc2 := 181) C dX9_move_179 rfl rfl ?_
                refine x_iadd (pc2 := 182) C dX9_move_181 rfl ?_
                refine x_iload_n (pc2 := 183) C dX9_move_182 rfl rfl ?_
                refine x_jn 192 (fun (b18 : Int32) => [none, none, none, none, none, some (.int b15)]) (fun (b18 : Int32) => [.int b18, .int (20 + v13), rv G (this + 1)]) ?_ ?_
                · intro b18 M20
                  refine x_iast (pc2 := 193) C (kf_8_0 hk0) dX9_move_192 rfl (fun M21 => ?_)
                  refine x_iload (pc2 := 195) C dX9_move_193 rfl rfl ?_
                  exact x_iret C rfl rfl dX9_move_195
                · intro j19 hj19
                  refine x_if_eq (tgt := 190) (pc2 := 186) C dX9_move_183 (by decide) rfl ?_ ?_
                  · refine x_bipush (pc2 := 192) C dX9_move_190 rfl bc_m5 ?_
                    exact x_wk [none, none, none, none, none, some (.int b15)] ⟨Or.inl rfl, Or.inl rfl, Or.inl rfl, Or.inl rfl, Or.inl rfl, Or.inr rfl, trivial⟩ (hj19 (-5) _)
                  · refine x_iload_n (pc2 := 187) C dX9_move_186 rfl rfl ?_
                    refine x_goto (tgt := 192) C dX9_move_187 (by decide) ?_
                    exact x_wk [none, none, none, none, none, some (.int b15)] ⟨Or.inl rfl, Or.inl rfl, Or.inl rfl, Or.inl rfl, Or.inl rfl, Or.inr rfl, trivial⟩ (hj19 v5 _)
            · intro j16 hj16
              refine x_if_eq (tgt := 159) (pc2 := 149) C dX9_move_146 (by decide) rfl ?_ ?_
              · refine x_aload_n (pc2 := 160) C dX9_move_159 rfl rfl ?_
                refine x_iload_n (pc2 := 161) C dX9_move_160 rfl rfl ?_
                refine x_iload (pc2 := 163) C dX9_move_161 rfl rfl ?_
                refine x_callVi (pc2 := 166) C [.int v5, .int v13] [] cl_X9_156 (fun q hq => ctX9_againstRelease hk0 q hq) hk0 rfl rfl rfl ⟨rfl, rfl, Nat.le_of_ble_eq_true rfl, Nat.le_of_ble_eq_true rfl⟩ (Nat.le_of_ble_eq_true rfl) ⟨Nat.zero_le _, Nat.zero_le _⟩ dX9_move_163 rfl (fun v22 M23 => ?_)
                exact x_wk [some (rv G this), none, some (.int v5), some (.int v7), some (.int v13), none] ⟨Or.inr rfl, Or.inl rfl, Or.inr rfl, Or.inr rfl, Or.inr rfl, Or.inl rfl, trivial⟩ (hj16 v22 _)
              · refine x_aload_n (pc2 := 150) C dX9_move_149 rfl rfl ?_
                refine x_iload_n (pc2 := 151) C dX9_move_150 rfl rfl ?_
                refine x_iload (pc2 := 153) C dX9_move_151 rfl rfl ?_
                refine x_callVi (pc2 := 156) C [.int v5, .int v13] [] cl_X9_153 (fun q hq => ctX9_againstPress hk0 q hq) hk0 rfl rfl rfl ⟨rfl, rfl, Nat.le_of_ble_eq_true rfl, Nat.le_of_ble_eq_true rfl⟩ (Nat.le_of_ble_eq_true rfl) ⟨Nat.zero_le _, Nat.zero_le _⟩ dX9_move_153 rfl (fun v24 M25 => ?_)
                refine x_goto (tgt := 166) C dX9_move_156 (by decide) ?_
                exact x_wk [some (rv G this), none, some (.int v5), some (.int v7), some (.int v13), none] ⟨Or.inr rfl, Or.inl rfl, Or.inr rfl, Or.inr rfl, Or.inr rfl, Or.inl rfl, trivial⟩ (hj16 v24 _)
          · refine x_iconst (pc2 := 144) C dX9_move_143 rfl ic_0 ?_
            exact x_iret C rfl rfl dX9_move_144
        · refine x_bipush (pc2 := 138) C dX9_move_136 rfl bc_m100 ?_
          exact x_iret C rfl rfl dX9_move_138
      · intro j10 hj10
        refine x_if_ne (tgt := 114) (pc2 := 100) C dX9_move_97 (by decide) rfl ?_ ?_
        · exact x_wk [some (rv G this), some (.int a1), some (.int v5), some (.int v7), none, none] ⟨Or.inr rfl, Or.inr rfl, Or.inr rfl, Or.inr rfl, Or.inl rfl, Or.inl rfl, trivial⟩ (hj10 () _)
        · refine x_aload_n (pc2 := 101) C dX9_move_100 rfl rfl ?_
          refine x_bipush (pc2 := 103) C dX9_move_101 rfl bc_117 ?_
          refine x_bipush (pc2 := 105) C dX9_move_103 rfl bc_117 ?_
          refine x_callVi (pc2 := 108) C [.int 117, .int 117] [] cl_X9_174 (fun q hq => ctX9_sees hk0 q hq) hk0 rfl rfl rfl ⟨rfl, rfl, Nat.le_of_ble_eq_true rfl, Nat.le_of_ble_eq_true rfl⟩ (Nat.le_of_ble_eq_true rfl) ⟨Nat.zero_le _, Nat.zero_le _⟩ dX9_move_105 rfl (fun v26 M27 => ?_)
          refine x_if_ne (tgt := 114) (pc2 := 111) C dX9_move_108 (by decide) rfl ?_ ?_
          · exact x_wk [some (rv G this), some (.int a1), some (.int v5), some (.int v7), none, none] ⟨Or.inr rfl, Or.inr rfl, Or.inr rfl, Or.inr rfl, Or.inl rfl, Or.inl rfl, trivial⟩ (hj10 () _)
          · refine x_bipush (pc2 := 113) C dX9_move_111 rfl bc_m100 ?_
            exact x_iret C rfl rfl dX9_move_113
    · refine x_bipush (pc2 := 63) C dX9_move_61 rfl bc_m100 ?_
      exact x_iret C rfl rfl dX9_move_63
  · refine x_aload_n (pc2 := 12) C dX9_move_11 rfl rfl ?_
    refine x_dup (pc2 := 13) C dX9_move_12 rfl rfl ?_
    refine x_get (pc2 := 16) C fl_X9_171 hk0 (by decide) rfl dX9_move_13 rfl ?_
    refine x_iconst (pc2 := 17) C dX9_move_16 rfl ic_1 ?_
    refine x_iadd (pc2 := 18) C dX9_move_17 rfl ?_
    refine x_puti (pc2 := 21) C ft_X9_171 hk0 (by decide) hs_8_12 (Nat.le_of_ble_eq_true rfl) dX9_move_18 rfl (fun M28 => ?_)
    refine x_aload_n (pc2 := 22) C dX9_move_21 rfl rfl ?_
    refine x_iconst (pc2 := 23) C dX9_move_22 rfl ic_1 ?_
    refine x_callVi (pc2 := 26) C [.int 1] [] cl_X9_178 (fun q hq => ctX9_readsNumber hk0 q hq) hk0 rfl rfl rfl ⟨rfl, rfl, Nat.le_of_ble_eq_true rfl, Nat.le_of_ble_eq_true rfl⟩ (Nat.le_of_ble_eq_true rfl) ⟨Nat.zero_le _, Nat.zero_le _⟩ dX9_move_23 rfl (fun v29 M30 => ?_)
    refine x_istore_n (pc2 := 27) C dX9_move_26 rfl [some (rv G this), some (.int a1), some (.int v29), none, none, none] rfl rfl ?_
    refine x_iload_n (pc2 := 28) C dX9_move_27 rfl rfl ?_
    refine x_if_ge (tgt := 36) (pc2 := 31) C dX9_move_28 (by decide) rfl ?_ ?_
    · refine x_iload_n (pc2 := 37) C dX9_move_36 rfl rfl ?_
      refine x_if_eq (tgt := 48) (pc2 := 40) C dX9_move_37 (by decide) rfl ?_ ?_
      · refine x_iconst (pc2 := 49) C dX9_move_48 rfl ic_0 ?_
        exact x_iret C rfl rfl dX9_move_49
      · refine x_aload_n (pc2 := 41) C dX9_move_40 rfl rfl ?_
        refine x_iload_n (pc2 := 42) C dX9_move_41 rfl rfl ?_
        refine x_callVi (pc2 := 45) C [.int v29] [] cl_X9_162 (fun q hq => ctX9_steps hk0 q hq) hk0 rfl rfl rfl ⟨rfl, rfl, Nat.le_of_ble_eq_true rfl, Nat.le_of_ble_eq_true rfl⟩ (Nat.le_of_ble_eq_true rfl) ⟨Nat.zero_le _, Nat.zero_le _⟩ dX9_move_42 rfl (fun v31 M32 => ?_)
        refine x_goto (tgt := 49) C dX9_move_45 (by decide) ?_
        exact x_iret C rfl rfl dX9_move_49
    · refine x_bipush (pc2 := 33) C dX9_move_31 rfl bc_m100 ?_
      refine x_goto (tgt := 49) C dX9_move_33 (by decide) ?_
      exact x_iret C rfl rfl dX9_move_49
set_option maxRecDepth 100000 in
set_option maxHeartbeats 4000000 in
theorem ctX9_moves {l : Launch} {G : bkG} {M : Mem} {this : Nat} {a1 : Int32} (hk0 : kd this = 8) : ∀ r, fX9_moves this a1 M = some r → Met l yX9_moves (Cond.code yX9_moves cX9_moves 5 (some .int) :: TT) ({ frames := 7, cells := 0, slots := 0, locals := 180 } : Room) (va_Pc [rv G this, .int a1] (Wd G M)) (QQ G ((fun v => some (.int v)) r.1) r.2) 0 0 (An G) := by
  refine mkMet (vl := (fun v => some (.int v))) RX9 rfl (by decide +kernel) rfl (Nat.le_of_ble_eq_true rfl) [some (rv G this), some (.int a1), none, none, none] rfl ?_
  intro p e s m args below meth c C _
  refine x_aload_n (pc2 := 1) C dX9_moves_0 rfl rfl ?_
  refine x_iconst (pc2 := 2) C dX9_moves_1 rfl ic_0 ?_
  refine x_puti (pc2 := 5) C ft_X9_171 hk0 (by decide) hs_8_12 (Nat.le_of_ble_eq_true rfl) dX9_moves_2 rfl (fun M1 => ?_)
  refine x_iconst (pc2 := 6) C dX9_moves_5 rfl ic_0 ?_
  refine x_istore_n (pc2 := 7) C dX9_moves_6 rfl [some (rv G this), some (.int a1), some (.int 0), none, none] rfl rfl ?_
  refine x_iconst (pc2 := 8) C dX9_moves_7 rfl ic_1 ?_
  refine x_istore_n (pc2 := 9) C dX9_moves_8 rfl [some (rv G this), some (.int a1), some (.int 0), some (.int 1), none] rfl rfl ?_
  refine x_wk [some (rv G this), some (.int a1), some (.int 0), some (.int 1), none] ⟨Or.inr rfl, Or.inr rfl, Or.inr rfl, Or.inr rfl, Or.inl rfl, trivial⟩ ?_
  refine x_lp1 (fun (b2 : Int32 × Int32) => [some (rv G this), some (.int a1), some (.int b2.1), some (.int b2.2), none]) 63 (fun (b5 : Int32) => [some (rv G this), none, some (.int b5), none, none]) ?_ ?_
  · intro b5 M6
    refine x_aload_n (pc2 := 64) C dX9_moves_63 rfl rfl ?_
    refine x_get (pc2 := 67) C fl_X9_171 hk0 (by decide) rfl dX9_moves_64 rfl ?_
    refine x_aload_n (pc2 := 68) C dX9_moves_67 rfl rfl ?_
    refine x_get (pc2 := 71) C fl_X9_168 hk0 (by decide) rfl dX9_moves_68 rfl ?_
    refine x_icmp_ge (tgt := 79) (pc2 := 74) C dX9_moves_71 (by decide) rfl ?_ ?_
    · refine x_iload_n (pc2 := 80) C dX9_moves_79 rfl rfl ?_
      exact x_iret C rfl rfl dX9_moves_80
    · refine x_bipush (pc2 := 76) C dX9_moves_74 rfl bc_m100 ?_
      refine x_goto (tgt := 80) C dX9_moves_76 (by decide) ?_
      exact x_iret C rfl rfl dX9_moves_80
  · intro k7 hk7 rec4 hrec4 b2 M3
    refine x_iload_n (pc2 := 10) C dX9_moves_9 rfl rfl ?_
    refine x_if_eq (tgt := 63) (pc2 := 13) C dX9_moves_10 (by decide) rfl ?_ ?_
    · exact x_wk [some (rv G this), none, some (.int b2.1), none, none] ⟨Or.inr rfl, Or.inl rfl, Or.inr rfl, Or.inl rfl, Or.inl rfl, trivial⟩ (hk7 b2.1 _)
    · refine x_aload_n (pc2 := 14) C dX9_moves_13 rfl rfl ?_
      refine x_iload_n (pc2 := 15) C dX9_moves_14 rfl rfl ?_
      refine x_callVi (pc2 := 18) C [.int a1] [] cl_X9_181 (fun q hq => ctX9_move hk0 q hq) hk0 rfl rfl rfl ⟨rfl, rfl, Nat.le_of_ble_eq_true rfl, Nat.le_of_ble_eq_true rfl⟩ (Nat.le_of_ble_eq_true rfl) ⟨Nat.zero_le _, Nat.zero_le _⟩ dX9_moves_15 rfl (fun v8 M9 => ?_)
      refine x_istore (pc2 := 20) C dX9_moves_18 rfl [some (rv G this), some (.int a1), some (.int b2.1), some (.int b2.2), some (.int v8)] rfl rfl ?_
      refine x_iload (pc2 := 22) C dX9_moves_20 rfl rfl ?_
      refine x_if_ge (tgt := 28) (pc2 := 25) C dX9_moves_22 (by decide) rfl ?_ ?_
      · refine x_iload_n (pc2 := 29) C dX9_moves_28 rfl rfl ?_
        refine x_iload (pc2 := 31) C dX9_moves_29 rfl rfl ?_
        refine x_iadd (pc2 := 32) C dX9_moves_31 rfl ?_
        refine x_istore_n (pc2 := 33) C dX9_moves_32 rfl [some (rv G this), some (.int a1), some (.int (b2.1 + v8)), some (.int b2.2), some (.int v8)] rfl rfl ?_
        refine x_aload_n (pc2 := 34) C dX9_moves_33 rfl rfl ?_
        refine x_bipush (pc2 := 36) C dX9_moves_34 rfl bc_59 ?_
        refine x_bipush (pc2 := 38) C dX9_moves_36 rfl bc_59 ?_
        refine x_callVi (pc2 := 41) C [.int 59, .int 59] [] cl_X9_174 (fun q hq => ctX9_sees hk0 q hq) hk0 rfl rfl rfl ⟨rfl, rfl, Nat.le_of_ble_eq_true rfl, Nat.le_of_ble_eq_true rfl⟩ (Nat.le_of_ble_eq_true rfl) ⟨Nat.zero_le _, Nat.zero_le _⟩ dX9_moves_38 rfl (fun v10 M11 => ?_)
        refine x_istore_n (pc2 := 42) C dX9_moves_41 rfl [some (rv G this), some (.int a1), some (.int (b2.1 + v8)), some (.int v10), some (.int v8)] rfl rfl ?_
        refine x_aload_n (pc2 := 43) C dX9_moves_42 rfl rfl ?_
        refine x_dup (pc2 := 44) C dX9_moves_43 rfl rfl ?_
        refine x_get (pc2 := 47) C fl_X9_171 hk0 (by decide) rfl dX9_moves_44 rfl ?_
        refine x_iload_n (pc2 := 48) C dX9_moves_47 rfl rfl ?_
        refine x_jn 56 (fun (b12 : Int32) => [some (rv G this), some (.int a1), some (.int (b2.1 + v8)), some (.int v10), none]) (fun (b12 : Int32) => [.int b12, .int (M11.1 this 12), rv G this]) ?_ ?_
        · intro b12 M14
          refine x_iadd (pc2 := 57) C dX9_moves_56 rfl ?_
          refine x_puti (pc2 := 60) C ft_X9_171 hk0 (by decide) hs_8_12 (Nat.le_of_ble_eq_true rfl) dX9_moves_57 rfl (fun M15 => ?_)
          refine x_goto (tgt := 9) C dX9_moves_60 (by decide) ?_
          exact x_wk [some (rv G this), some (.int a1), some (.int (b2.1 + v8)), some (.int v10), none] ⟨Or.inr rfl, Or.inr rfl, Or.inr rfl, Or.inr rfl, Or.inl rfl, trivial⟩ (hrec4 (b2.1 + v8, v10) _)
        · intro j13 hj13
          refine x_if_eq (tgt := 55) (pc2 := 51) C dX9_moves_48 (by decide) rfl ?_ ?_
          · refine x_iconst (pc2 := 56) C dX9_moves_55 rfl ic_0 ?_
            exact x_wk [some (rv G this), some (.int a1), some (.int (b2.1 + v8)), some (.int v10), none] ⟨Or.inr rfl, Or.inr rfl, Or.inr rfl, Or.inr rfl, Or.inl rfl, trivial⟩ (hj13 0 _)
          · refine x_iconst (pc2 := 52) C dX9_moves_51 rfl ic_1 ?_
            refine x_goto (tgt := 56) C dX9_moves_52 (by decide) ?_
            exact x_wk [some (rv G this), some (.int a1), some (.int (b2.1 + v8)), some (.int v10), none] ⟨Or.inr rfl, Or.inr rfl, Or.inr rfl, Or.inr rfl, Or.inl rfl, trivial⟩ (hj13 1 _)
      · refine x_iload (pc2 := 27) C dX9_moves_25 rfl rfl ?_
        exact x_iret C rfl rfl dX9_moves_27
set_option maxRecDepth 100000 in
set_option maxHeartbeats 4000000 in
theorem ctX9_perform {l : Launch} {G : bkG} {M : Mem} {this : Nat} (hk0 : kd this = 8) : ∀ r, fX9_perform this M = some r → Met l yX9_perform (Cond.code yX9_perform cX9_perform 2 (some .int) :: TT) ({ frames := 8, cells := 0, slots := 0, locals := 204 } : Room) (va_Pc [rv G this] (Wd G M)) (QQ G ((fun v => some (.int v)) r.1) r.2) 0 0 (An G) := by
  refine mkMet (vl := (fun v => some (.int v))) RX9 rfl (by decide +kernel) rfl (Nat.le_of_ble_eq_true rfl) [some (rv G this), none] rfl ?_
  intro p e s m args below meth c C _
  refine x_aload_n (pc2 := 1) C dX9_perform_0 rfl rfl ?_
  refine x_iconst (pc2 := 2) C dX9_perform_1 rfl ic_0 ?_
  refine x_callVi (pc2 := 5) C [.int 0] [] cl_X9_185 (fun q hq => ctX9_moves hk0 q hq) hk0 rfl rfl rfl ⟨rfl, rfl, Nat.le_of_ble_eq_true rfl, Nat.le_of_ble_eq_true rfl⟩ (Nat.le_of_ble_eq_true rfl) ⟨Nat.zero_le _, Nat.zero_le _⟩ dX9_perform_2 rfl (fun v1 M2 => ?_)
  refine x_if_ge (tgt := 16) (pc2 := 8) C dX9_perform_5 (by decide) rfl ?_ ?_
  · refine x_aload_n (pc2 := 17) C dX9_perform_16 rfl rfl ?_
    refine x_callVv (pc2 := 20) C [] [] cl_X9_51 (fun q hq => ctX9_remember hk0 q hq) hk0 rfl rfl rfl ⟨rfl, rfl, Nat.le_of_ble_eq_true rfl, Nat.le_of_ble_eq_true rfl⟩ (Nat.le_of_ble_eq_true rfl) ⟨Nat.zero_le _, Nat.zero_le _⟩ dX9_perform_17 rfl (fun v3 M4 => ?_)
    refine x_aload_n (pc2 := 21) C dX9_perform_20 rfl rfl ?_
    refine x_iconst (pc2 := 22) C dX9_perform_21 rfl ic_1 ?_
    refine x_callVi (pc2 := 25) C [.int 1] [] cl_X9_185 (fun q hq => ctX9_moves hk0 q hq) hk0 rfl rfl rfl ⟨rfl, rfl, Nat.le_of_ble_eq_true rfl, Nat.le_of_ble_eq_true rfl⟩ (Nat.le_of_ble_eq_true rfl) ⟨Nat.zero_le _, Nat.zero_le _⟩ dX9_perform_22 rfl (fun v5 M6 => ?_)
    refine x_istore_n (pc2 := 26) C dX9_perform_25 rfl [some (rv G this), some (.int v5)] rfl rfl ?_
    refine x_iload_n (pc2 := 27) C dX9_perform_26 rfl rfl ?_
    refine x_if_ge (tgt := 36) (pc2 := 30) C dX9_perform_27 (by decide) rfl ?_ ?_
    · refine x_aload_n (pc2 := 37) C dX9_perform_36 rfl rfl ?_
      refine x_callVv (pc2 := 40) C [] [] cl_X9_54 (fun q hq => ctX9_record hk0 q hq) hk0 rfl rfl rfl ⟨rfl, rfl, Nat.le_of_ble_eq_true rfl, Nat.le_of_ble_eq_true rfl⟩ (Nat.le_of_ble_eq_true rfl) ⟨Nat.zero_le _, Nat.zero_le _⟩ dX9_perform_37 rfl (fun v7 M8 => ?_)
      refine x_iload_n (pc2 := 41) C dX9_perform_40 rfl rfl ?_
      exact x_iret C rfl rfl dX9_perform_41
    · refine x_aload_n (pc2 := 31) C dX9_perform_30 rfl rfl ?_
      refine x_callVv (pc2 := 34) C [] [] cl_X9_188 (fun q hq => ctX9_goBack hk0 q hq) hk0 rfl rfl rfl ⟨rfl, rfl, Nat.le_of_ble_eq_true rfl, Nat.le_of_ble_eq_true rfl⟩ (Nat.le_of_ble_eq_true rfl) ⟨Nat.zero_le _, Nat.zero_le _⟩ dX9_perform_31 rfl (fun v9 M10 => ?_)
      refine x_iload_n (pc2 := 35) C dX9_perform_34 rfl rfl ?_
      exact x_iret C rfl rfl dX9_perform_35
  · refine x_bipush (pc2 := 10) C dX9_perform_8 rfl bc_m100 ?_
    refine x_aload_n (pc2 := 11) C dX9_perform_10 rfl rfl ?_
    refine x_get (pc2 := 14) C fl_X9_171 hk0 (by decide) rfl dX9_perform_11 rfl ?_
    refine x_isub (pc2 := 15) C dX9_perform_14 rfl ?_
    exact x_iret C rfl rfl dX9_perform_15
set_option maxRecDepth 100000 in
set_option maxHeartbeats 4000000 in
theorem ctX9_press {l : Launch} {G : bkG} {M : Mem} {this : Nat} {a1 : Int32} {a2 : Int32} (hk0 : kd this = 8) : ∀ r, fX9_press this a1 a2 M = some r → Met l yX9_press (Cond.code yX9_press cX9_press 4 (some .int) :: TT) ({ frames := 3, cells := 0, slots := 0, locals := 65 } : Room) (va_Pc [rv G this, .int a1, .int a2] (Wd G M)) (QQ G ((fun v => some (.int v)) r.1) r.2) 0 0 (An G) := by
  refine mkMet (vl := (fun v => some (.int v))) RX9 rfl (by decide +kernel) rfl (Nat.le_of_ble_eq_true rfl) [some (rv G this), some (.int a1), some (.int a2), none] rfl ?_
  intro p e s m args below meth c C _
  refine x_aload_n (pc2 := 1) C dX9_press_0 rfl rfl ?_
  refine x_iload_n (pc2 := 2) C dX9_press_1 rfl rfl ?_
  refine x_iload_n (pc2 := 3) C dX9_press_2 rfl rfl ?_
  refine x_callVi (pc2 := 6) C [.int a1, .int a2] [] cl_X9_153 (fun q hq => ctX9_againstPress hk0 q hq) hk0 rfl rfl rfl ⟨rfl, rfl, Nat.le_of_ble_eq_true rfl, Nat.le_of_ble_eq_true rfl⟩ (Nat.le_of_ble_eq_true rfl) ⟨Nat.zero_le _, Nat.zero_le _⟩ dX9_press_3 rfl (fun v1 M2 => ?_)
  refine x_istore_n (pc2 := 7) C dX9_press_6 rfl [some (rv G this), some (.int a1), some (.int a2), some (.int v1)] rfl rfl ?_
  refine x_iload_n (pc2 := 8) C dX9_press_7 rfl rfl ?_
  refine x_if_ge (tgt := 13) (pc2 := 11) C dX9_press_8 (by decide) rfl ?_ ?_
  · refine x_aload_n (pc2 := 14) C dX9_press_13 rfl rfl ?_
    refine x_callVv (pc2 := 17) C [] [] cl_X9_61 (fun q hq => ctX9_begin hk0 q hq) hk0 rfl rfl rfl ⟨rfl, rfl, Nat.le_of_ble_eq_true rfl, Nat.le_of_ble_eq_true rfl⟩ (Nat.le_of_ble_eq_true rfl) ⟨Nat.zero_le _, Nat.zero_le _⟩ dX9_press_14 rfl (fun v3 M4 => ?_)
    refine x_aload_n (pc2 := 18) C dX9_press_17 rfl rfl ?_
    refine x_get (pc2 := 21) C fl_X9_7 hk0 (by decide) rfl dX9_press_18 rfl ?_
    refine x_bipush (pc2 := 23) C dX9_press_21 rfl bc_20 ?_
    refine x_iload_n (pc2 := 24) C dX9_press_23 rfl rfl ?_
    refine x_iadd (pc2 := 25) C dX9_press_24 rfl ?_
    refine x_iload_n (pc2 := 26) C dX9_press_25 rfl rfl ?_
    refine x_iast (pc2 := 27) C (kf_8_0 hk0) dX9_press_26 rfl (fun M5 => ?_)
    refine x_aload_n (pc2 := 28) C dX9_press_27 rfl rfl ?_
    refine x_iload_n (pc2 := 29) C dX9_press_28 rfl rfl ?_
    refine x_callVi (pc2 := 32) C [.int a1] [] cl_X9_150 (fun q hq => ctX9_held hk0 q hq) hk0 rfl rfl rfl ⟨rfl, rfl, Nat.le_of_ble_eq_true rfl, Nat.le_of_ble_eq_true rfl⟩ (Nat.le_of_ble_eq_true rfl) ⟨Nat.zero_le _, Nat.zero_le _⟩ dX9_press_29 rfl (fun v6 M7 => ?_)
    exact x_iret C rfl rfl dX9_press_32
  · refine x_iload_n (pc2 := 12) C dX9_press_11 rfl rfl ?_
    exact x_iret C rfl rfl dX9_press_12
set_option maxRecDepth 100000 in
set_option maxHeartbeats 4000000 in
theorem ctX9_release {l : Launch} {G : bkG} {M : Mem} {this : Nat} {a1 : Int32} {a2 : Int32} (hk0 : kd this = 8) : ∀ r, fX9_release this a1 a2 M = some r → Met l yX9_release (Cond.code yX9_release cX9_release 4 (some .int) :: TT) ({ frames := 3, cells := 0, slots := 0, locals := 65 } : Room) (va_Pc [rv G this, .int a1, .int a2] (Wd G M)) (QQ G ((fun v => some (.int v)) r.1) r.2) 0 0 (An G) := by
  refine mkMet (vl := (fun v => some (.int v))) RX9 rfl (by decide +kernel) rfl (Nat.le_of_ble_eq_true rfl) [some (rv G this), some (.int a1), some (.int a2), none] rfl ?_
  intro p e s m args below meth c C _
  refine x_aload_n (pc2 := 1) C dX9_release_0 rfl rfl ?_
  refine x_iload_n (pc2 := 2) C dX9_release_1 rfl rfl ?_
  refine x_iload_n (pc2 := 3) C dX9_release_2 rfl rfl ?_
  refine x_callVi (pc2 := 6) C [.int a1, .int a2] [] cl_X9_156 (fun q hq => ctX9_againstRelease hk0 q hq) hk0 rfl rfl rfl ⟨rfl, rfl, Nat.le_of_ble_eq_true rfl, Nat.le_of_ble_eq_true rfl⟩ (Nat.le_of_ble_eq_true rfl) ⟨Nat.zero_le _, Nat.zero_le _⟩ dX9_release_3 rfl (fun v1 M2 => ?_)
  refine x_istore_n (pc2 := 7) C dX9_release_6 rfl [some (rv G this), some (.int a1), some (.int a2), some (.int v1)] rfl rfl ?_
  refine x_iload_n (pc2 := 8) C dX9_release_7 rfl rfl ?_
  refine x_if_ge (tgt := 13) (pc2 := 11) C dX9_release_8 (by decide) rfl ?_ ?_
  · refine x_aload_n (pc2 := 14) C dX9_release_13 rfl rfl ?_
    refine x_callVv (pc2 := 17) C [] [] cl_X9_61 (fun q hq => ctX9_begin hk0 q hq) hk0 rfl rfl rfl ⟨rfl, rfl, Nat.le_of_ble_eq_true rfl, Nat.le_of_ble_eq_true rfl⟩ (Nat.le_of_ble_eq_true rfl) ⟨Nat.zero_le _, Nat.zero_le _⟩ dX9_release_14 rfl (fun v3 M4 => ?_)
    refine x_aload_n (pc2 := 18) C dX9_release_17 rfl rfl ?_
    refine x_get (pc2 := 21) C fl_X9_7 hk0 (by decide) rfl dX9_release_18 rfl ?_
    refine x_bipush (pc2 := 23) C dX9_release_21 rfl bc_20 ?_
    refine x_iload_n (pc2 := 24) C dX9_release_23 rfl rfl ?_
    refine x_iadd (pc2 := 25) C dX9_release_24 rfl ?_
    refine x_bipush (pc2 := 27) C dX9_release_25 rfl bc_m5 ?_
    refine x_iast (pc2 := 28) C (kf_8_0 hk0) dX9_release_27 rfl (fun M5 => ?_)
    refine x_aload_n (pc2 := 29) C dX9_release_28 rfl rfl ?_
    refine x_iload_n (pc2 := 30) C dX9_release_29 rfl rfl ?_
    refine x_callVi (pc2 := 33) C [.int a1] [] cl_X9_150 (fun q hq => ctX9_held hk0 q hq) hk0 rfl rfl rfl ⟨rfl, rfl, Nat.le_of_ble_eq_true rfl, Nat.le_of_ble_eq_true rfl⟩ (Nat.le_of_ble_eq_true rfl) ⟨Nat.zero_le _, Nat.zero_le _⟩ dX9_release_30 rfl (fun v6 M7 => ?_)
    exact x_iret C rfl rfl dX9_release_33
  · refine x_iload_n (pc2 := 12) C dX9_release_11 rfl rfl ?_
    exact x_iret C rfl rfl dX9_release_12
set_option maxRecDepth 100000 in
set_option maxHeartbeats 4000000 in
theorem ctX9_restore {l : Launch} {G : bkG} {M : Mem} {this : Nat} (hk0 : kd this = 8) : ∀ r, fX9_restore this M = some r → Met l yX9_restore (Cond.code yX9_restore cX9_restore 2 (some .int) :: TT) ({ frames := 2, cells := 0, slots := 0, locals := 41 } : Room) (va_Pc [rv G this] (Wd G M)) (QQ G ((fun v => some (.int v)) r.1) r.2) 0 0 (An G) := by
  refine mkMet (vl := (fun v => some (.int v))) RX9 rfl (by decide +kernel) rfl (Nat.le_of_ble_eq_true rfl) [some (rv G this), none] rfl ?_
  intro p e s m args below meth c C _
  refine x_aload_n (pc2 := 1) C dX9_restore_0 rfl rfl ?_
  refine x_get (pc2 := 4) C fl_X9_57 hk0 (by decide) rfl dX9_restore_1 rfl ?_
  refine x_if_ne (tgt := 10) (pc2 := 7) C dX9_restore_4 (by decide) rfl ?_ ?_
  · refine x_aload_n (pc2 := 11) C dX9_restore_10 rfl rfl ?_
    refine x_callVv (pc2 := 14) C [] [] cl_X9_61 (fun q hq => ctX9_begin hk0 q hq) hk0 rfl rfl rfl ⟨rfl, rfl, Nat.le_of_ble_eq_true rfl, Nat.le_of_ble_eq_true rfl⟩ (Nat.le_of_ble_eq_true rfl) ⟨Nat.zero_le _, Nat.zero_le _⟩ dX9_restore_11 rfl (fun v1 M2 => ?_)
    refine x_iconst (pc2 := 15) C dX9_restore_14 rfl ic_0 ?_
    refine x_istore_n (pc2 := 16) C dX9_restore_15 rfl [some (rv G this), some (.int 0)] rfl rfl ?_
    refine x_wk [some (rv G this), some (.int 0)] ⟨Or.inr rfl, Or.inr rfl, trivial⟩ ?_
    refine x_lp1 (fun (b3 : Int32) => [some (rv G this), some (.int b3)]) 41 (fun (b6 : Unit) => [some (rv G this), none]) ?_ ?_
    · intro b6 M7
      refine x_iconst (pc2 := 42) C dX9_restore_41 rfl ic_0 ?_
      refine x_istore_n (pc2 := 43) C dX9_restore_42 rfl [some (rv G this), some (.int 0)] rfl rfl ?_
      refine x_wk [some (rv G this), some (.int 0)] ⟨Or.inr rfl, Or.inr rfl, trivial⟩ ?_
      refine x_lp (fun (b8 : Int32) => [some (rv G this), some (.int b8)]) ?_
      · intro rec10 hrec10 b8 M9
        refine x_iload_n (pc2 := 44) C dX9_restore_43 rfl rfl ?_
        refine x_bipush (pc2 := 46) C dX9_restore_44 rfl bc_7 ?_
        refine x_icmp_ge (tgt := 67) (pc2 := 49) C dX9_restore_46 (by decide) rfl ?_ ?_
        · refine x_aload_n (pc2 := 68) C dX9_restore_67 rfl rfl ?_
          refine x_get (pc2 := 71) C fl_X9_7 hk0 (by decide) rfl dX9_restore_68 rfl ?_
          refine x_iconst (pc2 := 72) C dX9_restore_71 rfl ic_2 ?_
          refine x_iald (pc2 := 73) C (kf_8_0 hk0) dX9_restore_72 rfl ?_
          exact x_iret C rfl rfl dX9_restore_73
        · refine x_aload_n (pc2 := 50) C dX9_restore_49 rfl rfl ?_
          refine x_get (pc2 := 53) C fl_X9_22 hk0 (by decide) rfl dX9_restore_50 rfl ?_
          refine x_iload_n (pc2 := 54) C dX9_restore_53 rfl rfl ?_
          refine x_aload_n (pc2 := 55) C dX9_restore_54 rfl rfl ?_
          refine x_get (pc2 := 58) C fl_X9_29 hk0 (by decide) rfl dX9_restore_55 rfl ?_
          refine x_iload_n (pc2 := 59) C dX9_restore_58 rfl rfl ?_
          refine x_fald (pc2 := 60) C (kf_8_6 hk0) dX9_restore_59 rfl ?_
          refine x_fast (pc2 := 61) C (kf_8_4 hk0) dX9_restore_60 rfl (fun M11 => ?_)
          refine x_iinc (pc2 := 64) (v := b8 + 1) C dX9_restore_61 rfl rfl 1 ic_1 rfl [some (rv G this), some (.int (b8 + 1))] rfl rfl ?_
          refine x_goto (tgt := 43) C dX9_restore_64 (by decide) ?_
          exact x_wk [some (rv G this), some (.int (b8 + 1))] ⟨Or.inr rfl, Or.inr rfl, trivial⟩ (hrec10 (b8 + 1) _)
    · intro k12 hk12 rec5 hrec5 b3 M4
      refine x_iload_n (pc2 := 17) C dX9_restore_16 rfl rfl ?_
      refine x_sipush (pc2 := 20) C dX9_restore_17 rfl sc_592 ?_
      refine x_icmp_ge (tgt := 41) (pc2 := 23) C dX9_restore_20 (by decide) rfl ?_ ?_
      · exact x_wk [some (rv G this), none] ⟨Or.inr rfl, Or.inl rfl, trivial⟩ (hk12 () _)
      · refine x_aload_n (pc2 := 24) C dX9_restore_23 rfl rfl ?_
        refine x_get (pc2 := 27) C fl_X9_7 hk0 (by decide) rfl dX9_restore_24 rfl ?_
        refine x_iload_n (pc2 := 28) C dX9_restore_27 rfl rfl ?_
        refine x_aload_n (pc2 := 29) C dX9_restore_28 rfl rfl ?_
        refine x_get (pc2 := 32) C fl_X9_16 hk0 (by decide) rfl dX9_restore_29 rfl ?_
        refine x_iload_n (pc2 := 33) C dX9_restore_32 rfl rfl ?_
        refine x_iald (pc2 := 34) C (kf_8_2 hk0) dX9_restore_33 rfl ?_
        refine x_iast (pc2 := 35) C (kf_8_0 hk0) dX9_restore_34 rfl (fun M13 => ?_)
        refine x_iinc (pc2 := 38) (v := b3 + 1) C dX9_restore_35 rfl rfl 1 ic_1 rfl [some (rv G this), some (.int (b3 + 1))] rfl rfl ?_
        refine x_goto (tgt := 16) C dX9_restore_38 (by decide) ?_
        exact x_wk [some (rv G this), some (.int (b3 + 1))] ⟨Or.inr rfl, Or.inr rfl, trivial⟩ (hrec5 (b3 + 1) _)
  · refine x_bipush (pc2 := 9) C dX9_restore_7 rfl bc_m5 ?_
    exact x_iret C rfl rfl dX9_restore_9
set_option maxRecDepth 100000 in
set_option maxHeartbeats 4000000 in
theorem ctX9_set {l : Launch} {G : bkG} {M : Mem} {this : Nat} {a1 : Int32} {a2 : Int32} (hk0 : kd this = 8) : ∀ r, fX9_set this a1 a2 M = some r → Met l yX9_set (Cond.code yX9_set cX9_set 6 (some .int) :: TT) ({ frames := 2, cells := 0, slots := 0, locals := 47 } : Room) (va_Pc [rv G this, .int a1, .int a2] (Wd G M)) (QQ G ((fun v => some (.int v)) r.1) r.2) 0 0 (An G) := by
  refine mkMet (vl := (fun v => some (.int v))) RX9 rfl (by decide +kernel) rfl (Nat.le_of_ble_eq_true rfl) [some (rv G this), some (.int a1), some (.int a2), none, none, none] rfl ?_
  intro p e s m args below meth c C _
  refine x_iload_n (pc2 := 1) C dX9_set_0 rfl rfl ?_
  refine x_iconst (pc2 := 2) C dX9_set_1 rfl ic_0 ?_
  refine x_iconst (pc2 := 3) C dX9_set_2 rfl ic_2 ?_
  refine x_callSi (pc2 := 6) C [.int a1, .int 0, .int 2] [] cl_X9_68 (fun q hq => ctX9_in  q hq) rfl rfl ⟨rfl, rfl, Nat.le_of_ble_eq_true rfl, Nat.le_of_ble_eq_true rfl⟩ (Nat.le_of_ble_eq_true rfl) ⟨Nat.zero_le _, Nat.zero_le _⟩ dX9_set_3 rfl (fun v1 M2 => ?_)
  refine x_if_ne (tgt := 12) (pc2 := 9) C dX9_set_6 (by decide) rfl ?_ ?_
  · refine x_iload_n (pc2 := 13) C dX9_set_12 rfl rfl ?_
    refine x_if_lt (tgt := 25) (pc2 := 16) C dX9_set_13 (by decide) rfl ?_ ?_
    · refine x_bipush (pc2 := 27) C dX9_set_25 rfl bc_m2 ?_
      exact x_iret C rfl rfl dX9_set_27
    · refine x_iload_n (pc2 := 17) C dX9_set_16 rfl rfl ?_
      refine x_ldc (pc2 := 19) C wt4_204 dX9_set_17 rfl ?_
      refine x_iand (pc2 := 20) C dX9_set_19 rfl ?_
      refine x_ldc (pc2 := 22) C wt4_205 dX9_set_20 rfl ?_
      refine x_icmp_le (tgt := 28) (pc2 := 25) C dX9_set_22 (by decide) rfl ?_ ?_
      · refine x_iload_n (pc2 := 29) C dX9_set_28 rfl rfl ?_
        refine x_i2fb (pc2 := 32) C nat_X9_91 (Nat.le_of_ble_eq_true rfl) (Nat.le_of_ble_eq_true rfl) dX9_set_29 rfl ?_
        refine x_fstore_n (pc2 := 33) C dX9_set_32 rfl [some (rv G this), some (.int a1), some (.int a2), some (.float a2.toUInt32), none, none] rfl rfl ?_
        refine x_iload_n (pc2 := 34) C dX9_set_33 rfl rfl ?_
        refine x_jn 52 (fun (b3 : UInt32) => [some (rv G this), some (.int a1), none, some (.float a2.toUInt32), none, none]) (fun (b3 : UInt32) => [.float b3]) ?_ ?_
        · intro b3 M5
          refine x_fstore (pc2 := 54) C dX9_set_52 rfl [some (rv G this), some (.int a1), none, some (.float a2.toUInt32), some (.float b3), none] rfl rfl ?_
          refine x_fload_n (pc2 := 55) C dX9_set_54 rfl rfl ?_
          refine x_fconst0 (pc2 := 56) C dX9_set_55 rfl ?_
          refine x_fcmpl (pc2 := 57) C dX9_set_56 rfl ?_
          refine x_if_lt (tgt := 67) (pc2 := 60) C dX9_set_57 (by decide) rfl ?_ ?_
          · refine x_bipush (pc2 := 69) C dX9_set_67 rfl bc_m2 ?_
            exact x_iret C rfl rfl dX9_set_69
          · refine x_fload_n (pc2 := 61) C dX9_set_60 rfl rfl ?_
            refine x_fload (pc2 := 63) C dX9_set_61 rfl rfl ?_
            refine x_fcmpg (pc2 := 64) C dX9_set_63 rfl ?_
            refine x_if_le (tgt := 70) (pc2 := 67) C dX9_set_64 (by decide) rfl ?_ ?_
            · refine x_aload_n (pc2 := 71) C dX9_set_70 rfl rfl ?_
              refine x_get (pc2 := 74) C fl_X9_22 hk0 (by decide) rfl dX9_set_71 rfl ?_
              refine x_iconst (pc2 := 75) C dX9_set_74 rfl ic_4 ?_
              refine x_iload_n (pc2 := 76) C dX9_set_75 rfl rfl ?_
              refine x_iadd (pc2 := 77) C dX9_set_76 rfl ?_
              refine x_fald (pc2 := 78) C (kf_8_4 hk0) dX9_set_77 rfl ?_
              refine x_topf (fun v6 => ?_)
              refine x_fstore (pc2 := 80) C dX9_set_78 rfl [some (rv G this), some (.int a1), none, some (.float a2.toUInt32), some (.float b3), some (.float v6)] rfl rfl ?_
              refine x_fload (pc2 := 82) C dX9_set_80 rfl rfl ?_
              refine x_fload_n (pc2 := 83) C dX9_set_82 rfl rfl ?_
              refine x_fcmpl (pc2 := 84) C dX9_set_83 rfl ?_
              refine x_if_ne (tgt := 90) (pc2 := 87) C dX9_set_84 (by decide) rfl ?_ ?_
              · refine x_aload_n (pc2 := 91) C dX9_set_90 rfl rfl ?_
                refine x_callVv (pc2 := 94) C [] [] cl_X9_61 (fun q hq => ctX9_begin hk0 q hq) hk0 rfl rfl rfl ⟨rfl, rfl, Nat.le_of_ble_eq_true rfl, Nat.le_of_ble_eq_true rfl⟩ (Nat.le_of_ble_eq_true rfl) ⟨Nat.zero_le _, Nat.zero_le _⟩ dX9_set_91 rfl (fun v7 M8 => ?_)
                refine x_aload_n (pc2 := 95) C dX9_set_94 rfl rfl ?_
                refine x_get (pc2 := 98) C fl_X9_22 hk0 (by decide) rfl dX9_set_95 rfl ?_
                refine x_iconst (pc2 := 99) C dX9_set_98 rfl ic_4 ?_
                refine x_iload_n (pc2 := 100) C dX9_set_99 rfl rfl ?_
                refine x_iadd (pc2 := 101) C dX9_set_100 rfl ?_
                refine x_fload_n (pc2 := 102) C dX9_set_101 rfl rfl ?_
                refine x_fast (pc2 := 103) C (kf_8_4 hk0) dX9_set_102 rfl (fun M9 => ?_)
                refine x_fload (pc2 := 105) C dX9_set_103 rfl rfl ?_
                refine x_callSi (pc2 := 108) C [.float v6] [] cl_X9_97 (fun q hq => ctJxf58ca_floatToIntBits_5c35a  q hq) rfl rfl ⟨rfl, rfl, Nat.le_of_ble_eq_true rfl, Nat.le_of_ble_eq_true rfl⟩ (Nat.le_of_ble_eq_true rfl) ⟨Nat.zero_le _, Nat.zero_le _⟩ dX9_set_105 rfl (fun v10 M11 => ?_)
                exact x_iret C rfl rfl dX9_set_108
              · refine x_bipush (pc2 := 89) C dX9_set_87 rfl bc_m5 ?_
                exact x_iret C rfl rfl dX9_set_89
            · refine x_bipush (pc2 := 69) C dX9_set_67 rfl bc_m2 ?_
              exact x_iret C rfl rfl dX9_set_69
        · intro j4 hj4
          refine x_if_ne (tgt := 41) (pc2 := 37) C dX9_set_34 (by decide) rfl ?_ ?_
          · refine x_iload_n (pc2 := 42) C dX9_set_41 rfl rfl ?_
            refine x_iconst (pc2 := 43) C dX9_set_42 rfl ic_1 ?_
            refine x_icmp_ne (tgt := 51) (pc2 := 46) C dX9_set_43 (by decide) rfl ?_ ?_
            · refine x_fconst1 (pc2 := 52) C dX9_set_51 rfl ?_
              exact x_wk [some (rv G this), some (.int a1), none, some (.float a2.toUInt32), none, none] ⟨Or.inr rfl, Or.inr rfl, Or.inl rfl, Or.inr rfl, Or.inl rfl, Or.inl rfl, trivial⟩ (hj4 FP.fconst1 _)
            · refine x_ldcf (pc2 := 48) C wt4_77 dX9_set_46 rfl ?_
              refine x_goto (tgt := 52) C dX9_set_48 (by decide) ?_
              exact x_wk [some (rv G this), some (.int a1), none, some (.float a2.toUInt32), none, none] ⟨Or.inr rfl, Or.inr rfl, Or.inl rfl, Or.inr rfl, Or.inl rfl, Or.inl rfl, trivial⟩ (hj4 1082130432 _)
          · refine x_fconst2 (pc2 := 38) C dX9_set_37 rfl ?_
            refine x_goto (tgt := 52) C dX9_set_38 (by decide) ?_
            exact x_wk [some (rv G this), some (.int a1), none, some (.float a2.toUInt32), none, none] ⟨Or.inr rfl, Or.inr rfl, Or.inl rfl, Or.inr rfl, Or.inl rfl, Or.inl rfl, trivial⟩ (hj4 FP.fconst2 _)
      · refine x_bipush (pc2 := 27) C dX9_set_25 rfl bc_m2 ?_
        exact x_iret C rfl rfl dX9_set_27
  · refine x_bipush (pc2 := 11) C dX9_set_9 rfl bc_m2 ?_
    exact x_iret C rfl rfl dX9_set_11
set_option maxRecDepth 100000 in
set_option maxHeartbeats 4000000 in
theorem ctX9_setShift {l : Launch} {G : bkG} {M : Mem} {this : Nat} {a1 : Int32} {a2 : Int32} (hk0 : kd this = 8) : ∀ r, fX9_setShift this a1 a2 M = some r → Met l yX9_setShift (Cond.code yX9_setShift cX9_setShift 5 (some .int) :: TT) ({ frames := 2, cells := 0, slots := 0, locals := 43 } : Room) (va_Pc [rv G this, .int a1, .int a2] (Wd G M)) (QQ G ((fun v => some (.int v)) r.1) r.2) 0 0 (An G) := by
  refine mkMet (vl := (fun v => some (.int v))) RX9 rfl (by decide +kernel) rfl (Nat.le_of_ble_eq_true rfl) [some (rv G this), some (.int a1), some (.int a2), none, none] rfl ?_
  intro p e s m args below meth c C _
  refine x_aload_n (pc2 := 1) C dX9_setShift_0 rfl rfl ?_
  refine x_iload_n (pc2 := 2) C dX9_setShift_1 rfl rfl ?_
  refine x_callVi (pc2 := 5) C [.int a1] [] cl_X9_86 (fun q hq => ctX9_noTypist hk0 q hq) hk0 rfl rfl rfl ⟨rfl, rfl, Nat.le_of_ble_eq_true rfl, Nat.le_of_ble_eq_true rfl⟩ (Nat.le_of_ble_eq_true rfl) ⟨Nat.zero_le _, Nat.zero_le _⟩ dX9_setShift_2 rfl (fun v1 M2 => ?_)
  refine x_if_ne (tgt := 16) (pc2 := 8) C dX9_setShift_5 (by decide) rfl ?_ ?_
  · refine x_iconst (pc2 := 17) C dX9_setShift_16 rfl ic_m1 ?_
    exact x_iret C rfl rfl dX9_setShift_17
  · refine x_aload_n (pc2 := 9) C dX9_setShift_8 rfl rfl ?_
    refine x_iload_n (pc2 := 10) C dX9_setShift_9 rfl rfl ?_
    refine x_callVi (pc2 := 13) C [.int a2] [] cl_X9_79 (fun q hq => ctX9_noKey hk0 q hq) hk0 rfl rfl rfl ⟨rfl, rfl, Nat.le_of_ble_eq_true rfl, Nat.le_of_ble_eq_true rfl⟩ (Nat.le_of_ble_eq_true rfl) ⟨Nat.zero_le _, Nat.zero_le _⟩ dX9_setShift_10 rfl (fun v3 M4 => ?_)
    refine x_if_eq (tgt := 18) (pc2 := 16) C dX9_setShift_13 (by decide) rfl ?_ ?_
    · refine x_aload_n (pc2 := 19) C dX9_setShift_18 rfl rfl ?_
      refine x_iload_n (pc2 := 20) C dX9_setShift_19 rfl rfl ?_
      refine x_callVi (pc2 := 23) C [.int a2] [] cl_X9_82 (fun q hq => ctX9_shiftOf hk0 q hq) hk0 rfl rfl rfl ⟨rfl, rfl, Nat.le_of_ble_eq_true rfl, Nat.le_of_ble_eq_true rfl⟩ (Nat.le_of_ble_eq_true rfl) ⟨Nat.zero_le _, Nat.zero_le _⟩ dX9_setShift_20 rfl (fun v5 M6 => ?_)
      refine x_istore_n (pc2 := 24) C dX9_setShift_23 rfl [some (rv G this), some (.int a1), some (.int a2), some (.int v5), none] rfl rfl ?_
      refine x_iload_n (pc2 := 25) C dX9_setShift_24 rfl rfl ?_
      refine x_iconst (pc2 := 26) C dX9_setShift_25 rfl ic_1 ?_
      refine x_iload_n (pc2 := 27) C dX9_setShift_26 rfl rfl ?_
      refine x_isub (pc2 := 28) C dX9_setShift_27 rfl ?_
      refine x_icmp_ne (tgt := 34) (pc2 := 31) C dX9_setShift_28 (by decide) rfl ?_ ?_
      · refine x_iload_n (pc2 := 35) C dX9_setShift_34 rfl rfl ?_
        refine x_iload_n (pc2 := 36) C dX9_setShift_35 rfl rfl ?_
        refine x_icmp_ne (tgt := 42) (pc2 := 39) C dX9_setShift_36 (by decide) rfl ?_ ?_
        · refine x_aload_n (pc2 := 43) C dX9_setShift_42 rfl rfl ?_
          refine x_callVv (pc2 := 46) C [] [] cl_X9_61 (fun q hq => ctX9_begin hk0 q hq) hk0 rfl rfl rfl ⟨rfl, rfl, Nat.le_of_ble_eq_true rfl, Nat.le_of_ble_eq_true rfl⟩ (Nat.le_of_ble_eq_true rfl) ⟨Nat.zero_le _, Nat.zero_le _⟩ dX9_setShift_43 rfl (fun v7 M8 => ?_)
          refine x_aload_n (pc2 := 47) C dX9_setShift_46 rfl rfl ?_
          refine x_get (pc2 := 50) C fl_X9_7 hk0 (by decide) rfl dX9_setShift_47 rfl ?_
          refine x_iconst (pc2 := 51) C dX9_setShift_50 rfl ic_5 ?_
          refine x_iload_n (pc2 := 52) C dX9_setShift_51 rfl rfl ?_
          refine x_iadd (pc2 := 53) C dX9_setShift_52 rfl ?_
          refine x_iald (pc2 := 54) C (kf_8_0 hk0) dX9_setShift_53 rfl ?_
          refine x_topi (fun v9 => ?_)
          refine x_istore (pc2 := 56) C dX9_setShift_54 rfl [some (rv G this), some (.int a1), some (.int a2), some (.int v5), some (.int v9)] rfl rfl ?_
          refine x_aload_n (pc2 := 57) C dX9_setShift_56 rfl rfl ?_
          refine x_get (pc2 := 60) C fl_X9_7 hk0 (by decide) rfl dX9_setShift_57 rfl ?_
          refine x_iconst (pc2 := 61) C dX9_setShift_60 rfl ic_5 ?_
          refine x_iload_n (pc2 := 62) C dX9_setShift_61 rfl rfl ?_
          refine x_iadd (pc2 := 63) C dX9_setShift_62 rfl ?_
          refine x_iload_n (pc2 := 64) C dX9_setShift_63 rfl rfl ?_
          refine x_iast (pc2 := 65) C (kf_8_0 hk0) dX9_setShift_64 rfl (fun M10 => ?_)
          refine x_aload_n (pc2 := 66) C dX9_setShift_65 rfl rfl ?_
          refine x_get (pc2 := 69) C fl_X9_7 hk0 (by decide) rfl dX9_setShift_66 rfl ?_
          refine x_sipush (pc2 := 72) C dX9_setShift_69 rfl sc_260 ?_
          refine x_iload_n (pc2 := 73) C dX9_setShift_72 rfl rfl ?_
          refine x_iadd (pc2 := 74) C dX9_setShift_73 rfl ?_
          refine x_bipush (pc2 := 76) C dX9_setShift_74 rfl bc_46 ?_
          refine x_iast (pc2 := 77) C (kf_8_0 hk0) dX9_setShift_76 rfl (fun M11 => ?_)
          refine x_iload (pc2 := 79) C dX9_setShift_77 rfl rfl ?_
          refine x_if_ge (tgt := 86) (pc2 := 82) C dX9_setShift_79 (by decide) rfl ?_ ?_
          · refine x_iload (pc2 := 88) C dX9_setShift_86 rfl rfl ?_
            exact x_iret C rfl rfl dX9_setShift_88
          · refine x_iload_n (pc2 := 83) C dX9_setShift_82 rfl rfl ?_
            refine x_goto (tgt := 88) C dX9_setShift_83 (by decide) ?_
            exact x_iret C rfl rfl dX9_setShift_88
        · refine x_bipush (pc2 := 41) C dX9_setShift_39 rfl bc_m5 ?_
          exact x_iret C rfl rfl dX9_setShift_41
      · refine x_bipush (pc2 := 33) C dX9_setShift_31 rfl bc_m4 ?_
        exact x_iret C rfl rfl dX9_setShift_33
    · refine x_iconst (pc2 := 17) C dX9_setShift_16 rfl ic_m1 ?_
      exact x_iret C rfl rfl dX9_setShift_17
set_option maxRecDepth 100000 in
set_option maxHeartbeats 4000000 in
theorem ctX9_setSign {l : Launch} {G : bkG} {M : Mem} {this : Nat} {a1 : Int32} {a2 : Int32} (hk0 : kd this = 8) : ∀ r, fX9_setSign this a1 a2 M = some r → Met l yX9_setSign (Cond.code yX9_setSign cX9_setSign 5 (some .int) :: TT) ({ frames := 2, cells := 0, slots := 0, locals := 43 } : Room) (va_Pc [rv G this, .int a1, .int a2] (Wd G M)) (QQ G ((fun v => some (.int v)) r.1) r.2) 0 0 (An G) := by
  refine mkMet (vl := (fun v => some (.int v))) RX9 rfl (by decide +kernel) rfl (Nat.le_of_ble_eq_true rfl) [some (rv G this), some (.int a1), some (.int a2), none, none] rfl ?_
  intro p e s m args below meth c C _
  refine x_aload_n (pc2 := 1) C dX9_setSign_0 rfl rfl ?_
  refine x_iload_n (pc2 := 2) C dX9_setSign_1 rfl rfl ?_
  refine x_callVi (pc2 := 5) C [.int a1] [] cl_X9_79 (fun q hq => ctX9_noKey hk0 q hq) hk0 rfl rfl rfl ⟨rfl, rfl, Nat.le_of_ble_eq_true rfl, Nat.le_of_ble_eq_true rfl⟩ (Nat.le_of_ble_eq_true rfl) ⟨Nat.zero_le _, Nat.zero_le _⟩ dX9_setSign_2 rfl (fun v1 M2 => ?_)
  refine x_if_eq (tgt := 10) (pc2 := 8) C dX9_setSign_5 (by decide) rfl ?_ ?_
  · refine x_iload_n (pc2 := 11) C dX9_setSign_10 rfl rfl ?_
    refine x_bipush (pc2 := 13) C dX9_setSign_11 rfl bc_97 ?_
    refine x_bipush (pc2 := 15) C dX9_setSign_13 rfl bc_122 ?_
    refine x_callSi (pc2 := 18) C [.int a2, .int 97, .int 122] [] cl_X9_68 (fun q hq => ctX9_in  q hq) rfl rfl ⟨rfl, rfl, Nat.le_of_ble_eq_true rfl, Nat.le_of_ble_eq_true rfl⟩ (Nat.le_of_ble_eq_true rfl) ⟨Nat.zero_le _, Nat.zero_le _⟩ dX9_setSign_15 rfl (fun v3 M4 => ?_)
    refine x_jn 30 (fun (b5 : Unit) => [some (rv G this), some (.int a1), some (.int a2), none, none]) (fun (b5 : Unit) => []) ?_ ?_
    · intro b5 M7
      refine x_aload_n (pc2 := 31) C dX9_setSign_30 rfl rfl ?_
      refine x_get (pc2 := 34) C fl_X9_7 hk0 (by decide) rfl dX9_setSign_31 rfl ?_
      refine x_sipush (pc2 := 37) C dX9_setSign_34 rfl sc_260 ?_
      refine x_iload_n (pc2 := 38) C dX9_setSign_37 rfl rfl ?_
      refine x_iadd (pc2 := 39) C dX9_setSign_38 rfl ?_
      refine x_iald (pc2 := 40) C (kf_8_0 hk0) dX9_setSign_39 rfl ?_
      refine x_topi (fun v8 => ?_)
      refine x_istore_n (pc2 := 41) C dX9_setSign_40 rfl [some (rv G this), some (.int a1), some (.int a2), some (.int v8), none] rfl rfl ?_
      refine x_aload_n (pc2 := 42) C dX9_setSign_41 rfl rfl ?_
      refine x_iload_n (pc2 := 43) C dX9_setSign_42 rfl rfl ?_
      refine x_callVi (pc2 := 46) C [.int a1] [] cl_X9_82 (fun q hq => ctX9_shiftOf hk0 q hq) hk0 rfl rfl rfl ⟨rfl, rfl, Nat.le_of_ble_eq_true rfl, Nat.le_of_ble_eq_true rfl⟩ (Nat.le_of_ble_eq_true rfl) ⟨Nat.zero_le _, Nat.zero_le _⟩ dX9_setSign_43 rfl (fun v9 M10 => ?_)
      refine x_istore (pc2 := 48) C dX9_setSign_46 rfl [some (rv G this), some (.int a1), some (.int a2), some (.int v8), some (.int v9)] rfl rfl ?_
      refine x_iload_n (pc2 := 49) C dX9_setSign_48 rfl rfl ?_
      refine x_iload_n (pc2 := 50) C dX9_setSign_49 rfl rfl ?_
      refine x_jn 61 (fun (b11 : Unit) => [some (rv G this), some (.int a1), some (.int a2), some (.int v8), some (.int v9)]) (fun (b11 : Unit) => []) ?_ ?_
      · intro b11 M13
        refine x_aload_n (pc2 := 62) C dX9_setSign_61 rfl rfl ?_
        refine x_callVv (pc2 := 65) C [] [] cl_X9_61 (fun q hq => ctX9_begin hk0 q hq) hk0 rfl rfl rfl ⟨rfl, rfl, Nat.le_of_ble_eq_true rfl, Nat.le_of_ble_eq_true rfl⟩ (Nat.le_of_ble_eq_true rfl) ⟨Nat.zero_le _, Nat.zero_le _⟩ dX9_setSign_62 rfl (fun v14 M15 => ?_)
        refine x_aload_n (pc2 := 66) C dX9_setSign_65 rfl rfl ?_
        refine x_get (pc2 := 69) C fl_X9_7 hk0 (by decide) rfl dX9_setSign_66 rfl ?_
        refine x_sipush (pc2 := 72) C dX9_setSign_69 rfl sc_260 ?_
        refine x_iload_n (pc2 := 73) C dX9_setSign_72 rfl rfl ?_
        refine x_iadd (pc2 := 74) C dX9_setSign_73 rfl ?_
        refine x_iload_n (pc2 := 75) C dX9_setSign_74 rfl rfl ?_
        refine x_iast (pc2 := 76) C (kf_8_0 hk0) dX9_setSign_75 rfl (fun M16 => ?_)
        refine x_iload (pc2 := 78) C dX9_setSign_76 rfl rfl ?_
        refine x_if_lt (tgt := 92) (pc2 := 81) C dX9_setSign_78 (by decide) rfl ?_ ?_
        · refine x_iload_n (pc2 := 93) C dX9_setSign_92 rfl rfl ?_
          exact x_iret C rfl rfl dX9_setSign_93
        · refine x_aload_n (pc2 := 82) C dX9_setSign_81 rfl rfl ?_
          refine x_get (pc2 := 85) C fl_X9_7 hk0 (by decide) rfl dX9_setSign_82 rfl ?_
          refine x_iconst (pc2 := 86) C dX9_setSign_85 rfl ic_5 ?_
          refine x_iload (pc2 := 88) C dX9_setSign_86 rfl rfl ?_
          refine x_iadd (pc2 := 89) C dX9_setSign_88 rfl ?_
          refine x_bipush (pc2 := 91) C dX9_setSign_89 rfl bc_m5 ?_
          refine x_iast (pc2 := 92) C (kf_8_0 hk0) dX9_setSign_91 rfl (fun M17 => ?_)
          refine x_iload_n (pc2 := 93) C dX9_setSign_92 rfl rfl ?_
          exact x_iret C rfl rfl dX9_setSign_93
      · intro j12 hj12
        refine x_icmp_ne (tgt := 61) (pc2 := 53) C dX9_setSign_50 (by decide) rfl ?_ ?_
        · exact x_wk [some (rv G this), some (.int a1), some (.int a2), some (.int v8), some (.int v9)] ⟨Or.inr rfl, Or.inr rfl, Or.inr rfl, Or.inr rfl, Or.inr rfl, trivial⟩ (hj12 () _)
        · refine x_iload (pc2 := 55) C dX9_setSign_53 rfl rfl ?_
          refine x_if_ge (tgt := 61) (pc2 := 58) C dX9_setSign_55 (by decide) rfl ?_ ?_
          · exact x_wk [some (rv G this), some (.int a1), some (.int a2), some (.int v8), some (.int v9)] ⟨Or.inr rfl, Or.inr rfl, Or.inr rfl, Or.inr rfl, Or.inr rfl, trivial⟩ (hj12 () _)
          · refine x_bipush (pc2 := 60) C dX9_setSign_58 rfl bc_m5 ?_
            exact x_iret C rfl rfl dX9_setSign_60
    · intro j6 hj6
      refine x_if_ne (tgt := 30) (pc2 := 21) C dX9_setSign_18 (by decide) rfl ?_ ?_
      · exact x_wk [some (rv G this), some (.int a1), some (.int a2), none, none] ⟨Or.inr rfl, Or.inr rfl, Or.inr rfl, Or.inl rfl, Or.inl rfl, trivial⟩ (hj6 () _)
      · refine x_iload_n (pc2 := 22) C dX9_setSign_21 rfl rfl ?_
        refine x_bipush (pc2 := 24) C dX9_setSign_22 rfl bc_46 ?_
        refine x_icmp_eq (tgt := 30) (pc2 := 27) C dX9_setSign_24 (by decide) rfl ?_ ?_
        · exact x_wk [some (rv G this), some (.int a1), some (.int a2), none, none] ⟨Or.inr rfl, Or.inr rfl, Or.inr rfl, Or.inl rfl, Or.inl rfl, trivial⟩ (hj6 () _)
        · refine x_bipush (pc2 := 29) C dX9_setSign_27 rfl bc_m2 ?_
          exact x_iret C rfl rfl dX9_setSign_29
  · refine x_iconst (pc2 := 9) C dX9_setSign_8 rfl ic_m1 ?_
    exact x_iret C rfl rfl dX9_setSign_9
set_option maxRecDepth 100000 in
set_option maxHeartbeats 4000000 in
theorem ctX9_settle {l : Launch} {G : bkG} {M : Mem} {this : Nat} {a1 : Int32} {a2 : Int32} (hk0 : kd this = 8) : ∀ r, fX9_settle this a1 a2 M = some r → Met l yX9_settle (Cond.code yX9_settle cX9_settle 4 (some .int) :: TT) ({ frames := 3, cells := 0, slots := 0, locals := 67 } : Room) (va_Pc [rv G this, .int a1, .int a2] (Wd G M)) (QQ G ((fun v => some (.int v)) r.1) r.2) 0 0 (An G) := by
  refine mkMet (vl := (fun v => some (.int v))) RX9 rfl (by decide +kernel) rfl (Nat.le_of_ble_eq_true rfl) [some (rv G this), some (.int a1), some (.int a2), none] rfl ?_
  intro p e s m args below meth c C _
  refine x_aload_n (pc2 := 1) C dX9_settle_0 rfl rfl ?_
  refine x_iload_n (pc2 := 2) C dX9_settle_1 rfl rfl ?_
  refine x_callVi (pc2 := 5) C [.int a1] [] cl_X9_165 (fun q hq => ctX9_noDispute hk0 q hq) hk0 rfl rfl rfl ⟨rfl, rfl, Nat.le_of_ble_eq_true rfl, Nat.le_of_ble_eq_true rfl⟩ (Nat.le_of_ble_eq_true rfl) ⟨Nat.zero_le _, Nat.zero_le _⟩ dX9_settle_2 rfl (fun v1 M2 => ?_)
  refine x_if_eq (tgt := 10) (pc2 := 8) C dX9_settle_5 (by decide) rfl ?_ ?_
  · refine x_iload_n (pc2 := 11) C dX9_settle_10 rfl rfl ?_
    refine x_iconst (pc2 := 12) C dX9_settle_11 rfl ic_0 ?_
    refine x_iconst (pc2 := 13) C dX9_settle_12 rfl ic_2 ?_
    refine x_callSi (pc2 := 16) C [.int a2, .int 0, .int 2] [] cl_X9_68 (fun q hq => ctX9_in  q hq) rfl rfl ⟨rfl, rfl, Nat.le_of_ble_eq_true rfl, Nat.le_of_ble_eq_true rfl⟩ (Nat.le_of_ble_eq_true rfl) ⟨Nat.zero_le _, Nat.zero_le _⟩ dX9_settle_13 rfl (fun v3 M4 => ?_)
    refine x_if_ne (tgt := 22) (pc2 := 19) C dX9_settle_16 (by decide) rfl ?_ ?_
    · refine x_sipush (pc2 := 25) C dX9_settle_22 rfl sc_404 ?_
      refine x_bipush (pc2 := 27) C dX9_settle_25 rfl bc_7 ?_
      refine x_iload_n (pc2 := 28) C dX9_settle_27 rfl rfl ?_
      refine x_imul (pc2 := 29) C dX9_settle_28 rfl ?_
      refine x_iadd (pc2 := 30) C dX9_settle_29 rfl ?_
      refine x_istore_n (pc2 := 31) C dX9_settle_30 rfl [some (rv G this), some (.int a1), some (.int a2), some (.int (404 + (7 * a1)))] rfl rfl ?_
      refine x_aload_n (pc2 := 32) C dX9_settle_31 rfl rfl ?_
      refine x_get (pc2 := 35) C fl_X9_7 hk0 (by decide) rfl dX9_settle_32 rfl ?_
      refine x_iload_n (pc2 := 36) C dX9_settle_35 rfl rfl ?_
      refine x_iconst (pc2 := 37) C dX9_settle_36 rfl ic_3 ?_
      refine x_iadd (pc2 := 38) C dX9_settle_37 rfl ?_
      refine x_iald (pc2 := 39) C (kf_8_0 hk0) dX9_settle_38 rfl ?_
      refine x_if_lt (tgt := 45) (pc2 := 42) C dX9_settle_39 (by decide) rfl ?_ ?_
      · refine x_aload_n (pc2 := 46) C dX9_settle_45 rfl rfl ?_
        refine x_callVv (pc2 := 49) C [] [] cl_X9_61 (fun q hq => ctX9_begin hk0 q hq) hk0 rfl rfl rfl ⟨rfl, rfl, Nat.le_of_ble_eq_true rfl, Nat.le_of_ble_eq_true rfl⟩ (Nat.le_of_ble_eq_true rfl) ⟨Nat.zero_le _, Nat.zero_le _⟩ dX9_settle_46 rfl (fun v5 M6 => ?_)
        refine x_aload_n (pc2 := 50) C dX9_settle_49 rfl rfl ?_
        refine x_get (pc2 := 53) C fl_X9_7 hk0 (by decide) rfl dX9_settle_50 rfl ?_
        refine x_iload_n (pc2 := 54) C dX9_settle_53 rfl rfl ?_
        refine x_iconst (pc2 := 55) C dX9_settle_54 rfl ic_3 ?_
        refine x_iadd (pc2 := 56) C dX9_settle_55 rfl ?_
        refine x_iload_n (pc2 := 57) C dX9_settle_56 rfl rfl ?_
        refine x_iast (pc2 := 58) C (kf_8_0 hk0) dX9_settle_57 rfl (fun M7 => ?_)
        refine x_aload_n (pc2 := 59) C dX9_settle_58 rfl rfl ?_
        refine x_get (pc2 := 62) C fl_X9_7 hk0 (by decide) rfl dX9_settle_59 rfl ?_
        refine x_bipush (pc2 := 64) C dX9_settle_62 rfl bc_9 ?_
        refine x_iald (pc2 := 65) C (kf_8_0 hk0) dX9_settle_64 rfl ?_
        refine x_aload_n (pc2 := 66) C dX9_settle_65 rfl rfl ?_
        refine x_get (pc2 := 69) C fl_X9_7 hk0 (by decide) rfl dX9_settle_66 rfl ?_
        refine x_iload_n (pc2 := 70) C dX9_settle_69 rfl rfl ?_
        refine x_bipush (pc2 := 72) C dX9_settle_70 rfl bc_6 ?_
        refine x_iadd (pc2 := 73) C dX9_settle_72 rfl ?_
        refine x_iald (pc2 := 74) C (kf_8_0 hk0) dX9_settle_73 rfl ?_
        refine x_isub (pc2 := 75) C dX9_settle_74 rfl ?_
        refine x_bipush (pc2 := 77) C dX9_settle_75 rfl bc_16 ?_
        refine x_jn 107 (fun (b8 : Unit) => [some (rv G this), none, some (.int a2), some (.int (404 + (7 * a1)))]) (fun (b8 : Unit) => []) ?_ ?_
        · intro b8 M10
          refine x_aload_n (pc2 := 108) C dX9_settle_107 rfl rfl ?_
          refine x_iload_n (pc2 := 109) C dX9_settle_108 rfl rfl ?_
          refine x_aload_n (pc2 := 110) C dX9_settle_109 rfl rfl ?_
          refine x_get (pc2 := 113) C fl_X9_7 hk0 (by decide) rfl dX9_settle_110 rfl ?_
          refine x_iload_n (pc2 := 114) C dX9_settle_113 rfl rfl ?_
          refine x_iconst (pc2 := 115) C dX9_settle_114 rfl ic_4 ?_
          refine x_iadd (pc2 := 116) C dX9_settle_115 rfl ?_
          refine x_iald (pc2 := 117) C (kf_8_0 hk0) dX9_settle_116 rfl ?_
          refine x_callVv (pc2 := 120) C [.int a2, .int (M10.1 (this + 1) ((404 + (7 * a1)) + 4).toNatClampNeg)] [] cl_X9_139 (fun q hq => ctX9_countIt hk0 q hq) hk0 rfl rfl rfl ⟨rfl, rfl, Nat.le_of_ble_eq_true rfl, Nat.le_of_ble_eq_true rfl⟩ (Nat.le_of_ble_eq_true rfl) ⟨Nat.zero_le _, Nat.zero_le _⟩ dX9_settle_117 rfl (fun v11 M12 => ?_)
          refine x_iload_n (pc2 := 121) C dX9_settle_120 rfl rfl ?_
          refine x_iconst (pc2 := 122) C dX9_settle_121 rfl ic_2 ?_
          refine x_icmp_ge (tgt := 167) (pc2 := 125) C dX9_settle_122 (by decide) rfl ?_ ?_
          · refine x_aload_n (pc2 := 168) C dX9_settle_167 rfl rfl ?_
            refine x_get (pc2 := 171) C fl_X9_7 hk0 (by decide) rfl dX9_settle_168 rfl ?_
            refine x_iload_n (pc2 := 172) C dX9_settle_171 rfl rfl ?_
            refine x_iconst (pc2 := 173) C dX9_settle_172 rfl ic_0 ?_
            refine x_iadd (pc2 := 174) C dX9_settle_173 rfl ?_
            refine x_iald (pc2 := 175) C (kf_8_0 hk0) dX9_settle_174 rfl ?_
            exact x_iret C rfl rfl dX9_settle_175
          · refine x_aload_n (pc2 := 126) C dX9_settle_125 rfl rfl ?_
            refine x_iload_n (pc2 := 127) C dX9_settle_126 rfl rfl ?_
            refine x_aload_n (pc2 := 128) C dX9_settle_127 rfl rfl ?_
            refine x_get (pc2 := 131) C fl_X9_7 hk0 (by decide) rfl dX9_settle_128 rfl ?_
            refine x_iload_n (pc2 := 132) C dX9_settle_131 rfl rfl ?_
            refine x_iconst (pc2 := 133) C dX9_settle_132 rfl ic_1 ?_
            refine x_iadd (pc2 := 134) C dX9_settle_133 rfl ?_
            refine x_iald (pc2 := 135) C (kf_8_0 hk0) dX9_settle_134 rfl ?_
            refine x_aload_n (pc2 := 136) C dX9_settle_135 rfl rfl ?_
            refine x_get (pc2 := 139) C fl_X9_7 hk0 (by decide) rfl dX9_settle_136 rfl ?_
            refine x_iload_n (pc2 := 140) C dX9_settle_139 rfl rfl ?_
            refine x_iconst (pc2 := 141) C dX9_settle_140 rfl ic_2 ?_
            refine x_iadd (pc2 := 142) C dX9_settle_141 rfl ?_
            refine x_iald (pc2 := 143) C (kf_8_0 hk0) dX9_settle_142 rfl ?_
            refine x_callVv (pc2 := 146) C [.int a2, .int (M12.1 (this + 1) ((404 + (7 * a1)) + 1).toNatClampNeg), .int (M12.1 (this + 1) ((404 + (7 * a1)) + 2).toNatClampNeg)] [] cl_X9_143 (fun q hq => ctX9_learn hk0 q hq) hk0 rfl rfl rfl ⟨rfl, rfl, Nat.le_of_ble_eq_true rfl, Nat.le_of_ble_eq_true rfl⟩ (Nat.le_of_ble_eq_true rfl) ⟨Nat.zero_le _, Nat.zero_le _⟩ dX9_settle_143 rfl (fun v13 M14 => ?_)
            refine x_aload_n (pc2 := 147) C dX9_settle_146 rfl rfl ?_
            refine x_iload_n (pc2 := 148) C dX9_settle_147 rfl rfl ?_
            refine x_aload_n (pc2 := 149) C dX9_settle_148 rfl rfl ?_
            refine x_get (pc2 := 152) C fl_X9_7 hk0 (by decide) rfl dX9_settle_149 rfl ?_
            refine x_iload_n (pc2 := 153) C dX9_settle_152 rfl rfl ?_
            refine x_iconst (pc2 := 154) C dX9_settle_153 rfl ic_0 ?_
            refine x_iadd (pc2 := 155) C dX9_settle_154 rfl ?_
            refine x_iald (pc2 := 156) C (kf_8_0 hk0) dX9_settle_155 rfl ?_
            refine x_aload_n (pc2 := 157) C dX9_settle_156 rfl rfl ?_
            refine x_get (pc2 := 160) C fl_X9_7 hk0 (by decide) rfl dX9_settle_157 rfl ?_
            refine x_iload_n (pc2 := 161) C dX9_settle_160 rfl rfl ?_
            refine x_iconst (pc2 := 162) C dX9_settle_161 rfl ic_5 ?_
            refine x_iadd (pc2 := 163) C dX9_settle_162 rfl ?_
            refine x_iald (pc2 := 164) C (kf_8_0 hk0) dX9_settle_163 rfl ?_
            refine x_callVv (pc2 := 167) C [.int a2, .int (M14.1 (this + 1) ((404 + (7 * a1)) + 0).toNatClampNeg), .int (M14.1 (this + 1) ((404 + (7 * a1)) + 5).toNatClampNeg)] [] cl_X9_147 (fun q hq => ctX9_giveSign hk0 q hq) hk0 rfl rfl rfl ⟨rfl, rfl, Nat.le_of_ble_eq_true rfl, Nat.le_of_ble_eq_true rfl⟩ (Nat.le_of_ble_eq_true rfl) ⟨Nat.zero_le _, Nat.zero_le _⟩ dX9_settle_164 rfl (fun v15 M16 => ?_)
            refine x_aload_n (pc2 := 168) C dX9_settle_167 rfl rfl ?_
            refine x_get (pc2 := 171) C fl_X9_7 hk0 (by decide) rfl dX9_settle_168 rfl ?_
            refine x_iload_n (pc2 := 172) C dX9_settle_171 rfl rfl ?_
            refine x_iconst (pc2 := 173) C dX9_settle_172 rfl ic_0 ?_
            refine x_iadd (pc2 := 174) C dX9_settle_173 rfl ?_
            refine x_iald (pc2 := 175) C (kf_8_0 hk0) dX9_settle_174 rfl ?_
            exact x_iret C rfl rfl dX9_settle_175
        · intro j9 hj9
          refine x_icmp_gt (tgt := 107) (pc2 := 80) C dX9_settle_77 (by decide) rfl ?_ ?_
          · exact x_wk [some (rv G this), none, some (.int a2), some (.int (404 + (7 * a1)))] ⟨Or.inr rfl, Or.inl rfl, Or.inr rfl, Or.inr rfl, trivial⟩ (hj9 () _)
          · refine x_aload_n (pc2 := 81) C dX9_settle_80 rfl rfl ?_
            refine x_get (pc2 := 84) C fl_X9_7 hk0 (by decide) rfl dX9_settle_81 rfl ?_
            refine x_sipush (pc2 := 87) C dX9_settle_84 rfl sc_308 ?_
            refine x_bipush (pc2 := 89) C dX9_settle_87 rfl bc_6 ?_
            refine x_aload_n (pc2 := 90) C dX9_settle_89 rfl rfl ?_
            refine x_get (pc2 := 93) C fl_X9_7 hk0 (by decide) rfl dX9_settle_90 rfl ?_
            refine x_iload_n (pc2 := 94) C dX9_settle_93 rfl rfl ?_
            refine x_bipush (pc2 := 96) C dX9_settle_94 rfl bc_6 ?_
            refine x_iadd (pc2 := 97) C dX9_settle_96 rfl ?_
            refine x_iald (pc2 := 98) C (kf_8_0 hk0) dX9_settle_97 rfl ?_
            refine x_bipush (pc2 := 100) C dX9_settle_98 rfl bc_16 ?_
            refine x_iremL (pc2 := 101) C dX9_settle_100 rfl (by decide) ?_
            refine x_imul (pc2 := 102) C dX9_settle_101 rfl ?_
            refine x_iadd (pc2 := 103) C dX9_settle_102 rfl ?_
            refine x_iconst (pc2 := 104) C dX9_settle_103 rfl ic_3 ?_
            refine x_iadd (pc2 := 105) C dX9_settle_104 rfl ?_
            refine x_iload_n (pc2 := 106) C dX9_settle_105 rfl rfl ?_
            refine x_iast (pc2 := 107) C (kf_8_0 hk0) dX9_settle_106 rfl (fun M17 => ?_)
            exact x_wk [some (rv G this), none, some (.int a2), some (.int (404 + (7 * a1)))] ⟨Or.inr rfl, Or.inl rfl, Or.inr rfl, Or.inr rfl, trivial⟩ (hj9 () _)
      · refine x_bipush (pc2 := 44) C dX9_settle_42 rfl bc_m4 ?_
        exact x_iret C rfl rfl dX9_settle_44
    · refine x_bipush (pc2 := 21) C dX9_settle_19 rfl bc_m2 ?_
      exact x_iret C rfl rfl dX9_settle_21
  · refine x_iconst (pc2 := 9) C dX9_settle_8 rfl ic_m1 ?_
    exact x_iret C rfl rfl dX9_settle_9
set_option maxRecDepth 100000 in
set_option maxHeartbeats 4000000 in
theorem ctX9_stroke {l : Launch} {G : bkG} {M : Mem} {this : Nat} {a1 : Int32} {a2 : Int32} (hk0 : kd this = 8) : ∀ r, fX9_stroke this a1 a2 M = some r → Met l yX9_stroke (Cond.code yX9_stroke cX9_stroke 4 (some .int) :: TT) ({ frames := 1, cells := 0, slots := 0, locals := 22 } : Room) (va_Pc [rv G this, .int a1, .int a2] (Wd G M)) (QQ G ((fun v => some (.int v)) r.1) r.2) 0 0 (An G) := by
  refine mkMet (vl := (fun v => some (.int v))) RX9 rfl (by decide +kernel) rfl (Nat.le_of_ble_eq_true rfl) [some (rv G this), some (.int a1), some (.int a2), none] rfl ?_
  intro p e s m args below meth c C _
  refine x_iload_n (pc2 := 1) C dX9_stroke_0 rfl rfl ?_
  refine x_if_lt (tgt := 13) (pc2 := 4) C dX9_stroke_1 (by decide) rfl ?_ ?_
  · refine x_bipush (pc2 := 15) C dX9_stroke_13 rfl bc_m2 ?_
    exact x_iret C rfl rfl dX9_stroke_15
  · refine x_iload_n (pc2 := 5) C dX9_stroke_4 rfl rfl ?_
    refine x_iconst (pc2 := 6) C dX9_stroke_5 rfl ic_0 ?_
    refine x_iconst (pc2 := 7) C dX9_stroke_6 rfl ic_5 ?_
    refine x_callSi (pc2 := 10) C [.int a2, .int 0, .int 5] [] cl_X9_68 (fun q hq => ctX9_in  q hq) rfl rfl ⟨rfl, rfl, Nat.le_of_ble_eq_true rfl, Nat.le_of_ble_eq_true rfl⟩ (Nat.le_of_ble_eq_true rfl) ⟨Nat.zero_le _, Nat.zero_le _⟩ dX9_stroke_7 rfl (fun v1 M2 => ?_)
    refine x_if_ne (tgt := 16) (pc2 := 13) C dX9_stroke_10 (by decide) rfl ?_ ?_
    · refine x_aload_n (pc2 := 17) C dX9_stroke_16 rfl rfl ?_
      refine x_get (pc2 := 20) C fl_X9_7 hk0 (by decide) rfl dX9_stroke_17 rfl ?_
      refine x_bipush (pc2 := 22) C dX9_stroke_20 rfl bc_9 ?_
      refine x_iald (pc2 := 23) C (kf_8_0 hk0) dX9_stroke_22 rfl ?_
      refine x_topi (fun v3 => ?_)
      refine x_istore_n (pc2 := 24) C dX9_stroke_23 rfl [some (rv G this), some (.int a1), some (.int a2), some (.int v3)] rfl rfl ?_
      refine x_iload_n (pc2 := 25) C dX9_stroke_24 rfl rfl ?_
      refine x_iload_n (pc2 := 26) C dX9_stroke_25 rfl rfl ?_
      refine x_icmp_ge (tgt := 60) (pc2 := 29) C dX9_stroke_26 (by decide) rfl ?_ ?_
      · refine x_bipush (pc2 := 62) C dX9_stroke_60 rfl bc_m5 ?_
        exact x_iret C rfl rfl dX9_stroke_62
      · refine x_iload_n (pc2 := 30) C dX9_stroke_29 rfl rfl ?_
        refine x_bipush (pc2 := 32) C dX9_stroke_30 rfl bc_16 ?_
        refine x_icmp_ge (tgt := 60) (pc2 := 35) C dX9_stroke_32 (by decide) rfl ?_ ?_
        · refine x_bipush (pc2 := 62) C dX9_stroke_60 rfl bc_m5 ?_
          exact x_iret C rfl rfl dX9_stroke_62
        · refine x_aload_n (pc2 := 36) C dX9_stroke_35 rfl rfl ?_
          refine x_get (pc2 := 39) C fl_X9_7 hk0 (by decide) rfl dX9_stroke_36 rfl ?_
          refine x_sipush (pc2 := 42) C dX9_stroke_39 rfl sc_308 ?_
          refine x_bipush (pc2 := 44) C dX9_stroke_42 rfl bc_6 ?_
          refine x_iload_n (pc2 := 45) C dX9_stroke_44 rfl rfl ?_
          refine x_iconst (pc2 := 46) C dX9_stroke_45 rfl ic_1 ?_
          refine x_isub (pc2 := 47) C dX9_stroke_46 rfl ?_
          refine x_iload_n (pc2 := 48) C dX9_stroke_47 rfl rfl ?_
          refine x_isub (pc2 := 49) C dX9_stroke_48 rfl ?_
          refine x_bipush (pc2 := 51) C dX9_stroke_49 rfl bc_16 ?_
          refine x_iremL (pc2 := 52) C dX9_stroke_51 rfl (by decide) ?_
          refine x_imul (pc2 := 53) C dX9_stroke_52 rfl ?_
          refine x_iadd (pc2 := 54) C dX9_stroke_53 rfl ?_
          refine x_iload_n (pc2 := 55) C dX9_stroke_54 rfl rfl ?_
          refine x_iadd (pc2 := 56) C dX9_stroke_55 rfl ?_
          refine x_iald (pc2 := 57) C (kf_8_0 hk0) dX9_stroke_56 rfl ?_
          refine x_goto (tgt := 62) C dX9_stroke_57 (by decide) ?_
          exact x_iret C rfl rfl dX9_stroke_62
    · refine x_bipush (pc2 := 15) C dX9_stroke_13 rfl bc_m2 ?_
      exact x_iret C rfl rfl dX9_stroke_15
set_option maxRecDepth 100000 in
set_option maxHeartbeats 4000000 in
theorem ctX9_style {l : Launch} {G : bkG} {M : Mem} {this : Nat} {a1 : Int32} {a2 : Int32} (hk0 : kd this = 8) : ∀ r, fX9_style this a1 a2 M = some r → Met l yX9_style (Cond.code yX9_style cX9_style 3 (some .float) :: TT) ({ frames := 2, cells := 0, slots := 0, locals := 43 } : Room) (va_Pc [rv G this, .int a1, .int a2] (Wd G M)) (QQ G ((fun v => some (.float v)) r.1) r.2) 0 0 (An G) := by
  refine mkMet (vl := (fun v => some (.float v))) RX9 rfl (by decide +kernel) rfl (Nat.le_of_ble_eq_true rfl) [some (rv G this), some (.int a1), some (.int a2)] rfl ?_
  intro p e s m args below meth c C _
  refine x_aload_n (pc2 := 1) C dX9_style_0 rfl rfl ?_
  refine x_iload_n (pc2 := 2) C dX9_style_1 rfl rfl ?_
  refine x_callVi (pc2 := 5) C [.int a1] [] cl_X9_86 (fun q hq => ctX9_noTypist hk0 q hq) hk0 rfl rfl rfl ⟨rfl, rfl, Nat.le_of_ble_eq_true rfl, Nat.le_of_ble_eq_true rfl⟩ (Nat.le_of_ble_eq_true rfl) ⟨Nat.zero_le _, Nat.zero_le _⟩ dX9_style_2 rfl (fun v1 M2 => ?_)
  refine x_jn 17 (fun (b3 : Unit) => [none, none, none]) (fun (b3 : Unit) => []) ?_ ?_
  · intro b3 M5
    refine x_ldcf (pc2 := 19) C wt5_114 dX9_style_17 rfl ?_
    refine x_goto (tgt := 32) C dX9_style_19 (by decide) ?_
    exact x_fret C rfl rfl dX9_style_32
  · intro j4 hj4
    refine x_if_ne (tgt := 17) (pc2 := 8) C dX9_style_5 (by decide) rfl ?_ ?_
    · exact x_wk [none, none, none] ⟨Or.inl rfl, Or.inl rfl, Or.inl rfl, trivial⟩ (hj4 () _)
    · refine x_iload_n (pc2 := 9) C dX9_style_8 rfl rfl ?_
      refine x_iconst (pc2 := 10) C dX9_style_9 rfl ic_0 ?_
      refine x_iconst (pc2 := 11) C dX9_style_10 rfl ic_1 ?_
      refine x_callSi (pc2 := 14) C [.int a2, .int 0, .int 1] [] cl_X9_68 (fun q hq => ctX9_in  q hq) rfl rfl ⟨rfl, rfl, Nat.le_of_ble_eq_true rfl, Nat.le_of_ble_eq_true rfl⟩ (Nat.le_of_ble_eq_true rfl) ⟨Nat.zero_le _, Nat.zero_le _⟩ dX9_style_11 rfl (fun v6 M7 => ?_)
      refine x_if_ne (tgt := 22) (pc2 := 17) C dX9_style_14 (by decide) rfl ?_ ?_
      · refine x_aload_n (pc2 := 23) C dX9_style_22 rfl rfl ?_
        refine x_get (pc2 := 26) C fl_X9_22 hk0 (by decide) rfl dX9_style_23 rfl ?_
        refine x_iconst (pc2 := 27) C dX9_style_26 rfl ic_2 ?_
        refine x_iload_n (pc2 := 28) C dX9_style_27 rfl rfl ?_
        refine x_imul (pc2 := 29) C dX9_style_28 rfl ?_
        refine x_iload_n (pc2 := 30) C dX9_style_29 rfl rfl ?_
        refine x_iadd (pc2 := 31) C dX9_style_30 rfl ?_
        refine x_fald (pc2 := 32) C (kf_8_4 hk0) dX9_style_31 rfl ?_
        exact x_fret C rfl rfl dX9_style_32
      · exact x_wk [none, none, none] ⟨Or.inl rfl, Or.inl rfl, Or.inl rfl, trivial⟩ (hj4 () _)
set_option maxRecDepth 100000 in
set_option maxHeartbeats 4000000 in
theorem ctX9_tick {l : Launch} {G : bkG} {M : Mem} {this : Nat} {a1 : Int32} (hk0 : kd this = 8) : ∀ r, fX9_tick this a1 M = some r → Met l yX9_tick (Cond.code yX9_tick cX9_tick 2 (some .int) :: TT) ({ frames := 6, cells := 0, slots := 0, locals := 155 } : Room) (va_Pc [rv G this, .int a1] (Wd G M)) (QQ G ((fun v => some (.int v)) r.1) r.2) 0 0 (An G) := by
  refine mkMet (vl := (fun v => some (.int v))) RX9 rfl (by decide +kernel) rfl (Nat.le_of_ble_eq_true rfl) [some (rv G this), some (.int a1)] rfl ?_
  intro p e s m args below meth c C _
  refine x_iload_n (pc2 := 1) C dX9_tick_0 rfl rfl ?_
  refine x_iconst (pc2 := 2) C dX9_tick_1 rfl ic_1 ?_
  refine x_bipush (pc2 := 4) C dX9_tick_2 rfl bc_99 ?_
  refine x_callSi (pc2 := 7) C [.int a1, .int 1, .int 99] [] cl_X9_68 (fun q hq => ctX9_in  q hq) rfl rfl ⟨rfl, rfl, Nat.le_of_ble_eq_true rfl, Nat.le_of_ble_eq_true rfl⟩ (Nat.le_of_ble_eq_true rfl) ⟨Nat.zero_le _, Nat.zero_le _⟩ dX9_tick_4 rfl (fun v1 M2 => ?_)
  refine x_if_ne (tgt := 13) (pc2 := 10) C dX9_tick_7 (by decide) rfl ?_ ?_
  · refine x_aload_n (pc2 := 14) C dX9_tick_13 rfl rfl ?_
    refine x_callVv (pc2 := 17) C [] [] cl_X9_61 (fun q hq => ctX9_begin hk0 q hq) hk0 rfl rfl rfl ⟨rfl, rfl, Nat.le_of_ble_eq_true rfl, Nat.le_of_ble_eq_true rfl⟩ (Nat.le_of_ble_eq_true rfl) ⟨Nat.zero_le _, Nat.zero_le _⟩ dX9_tick_14 rfl (fun v3 M4 => ?_)
    refine x_aload_n (pc2 := 18) C dX9_tick_17 rfl rfl ?_
    refine x_iload_n (pc2 := 19) C dX9_tick_18 rfl rfl ?_
    refine x_callVi (pc2 := 22) C [.int a1] [] cl_X9_162 (fun q hq => ctX9_steps hk0 q hq) hk0 rfl rfl rfl ⟨rfl, rfl, Nat.le_of_ble_eq_true rfl, Nat.le_of_ble_eq_true rfl⟩ (Nat.le_of_ble_eq_true rfl) ⟨Nat.zero_le _, Nat.zero_le _⟩ dX9_tick_19 rfl (fun v5 M6 => ?_)
    exact x_iret C rfl rfl dX9_tick_22
  · refine x_bipush (pc2 := 12) C dX9_tick_10 rfl bc_m2 ?_
    exact x_iret C rfl rfl dX9_tick_12
set_option maxRecDepth 100000 in
set_option maxHeartbeats 4000000 in
theorem ctX9_type {l : Launch} {G : bkG} {M : Mem} {this : Nat} {a1 : Int32} (hk0 : kd this = 8) : ∀ r, fX9_type this a1 M = some r → Met l yX9_type (Cond.code yX9_type cX9_type 2 (some .int) :: TT) ({ frames := 0, cells := 0, slots := 0, locals := 0 } : Room) (va_Pc [rv G this, .int a1] (Wd G M)) (QQ G ((fun v => some (.int v)) r.1) r.2) 0 0 (An G) := by
  refine mkMet (vl := (fun v => some (.int v))) RX9 rfl (by decide +kernel) rfl (Nat.le_of_ble_eq_true rfl) [some (rv G this), some (.int a1)] rfl ?_
  intro p e s m args below meth c C _
  refine x_aload_n (pc2 := 1) C dX9_type_0 rfl rfl ?_
  refine x_get (pc2 := 4) C fl_X9_168 hk0 (by decide) rfl dX9_type_1 rfl ?_
  refine x_bipush (pc2 := 6) C dX9_type_4 rfl bc_60 ?_
  refine x_icmp_ne (tgt := 12) (pc2 := 9) C dX9_type_6 (by decide) rfl ?_ ?_
  · refine x_aload_n (pc2 := 13) C dX9_type_12 rfl rfl ?_
    refine x_get (pc2 := 16) C fl_X9_35 hk0 (by decide) rfl dX9_type_13 rfl ?_
    refine x_aload_n (pc2 := 17) C dX9_type_16 rfl rfl ?_
    refine x_get (pc2 := 20) C fl_X9_168 hk0 (by decide) rfl dX9_type_17 rfl ?_
    refine x_iload_n (pc2 := 21) C dX9_type_20 rfl rfl ?_
    refine x_cast (pc2 := 22) C (kf_8_10 hk0) dX9_type_21 rfl (fun M1 => ?_)
    refine x_aload_n (pc2 := 23) C dX9_type_22 rfl rfl ?_
    refine x_dup (pc2 := 24) C dX9_type_23 rfl rfl ?_
    refine x_get (pc2 := 27) C fl_X9_168 hk0 (by decide) rfl dX9_type_24 rfl ?_
    refine x_iconst (pc2 := 28) C dX9_type_27 rfl ic_1 ?_
    refine x_iadd (pc2 := 29) C dX9_type_28 rfl ?_
    refine x_puti (pc2 := 32) C ft_X9_168 hk0 (by decide) hs_8_11 (Nat.le_of_ble_eq_true rfl) dX9_type_29 rfl (fun M2 => ?_)
    refine x_aload_n (pc2 := 33) C dX9_type_32 rfl rfl ?_
    refine x_get (pc2 := 36) C fl_X9_168 hk0 (by decide) rfl dX9_type_33 rfl ?_
    exact x_iret C rfl rfl dX9_type_36
  · refine x_bipush (pc2 := 11) C dX9_type_9 rfl bc_m3 ?_
    exact x_iret C rfl rfl dX9_type_11
set_option maxRecDepth 100000 in
set_option maxHeartbeats 4000000 in
theorem ctX9_typed {l : Launch} {G : bkG} {M : Mem} {this : Nat} {a1 : Int32} {a2 : Int32} (hk0 : kd this = 8) : ∀ r, fX9_typed this a1 a2 M = some r → Met l yX9_typed (Cond.code yX9_typed cX9_typed 4 (some .int) :: TT) ({ frames := 2, cells := 0, slots := 0, locals := 43 } : Room) (va_Pc [rv G this, .int a1, .int a2] (Wd G M)) (QQ G ((fun v => some (.int v)) r.1) r.2) 0 0 (An G) := by
  refine mkMet (vl := (fun v => some (.int v))) RX9 rfl (by decide +kernel) rfl (Nat.le_of_ble_eq_true rfl) [some (rv G this), some (.int a1), some (.int a2), none] rfl ?_
  intro p e s m args below meth c C _
  refine x_aload_n (pc2 := 1) C dX9_typed_0 rfl rfl ?_
  refine x_iload_n (pc2 := 2) C dX9_typed_1 rfl rfl ?_
  refine x_callVi (pc2 := 5) C [.int a1] [] cl_X9_86 (fun q hq => ctX9_noTypist hk0 q hq) hk0 rfl rfl rfl ⟨rfl, rfl, Nat.le_of_ble_eq_true rfl, Nat.le_of_ble_eq_true rfl⟩ (Nat.le_of_ble_eq_true rfl) ⟨Nat.zero_le _, Nat.zero_le _⟩ dX9_typed_2 rfl (fun v1 M2 => ?_)
  refine x_if_eq (tgt := 10) (pc2 := 8) C dX9_typed_5 (by decide) rfl ?_ ?_
  · refine x_iload_n (pc2 := 11) C dX9_typed_10 rfl rfl ?_
    refine x_if_ge (tgt := 17) (pc2 := 14) C dX9_typed_11 (by decide) rfl ?_ ?_
    · refine x_aload_n (pc2 := 18) C dX9_typed_17 rfl rfl ?_
      refine x_get (pc2 := 21) C fl_X9_7 hk0 (by decide) rfl dX9_typed_18 rfl ?_
      refine x_bipush (pc2 := 23) C dX9_typed_21 rfl bc_17 ?_
      refine x_iload_n (pc2 := 24) C dX9_typed_23 rfl rfl ?_
      refine x_iadd (pc2 := 25) C dX9_typed_24 rfl ?_
      refine x_iald (pc2 := 26) C (kf_8_0 hk0) dX9_typed_25 rfl ?_
      refine x_topi (fun v3 => ?_)
      refine x_istore_n (pc2 := 27) C dX9_typed_26 rfl [some (rv G this), some (.int a1), some (.int a2), some (.int v3)] rfl rfl ?_
      refine x_iload_n (pc2 := 28) C dX9_typed_27 rfl rfl ?_
      refine x_iload_n (pc2 := 29) C dX9_typed_28 rfl rfl ?_
      refine x_icmp_ge (tgt := 63) (pc2 := 32) C dX9_typed_29 (by decide) rfl ?_ ?_
      · refine x_bipush (pc2 := 65) C dX9_typed_63 rfl bc_m5 ?_
        exact x_iret C rfl rfl dX9_typed_65
      · refine x_iload_n (pc2 := 33) C dX9_typed_32 rfl rfl ?_
        refine x_bipush (pc2 := 35) C dX9_typed_33 rfl bc_24 ?_
        refine x_icmp_ge (tgt := 63) (pc2 := 38) C dX9_typed_35 (by decide) rfl ?_ ?_
        · refine x_bipush (pc2 := 65) C dX9_typed_63 rfl bc_m5 ?_
          exact x_iret C rfl rfl dX9_typed_65
        · refine x_aload_n (pc2 := 39) C dX9_typed_38 rfl rfl ?_
          refine x_get (pc2 := 42) C fl_X9_7 hk0 (by decide) rfl dX9_typed_39 rfl ?_
          refine x_sipush (pc2 := 45) C dX9_typed_42 rfl sc_544 ?_
          refine x_bipush (pc2 := 47) C dX9_typed_45 rfl bc_24 ?_
          refine x_iload_n (pc2 := 48) C dX9_typed_47 rfl rfl ?_
          refine x_imul (pc2 := 49) C dX9_typed_48 rfl ?_
          refine x_iadd (pc2 := 50) C dX9_typed_49 rfl ?_
          refine x_iload_n (pc2 := 51) C dX9_typed_50 rfl rfl ?_
          refine x_iconst (pc2 := 52) C dX9_typed_51 rfl ic_1 ?_
          refine x_isub (pc2 := 53) C dX9_typed_52 rfl ?_
          refine x_iload_n (pc2 := 54) C dX9_typed_53 rfl rfl ?_
          refine x_isub (pc2 := 55) C dX9_typed_54 rfl ?_
          refine x_bipush (pc2 := 57) C dX9_typed_55 rfl bc_24 ?_
          refine x_iremL (pc2 := 58) C dX9_typed_57 rfl (by decide) ?_
          refine x_iadd (pc2 := 59) C dX9_typed_58 rfl ?_
          refine x_iald (pc2 := 60) C (kf_8_0 hk0) dX9_typed_59 rfl ?_
          refine x_goto (tgt := 65) C dX9_typed_60 (by decide) ?_
          exact x_iret C rfl rfl dX9_typed_65
    · refine x_bipush (pc2 := 16) C dX9_typed_14 rfl bc_m2 ?_
      exact x_iret C rfl rfl dX9_typed_16
  · refine x_iconst (pc2 := 9) C dX9_typed_8 rfl ic_m1 ?_
    exact x_iret C rfl rfl dX9_typed_9
set_option maxRecDepth 100000 in
set_option maxHeartbeats 4000000 in
theorem ctX9_typist {l : Launch} {G : bkG} {M : Mem} {this : Nat} {a1 : Int32} {a2 : Int32} (hk0 : kd this = 8) : ∀ r, fX9_typist this a1 a2 M = some r → Met l yX9_typist (Cond.code yX9_typist cX9_typist 3 (some .int) :: TT) ({ frames := 2, cells := 0, slots := 0, locals := 43 } : Room) (va_Pc [rv G this, .int a1, .int a2] (Wd G M)) (QQ G ((fun v => some (.int v)) r.1) r.2) 0 0 (An G) := by
  refine mkMet (vl := (fun v => some (.int v))) RX9 rfl (by decide +kernel) rfl (Nat.le_of_ble_eq_true rfl) [some (rv G this), some (.int a1), some (.int a2)] rfl ?_
  intro p e s m args below meth c C _
  refine x_aload_n (pc2 := 1) C dX9_typist_0 rfl rfl ?_
  refine x_iload_n (pc2 := 2) C dX9_typist_1 rfl rfl ?_
  refine x_callVi (pc2 := 5) C [.int a1] [] cl_X9_86 (fun q hq => ctX9_noTypist hk0 q hq) hk0 rfl rfl rfl ⟨rfl, rfl, Nat.le_of_ble_eq_true rfl, Nat.le_of_ble_eq_true rfl⟩ (Nat.le_of_ble_eq_true rfl) ⟨Nat.zero_le _, Nat.zero_le _⟩ dX9_typist_2 rfl (fun v1 M2 => ?_)
  refine x_if_eq (tgt := 10) (pc2 := 8) C dX9_typist_5 (by decide) rfl ?_ ?_
  · refine x_iload_n (pc2 := 11) C dX9_typist_10 rfl rfl ?_
    refine x_ite (fun hs3 => ?_) (fun hs3 => ?_)
    · refine x_tin (tgt := 56) C hs3 dX9_typist_11 (by decide) (by decide) rfl (by decide) ?_
      refine x_aload_n (pc2 := 57) C dX9_typist_56 rfl rfl ?_
      refine x_iload_n (pc2 := 58) C dX9_typist_57 rfl rfl ?_
      refine x_callVi (pc2 := 61) C [.int a1] [] cl_X9_150 (fun q hq => ctX9_held hk0 q hq) hk0 rfl rfl rfl ⟨rfl, rfl, Nat.le_of_ble_eq_true rfl, Nat.le_of_ble_eq_true rfl⟩ (Nat.le_of_ble_eq_true rfl) ⟨Nat.zero_le _, Nat.zero_le _⟩ dX9_typist_58 rfl (fun v4 M5 => ?_)
      exact x_iret C rfl rfl dX9_typist_61
    · refine x_ite (fun hs6 => ?_) (fun hs6 => ?_)
      · refine x_tin (tgt := 62) C hs6 dX9_typist_11 (by decide) (by decide) rfl (by decide) ?_
        refine x_aload_n (pc2 := 63) C dX9_typist_62 rfl rfl ?_
        refine x_get (pc2 := 66) C fl_X9_7 hk0 (by decide) rfl dX9_typist_63 rfl ?_
        refine x_iconst (pc2 := 67) C dX9_typist_66 rfl ic_5 ?_
        refine x_iload_n (pc2 := 68) C dX9_typist_67 rfl rfl ?_
        refine x_iadd (pc2 := 69) C dX9_typist_68 rfl ?_
        refine x_iald (pc2 := 70) C (kf_8_0 hk0) dX9_typist_69 rfl ?_
        exact x_iret C rfl rfl dX9_typist_70
      · refine x_ite (fun hs7 => ?_) (fun hs7 => ?_)
        · refine x_tin (tgt := 71) C hs7 dX9_typist_11 (by decide) (by decide) rfl (by decide) ?_
          refine x_aload_n (pc2 := 72) C dX9_typist_71 rfl rfl ?_
          refine x_iload_n (pc2 := 73) C dX9_typist_72 rfl rfl ?_
          refine x_callVi (pc2 := 76) C [.int a1] [] cl_X9_117 (fun q hq => ctX9_isOn hk0 q hq) hk0 rfl rfl rfl ⟨rfl, rfl, Nat.le_of_ble_eq_true rfl, Nat.le_of_ble_eq_true rfl⟩ (Nat.le_of_ble_eq_true rfl) ⟨Nat.zero_le _, Nat.zero_le _⟩ dX9_typist_73 rfl (fun v8 M9 => ?_)
          refine x_if_eq (tgt := 83) (pc2 := 79) C dX9_typist_76 (by decide) rfl ?_ ?_
          · refine x_iconst (pc2 := 84) C dX9_typist_83 rfl ic_0 ?_
            exact x_iret C rfl rfl dX9_typist_84
          · refine x_iconst (pc2 := 80) C dX9_typist_79 rfl ic_1 ?_
            refine x_goto (tgt := 84) C dX9_typist_80 (by decide) ?_
            exact x_iret C rfl rfl dX9_typist_84
        · refine x_ite (fun hs10 => ?_) (fun hs10 => ?_)
          · refine x_tin (tgt := 85) C hs10 dX9_typist_11 (by decide) (by decide) rfl (by decide) ?_
            refine x_aload_n (pc2 := 86) C dX9_typist_85 rfl rfl ?_
            refine x_get (pc2 := 89) C fl_X9_7 hk0 (by decide) rfl dX9_typist_86 rfl ?_
            refine x_bipush (pc2 := 91) C dX9_typist_89 rfl bc_7 ?_
            refine x_iload_n (pc2 := 92) C dX9_typist_91 rfl rfl ?_
            refine x_iadd (pc2 := 93) C dX9_typist_92 rfl ?_
            refine x_iald (pc2 := 94) C (kf_8_0 hk0) dX9_typist_93 rfl ?_
            exact x_iret C rfl rfl dX9_typist_94
          · refine x_ite (fun hs11 => ?_) (fun hs11 => ?_)
            · refine x_tin (tgt := 95) C hs11 dX9_typist_11 (by decide) (by decide) rfl (by decide) ?_
              refine x_aload_n (pc2 := 96) C dX9_typist_95 rfl rfl ?_
              refine x_get (pc2 := 99) C fl_X9_7 hk0 (by decide) rfl dX9_typist_96 rfl ?_
              refine x_bipush (pc2 := 101) C dX9_typist_99 rfl bc_10 ?_
              refine x_iload_n (pc2 := 102) C dX9_typist_101 rfl rfl ?_
              refine x_iadd (pc2 := 103) C dX9_typist_102 rfl ?_
              refine x_iald (pc2 := 104) C (kf_8_0 hk0) dX9_typist_103 rfl ?_
              exact x_iret C rfl rfl dX9_typist_104
            · refine x_ite (fun hs12 => ?_) (fun hs12 => ?_)
              · refine x_tin (tgt := 105) C hs12 dX9_typist_11 (by decide) (by decide) rfl (by decide) ?_
                refine x_aload_n (pc2 := 106) C dX9_typist_105 rfl rfl ?_
                refine x_get (pc2 := 109) C fl_X9_7 hk0 (by decide) rfl dX9_typist_106 rfl ?_
                refine x_bipush (pc2 := 111) C dX9_typist_109 rfl bc_12 ?_
                refine x_iload_n (pc2 := 112) C dX9_typist_111 rfl rfl ?_
                refine x_iadd (pc2 := 113) C dX9_typist_112 rfl ?_
                refine x_iald (pc2 := 114) C (kf_8_0 hk0) dX9_typist_113 rfl ?_
                exact x_iret C rfl rfl dX9_typist_114
              · refine x_ite (fun hs13 => ?_) (fun hs13 => ?_)
                · refine x_tin (tgt := 115) C hs13 dX9_typist_11 (by decide) (by decide) rfl (by decide) ?_
                  refine x_aload_n (pc2 := 116) C dX9_typist_115 rfl rfl ?_
                  refine x_get (pc2 := 119) C fl_X9_7 hk0 (by decide) rfl dX9_typist_116 rfl ?_
                  refine x_bipush (pc2 := 121) C dX9_typist_119 rfl bc_17 ?_
                  refine x_iload_n (pc2 := 122) C dX9_typist_121 rfl rfl ?_
                  refine x_iadd (pc2 := 123) C dX9_typist_122 rfl ?_
                  refine x_iald (pc2 := 124) C (kf_8_0 hk0) dX9_typist_123 rfl ?_
                  exact x_iret C rfl rfl dX9_typist_124
                · refine x_ite (fun hs14 => ?_) (fun hs14 => ?_)
                  · refine x_tin (tgt := 125) C hs14 dX9_typist_11 (by decide) (by decide) rfl (by decide) ?_
                    refine x_aload_n (pc2 := 126) C dX9_typist_125 rfl rfl ?_
                    refine x_get (pc2 := 129) C fl_X9_7 hk0 (by decide) rfl dX9_typist_126 rfl ?_
                    refine x_iconst (pc2 := 130) C dX9_typist_129 rfl ic_3 ?_
                    refine x_iload_n (pc2 := 131) C dX9_typist_130 rfl rfl ?_
                    refine x_iadd (pc2 := 132) C dX9_typist_131 rfl ?_
                    refine x_iald (pc2 := 133) C (kf_8_0 hk0) dX9_typist_132 rfl ?_
                    exact x_iret C rfl rfl dX9_typist_133
                  · refine x_tout (tgt := 134) C dX9_typist_11 (by have t0 := lv_neT (a := 0) hs3 rfl; have t1 := lv_neT (a := 1) hs6 rfl; have t2 := lv_neT (a := 2) hs7 rfl; have t3 := lv_neT (a := 3) hs10 rfl; have t4 := lv_neT (a := 4) hs11 rfl; have t5 := lv_neT (a := 5) hs12 rfl; have t6 := lv_neT (a := 6) hs13 rfl; have t7 := lv_neT (a := 7) hs14 rfl; omega) (by decide) ?_
                    refine x_bipush (pc2 := 136) C dX9_typist_134 rfl bc_m2 ?_
                    exact x_iret C rfl rfl dX9_typist_136
  · refine x_iconst (pc2 := 9) C dX9_typist_8 rfl ic_m1 ?_
    exact x_iret C rfl rfl dX9_typist_9
set_option maxRecDepth 100000 in
set_option maxHeartbeats 4000000 in
theorem ctX9_undo {l : Launch} {G : bkG} {M : Mem} {this : Nat} (hk0 : kd this = 8) : ∀ r, fX9_undo this M = some r → Met l yX9_undo (Cond.code yX9_undo cX9_undo 2 (some .int) :: TT) ({ frames := 0, cells := 0, slots := 0, locals := 0 } : Room) (va_Pc [rv G this] (Wd G M)) (QQ G ((fun v => some (.int v)) r.1) r.2) 0 0 (An G) := by
  refine mkMet (vl := (fun v => some (.int v))) RX9 rfl (by decide +kernel) rfl (Nat.le_of_ble_eq_true rfl) [some (rv G this), none] rfl ?_
  intro p e s m args below meth c C _
  refine x_aload_n (pc2 := 1) C dX9_undo_0 rfl rfl ?_
  refine x_get (pc2 := 4) C fl_X9_47 hk0 (by decide) rfl dX9_undo_1 rfl ?_
  refine x_if_ne (tgt := 10) (pc2 := 7) C dX9_undo_4 (by decide) rfl ?_ ?_
  · refine x_aload_n (pc2 := 11) C dX9_undo_10 rfl rfl ?_
    refine x_dup (pc2 := 12) C dX9_undo_11 rfl rfl ?_
    refine x_get (pc2 := 15) C fl_X9_47 hk0 (by decide) rfl dX9_undo_12 rfl ?_
    refine x_iconst (pc2 := 16) C dX9_undo_15 rfl ic_1 ?_
    refine x_isub (pc2 := 17) C dX9_undo_16 rfl ?_
    refine x_puti (pc2 := 20) C ft_X9_47 hk0 (by decide) hs_8_8 (Nat.le_of_ble_eq_true rfl) dX9_undo_17 rfl (fun M1 => ?_)
    refine x_iconst (pc2 := 21) C dX9_undo_20 rfl ic_0 ?_
    refine x_istore_n (pc2 := 22) C dX9_undo_21 rfl [some (rv G this), some (.int 0)] rfl rfl ?_
    refine x_wk [some (rv G this), some (.int 0)] ⟨Or.inr rfl, Or.inr rfl, trivial⟩ ?_
    refine x_lp1 (fun (b2 : Int32) => [some (rv G this), some (.int b2)]) 56 (fun (b5 : Unit) => [some (rv G this), none]) ?_ ?_
    · intro b5 M6
      refine x_iconst (pc2 := 57) C dX9_undo_56 rfl ic_0 ?_
      refine x_istore_n (pc2 := 58) C dX9_undo_57 rfl [some (rv G this), some (.int 0)] rfl rfl ?_
      refine x_wk [some (rv G this), some (.int 0)] ⟨Or.inr rfl, Or.inr rfl, trivial⟩ ?_
      refine x_lp (fun (b7 : Int32) => [some (rv G this), some (.int b7)]) ?_
      · intro rec9 hrec9 b7 M8
        refine x_iload_n (pc2 := 59) C dX9_undo_58 rfl rfl ?_
        refine x_bipush (pc2 := 61) C dX9_undo_59 rfl bc_7 ?_
        refine x_icmp_ge (tgt := 90) (pc2 := 64) C dX9_undo_61 (by decide) rfl ?_ ?_
        · refine x_aload_n (pc2 := 91) C dX9_undo_90 rfl rfl ?_
          refine x_get (pc2 := 94) C fl_X9_47 hk0 (by decide) rfl dX9_undo_91 rfl ?_
          exact x_iret C rfl rfl dX9_undo_94
        · refine x_aload_n (pc2 := 65) C dX9_undo_64 rfl rfl ?_
          refine x_get (pc2 := 68) C fl_X9_22 hk0 (by decide) rfl dX9_undo_65 rfl ?_
          refine x_iload_n (pc2 := 69) C dX9_undo_68 rfl rfl ?_
          refine x_aload_n (pc2 := 70) C dX9_undo_69 rfl rfl ?_
          refine x_get (pc2 := 73) C fl_X9_26 hk0 (by decide) rfl dX9_undo_70 rfl ?_
          refine x_bipush (pc2 := 75) C dX9_undo_73 rfl bc_7 ?_
          refine x_aload_n (pc2 := 76) C dX9_undo_75 rfl rfl ?_
          refine x_get (pc2 := 79) C fl_X9_47 hk0 (by decide) rfl dX9_undo_76 rfl ?_
          refine x_imul (pc2 := 80) C dX9_undo_79 rfl ?_
          refine x_iload_n (pc2 := 81) C dX9_undo_80 rfl rfl ?_
          refine x_iadd (pc2 := 82) C dX9_undo_81 rfl ?_
          refine x_fald (pc2 := 83) C (kf_8_5 hk0) dX9_undo_82 rfl ?_
          refine x_fast (pc2 := 84) C (kf_8_4 hk0) dX9_undo_83 rfl (fun M10 => ?_)
          refine x_iinc (pc2 := 87) (v := b7 + 1) C dX9_undo_84 rfl rfl 1 ic_1 rfl [some (rv G this), some (.int (b7 + 1))] rfl rfl ?_
          refine x_goto (tgt := 58) C dX9_undo_87 (by decide) ?_
          exact x_wk [some (rv G this), some (.int (b7 + 1))] ⟨Or.inr rfl, Or.inr rfl, trivial⟩ (hrec9 (b7 + 1) _)
    · intro k11 hk11 rec4 hrec4 b2 M3
      refine x_iload_n (pc2 := 23) C dX9_undo_22 rfl rfl ?_
      refine x_sipush (pc2 := 26) C dX9_undo_23 rfl sc_592 ?_
      refine x_icmp_ge (tgt := 56) (pc2 := 29) C dX9_undo_26 (by decide) rfl ?_ ?_
      · exact x_wk [some (rv G this), none] ⟨Or.inr rfl, Or.inl rfl, trivial⟩ (hk11 () _)
      · refine x_aload_n (pc2 := 30) C dX9_undo_29 rfl rfl ?_
        refine x_get (pc2 := 33) C fl_X9_7 hk0 (by decide) rfl dX9_undo_30 rfl ?_
        refine x_iload_n (pc2 := 34) C dX9_undo_33 rfl rfl ?_
        refine x_aload_n (pc2 := 35) C dX9_undo_34 rfl rfl ?_
        refine x_get (pc2 := 38) C fl_X9_13 hk0 (by decide) rfl dX9_undo_35 rfl ?_
        refine x_sipush (pc2 := 41) C dX9_undo_38 rfl sc_592 ?_
        refine x_aload_n (pc2 := 42) C dX9_undo_41 rfl rfl ?_
        refine x_get (pc2 := 45) C fl_X9_47 hk0 (by decide) rfl dX9_undo_42 rfl ?_
        refine x_imul (pc2 := 46) C dX9_undo_45 rfl ?_
        refine x_iload_n (pc2 := 47) C dX9_undo_46 rfl rfl ?_
        refine x_iadd (pc2 := 48) C dX9_undo_47 rfl ?_
        refine x_iald (pc2 := 49) C (kf_8_1 hk0) dX9_undo_48 rfl ?_
        refine x_iast (pc2 := 50) C (kf_8_0 hk0) dX9_undo_49 rfl (fun M12 => ?_)
        refine x_iinc (pc2 := 53) (v := b2 + 1) C dX9_undo_50 rfl rfl 1 ic_1 rfl [some (rv G this), some (.int (b2 + 1))] rfl rfl ?_
        refine x_goto (tgt := 22) C dX9_undo_53 (by decide) ?_
        exact x_wk [some (rv G this), some (.int (b2 + 1))] ⟨Or.inr rfl, Or.inr rfl, trivial⟩ (hrec4 (b2 + 1) _)
  · refine x_bipush (pc2 := 9) C dX9_undo_7 rfl bc_m5 ?_
    exact x_iret C rfl rfl dX9_undo_9
set_option maxRecDepth 100000 in
set_option maxHeartbeats 4000000 in
theorem ctX9_verdict {l : Launch} {G : bkG} {M : Mem} {this : Nat} {a1 : Int32} (hk0 : kd this = 8) : ∀ r, fX9_verdict this a1 M = some r → Met l yX9_verdict (Cond.code yX9_verdict cX9_verdict 2 (some .int) :: TT) ({ frames := 3, cells := 0, slots := 0, locals := 78 } : Room) (va_Pc [rv G this, .int a1] (Wd G M)) (QQ G ((fun v => some (.int v)) r.1) r.2) 0 0 (An G) := by
  refine mkMet (vl := (fun v => some (.int v))) RX9 rfl (by decide +kernel) rfl (Nat.le_of_ble_eq_true rfl) [some (rv G this), some (.int a1)] rfl ?_
  intro p e s m args below meth c C _
  refine x_aload_n (pc2 := 1) C dX9_verdict_0 rfl rfl ?_
  refine x_iload_n (pc2 := 2) C dX9_verdict_1 rfl rfl ?_
  refine x_callVi (pc2 := 5) C [.int a1] [] cl_X9_79 (fun q hq => ctX9_noKey hk0 q hq) hk0 rfl rfl rfl ⟨rfl, rfl, Nat.le_of_ble_eq_true rfl, Nat.le_of_ble_eq_true rfl⟩ (Nat.le_of_ble_eq_true rfl) ⟨Nat.zero_le _, Nat.zero_le _⟩ dX9_verdict_2 rfl (fun v1 M2 => ?_)
  refine x_if_eq (tgt := 10) (pc2 := 8) C dX9_verdict_5 (by decide) rfl ?_ ?_
  · refine x_aload_n (pc2 := 11) C dX9_verdict_10 rfl rfl ?_
    refine x_iload_n (pc2 := 12) C dX9_verdict_11 rfl rfl ?_
    refine x_callVi (pc2 := 15) C [.int a1] [] cl_X9_76 (fun q hq => ctX9_isSeen hk0 q hq) hk0 rfl rfl rfl ⟨rfl, rfl, Nat.le_of_ble_eq_true rfl, Nat.le_of_ble_eq_true rfl⟩ (Nat.le_of_ble_eq_true rfl) ⟨Nat.zero_le _, Nat.zero_le _⟩ dX9_verdict_12 rfl (fun v3 M4 => ?_)
    refine x_if_eq (tgt := 26) (pc2 := 18) C dX9_verdict_15 (by decide) rfl ?_ ?_
    · refine x_bipush (pc2 := 28) C dX9_verdict_26 rfl bc_m5 ?_
      exact x_iret C rfl rfl dX9_verdict_28
    · refine x_aload_n (pc2 := 19) C dX9_verdict_18 rfl rfl ?_
      refine x_iload_n (pc2 := 20) C dX9_verdict_19 rfl rfl ?_
      refine x_callVi (pc2 := 23) C [.int a1] [] cl_X9_136 (fun q hq => ctX9_judged hk0 q hq) hk0 rfl rfl rfl ⟨rfl, rfl, Nat.le_of_ble_eq_true rfl, Nat.le_of_ble_eq_true rfl⟩ (Nat.le_of_ble_eq_true rfl) ⟨Nat.zero_le _, Nat.zero_le _⟩ dX9_verdict_20 rfl (fun v5 M6 => ?_)
      refine x_goto (tgt := 28) C dX9_verdict_23 (by decide) ?_
      exact x_iret C rfl rfl dX9_verdict_28
  · refine x_iconst (pc2 := 9) C dX9_verdict_8 rfl ic_m1 ?_
    exact x_iret C rfl rfl dX9_verdict_9
