set_option maxRecDepth 100000 in
set_option maxHeartbeats 4000000 in
theorem ctX0_downKeys {l : Launch} {G : bkG} {M : Mem} {this : Nat} (hk0 : kd this = 0) : ∀ r, fX0_downKeys this M = some r → Met l yX0_downKeys (Cond.code yX0_downKeys cX0_downKeys 1 (some .int) :: TT) ({ frames := 2, cells := 0, slots := 0, locals := 45 } : Room) (va_Pc [rv G this] (Wd G M)) (QQ G ((fun v => some (.int v)) r.1) r.2) 0 0 (An G) := by
  refine mkMet (vl := (fun v => some (.int v))) RX0 rfl (by decide +kernel) rfl (Nat.le_of_ble_eq_true rfl) [some (rv G this)] rfl ?_
  intro p e s m args below meth c C _
  refine x_aload_n (pc2 := 1) C dX0_downKeys_0 rfl rfl ?_
  refine x_get (pc2 := 4) C fl_X0_34 hk0 (by decide) rfl dX0_downKeys_1 rfl ?_
  refine x_callSi (pc2 := 7) C [rv G (this + 6)] [] cl_X0_69 (fun q hq => ctX1_bitsIn (kf_0_7 hk0) q hq) rfl rfl ⟨rfl, rfl, Nat.le_of_ble_eq_true rfl, Nat.le_of_ble_eq_true rfl⟩ (Nat.le_of_ble_eq_true rfl) ⟨Nat.zero_le _, Nat.zero_le _⟩ dX0_downKeys_4 rfl (fun v1 M2 => ?_)
  exact x_iret C rfl rfl dX0_downKeys_7
set_option maxRecDepth 100000 in
set_option maxHeartbeats 4000000 in
theorem ctX0_seenKeys {l : Launch} {G : bkG} {M : Mem} {this : Nat} (hk0 : kd this = 0) : ∀ r, fX0_seenKeys this M = some r → Met l yX0_seenKeys (Cond.code yX0_seenKeys cX0_seenKeys 1 (some .int) :: TT) ({ frames := 2, cells := 0, slots := 0, locals := 45 } : Room) (va_Pc [rv G this] (Wd G M)) (QQ G ((fun v => some (.int v)) r.1) r.2) 0 0 (An G) := by
  refine mkMet (vl := (fun v => some (.int v))) RX0 rfl (by decide +kernel) rfl (Nat.le_of_ble_eq_true rfl) [some (rv G this)] rfl ?_
  intro p e s m args below meth c C _
  refine x_aload_n (pc2 := 1) C dX0_seenKeys_0 rfl rfl ?_
  refine x_get (pc2 := 4) C fl_X0_37 hk0 (by decide) rfl dX0_seenKeys_1 rfl ?_
  refine x_callSi (pc2 := 7) C [rv G (this + 7)] [] cl_X0_69 (fun q hq => ctX1_bitsIn (kf_0_8 hk0) q hq) rfl rfl ⟨rfl, rfl, Nat.le_of_ble_eq_true rfl, Nat.le_of_ble_eq_true rfl⟩ (Nat.le_of_ble_eq_true rfl) ⟨Nat.zero_le _, Nat.zero_le _⟩ dX0_seenKeys_4 rfl (fun v1 M2 => ?_)
  exact x_iret C rfl rfl dX0_seenKeys_7
set_option maxRecDepth 100000 in
set_option maxHeartbeats 4000000 in
theorem ctX0_doubtfulKeys {l : Launch} {G : bkG} {M : Mem} {this : Nat} (hk0 : kd this = 0) : ∀ r, fX0_doubtfulKeys this M = some r → Met l yX0_doubtfulKeys (Cond.code yX0_doubtfulKeys cX0_doubtfulKeys 1 (some .int) :: TT) ({ frames := 2, cells := 0, slots := 0, locals := 45 } : Room) (va_Pc [rv G this] (Wd G M)) (QQ G ((fun v => some (.int v)) r.1) r.2) 0 0 (An G) := by
  refine mkMet (vl := (fun v => some (.int v))) RX0 rfl (by decide +kernel) rfl (Nat.le_of_ble_eq_true rfl) [some (rv G this)] rfl ?_
  intro p e s m args below meth c C _
  refine x_aload_n (pc2 := 1) C dX0_doubtfulKeys_0 rfl rfl ?_
  refine x_get (pc2 := 4) C fl_X0_40 hk0 (by decide) rfl dX0_doubtfulKeys_1 rfl ?_
  refine x_callSi (pc2 := 7) C [rv G (this + 8)] [] cl_X0_69 (fun q hq => ctX1_bitsIn (kf_0_9 hk0) q hq) rfl rfl ⟨rfl, rfl, Nat.le_of_ble_eq_true rfl, Nat.le_of_ble_eq_true rfl⟩ (Nat.le_of_ble_eq_true rfl) ⟨Nat.zero_le _, Nat.zero_le _⟩ dX0_doubtfulKeys_4 rfl (fun v1 M2 => ?_)
  exact x_iret C rfl rfl dX0_doubtfulKeys_7
set_option maxRecDepth 100000 in
set_option maxHeartbeats 4000000 in
theorem ctX0_heldBy {l : Launch} {G : bkG} {M : Mem} {this : Nat} {a1 : Int32} (hk0 : kd this = 0) : ∀ r, fX0_heldBy this a1 M = some r → Met l yX0_heldBy (Cond.code yX0_heldBy cX0_heldBy 7 (some .int) :: TT) ({ frames := 0, cells := 0, slots := 0, locals := 0 } : Room) (va_Pc [rv G this, .int a1] (Wd G M)) (QQ G ((fun v => some (.int v)) r.1) r.2) 0 0 (An G) := by
  refine mkMet (vl := (fun v => some (.int v))) RX0 rfl (by decide +kernel) rfl (Nat.le_of_ble_eq_true rfl) [some (rv G this), some (.int a1), none, none, none, none, none] rfl ?_
  intro p e s m args below meth c C _
  refine x_iconst (pc2 := 1) C dX0_heldBy_0 rfl ic_0 ?_
  refine x_istore_n (pc2 := 2) C dX0_heldBy_1 rfl [some (rv G this), some (.int a1), some (.int 0), none, none, none, none] rfl rfl ?_
  refine x_aload_n (pc2 := 3) C dX0_heldBy_2 rfl rfl ?_
  refine x_get (pc2 := 6) C fl_X0_18 hk0 (by decide) rfl dX0_heldBy_3 rfl ?_
  refine x_astore_n (pc2 := 7) C dX0_heldBy_6 rfl [some (rv G this), some (.int a1), some (.int 0), some (rv G (this + 1)), none, none, none] rfl rfl ?_
  refine x_aload_n (pc2 := 8) C dX0_heldBy_7 rfl rfl ?_
  refine x_alen (pc2 := 9) C (kf_0_2 hk0) dX0_heldBy_8 rfl ?_
  refine x_istore (pc2 := 11) C dX0_heldBy_9 rfl [some (rv G this), some (.int a1), some (.int 0), some (rv G (this + 1)), some (.int (nI (ln (this + 1)))), none, none] rfl rfl ?_
  refine x_iconst (pc2 := 12) C dX0_heldBy_11 rfl ic_0 ?_
  refine x_istore (pc2 := 14) C dX0_heldBy_12 rfl [some (rv G this), some (.int a1), some (.int 0), some (rv G (this + 1)), some (.int (nI (ln (this + 1)))), some (.int 0), none] rfl rfl ?_
  refine x_wk [none, some (.int a1), some (.int 0), some (rv G (this + 1)), some (.int (nI (ln (this + 1)))), some (.int 0), none] ⟨Or.inl rfl, Or.inr rfl, Or.inr rfl, Or.inr rfl, Or.inr rfl, Or.inr rfl, Or.inl rfl, trivial⟩ ?_
  refine x_lp (fun (b1 : Int32 × Int32) => [none, some (.int a1), some (.int b1.1), some (rv G (this + 1)), some (.int (nI (ln (this + 1)))), some (.int b1.2), none]) ?_
  · intro rec3 hrec3 b1 M2
    refine x_iload (pc2 := 16) C dX0_heldBy_14 rfl rfl ?_
    refine x_iload (pc2 := 18) C dX0_heldBy_16 rfl rfl ?_
    refine x_icmp_ge (tgt := 47) (pc2 := 21) C dX0_heldBy_18 (by decide) rfl ?_ ?_
    · refine x_iload_n (pc2 := 48) C dX0_heldBy_47 rfl rfl ?_
      exact x_iret C rfl rfl dX0_heldBy_48
    · refine x_aload_n (pc2 := 22) C dX0_heldBy_21 rfl rfl ?_
      refine x_iload (pc2 := 24) C dX0_heldBy_22 rfl rfl ?_
      refine x_iald (pc2 := 25) C (kf_0_2 hk0) dX0_heldBy_24 rfl ?_
      refine x_topi (fun v4 => ?_)
      refine x_istore (pc2 := 27) C dX0_heldBy_25 rfl [none, some (.int a1), some (.int b1.1), some (rv G (this + 1)), some (.int (nI (ln (this + 1)))), some (.int b1.2), some (.int v4)] rfl rfl ?_
      refine x_iload_n (pc2 := 28) C dX0_heldBy_27 rfl rfl ?_
      refine x_iload (pc2 := 30) C dX0_heldBy_28 rfl rfl ?_
      refine x_iload_n (pc2 := 31) C dX0_heldBy_30 rfl rfl ?_
      refine x_jn 39 (fun (b5 : Int32) => [none, some (.int a1), none, some (rv G (this + 1)), some (.int (nI (ln (this + 1)))), some (.int b1.2), none]) (fun (b5 : Int32) => [.int b5, .int b1.1]) ?_ ?_
      · intro b5 M7
        refine x_iadd (pc2 := 40) C dX0_heldBy_39 rfl ?_
        refine x_istore_n (pc2 := 41) C dX0_heldBy_40 rfl [none, some (.int a1), some (.int (b1.1 + b5)), some (rv G (this + 1)), some (.int (nI (ln (this + 1)))), some (.int b1.2), none] rfl rfl ?_
        refine x_iinc (pc2 := 44) (v := b1.2 + 1) C dX0_heldBy_41 rfl rfl 1 ic_1 rfl [none, some (.int a1), some (.int (b1.1 + b5)), some (rv G (this + 1)), some (.int (nI (ln (this + 1)))), some (.int (b1.2 + 1)), none] rfl rfl ?_
        refine x_goto (tgt := 14) C dX0_heldBy_44 (by decide) ?_
        exact x_wk [none, some (.int a1), some (.int (b1.1 + b5)), some (rv G (this + 1)), some (.int (nI (ln (this + 1)))), some (.int (b1.2 + 1)), none] ⟨Or.inl rfl, Or.inr rfl, Or.inr rfl, Or.inr rfl, Or.inr rfl, Or.inr rfl, Or.inl rfl, trivial⟩ (hrec3 (b1.1 + b5, b1.2 + 1) _)
      · intro j6 hj6
        refine x_icmp_ne (tgt := 38) (pc2 := 34) C dX0_heldBy_31 (by decide) rfl ?_ ?_
        · refine x_iconst (pc2 := 39) C dX0_heldBy_38 rfl ic_0 ?_
          exact x_wk [none, some (.int a1), none, some (rv G (this + 1)), some (.int (nI (ln (this + 1)))), some (.int b1.2), none] ⟨Or.inl rfl, Or.inr rfl, Or.inl rfl, Or.inr rfl, Or.inr rfl, Or.inr rfl, Or.inl rfl, trivial⟩ (hj6 0 _)
        · refine x_iconst (pc2 := 35) C dX0_heldBy_34 rfl ic_1 ?_
          refine x_goto (tgt := 39) C dX0_heldBy_35 (by decide) ?_
          exact x_wk [none, some (.int a1), none, some (rv G (this + 1)), some (.int (nI (ln (this + 1)))), some (.int b1.2), none] ⟨Or.inl rfl, Or.inr rfl, Or.inl rfl, Or.inr rfl, Or.inr rfl, Or.inr rfl, Or.inl rfl, trivial⟩ (hj6 1 _)
set_option maxRecDepth 100000 in
set_option maxHeartbeats 4000000 in
theorem ctX0_shiftOf {l : Launch} {G : bkG} {M : Mem} {this : Nat} {a1 : Int32} (hk0 : kd this = 0) : ∀ r, fX0_shiftOf this a1 M = some r → Met l yX0_shiftOf (Cond.code yX0_shiftOf cX0_shiftOf 2 (some .int) :: TT) ({ frames := 1, cells := 0, slots := 0, locals := 21 } : Room) (va_Pc [rv G this, .int a1] (Wd G M)) (QQ G ((fun v => some (.int v)) r.1) r.2) 0 0 (An G) := by
  refine mkMet (vl := (fun v => some (.int v))) RX0 rfl (by decide +kernel) rfl (Nat.le_of_ble_eq_true rfl) [some (rv G this), some (.int a1)] rfl ?_
  intro p e s m args below meth c C _
  refine x_aload_n (pc2 := 1) C dX0_shiftOf_0 rfl rfl ?_
  refine x_get (pc2 := 4) C fl_X0_43 hk0 (by decide) rfl dX0_shiftOf_1 rfl ?_
  refine x_iload_n (pc2 := 5) C dX0_shiftOf_4 rfl rfl ?_
  refine x_callSi (pc2 := 8) C [rv G (this + 9), .int a1] [] cl_X0_62 (fun q hq => ctX1_at (kf_0_10 hk0) q hq) rfl rfl ⟨rfl, rfl, Nat.le_of_ble_eq_true rfl, Nat.le_of_ble_eq_true rfl⟩ (Nat.le_of_ble_eq_true rfl) ⟨Nat.zero_le _, Nat.zero_le _⟩ dX0_shiftOf_5 rfl (fun v1 M2 => ?_)
  exact x_iret C rfl rfl dX0_shiftOf_8
set_option maxRecDepth 100000 in
set_option maxHeartbeats 4000000 in
theorem ctX0_rowOf {l : Launch} {G : bkG} {M : Mem} {this : Nat} {a1 : Int32} (hk0 : kd this = 0) : ∀ r, fX0_rowOf this a1 M = some r → Met l yX0_rowOf (Cond.code yX0_rowOf cX0_rowOf 2 (some .int) :: TT) ({ frames := 0, cells := 0, slots := 0, locals := 0 } : Room) (va_Pc [rv G this, .int a1] (Wd G M)) (QQ G ((fun v => some (.int v)) r.1) r.2) 0 0 (An G) := by
  refine mkMet (vl := (fun v => some (.int v))) RX0 rfl (by decide +kernel) rfl (Nat.le_of_ble_eq_true rfl) [some (rv G this), some (.int a1)] rfl ?_
  intro p e s m args below meth c C _
  refine x_aload_n (pc2 := 1) C dX0_rowOf_0 rfl rfl ?_
  refine x_get (pc2 := 4) C fl_X0_15 hk0 (by decide) rfl dX0_rowOf_1 rfl ?_
  refine x_if_le (tgt := 16) (pc2 := 7) C dX0_rowOf_4 (by decide) rfl ?_ ?_
  · refine x_iconst (pc2 := 17) C dX0_rowOf_16 rfl ic_0 ?_
    exact x_iret C rfl rfl dX0_rowOf_17
  · refine x_iload_n (pc2 := 8) C dX0_rowOf_7 rfl rfl ?_
    refine x_aload_n (pc2 := 9) C dX0_rowOf_8 rfl rfl ?_
    refine x_get (pc2 := 12) C fl_X0_15 hk0 (by decide) rfl dX0_rowOf_9 rfl ?_
    refine x_idiv (pc2 := 13) C dX0_rowOf_12 rfl ?_
    refine x_goto (tgt := 17) C dX0_rowOf_13 (by decide) ?_
    exact x_iret C rfl rfl dX0_rowOf_17
set_option maxRecDepth 100000 in
set_option maxHeartbeats 4000000 in
theorem ctX0_bitOf {l : Launch} {G : bkG} {M : Mem} {this : Nat} {a1 : Int32} (hk0 : kd this = 0) : ∀ r, fX0_bitOf this a1 M = some r → Met l yX0_bitOf (Cond.code yX0_bitOf cX0_bitOf 2 (some .int) :: TT) ({ frames := 0, cells := 0, slots := 0, locals := 0 } : Room) (va_Pc [rv G this, .int a1] (Wd G M)) (QQ G ((fun v => some (.int v)) r.1) r.2) 0 0 (An G) := by
  refine mkMet (vl := (fun v => some (.int v))) RX0 rfl (by decide +kernel) rfl (Nat.le_of_ble_eq_true rfl) [some (rv G this), some (.int a1)] rfl ?_
  intro p e s m args below meth c C _
  refine x_aload_n (pc2 := 1) C dX0_bitOf_0 rfl rfl ?_
  refine x_get (pc2 := 4) C fl_X0_15 hk0 (by decide) rfl dX0_bitOf_1 rfl ?_
  refine x_if_le (tgt := 18) (pc2 := 7) C dX0_bitOf_4 (by decide) rfl ?_ ?_
  · refine x_iconst (pc2 := 19) C dX0_bitOf_18 rfl ic_0 ?_
    exact x_iret C rfl rfl dX0_bitOf_19
  · refine x_iconst (pc2 := 8) C dX0_bitOf_7 rfl ic_1 ?_
    refine x_iload_n (pc2 := 9) C dX0_bitOf_8 rfl rfl ?_
    refine x_aload_n (pc2 := 10) C dX0_bitOf_9 rfl rfl ?_
    refine x_get (pc2 := 13) C fl_X0_15 hk0 (by decide) rfl dX0_bitOf_10 rfl ?_
    refine x_irem (pc2 := 14) C dX0_bitOf_13 rfl ?_
    refine x_ishl (pc2 := 15) C dX0_bitOf_14 rfl ?_
    refine x_goto (tgt := 19) C dX0_bitOf_15 (by decide) ?_
    exact x_iret C rfl rfl dX0_bitOf_19
set_option maxRecDepth 100000 in
set_option maxHeartbeats 4000000 in
theorem ctX0_isSeen {l : Launch} {G : bkG} {M : Mem} {this : Nat} {a1 : Int32} (hk0 : kd this = 0) : ∀ r, fX0_isSeen this a1 M = some r → Met l yX0_isSeen (Cond.code yX0_isSeen cX0_isSeen 2 (some .boolean) :: TT) ({ frames := 1, cells := 0, slots := 0, locals := 21 } : Room) (va_Pc [rv G this, .int a1] (Wd G M)) (QQ G ((fun v => some (.int v)) r.1) r.2) 0 0 (An G) := by
  refine mkMet (vl := (fun v => some (.int v))) RX0 rfl (by decide +kernel) rfl (Nat.le_of_ble_eq_true rfl) [some (rv G this), some (.int a1)] rfl ?_
  intro p e s m args below meth c C _
  refine x_aload_n (pc2 := 1) C dX0_isSeen_0 rfl rfl ?_
  refine x_get (pc2 := 4) C fl_X0_37 hk0 (by decide) rfl dX0_isSeen_1 rfl ?_
  refine x_aload_n (pc2 := 5) C dX0_isSeen_4 rfl rfl ?_
  refine x_iload_n (pc2 := 6) C dX0_isSeen_5 rfl rfl ?_
  refine x_callVi (pc2 := 9) C [.int a1] [rv G (this + 7)] cl_X0_58 (fun q hq => ctX0_rowOf hk0 q hq) hk0 rfl rfl rfl ⟨rfl, rfl, Nat.le_of_ble_eq_true rfl, Nat.le_of_ble_eq_true rfl⟩ (Nat.le_of_ble_eq_true rfl) ⟨Nat.zero_le _, Nat.zero_le _⟩ dX0_isSeen_6 rfl (fun v1 M2 => ?_)
  refine x_callSi (pc2 := 12) C [rv G (this + 7), .int v1] [] cl_X0_62 (fun q hq => ctX1_at (kf_0_8 hk0) q hq) rfl rfl ⟨rfl, rfl, Nat.le_of_ble_eq_true rfl, Nat.le_of_ble_eq_true rfl⟩ (Nat.le_of_ble_eq_true rfl) ⟨Nat.zero_le _, Nat.zero_le _⟩ dX0_isSeen_9 rfl (fun v3 M4 => ?_)
  refine x_aload_n (pc2 := 13) C dX0_isSeen_12 rfl rfl ?_
  refine x_iload_n (pc2 := 14) C dX0_isSeen_13 rfl rfl ?_
  refine x_callVi (pc2 := 17) C [.int a1] [.int v3] cl_X0_66 (fun q hq => ctX0_bitOf hk0 q hq) hk0 rfl rfl rfl ⟨rfl, rfl, Nat.le_of_ble_eq_true rfl, Nat.le_of_ble_eq_true rfl⟩ (Nat.le_of_ble_eq_true rfl) ⟨Nat.zero_le _, Nat.zero_le _⟩ dX0_isSeen_14 rfl (fun v5 M6 => ?_)
  refine x_iand (pc2 := 18) C dX0_isSeen_17 rfl ?_
  refine x_if_eq (tgt := 25) (pc2 := 21) C dX0_isSeen_18 (by decide) rfl ?_ ?_
  · refine x_iconst (pc2 := 26) C dX0_isSeen_25 rfl ic_0 ?_
    exact x_zret C rfl rfl rfl dX0_isSeen_26
  · refine x_iconst (pc2 := 22) C dX0_isSeen_21 rfl ic_1 ?_
    refine x_goto (tgt := 26) C dX0_isSeen_22 (by decide) ?_
    exact x_zret C rfl rfl rfl dX0_isSeen_26
set_option maxRecDepth 100000 in
set_option maxHeartbeats 4000000 in
theorem ctX0_isDoubtful {l : Launch} {G : bkG} {M : Mem} {this : Nat} {a1 : Int32} (hk0 : kd this = 0) : ∀ r, fX0_isDoubtful this a1 M = some r → Met l yX0_isDoubtful (Cond.code yX0_isDoubtful cX0_isDoubtful 2 (some .boolean) :: TT) ({ frames := 1, cells := 0, slots := 0, locals := 21 } : Room) (va_Pc [rv G this, .int a1] (Wd G M)) (QQ G ((fun v => some (.int v)) r.1) r.2) 0 0 (An G) := by
  refine mkMet (vl := (fun v => some (.int v))) RX0 rfl (by decide +kernel) rfl (Nat.le_of_ble_eq_true rfl) [some (rv G this), some (.int a1)] rfl ?_
  intro p e s m args below meth c C _
  refine x_aload_n (pc2 := 1) C dX0_isDoubtful_0 rfl rfl ?_
  refine x_get (pc2 := 4) C fl_X0_40 hk0 (by decide) rfl dX0_isDoubtful_1 rfl ?_
  refine x_aload_n (pc2 := 5) C dX0_isDoubtful_4 rfl rfl ?_
  refine x_iload_n (pc2 := 6) C dX0_isDoubtful_5 rfl rfl ?_
  refine x_callVi (pc2 := 9) C [.int a1] [rv G (this + 8)] cl_X0_58 (fun q hq => ctX0_rowOf hk0 q hq) hk0 rfl rfl rfl ⟨rfl, rfl, Nat.le_of_ble_eq_true rfl, Nat.le_of_ble_eq_true rfl⟩ (Nat.le_of_ble_eq_true rfl) ⟨Nat.zero_le _, Nat.zero_le _⟩ dX0_isDoubtful_6 rfl (fun v1 M2 => ?_)
  refine x_callSi (pc2 := 12) C [rv G (this + 8), .int v1] [] cl_X0_62 (fun q hq => ctX1_at (kf_0_9 hk0) q hq) rfl rfl ⟨rfl, rfl, Nat.le_of_ble_eq_true rfl, Nat.le_of_ble_eq_true rfl⟩ (Nat.le_of_ble_eq_true rfl) ⟨Nat.zero_le _, Nat.zero_le _⟩ dX0_isDoubtful_9 rfl (fun v3 M4 => ?_)
  refine x_aload_n (pc2 := 13) C dX0_isDoubtful_12 rfl rfl ?_
  refine x_iload_n (pc2 := 14) C dX0_isDoubtful_13 rfl rfl ?_
  refine x_callVi (pc2 := 17) C [.int a1] [.int v3] cl_X0_66 (fun q hq => ctX0_bitOf hk0 q hq) hk0 rfl rfl rfl ⟨rfl, rfl, Nat.le_of_ble_eq_true rfl, Nat.le_of_ble_eq_true rfl⟩ (Nat.le_of_ble_eq_true rfl) ⟨Nat.zero_le _, Nat.zero_le _⟩ dX0_isDoubtful_14 rfl (fun v5 M6 => ?_)
  refine x_iand (pc2 := 18) C dX0_isDoubtful_17 rfl ?_
  refine x_if_eq (tgt := 25) (pc2 := 21) C dX0_isDoubtful_18 (by decide) rfl ?_ ?_
  · refine x_iconst (pc2 := 26) C dX0_isDoubtful_25 rfl ic_0 ?_
    exact x_zret C rfl rfl rfl dX0_isDoubtful_26
  · refine x_iconst (pc2 := 22) C dX0_isDoubtful_21 rfl ic_1 ?_
    refine x_goto (tgt := 26) C dX0_isDoubtful_22 (by decide) ?_
    exact x_zret C rfl rfl rfl dX0_isDoubtful_26
set_option maxRecDepth 100000 in
set_option maxHeartbeats 4000000 in
theorem ctX0_isShiftOn {l : Launch} {G : bkG} {M : Mem} {this : Nat} {a1 : Int32} (hk0 : kd this = 0) : ∀ r, fX0_isShiftOn this a1 M = some r → Met l yX0_isShiftOn (Cond.code yX0_isShiftOn cX0_isShiftOn 3 (some .boolean) :: TT) ({ frames := 2, cells := 0, slots := 0, locals := 42 } : Room) (va_Pc [rv G this, .int a1] (Wd G M)) (QQ G ((fun v => some (.int v)) r.1) r.2) 0 0 (An G) := by
  refine mkMet (vl := (fun v => some (.int v))) RX0 rfl (by decide +kernel) rfl (Nat.le_of_ble_eq_true rfl) [some (rv G this), some (.int a1), none] rfl ?_
  intro p e s m args below meth c C _
  refine x_aload_n (pc2 := 1) C dX0_isShiftOn_0 rfl rfl ?_
  refine x_iload_n (pc2 := 2) C dX0_isShiftOn_1 rfl rfl ?_
  refine x_callVi (pc2 := 5) C [.int a1] [] cl_X0_84 (fun q hq => ctX0_shiftOf hk0 q hq) hk0 rfl rfl rfl ⟨rfl, rfl, Nat.le_of_ble_eq_true rfl, Nat.le_of_ble_eq_true rfl⟩ (Nat.le_of_ble_eq_true rfl) ⟨Nat.zero_le _, Nat.zero_le _⟩ dX0_isShiftOn_2 rfl (fun v1 M2 => ?_)
  refine x_istore_n (pc2 := 6) C dX0_isShiftOn_5 rfl [some (rv G this), some (.int a1), some (.int v1)] rfl rfl ?_
  refine x_iload_n (pc2 := 7) C dX0_isShiftOn_6 rfl rfl ?_
  refine x_iconst (pc2 := 8) C dX0_isShiftOn_7 rfl ic_m1 ?_
  refine x_icmp_eq (tgt := 31) (pc2 := 11) C dX0_isShiftOn_8 (by decide) rfl ?_ ?_
  · refine x_iconst (pc2 := 32) C dX0_isShiftOn_31 rfl ic_0 ?_
    exact x_zret C rfl rfl rfl dX0_isShiftOn_32
  · refine x_aload_n (pc2 := 12) C dX0_isShiftOn_11 rfl rfl ?_
    refine x_iload_n (pc2 := 13) C dX0_isShiftOn_12 rfl rfl ?_
    refine x_callVi (pc2 := 16) C [.int v1] [] cl_X0_87 (fun q hq => ctX0_isSeen hk0 q hq) hk0 rfl rfl rfl ⟨rfl, rfl, Nat.le_of_ble_eq_true rfl, Nat.le_of_ble_eq_true rfl⟩ (Nat.le_of_ble_eq_true rfl) ⟨Nat.zero_le _, Nat.zero_le _⟩ dX0_isShiftOn_13 rfl (fun v3 M4 => ?_)
    refine x_if_eq (tgt := 31) (pc2 := 19) C dX0_isShiftOn_16 (by decide) rfl ?_ ?_
    · refine x_iconst (pc2 := 32) C dX0_isShiftOn_31 rfl ic_0 ?_
      exact x_zret C rfl rfl rfl dX0_isShiftOn_32
    · refine x_aload_n (pc2 := 20) C dX0_isShiftOn_19 rfl rfl ?_
      refine x_iload_n (pc2 := 21) C dX0_isShiftOn_20 rfl rfl ?_
      refine x_callVi (pc2 := 24) C [.int v1] [] cl_X0_90 (fun q hq => ctX0_isDoubtful hk0 q hq) hk0 rfl rfl rfl ⟨rfl, rfl, Nat.le_of_ble_eq_true rfl, Nat.le_of_ble_eq_true rfl⟩ (Nat.le_of_ble_eq_true rfl) ⟨Nat.zero_le _, Nat.zero_le _⟩ dX0_isShiftOn_21 rfl (fun v5 M6 => ?_)
      refine x_if_ne (tgt := 31) (pc2 := 27) C dX0_isShiftOn_24 (by decide) rfl ?_ ?_
      · refine x_iconst (pc2 := 32) C dX0_isShiftOn_31 rfl ic_0 ?_
        exact x_zret C rfl rfl rfl dX0_isShiftOn_32
      · refine x_iconst (pc2 := 28) C dX0_isShiftOn_27 rfl ic_1 ?_
        refine x_goto (tgt := 32) C dX0_isShiftOn_28 (by decide) ?_
        exact x_zret C rfl rfl rfl dX0_isShiftOn_32
set_option maxRecDepth 100000 in
set_option maxHeartbeats 4000000 in
theorem ctX0_has {l : Launch} {G : bkG} {M : Mem} {this : Nat} {a1 : Int32} (hk0 : kd this = 0) : ∀ r, fX0_has this a1 M = some r → Met l yX0_has (Cond.code yX0_has cX0_has 2 (some .boolean) :: TT) ({ frames := 0, cells := 0, slots := 0, locals := 0 } : Room) (va_Pc [rv G this, .int a1] (Wd G M)) (QQ G ((fun v => some (.int v)) r.1) r.2) 0 0 (An G) := by
  refine mkMet (vl := (fun v => some (.int v))) RX0 rfl (by decide +kernel) rfl (Nat.le_of_ble_eq_true rfl) [some (rv G this), some (.int a1)] rfl ?_
  intro p e s m args below meth c C _
  refine x_iload_n (pc2 := 1) C dX0_has_0 rfl rfl ?_
  refine x_if_lt (tgt := 21) (pc2 := 4) C dX0_has_1 (by decide) rfl ?_ ?_
  · refine x_iconst (pc2 := 22) C dX0_has_21 rfl ic_0 ?_
    exact x_zret C rfl rfl rfl dX0_has_22
  · refine x_iload_n (pc2 := 5) C dX0_has_4 rfl rfl ?_
    refine x_aload_n (pc2 := 6) C dX0_has_5 rfl rfl ?_
    refine x_get (pc2 := 9) C fl_X0_9 hk0 (by decide) rfl dX0_has_6 rfl ?_
    refine x_aload_n (pc2 := 10) C dX0_has_9 rfl rfl ?_
    refine x_get (pc2 := 13) C fl_X0_15 hk0 (by decide) rfl dX0_has_10 rfl ?_
    refine x_imul (pc2 := 14) C dX0_has_13 rfl ?_
    refine x_icmp_ge (tgt := 21) (pc2 := 17) C dX0_has_14 (by decide) rfl ?_ ?_
    · refine x_iconst (pc2 := 22) C dX0_has_21 rfl ic_0 ?_
      exact x_zret C rfl rfl rfl dX0_has_22
    · refine x_iconst (pc2 := 18) C dX0_has_17 rfl ic_1 ?_
      refine x_goto (tgt := 22) C dX0_has_18 (by decide) ?_
      exact x_zret C rfl rfl rfl dX0_has_22
set_option maxRecDepth 100000 in
set_option maxHeartbeats 4000000 in
theorem ctX0_holderOf {l : Launch} {G : bkG} {M : Mem} {this : Nat} {a1 : Int32} (hk0 : kd this = 0) : ∀ r, fX0_holderOf this a1 M = some r → Met l yX0_holderOf (Cond.code yX0_holderOf cX0_holderOf 2 (some .int) :: TT) ({ frames := 1, cells := 0, slots := 0, locals := 21 } : Room) (va_Pc [rv G this, .int a1] (Wd G M)) (QQ G ((fun v => some (.int v)) r.1) r.2) 0 0 (An G) := by
  refine mkMet (vl := (fun v => some (.int v))) RX0 rfl (by decide +kernel) rfl (Nat.le_of_ble_eq_true rfl) [some (rv G this), some (.int a1)] rfl ?_
  intro p e s m args below meth c C _
  refine x_aload_n (pc2 := 1) C dX0_holderOf_0 rfl rfl ?_
  refine x_get (pc2 := 4) C fl_X0_18 hk0 (by decide) rfl dX0_holderOf_1 rfl ?_
  refine x_iload_n (pc2 := 5) C dX0_holderOf_4 rfl rfl ?_
  refine x_callSi (pc2 := 8) C [rv G (this + 1), .int a1] [] cl_X0_62 (fun q hq => ctX1_at (kf_0_2 hk0) q hq) rfl rfl ⟨rfl, rfl, Nat.le_of_ble_eq_true rfl, Nat.le_of_ble_eq_true rfl⟩ (Nat.le_of_ble_eq_true rfl) ⟨Nat.zero_le _, Nat.zero_le _⟩ dX0_holderOf_5 rfl (fun v1 M2 => ?_)
  exact x_iret C rfl rfl dX0_holderOf_8
set_option maxRecDepth 100000 in
set_option maxHeartbeats 4000000 in
theorem ctX0_sinceOf {l : Launch} {G : bkG} {M : Mem} {this : Nat} {a1 : Int32} (hk0 : kd this = 0) : ∀ r, fX0_sinceOf this a1 M = some r → Met l yX0_sinceOf (Cond.code yX0_sinceOf cX0_sinceOf 2 (some .int) :: TT) ({ frames := 1, cells := 0, slots := 0, locals := 21 } : Room) (va_Pc [rv G this, .int a1] (Wd G M)) (QQ G ((fun v => some (.int v)) r.1) r.2) 0 0 (An G) := by
  refine mkMet (vl := (fun v => some (.int v))) RX0 rfl (by decide +kernel) rfl (Nat.le_of_ble_eq_true rfl) [some (rv G this), some (.int a1)] rfl ?_
  intro p e s m args below meth c C _
  refine x_aload_n (pc2 := 1) C dX0_sinceOf_0 rfl rfl ?_
  refine x_get (pc2 := 4) C fl_X0_25 hk0 (by decide) rfl dX0_sinceOf_1 rfl ?_
  refine x_iload_n (pc2 := 5) C dX0_sinceOf_4 rfl rfl ?_
  refine x_callSi (pc2 := 8) C [rv G (this + 3), .int a1] [] cl_X0_62 (fun q hq => ctX1_at (kf_0_4 hk0) q hq) rfl rfl ⟨rfl, rfl, Nat.le_of_ble_eq_true rfl, Nat.le_of_ble_eq_true rfl⟩ (Nat.le_of_ble_eq_true rfl) ⟨Nat.zero_le _, Nat.zero_le _⟩ dX0_sinceOf_5 rfl (fun v1 M2 => ?_)
  exact x_iret C rfl rfl dX0_sinceOf_8
set_option maxRecDepth 100000 in
set_option maxHeartbeats 4000000 in
theorem ctX0_signOf {l : Launch} {G : bkG} {M : Mem} {this : Nat} {a1 : Int32} (hk0 : kd this = 0) : ∀ r, fX0_signOf this a1 M = some r → Met l yX0_signOf (Cond.code yX0_signOf cX0_signOf 2 (some .int) :: TT) ({ frames := 1, cells := 0, slots := 0, locals := 21 } : Room) (va_Pc [rv G this, .int a1] (Wd G M)) (QQ G ((fun v => some (.int v)) r.1) r.2) 0 0 (An G) := by
  refine mkMet (vl := (fun v => some (.int v))) RX0 rfl (by decide +kernel) rfl (Nat.le_of_ble_eq_true rfl) [some (rv G this), some (.int a1)] rfl ?_
  intro p e s m args below meth c C _
  refine x_aload_n (pc2 := 1) C dX0_signOf_0 rfl rfl ?_
  refine x_iload_n (pc2 := 2) C dX0_signOf_1 rfl rfl ?_
  refine x_callVi (pc2 := 5) C [.int a1] [] cl_X0_77 (fun q hq => ctX0_has hk0 q hq) hk0 rfl rfl rfl ⟨rfl, rfl, Nat.le_of_ble_eq_true rfl, Nat.le_of_ble_eq_true rfl⟩ (Nat.le_of_ble_eq_true rfl) ⟨Nat.zero_le _, Nat.zero_le _⟩ dX0_signOf_2 rfl (fun v1 M2 => ?_)
  refine x_if_eq (tgt := 19) (pc2 := 8) C dX0_signOf_5 (by decide) rfl ?_ ?_
  · refine x_bipush (pc2 := 21) C dX0_signOf_19 rfl bc_46 ?_
    exact x_iret C rfl rfl dX0_signOf_21
  · refine x_aload_n (pc2 := 9) C dX0_signOf_8 rfl rfl ?_
    refine x_get (pc2 := 12) C fl_X0_22 hk0 (by decide) rfl dX0_signOf_9 rfl ?_
    refine x_iload_n (pc2 := 13) C dX0_signOf_12 rfl rfl ?_
    refine x_callSi (pc2 := 16) C [rv G (this + 2), .int a1] [] cl_X0_62 (fun q hq => ctX1_at (kf_0_3 hk0) q hq) rfl rfl ⟨rfl, rfl, Nat.le_of_ble_eq_true rfl, Nat.le_of_ble_eq_true rfl⟩ (Nat.le_of_ble_eq_true rfl) ⟨Nat.zero_le _, Nat.zero_le _⟩ dX0_signOf_13 rfl (fun v3 M4 => ?_)
    refine x_goto (tgt := 21) C dX0_signOf_16 (by decide) ?_
    exact x_iret C rfl rfl dX0_signOf_21
set_option maxRecDepth 100000 in
set_option maxHeartbeats 4000000 in
theorem ctX0_shiftOwner {l : Launch} {G : bkG} {M : Mem} {this : Nat} {a1 : Int32} (hk0 : kd this = 0) : ∀ r, fX0_shiftOwner this a1 M = some r → Met l yX0_shiftOwner (Cond.code yX0_shiftOwner cX0_shiftOwner 2 (some .int) :: TT) ({ frames := 1, cells := 0, slots := 0, locals := 21 } : Room) (va_Pc [rv G this, .int a1] (Wd G M)) (QQ G ((fun v => some (.int v)) r.1) r.2) 0 0 (An G) := by
  refine mkMet (vl := (fun v => some (.int v))) RX0 rfl (by decide +kernel) rfl (Nat.le_of_ble_eq_true rfl) [some (rv G this), some (.int a1)] rfl ?_
  intro p e s m args below meth c C _
  refine x_aload_n (pc2 := 1) C dX0_shiftOwner_0 rfl rfl ?_
  refine x_get (pc2 := 4) C fl_X0_43 hk0 (by decide) rfl dX0_shiftOwner_1 rfl ?_
  refine x_iconst (pc2 := 5) C dX0_shiftOwner_4 rfl ic_0 ?_
  refine x_callSi (pc2 := 8) C [rv G (this + 9), .int 0] [] cl_X0_62 (fun q hq => ctX1_at (kf_0_10 hk0) q hq) rfl rfl ⟨rfl, rfl, Nat.le_of_ble_eq_true rfl, Nat.le_of_ble_eq_true rfl⟩ (Nat.le_of_ble_eq_true rfl) ⟨Nat.zero_le _, Nat.zero_le _⟩ dX0_shiftOwner_5 rfl (fun v1 M2 => ?_)
  refine x_iload_n (pc2 := 9) C dX0_shiftOwner_8 rfl rfl ?_
  refine x_icmp_ne (tgt := 14) (pc2 := 12) C dX0_shiftOwner_9 (by decide) rfl ?_ ?_
  · refine x_aload_n (pc2 := 15) C dX0_shiftOwner_14 rfl rfl ?_
    refine x_get (pc2 := 18) C fl_X0_43 hk0 (by decide) rfl dX0_shiftOwner_15 rfl ?_
    refine x_iconst (pc2 := 19) C dX0_shiftOwner_18 rfl ic_1 ?_
    refine x_callSi (pc2 := 22) C [rv G (this + 9), .int 1] [] cl_X0_62 (fun q hq => ctX1_at (kf_0_10 hk0) q hq) rfl rfl ⟨rfl, rfl, Nat.le_of_ble_eq_true rfl, Nat.le_of_ble_eq_true rfl⟩ (Nat.le_of_ble_eq_true rfl) ⟨Nat.zero_le _, Nat.zero_le _⟩ dX0_shiftOwner_19 rfl (fun v3 M4 => ?_)
    refine x_iload_n (pc2 := 23) C dX0_shiftOwner_22 rfl rfl ?_
    refine x_icmp_ne (tgt := 30) (pc2 := 26) C dX0_shiftOwner_23 (by decide) rfl ?_ ?_
    · refine x_iconst (pc2 := 31) C dX0_shiftOwner_30 rfl ic_m1 ?_
      exact x_iret C rfl rfl dX0_shiftOwner_31
    · refine x_iconst (pc2 := 27) C dX0_shiftOwner_26 rfl ic_1 ?_
      refine x_goto (tgt := 31) C dX0_shiftOwner_27 (by decide) ?_
      exact x_iret C rfl rfl dX0_shiftOwner_31
  · refine x_iconst (pc2 := 13) C dX0_shiftOwner_12 rfl ic_0 ?_
    exact x_iret C rfl rfl dX0_shiftOwner_13
set_option maxRecDepth 100000 in
set_option maxHeartbeats 4000000 in
theorem ctX0_joined {l : Launch} {G : bkG} {M : Mem} {this : Nat} {a1 : Int32} {a2 : Int32} (hk0 : kd this = 0) : ∀ r, fX0_joined this a1 a2 M = some r → Met l yX0_joined (Cond.code yX0_joined cX0_joined 4 (some .int) :: TT) ({ frames := 1, cells := 0, slots := 0, locals := 21 } : Room) (va_Pc [rv G this, .int a1, .int a2] (Wd G M)) (QQ G ((fun v => some (.int v)) r.1) r.2) 0 0 (An G) := by
  refine mkMet (vl := (fun v => some (.int v))) RX0 rfl (by decide +kernel) rfl (Nat.le_of_ble_eq_true rfl) [some (rv G this), some (.int a1), some (.int a2), none] rfl ?_
  intro p e s m args below meth c C _
  refine x_aload_n (pc2 := 1) C dX0_joined_0 rfl rfl ?_
  refine x_get (pc2 := 4) C fl_X0_34 hk0 (by decide) rfl dX0_joined_1 rfl ?_
  refine x_iload_n (pc2 := 5) C dX0_joined_4 rfl rfl ?_
  refine x_callSi (pc2 := 8) C [rv G (this + 6), .int a1] [] cl_X0_62 (fun q hq => ctX1_at (kf_0_7 hk0) q hq) rfl rfl ⟨rfl, rfl, Nat.le_of_ble_eq_true rfl, Nat.le_of_ble_eq_true rfl⟩ (Nat.le_of_ble_eq_true rfl) ⟨Nat.zero_le _, Nat.zero_le _⟩ dX0_joined_5 rfl (fun v1 M2 => ?_)
  refine x_istore_n (pc2 := 9) C dX0_joined_8 rfl [some (rv G this), some (.int a1), some (.int a2), some (.int v1)] rfl rfl ?_
  refine x_iload_n (pc2 := 10) C dX0_joined_9 rfl rfl ?_
  refine x_iconst (pc2 := 11) C dX0_joined_10 rfl ic_m1 ?_
  refine x_icmp_eq (tgt := 33) (pc2 := 14) C dX0_joined_11 (by decide) rfl ?_ ?_
  · refine x_iload_n (pc2 := 34) C dX0_joined_33 rfl rfl ?_
    exact x_iret C rfl rfl dX0_joined_34
  · refine x_aload_n (pc2 := 15) C dX0_joined_14 rfl rfl ?_
    refine x_iload_n (pc2 := 16) C dX0_joined_15 rfl rfl ?_
    refine x_callVi (pc2 := 19) C [.int a2] [] cl_X0_58 (fun q hq => ctX0_rowOf hk0 q hq) hk0 rfl rfl rfl ⟨rfl, rfl, Nat.le_of_ble_eq_true rfl, Nat.le_of_ble_eq_true rfl⟩ (Nat.le_of_ble_eq_true rfl) ⟨Nat.zero_le _, Nat.zero_le _⟩ dX0_joined_16 rfl (fun v3 M4 => ?_)
    refine x_iload_n (pc2 := 20) C dX0_joined_19 rfl rfl ?_
    refine x_icmp_ne (tgt := 33) (pc2 := 23) C dX0_joined_20 (by decide) rfl ?_ ?_
    · refine x_iload_n (pc2 := 34) C dX0_joined_33 rfl rfl ?_
      exact x_iret C rfl rfl dX0_joined_34
    · refine x_iload_n (pc2 := 24) C dX0_joined_23 rfl rfl ?_
      refine x_aload_n (pc2 := 25) C dX0_joined_24 rfl rfl ?_
      refine x_iload_n (pc2 := 26) C dX0_joined_25 rfl rfl ?_
      refine x_callVi (pc2 := 29) C [.int a2] [.int v1] cl_X0_66 (fun q hq => ctX0_bitOf hk0 q hq) hk0 rfl rfl rfl ⟨rfl, rfl, Nat.le_of_ble_eq_true rfl, Nat.le_of_ble_eq_true rfl⟩ (Nat.le_of_ble_eq_true rfl) ⟨Nat.zero_le _, Nat.zero_le _⟩ dX0_joined_26 rfl (fun v5 M6 => ?_)
      refine x_ixor (pc2 := 30) C dX0_joined_29 rfl ?_
      refine x_goto (tgt := 34) C dX0_joined_30 (by decide) ?_
      exact x_iret C rfl rfl dX0_joined_34
set_option maxRecDepth 100000 in
set_option maxHeartbeats 4000000 in
theorem ctX0_sensed {l : Launch} {G : bkG} {M : Mem} {this : Nat} {a1 : Int32} {a2 : Int32} (hk0 : kd this = 0) : ∀ r, fX0_sensed this a1 a2 M = some r → Met l yX0_sensed (Cond.code yX0_sensed cX0_sensed 8 (some .int) :: TT) ({ frames := 2, cells := 0, slots := 0, locals := 44 } : Room) (va_Pc [rv G this, .int a1, .int a2] (Wd G M)) (QQ G ((fun v => some (.int v)) r.1) r.2) 0 0 (An G) := by
  refine mkMet (vl := (fun v => some (.int v))) RX0 rfl (by decide +kernel) rfl (Nat.le_of_ble_eq_true rfl) [some (rv G this), some (.int a1), some (.int a2), none, none, none, none, none] rfl ?_
  intro p e s m args below meth c C _
  refine x_aload_n (pc2 := 1) C dX0_sensed_0 rfl rfl ?_
  refine x_iload_n (pc2 := 2) C dX0_sensed_1 rfl rfl ?_
  refine x_iload_n (pc2 := 3) C dX0_sensed_2 rfl rfl ?_
  refine x_callVi (pc2 := 6) C [.int a1, .int a2] [] cl_X0_93 (fun q hq => ctX0_joined hk0 q hq) hk0 rfl rfl rfl ⟨rfl, rfl, Nat.le_of_ble_eq_true rfl, Nat.le_of_ble_eq_true rfl⟩ (Nat.le_of_ble_eq_true rfl) ⟨Nat.zero_le _, Nat.zero_le _⟩ dX0_sensed_3 rfl (fun v1 M2 => ?_)
  refine x_istore_n (pc2 := 7) C dX0_sensed_6 rfl [some (rv G this), some (.int a1), some (.int a2), some (.int v1), none, none, none, none] rfl rfl ?_
  refine x_iconst (pc2 := 8) C dX0_sensed_7 rfl ic_0 ?_
  refine x_istore (pc2 := 10) C dX0_sensed_8 rfl [some (rv G this), some (.int a1), some (.int a2), some (.int v1), some (.int 0), none, none, none] rfl rfl ?_
  refine x_iconst (pc2 := 11) C dX0_sensed_10 rfl ic_0 ?_
  refine x_istore (pc2 := 13) C dX0_sensed_11 rfl [some (rv G this), some (.int a1), some (.int a2), some (.int v1), some (.int 0), some (.int 0), none, none] rfl rfl ?_
  refine x_wk [some (rv G this), none, some (.int a2), some (.int v1), some (.int 0), some (.int 0), none, none] ⟨Or.inr rfl, Or.inl rfl, Or.inr rfl, Or.inr rfl, Or.inr rfl, Or.inr rfl, Or.inl rfl, Or.inl rfl, trivial⟩ ?_
  refine x_lp (fun (b3 : Int32 × Int32 × Int32) => [some (rv G this), none, some (.int a2), some (.int b3.1), some (.int b3.2.1), some (.int b3.2.2), none, none]) ?_
  · intro rec5 hrec5 b3 M4
    refine x_iload (pc2 := 15) C dX0_sensed_13 rfl rfl ?_
    refine x_aload_n (pc2 := 16) C dX0_sensed_15 rfl rfl ?_
    refine x_get (pc2 := 19) C fl_X0_9 hk0 (by decide) rfl dX0_sensed_16 rfl ?_
    refine x_icmp_ge (tgt := 76) (pc2 := 22) C dX0_sensed_19 (by decide) rfl ?_ ?_
    · refine x_iload_n (pc2 := 77) C dX0_sensed_76 rfl rfl ?_
      exact x_iret C rfl rfl dX0_sensed_77
    · refine x_iload_n (pc2 := 23) C dX0_sensed_22 rfl rfl ?_
      refine x_iload (pc2 := 25) C dX0_sensed_23 rfl rfl ?_
      refine x_icmp_eq (tgt := 76) (pc2 := 28) C dX0_sensed_25 (by decide) rfl ?_ ?_
      · refine x_iload_n (pc2 := 77) C dX0_sensed_76 rfl rfl ?_
        exact x_iret C rfl rfl dX0_sensed_77
      · refine x_iload_n (pc2 := 29) C dX0_sensed_28 rfl rfl ?_
        refine x_istore (pc2 := 31) C dX0_sensed_29 rfl [some (rv G this), none, some (.int a2), some (.int b3.1), some (.int b3.1), some (.int b3.2.2), none, none] rfl rfl ?_
        refine x_iconst (pc2 := 32) C dX0_sensed_31 rfl ic_0 ?_
        refine x_istore (pc2 := 34) C dX0_sensed_32 rfl [some (rv G this), none, some (.int a2), some (.int b3.1), some (.int b3.1), some (.int b3.2.2), some (.int 0), none] rfl rfl ?_
        refine x_wk [some (rv G this), none, some (.int a2), some (.int b3.1), some (.int b3.1), some (.int b3.2.2), some (.int 0), none] ⟨Or.inr rfl, Or.inl rfl, Or.inr rfl, Or.inr rfl, Or.inr rfl, Or.inr rfl, Or.inr rfl, Or.inl rfl, trivial⟩ ?_
        refine x_lp1 (fun (b6 : Int32 × Int32) => [some (rv G this), none, some (.int a2), some (.int b6.1), some (.int b3.1), some (.int b3.2.2), some (.int b6.2), none]) 70 (fun (b9 : Int32) => [some (rv G this), none, some (.int a2), some (.int b9), some (.int b3.1), some (.int b3.2.2), none, none]) ?_ ?_
        · intro b9 M10
          refine x_iinc (pc2 := 73) (v := b3.2.2 + 1) C dX0_sensed_70 rfl rfl 1 ic_1 rfl [some (rv G this), none, some (.int a2), some (.int b9), some (.int b3.1), some (.int (b3.2.2 + 1)), none, none] rfl rfl ?_
          refine x_goto (tgt := 13) C dX0_sensed_73 (by decide) ?_
          exact x_wk [some (rv G this), none, some (.int a2), some (.int b9), some (.int b3.1), some (.int (b3.2.2 + 1)), none, none] ⟨Or.inr rfl, Or.inl rfl, Or.inr rfl, Or.inr rfl, Or.inr rfl, Or.inr rfl, Or.inl rfl, Or.inl rfl, trivial⟩ (hrec5 (b9, b3.1, b3.2.2 + 1) _)
        · intro k11 hk11 rec8 hrec8 b6 M7
          refine x_iload (pc2 := 36) C dX0_sensed_34 rfl rfl ?_
          refine x_aload_n (pc2 := 37) C dX0_sensed_36 rfl rfl ?_
          refine x_get (pc2 := 40) C fl_X0_9 hk0 (by decide) rfl dX0_sensed_37 rfl ?_
          refine x_icmp_ge (tgt := 70) (pc2 := 43) C dX0_sensed_40 (by decide) rfl ?_ ?_
          · exact x_wk [some (rv G this), none, some (.int a2), some (.int b6.1), some (.int b3.1), some (.int b3.2.2), none, none] ⟨Or.inr rfl, Or.inl rfl, Or.inr rfl, Or.inr rfl, Or.inr rfl, Or.inr rfl, Or.inl rfl, Or.inl rfl, trivial⟩ (hk11 b6.1 _)
          · refine x_aload_n (pc2 := 44) C dX0_sensed_43 rfl rfl ?_
            refine x_iload (pc2 := 46) C dX0_sensed_44 rfl rfl ?_
            refine x_iload_n (pc2 := 47) C dX0_sensed_46 rfl rfl ?_
            refine x_callVi (pc2 := 50) C [.int b6.2, .int a2] [] cl_X0_93 (fun q hq => ctX0_joined hk0 q hq) hk0 rfl rfl rfl ⟨rfl, rfl, Nat.le_of_ble_eq_true rfl, Nat.le_of_ble_eq_true rfl⟩ (Nat.le_of_ble_eq_true rfl) ⟨Nat.zero_le _, Nat.zero_le _⟩ dX0_sensed_47 rfl (fun v12 M13 => ?_)
            refine x_istore (pc2 := 52) C dX0_sensed_50 rfl [some (rv G this), none, some (.int a2), some (.int b6.1), some (.int b3.1), some (.int b3.2.2), some (.int b6.2), some (.int v12)] rfl rfl ?_
            refine x_iload (pc2 := 54) C dX0_sensed_52 rfl rfl ?_
            refine x_iload_n (pc2 := 55) C dX0_sensed_54 rfl rfl ?_
            refine x_iand (pc2 := 56) C dX0_sensed_55 rfl ?_
            refine x_jn 64 (fun (b14 : Int32) => [some (rv G this), none, some (.int a2), some (.int b14), some (.int b3.1), some (.int b3.2.2), some (.int b6.2), none]) (fun (b14 : Int32) => []) ?_ ?_
            · intro b14 M16
              refine x_iinc (pc2 := 67) (v := b6.2 + 1) C dX0_sensed_64 rfl rfl 1 ic_1 rfl [some (rv G this), none, some (.int a2), some (.int b14), some (.int b3.1), some (.int b3.2.2), some (.int (b6.2 + 1)), none] rfl rfl ?_
              refine x_goto (tgt := 34) C dX0_sensed_67 (by decide) ?_
              exact x_wk [some (rv G this), none, some (.int a2), some (.int b14), some (.int b3.1), some (.int b3.2.2), some (.int (b6.2 + 1)), none] ⟨Or.inr rfl, Or.inl rfl, Or.inr rfl, Or.inr rfl, Or.inr rfl, Or.inr rfl, Or.inr rfl, Or.inl rfl, trivial⟩ (hrec8 (b14, b6.2 + 1) _)
            · intro j15 hj15
              refine x_if_eq (tgt := 64) (pc2 := 59) C dX0_sensed_56 (by decide) rfl ?_ ?_
              · exact x_wk [some (rv G this), none, some (.int a2), some (.int b6.1), some (.int b3.1), some (.int b3.2.2), some (.int b6.2), none] ⟨Or.inr rfl, Or.inl rfl, Or.inr rfl, Or.inr rfl, Or.inr rfl, Or.inr rfl, Or.inr rfl, Or.inl rfl, trivial⟩ (hj15 b6.1 _)
              · refine x_iload_n (pc2 := 60) C dX0_sensed_59 rfl rfl ?_
                refine x_iload (pc2 := 62) C dX0_sensed_60 rfl rfl ?_
                refine x_ior (pc2 := 63) C dX0_sensed_62 rfl ?_
                refine x_istore_n (pc2 := 64) C dX0_sensed_63 rfl [some (rv G this), none, some (.int a2), some (.int (b6.1 ||| v12)), some (.int b3.1), some (.int b3.2.2), some (.int b6.2), some (.int v12)] rfl rfl ?_
                exact x_wk [some (rv G this), none, some (.int a2), some (.int (b6.1 ||| v12)), some (.int b3.1), some (.int b3.2.2), some (.int b6.2), none] ⟨Or.inr rfl, Or.inl rfl, Or.inr rfl, Or.inr rfl, Or.inr rfl, Or.inr rfl, Or.inr rfl, Or.inl rfl, trivial⟩ (hj15 (b6.1 ||| v12) _)
set_option maxRecDepth 100000 in
set_option maxHeartbeats 4000000 in
theorem ctX0_isDown {l : Launch} {G : bkG} {M : Mem} {this : Nat} {a1 : Int32} (hk0 : kd this = 0) : ∀ r, fX0_isDown this a1 M = some r → Met l yX0_isDown (Cond.code yX0_isDown cX0_isDown 2 (some .boolean) :: TT) ({ frames := 1, cells := 0, slots := 0, locals := 21 } : Room) (va_Pc [rv G this, .int a1] (Wd G M)) (QQ G ((fun v => some (.int v)) r.1) r.2) 0 0 (An G) := by
  refine mkMet (vl := (fun v => some (.int v))) RX0 rfl (by decide +kernel) rfl (Nat.le_of_ble_eq_true rfl) [some (rv G this), some (.int a1)] rfl ?_
  intro p e s m args below meth c C _
  refine x_aload_n (pc2 := 1) C dX0_isDown_0 rfl rfl ?_
  refine x_get (pc2 := 4) C fl_X0_34 hk0 (by decide) rfl dX0_isDown_1 rfl ?_
  refine x_aload_n (pc2 := 5) C dX0_isDown_4 rfl rfl ?_
  refine x_iload_n (pc2 := 6) C dX0_isDown_5 rfl rfl ?_
  refine x_callVi (pc2 := 9) C [.int a1] [rv G (this + 6)] cl_X0_58 (fun q hq => ctX0_rowOf hk0 q hq) hk0 rfl rfl rfl ⟨rfl, rfl, Nat.le_of_ble_eq_true rfl, Nat.le_of_ble_eq_true rfl⟩ (Nat.le_of_ble_eq_true rfl) ⟨Nat.zero_le _, Nat.zero_le _⟩ dX0_isDown_6 rfl (fun v1 M2 => ?_)
  refine x_callSi (pc2 := 12) C [rv G (this + 6), .int v1] [] cl_X0_62 (fun q hq => ctX1_at (kf_0_7 hk0) q hq) rfl rfl ⟨rfl, rfl, Nat.le_of_ble_eq_true rfl, Nat.le_of_ble_eq_true rfl⟩ (Nat.le_of_ble_eq_true rfl) ⟨Nat.zero_le _, Nat.zero_le _⟩ dX0_isDown_9 rfl (fun v3 M4 => ?_)
  refine x_aload_n (pc2 := 13) C dX0_isDown_12 rfl rfl ?_
  refine x_iload_n (pc2 := 14) C dX0_isDown_13 rfl rfl ?_
  refine x_callVi (pc2 := 17) C [.int a1] [.int v3] cl_X0_66 (fun q hq => ctX0_bitOf hk0 q hq) hk0 rfl rfl rfl ⟨rfl, rfl, Nat.le_of_ble_eq_true rfl, Nat.le_of_ble_eq_true rfl⟩ (Nat.le_of_ble_eq_true rfl) ⟨Nat.zero_le _, Nat.zero_le _⟩ dX0_isDown_14 rfl (fun v5 M6 => ?_)
  refine x_iand (pc2 := 18) C dX0_isDown_17 rfl ?_
  refine x_if_eq (tgt := 25) (pc2 := 21) C dX0_isDown_18 (by decide) rfl ?_ ?_
  · refine x_iconst (pc2 := 26) C dX0_isDown_25 rfl ic_0 ?_
    exact x_zret C rfl rfl rfl dX0_isDown_26
  · refine x_iconst (pc2 := 22) C dX0_isDown_21 rfl ic_1 ?_
    refine x_goto (tgt := 26) C dX0_isDown_22 (by decide) ?_
    exact x_zret C rfl rfl rfl dX0_isDown_26
set_option maxRecDepth 100000 in
set_option maxHeartbeats 4000000 in
theorem ctX0_copyFrom {l : Launch} {G : bkG} {M : Mem} {this : Nat} {a1 : Nat} (hk0 : kd this = 0) (hk1 : kd a1 = 0) : ∀ r, fX0_copyFrom this a1 M = some r → Met l yX0_copyFrom (Cond.code yX0_copyFrom cX0_copyFrom 2 none :: TT) ({ frames := 2, cells := 0, slots := 0, locals := 48 } : Room) (va_Pc [rv G this, rv G a1] (Wd G M)) (QQ G ((fun _ => none) r.1) r.2) 0 0 (An G) := by
  refine mkMet (vl := (fun _ => none)) RX0 rfl (by decide +kernel) rfl (Nat.le_of_ble_eq_true rfl) [some (rv G this), some (rv G a1)] rfl ?_
  intro p e s m args below meth c C _
  refine x_aload_n (pc2 := 1) C dX0_copyFrom_0 rfl rfl ?_
  refine x_aload_n (pc2 := 2) C dX0_copyFrom_1 rfl rfl ?_
  refine x_get (pc2 := 5) C fl_X0_9 hk1 (by decide) rfl dX0_copyFrom_2 rfl ?_
  refine x_puti (pc2 := 8) C ft_X0_9 hk0 (by decide) hs_0_0 (Nat.le_of_ble_eq_true rfl) dX0_copyFrom_5 rfl (fun M1 => ?_)
  refine x_aload_n (pc2 := 9) C dX0_copyFrom_8 rfl rfl ?_
  refine x_aload_n (pc2 := 10) C dX0_copyFrom_9 rfl rfl ?_
  refine x_get (pc2 := 13) C fl_X0_15 hk1 (by decide) rfl dX0_copyFrom_10 rfl ?_
  refine x_puti (pc2 := 16) C ft_X0_15 hk0 (by decide) hs_0_1 (Nat.le_of_ble_eq_true rfl) dX0_copyFrom_13 rfl (fun M2 => ?_)
  refine x_aload_n (pc2 := 17) C dX0_copyFrom_16 rfl rfl ?_
  refine x_get (pc2 := 20) C fl_X0_18 hk1 (by decide) rfl dX0_copyFrom_17 rfl ?_
  refine x_aload_n (pc2 := 21) C dX0_copyFrom_20 rfl rfl ?_
  refine x_get (pc2 := 24) C fl_X0_18 hk0 (by decide) rfl dX0_copyFrom_21 rfl ?_
  refine x_callSv (pc2 := 27) C [rv G (a1 + 1), rv G (this + 1)] [] cl_X0_52 (fun q hq => ctX1_copy (kf_0_2 hk1) (kf_0_2 hk0) q hq) rfl rfl ⟨rfl, rfl, Nat.le_of_ble_eq_true rfl, Nat.le_of_ble_eq_true rfl⟩ (Nat.le_of_ble_eq_true rfl) ⟨Nat.zero_le _, Nat.zero_le _⟩ dX0_copyFrom_24 rfl (fun v3 M4 => ?_)
  refine x_aload_n (pc2 := 28) C dX0_copyFrom_27 rfl rfl ?_
  refine x_get (pc2 := 31) C fl_X0_22 hk1 (by decide) rfl dX0_copyFrom_28 rfl ?_
  refine x_aload_n (pc2 := 32) C dX0_copyFrom_31 rfl rfl ?_
  refine x_get (pc2 := 35) C fl_X0_22 hk0 (by decide) rfl dX0_copyFrom_32 rfl ?_
  refine x_callSv (pc2 := 38) C [rv G (a1 + 2), rv G (this + 2)] [] cl_X0_52 (fun q hq => ctX1_copy (kf_0_3 hk1) (kf_0_3 hk0) q hq) rfl rfl ⟨rfl, rfl, Nat.le_of_ble_eq_true rfl, Nat.le_of_ble_eq_true rfl⟩ (Nat.le_of_ble_eq_true rfl) ⟨Nat.zero_le _, Nat.zero_le _⟩ dX0_copyFrom_35 rfl (fun v5 M6 => ?_)
  refine x_aload_n (pc2 := 39) C dX0_copyFrom_38 rfl rfl ?_
  refine x_get (pc2 := 42) C fl_X0_25 hk1 (by decide) rfl dX0_copyFrom_39 rfl ?_
  refine x_aload_n (pc2 := 43) C dX0_copyFrom_42 rfl rfl ?_
  refine x_get (pc2 := 46) C fl_X0_25 hk0 (by decide) rfl dX0_copyFrom_43 rfl ?_
  refine x_callSv (pc2 := 49) C [rv G (a1 + 3), rv G (this + 3)] [] cl_X0_52 (fun q hq => ctX1_copy (kf_0_4 hk1) (kf_0_4 hk0) q hq) rfl rfl ⟨rfl, rfl, Nat.le_of_ble_eq_true rfl, Nat.le_of_ble_eq_true rfl⟩ (Nat.le_of_ble_eq_true rfl) ⟨Nat.zero_le _, Nat.zero_le _⟩ dX0_copyFrom_46 rfl (fun v7 M8 => ?_)
  refine x_aload_n (pc2 := 50) C dX0_copyFrom_49 rfl rfl ?_
  refine x_get (pc2 := 53) C fl_X0_28 hk1 (by decide) rfl dX0_copyFrom_50 rfl ?_
  refine x_aload_n (pc2 := 54) C dX0_copyFrom_53 rfl rfl ?_
  refine x_get (pc2 := 57) C fl_X0_28 hk0 (by decide) rfl dX0_copyFrom_54 rfl ?_
  refine x_callSv (pc2 := 60) C [rv G (a1 + 4), rv G (this + 4)] [] cl_X0_52 (fun q hq => ctX1_copy (kf_0_5 hk1) (kf_0_5 hk0) q hq) rfl rfl ⟨rfl, rfl, Nat.le_of_ble_eq_true rfl, Nat.le_of_ble_eq_true rfl⟩ (Nat.le_of_ble_eq_true rfl) ⟨Nat.zero_le _, Nat.zero_le _⟩ dX0_copyFrom_57 rfl (fun v9 M10 => ?_)
  refine x_aload_n (pc2 := 61) C dX0_copyFrom_60 rfl rfl ?_
  refine x_get (pc2 := 64) C fl_X0_31 hk1 (by decide) rfl dX0_copyFrom_61 rfl ?_
  refine x_aload_n (pc2 := 65) C dX0_copyFrom_64 rfl rfl ?_
  refine x_get (pc2 := 68) C fl_X0_31 hk0 (by decide) rfl dX0_copyFrom_65 rfl ?_
  refine x_callSv (pc2 := 71) C [rv G (a1 + 5), rv G (this + 5)] [] cl_X0_52 (fun q hq => ctX1_copy (kf_0_6 hk1) (kf_0_6 hk0) q hq) rfl rfl ⟨rfl, rfl, Nat.le_of_ble_eq_true rfl, Nat.le_of_ble_eq_true rfl⟩ (Nat.le_of_ble_eq_true rfl) ⟨Nat.zero_le _, Nat.zero_le _⟩ dX0_copyFrom_68 rfl (fun v11 M12 => ?_)
  refine x_aload_n (pc2 := 72) C dX0_copyFrom_71 rfl rfl ?_
  refine x_get (pc2 := 75) C fl_X0_34 hk1 (by decide) rfl dX0_copyFrom_72 rfl ?_
  refine x_aload_n (pc2 := 76) C dX0_copyFrom_75 rfl rfl ?_
  refine x_get (pc2 := 79) C fl_X0_34 hk0 (by decide) rfl dX0_copyFrom_76 rfl ?_
  refine x_callSv (pc2 := 82) C [rv G (a1 + 6), rv G (this + 6)] [] cl_X0_52 (fun q hq => ctX1_copy (kf_0_7 hk1) (kf_0_7 hk0) q hq) rfl rfl ⟨rfl, rfl, Nat.le_of_ble_eq_true rfl, Nat.le_of_ble_eq_true rfl⟩ (Nat.le_of_ble_eq_true rfl) ⟨Nat.zero_le _, Nat.zero_le _⟩ dX0_copyFrom_79 rfl (fun v13 M14 => ?_)
  refine x_aload_n (pc2 := 83) C dX0_copyFrom_82 rfl rfl ?_
  refine x_get (pc2 := 86) C fl_X0_37 hk1 (by decide) rfl dX0_copyFrom_83 rfl ?_
  refine x_aload_n (pc2 := 87) C dX0_copyFrom_86 rfl rfl ?_
  refine x_get (pc2 := 90) C fl_X0_37 hk0 (by decide) rfl dX0_copyFrom_87 rfl ?_
  refine x_callSv (pc2 := 93) C [rv G (a1 + 7), rv G (this + 7)] [] cl_X0_52 (fun q hq => ctX1_copy (kf_0_8 hk1) (kf_0_8 hk0) q hq) rfl rfl ⟨rfl, rfl, Nat.le_of_ble_eq_true rfl, Nat.le_of_ble_eq_true rfl⟩ (Nat.le_of_ble_eq_true rfl) ⟨Nat.zero_le _, Nat.zero_le _⟩ dX0_copyFrom_90 rfl (fun v15 M16 => ?_)
  refine x_aload_n (pc2 := 94) C dX0_copyFrom_93 rfl rfl ?_
  refine x_get (pc2 := 97) C fl_X0_40 hk1 (by decide) rfl dX0_copyFrom_94 rfl ?_
  refine x_aload_n (pc2 := 98) C dX0_copyFrom_97 rfl rfl ?_
  refine x_get (pc2 := 101) C fl_X0_40 hk0 (by decide) rfl dX0_copyFrom_98 rfl ?_
  refine x_callSv (pc2 := 104) C [rv G (a1 + 8), rv G (this + 8)] [] cl_X0_52 (fun q hq => ctX1_copy (kf_0_9 hk1) (kf_0_9 hk0) q hq) rfl rfl ⟨rfl, rfl, Nat.le_of_ble_eq_true rfl, Nat.le_of_ble_eq_true rfl⟩ (Nat.le_of_ble_eq_true rfl) ⟨Nat.zero_le _, Nat.zero_le _⟩ dX0_copyFrom_101 rfl (fun v17 M18 => ?_)
  refine x_aload_n (pc2 := 105) C dX0_copyFrom_104 rfl rfl ?_
  refine x_get (pc2 := 108) C fl_X0_43 hk1 (by decide) rfl dX0_copyFrom_105 rfl ?_
  refine x_aload_n (pc2 := 109) C dX0_copyFrom_108 rfl rfl ?_
  refine x_get (pc2 := 112) C fl_X0_43 hk0 (by decide) rfl dX0_copyFrom_109 rfl ?_
  refine x_callSv (pc2 := 115) C [rv G (a1 + 9), rv G (this + 9)] [] cl_X0_52 (fun q hq => ctX1_copy (kf_0_10 hk1) (kf_0_10 hk0) q hq) rfl rfl ⟨rfl, rfl, Nat.le_of_ble_eq_true rfl, Nat.le_of_ble_eq_true rfl⟩ (Nat.le_of_ble_eq_true rfl) ⟨Nat.zero_le _, Nat.zero_le _⟩ dX0_copyFrom_112 rfl (fun v19 M20 => ?_)
  exact x_vret C rfl rfl dX0_copyFrom_115
set_option maxRecDepth 100000 in
set_option maxHeartbeats 4000000 in
theorem ctX0_putDown {l : Launch} {G : bkG} {M : Mem} {this : Nat} {a1 : Int32} {a2 : Int32} (hk0 : kd this = 0) : ∀ r, fX0_putDown this a1 a2 M = some r → Met l yX0_putDown (Cond.code yX0_putDown cX0_putDown 4 none :: TT) ({ frames := 1, cells := 0, slots := 0, locals := 22 } : Room) (va_Pc [rv G this, .int a1, .int a2] (Wd G M)) (QQ G ((fun _ => none) r.1) r.2) 0 0 (An G) := by
  refine mkMet (vl := (fun _ => none)) RX0 rfl (by decide +kernel) rfl (Nat.le_of_ble_eq_true rfl) [some (rv G this), some (.int a1), some (.int a2), none] rfl ?_
  intro p e s m args below meth c C _
  refine x_aload_n (pc2 := 1) C dX0_putDown_0 rfl rfl ?_
  refine x_iload_n (pc2 := 2) C dX0_putDown_1 rfl rfl ?_
  refine x_callVi (pc2 := 5) C [.int a2] [] cl_X0_58 (fun q hq => ctX0_rowOf hk0 q hq) hk0 rfl rfl rfl ⟨rfl, rfl, Nat.le_of_ble_eq_true rfl, Nat.le_of_ble_eq_true rfl⟩ (Nat.le_of_ble_eq_true rfl) ⟨Nat.zero_le _, Nat.zero_le _⟩ dX0_putDown_2 rfl (fun v1 M2 => ?_)
  refine x_istore_n (pc2 := 6) C dX0_putDown_5 rfl [some (rv G this), some (.int a1), some (.int a2), some (.int v1)] rfl rfl ?_
  refine x_aload_n (pc2 := 7) C dX0_putDown_6 rfl rfl ?_
  refine x_get (pc2 := 10) C fl_X0_18 hk0 (by decide) rfl dX0_putDown_7 rfl ?_
  refine x_iload_n (pc2 := 11) C dX0_putDown_10 rfl rfl ?_
  refine x_iload_n (pc2 := 12) C dX0_putDown_11 rfl rfl ?_
  refine x_callSv (pc2 := 15) C [rv G (this + 1), .int a2, .int a1] [] cl_X0_73 (fun q hq => ctX1_put (kf_0_2 hk0) q hq) rfl rfl ⟨rfl, rfl, Nat.le_of_ble_eq_true rfl, Nat.le_of_ble_eq_true rfl⟩ (Nat.le_of_ble_eq_true rfl) ⟨Nat.zero_le _, Nat.zero_le _⟩ dX0_putDown_12 rfl (fun v3 M4 => ?_)
  refine x_aload_n (pc2 := 16) C dX0_putDown_15 rfl rfl ?_
  refine x_get (pc2 := 19) C fl_X0_34 hk0 (by decide) rfl dX0_putDown_16 rfl ?_
  refine x_iload_n (pc2 := 20) C dX0_putDown_19 rfl rfl ?_
  refine x_aload_n (pc2 := 21) C dX0_putDown_20 rfl rfl ?_
  refine x_get (pc2 := 24) C fl_X0_34 hk0 (by decide) rfl dX0_putDown_21 rfl ?_
  refine x_iload_n (pc2 := 25) C dX0_putDown_24 rfl rfl ?_
  refine x_callSi (pc2 := 28) C [rv G (this + 6), .int v1] [.int v1, rv G (this + 6)] cl_X0_62 (fun q hq => ctX1_at (kf_0_7 hk0) q hq) rfl rfl ⟨rfl, rfl, Nat.le_of_ble_eq_true rfl, Nat.le_of_ble_eq_true rfl⟩ (Nat.le_of_ble_eq_true rfl) ⟨Nat.zero_le _, Nat.zero_le _⟩ dX0_putDown_25 rfl (fun v5 M6 => ?_)
  refine x_aload_n (pc2 := 29) C dX0_putDown_28 rfl rfl ?_
  refine x_iload_n (pc2 := 30) C dX0_putDown_29 rfl rfl ?_
  refine x_callVi (pc2 := 33) C [.int a2] [.int v5, .int v1, rv G (this + 6)] cl_X0_66 (fun q hq => ctX0_bitOf hk0 q hq) hk0 rfl rfl rfl ⟨rfl, rfl, Nat.le_of_ble_eq_true rfl, Nat.le_of_ble_eq_true rfl⟩ (Nat.le_of_ble_eq_true rfl) ⟨Nat.zero_le _, Nat.zero_le _⟩ dX0_putDown_30 rfl (fun v7 M8 => ?_)
  refine x_ior (pc2 := 34) C dX0_putDown_33 rfl ?_
  refine x_callSv (pc2 := 37) C [rv G (this + 6), .int v1, .int (v5 ||| v7)] [] cl_X0_73 (fun q hq => ctX1_put (kf_0_7 hk0) q hq) rfl rfl ⟨rfl, rfl, Nat.le_of_ble_eq_true rfl, Nat.le_of_ble_eq_true rfl⟩ (Nat.le_of_ble_eq_true rfl) ⟨Nat.zero_le _, Nat.zero_le _⟩ dX0_putDown_34 rfl (fun v9 M10 => ?_)
  exact x_vret C rfl rfl dX0_putDown_37
set_option maxRecDepth 100000 in
set_option maxHeartbeats 4000000 in
theorem ctX0_liftUp {l : Launch} {G : bkG} {M : Mem} {this : Nat} {a1 : Int32} (hk0 : kd this = 0) : ∀ r, fX0_liftUp this a1 M = some r → Met l yX0_liftUp (Cond.code yX0_liftUp cX0_liftUp 3 none :: TT) ({ frames := 1, cells := 0, slots := 0, locals := 22 } : Room) (va_Pc [rv G this, .int a1] (Wd G M)) (QQ G ((fun _ => none) r.1) r.2) 0 0 (An G) := by
  refine mkMet (vl := (fun _ => none)) RX0 rfl (by decide +kernel) rfl (Nat.le_of_ble_eq_true rfl) [some (rv G this), some (.int a1), none] rfl ?_
  intro p e s m args below meth c C _
  refine x_aload_n (pc2 := 1) C dX0_liftUp_0 rfl rfl ?_
  refine x_iload_n (pc2 := 2) C dX0_liftUp_1 rfl rfl ?_
  refine x_callVi (pc2 := 5) C [.int a1] [] cl_X0_58 (fun q hq => ctX0_rowOf hk0 q hq) hk0 rfl rfl rfl ⟨rfl, rfl, Nat.le_of_ble_eq_true rfl, Nat.le_of_ble_eq_true rfl⟩ (Nat.le_of_ble_eq_true rfl) ⟨Nat.zero_le _, Nat.zero_le _⟩ dX0_liftUp_2 rfl (fun v1 M2 => ?_)
  refine x_istore_n (pc2 := 6) C dX0_liftUp_5 rfl [some (rv G this), some (.int a1), some (.int v1)] rfl rfl ?_
  refine x_aload_n (pc2 := 7) C dX0_liftUp_6 rfl rfl ?_
  refine x_get (pc2 := 10) C fl_X0_18 hk0 (by decide) rfl dX0_liftUp_7 rfl ?_
  refine x_iload_n (pc2 := 11) C dX0_liftUp_10 rfl rfl ?_
  refine x_iconst (pc2 := 12) C dX0_liftUp_11 rfl ic_m1 ?_
  refine x_callSv (pc2 := 15) C [rv G (this + 1), .int a1, .int (-1)] [] cl_X0_73 (fun q hq => ctX1_put (kf_0_2 hk0) q hq) rfl rfl ⟨rfl, rfl, Nat.le_of_ble_eq_true rfl, Nat.le_of_ble_eq_true rfl⟩ (Nat.le_of_ble_eq_true rfl) ⟨Nat.zero_le _, Nat.zero_le _⟩ dX0_liftUp_12 rfl (fun v3 M4 => ?_)
  refine x_aload_n (pc2 := 16) C dX0_liftUp_15 rfl rfl ?_
  refine x_get (pc2 := 19) C fl_X0_34 hk0 (by decide) rfl dX0_liftUp_16 rfl ?_
  refine x_iload_n (pc2 := 20) C dX0_liftUp_19 rfl rfl ?_
  refine x_aload_n (pc2 := 21) C dX0_liftUp_20 rfl rfl ?_
  refine x_get (pc2 := 24) C fl_X0_34 hk0 (by decide) rfl dX0_liftUp_21 rfl ?_
  refine x_iload_n (pc2 := 25) C dX0_liftUp_24 rfl rfl ?_
  refine x_callSi (pc2 := 28) C [rv G (this + 6), .int v1] [.int v1, rv G (this + 6)] cl_X0_62 (fun q hq => ctX1_at (kf_0_7 hk0) q hq) rfl rfl ⟨rfl, rfl, Nat.le_of_ble_eq_true rfl, Nat.le_of_ble_eq_true rfl⟩ (Nat.le_of_ble_eq_true rfl) ⟨Nat.zero_le _, Nat.zero_le _⟩ dX0_liftUp_25 rfl (fun v5 M6 => ?_)
  refine x_aload_n (pc2 := 29) C dX0_liftUp_28 rfl rfl ?_
  refine x_iload_n (pc2 := 30) C dX0_liftUp_29 rfl rfl ?_
  refine x_callVi (pc2 := 33) C [.int a1] [.int v5, .int v1, rv G (this + 6)] cl_X0_66 (fun q hq => ctX0_bitOf hk0 q hq) hk0 rfl rfl rfl ⟨rfl, rfl, Nat.le_of_ble_eq_true rfl, Nat.le_of_ble_eq_true rfl⟩ (Nat.le_of_ble_eq_true rfl) ⟨Nat.zero_le _, Nat.zero_le _⟩ dX0_liftUp_30 rfl (fun v7 M8 => ?_)
  refine x_iconst (pc2 := 34) C dX0_liftUp_33 rfl ic_m1 ?_
  refine x_ixor (pc2 := 35) C dX0_liftUp_34 rfl ?_
  refine x_iand (pc2 := 36) C dX0_liftUp_35 rfl ?_
  refine x_callSv (pc2 := 39) C [rv G (this + 6), .int v1, .int (v5 &&& (v7 ^^^ (-1)))] [] cl_X0_73 (fun q hq => ctX1_put (kf_0_7 hk0) q hq) rfl rfl ⟨rfl, rfl, Nat.le_of_ble_eq_true rfl, Nat.le_of_ble_eq_true rfl⟩ (Nat.le_of_ble_eq_true rfl) ⟨Nat.zero_le _, Nat.zero_le _⟩ dX0_liftUp_36 rfl (fun v9 M10 => ?_)
  exact x_vret C rfl rfl dX0_liftUp_39
set_option maxRecDepth 100000 in
set_option maxHeartbeats 4000000 in
theorem ctX0_trueHolderOf {l : Launch} {G : bkG} {M : Mem} {this : Nat} {a1 : Int32} (hk0 : kd this = 0) : ∀ r, fX0_trueHolderOf this a1 M = some r → Met l yX0_trueHolderOf (Cond.code yX0_trueHolderOf cX0_trueHolderOf 2 (some .int) :: TT) ({ frames := 1, cells := 0, slots := 0, locals := 21 } : Room) (va_Pc [rv G this, .int a1] (Wd G M)) (QQ G ((fun v => some (.int v)) r.1) r.2) 0 0 (An G) := by
  refine mkMet (vl := (fun v => some (.int v))) RX0 rfl (by decide +kernel) rfl (Nat.le_of_ble_eq_true rfl) [some (rv G this), some (.int a1)] rfl ?_
  intro p e s m args below meth c C _
  refine x_aload_n (pc2 := 1) C dX0_trueHolderOf_0 rfl rfl ?_
  refine x_get (pc2 := 4) C fl_X0_31 hk0 (by decide) rfl dX0_trueHolderOf_1 rfl ?_
  refine x_iload_n (pc2 := 5) C dX0_trueHolderOf_4 rfl rfl ?_
  refine x_callSi (pc2 := 8) C [rv G (this + 5), .int a1] [] cl_X0_62 (fun q hq => ctX1_at (kf_0_6 hk0) q hq) rfl rfl ⟨rfl, rfl, Nat.le_of_ble_eq_true rfl, Nat.le_of_ble_eq_true rfl⟩ (Nat.le_of_ble_eq_true rfl) ⟨Nat.zero_le _, Nat.zero_le _⟩ dX0_trueHolderOf_5 rfl (fun v1 M2 => ?_)
  exact x_iret C rfl rfl dX0_trueHolderOf_8
set_option maxRecDepth 100000 in
set_option maxHeartbeats 4000000 in
theorem ctX0_notedFor {l : Launch} {G : bkG} {M : Mem} {this : Nat} {a1 : Int32} (hk0 : kd this = 0) : ∀ r, fX0_notedFor this a1 M = some r → Met l yX0_notedFor (Cond.code yX0_notedFor cX0_notedFor 2 (some .int) :: TT) ({ frames := 1, cells := 0, slots := 0, locals := 21 } : Room) (va_Pc [rv G this, .int a1] (Wd G M)) (QQ G ((fun v => some (.int v)) r.1) r.2) 0 0 (An G) := by
  refine mkMet (vl := (fun v => some (.int v))) RX0 rfl (by decide +kernel) rfl (Nat.le_of_ble_eq_true rfl) [some (rv G this), some (.int a1)] rfl ?_
  intro p e s m args below meth c C _
  refine x_aload_n (pc2 := 1) C dX0_notedFor_0 rfl rfl ?_
  refine x_get (pc2 := 4) C fl_X0_28 hk0 (by decide) rfl dX0_notedFor_1 rfl ?_
  refine x_iload_n (pc2 := 5) C dX0_notedFor_4 rfl rfl ?_
  refine x_callSi (pc2 := 8) C [rv G (this + 4), .int a1] [] cl_X0_62 (fun q hq => ctX1_at (kf_0_5 hk0) q hq) rfl rfl ⟨rfl, rfl, Nat.le_of_ble_eq_true rfl, Nat.le_of_ble_eq_true rfl⟩ (Nat.le_of_ble_eq_true rfl) ⟨Nat.zero_le _, Nat.zero_le _⟩ dX0_notedFor_5 rfl (fun v1 M2 => ?_)
  exact x_iret C rfl rfl dX0_notedFor_8
set_option maxRecDepth 100000 in
set_option maxHeartbeats 4000000 in
theorem ctX0_loseSight {l : Launch} {G : bkG} {M : Mem} {this : Nat} {a1 : Int32} (hk0 : kd this = 0) : ∀ r, fX0_loseSight this a1 M = some r → Met l yX0_loseSight (Cond.code yX0_loseSight cX0_loseSight 3 none :: TT) ({ frames := 1, cells := 0, slots := 0, locals := 22 } : Room) (va_Pc [rv G this, .int a1] (Wd G M)) (QQ G ((fun _ => none) r.1) r.2) 0 0 (An G) := by
  refine mkMet (vl := (fun _ => none)) RX0 rfl (by decide +kernel) rfl (Nat.le_of_ble_eq_true rfl) [some (rv G this), some (.int a1), none] rfl ?_
  intro p e s m args below meth c C _
  refine x_aload_n (pc2 := 1) C dX0_loseSight_0 rfl rfl ?_
  refine x_iload_n (pc2 := 2) C dX0_loseSight_1 rfl rfl ?_
  refine x_callVi (pc2 := 5) C [.int a1] [] cl_X0_58 (fun q hq => ctX0_rowOf hk0 q hq) hk0 rfl rfl rfl ⟨rfl, rfl, Nat.le_of_ble_eq_true rfl, Nat.le_of_ble_eq_true rfl⟩ (Nat.le_of_ble_eq_true rfl) ⟨Nat.zero_le _, Nat.zero_le _⟩ dX0_loseSight_2 rfl (fun v1 M2 => ?_)
  refine x_istore_n (pc2 := 6) C dX0_loseSight_5 rfl [some (rv G this), some (.int a1), some (.int v1)] rfl rfl ?_
  refine x_aload_n (pc2 := 7) C dX0_loseSight_6 rfl rfl ?_
  refine x_get (pc2 := 10) C fl_X0_37 hk0 (by decide) rfl dX0_loseSight_7 rfl ?_
  refine x_iload_n (pc2 := 11) C dX0_loseSight_10 rfl rfl ?_
  refine x_aload_n (pc2 := 12) C dX0_loseSight_11 rfl rfl ?_
  refine x_get (pc2 := 15) C fl_X0_37 hk0 (by decide) rfl dX0_loseSight_12 rfl ?_
  refine x_iload_n (pc2 := 16) C dX0_loseSight_15 rfl rfl ?_
  refine x_callSi (pc2 := 19) C [rv G (this + 7), .int v1] [.int v1, rv G (this + 7)] cl_X0_62 (fun q hq => ctX1_at (kf_0_8 hk0) q hq) rfl rfl ⟨rfl, rfl, Nat.le_of_ble_eq_true rfl, Nat.le_of_ble_eq_true rfl⟩ (Nat.le_of_ble_eq_true rfl) ⟨Nat.zero_le _, Nat.zero_le _⟩ dX0_loseSight_16 rfl (fun v3 M4 => ?_)
  refine x_aload_n (pc2 := 20) C dX0_loseSight_19 rfl rfl ?_
  refine x_iload_n (pc2 := 21) C dX0_loseSight_20 rfl rfl ?_
  refine x_callVi (pc2 := 24) C [.int a1] [.int v3, .int v1, rv G (this + 7)] cl_X0_66 (fun q hq => ctX0_bitOf hk0 q hq) hk0 rfl rfl rfl ⟨rfl, rfl, Nat.le_of_ble_eq_true rfl, Nat.le_of_ble_eq_true rfl⟩ (Nat.le_of_ble_eq_true rfl) ⟨Nat.zero_le _, Nat.zero_le _⟩ dX0_loseSight_21 rfl (fun v5 M6 => ?_)
  refine x_iconst (pc2 := 25) C dX0_loseSight_24 rfl ic_m1 ?_
  refine x_ixor (pc2 := 26) C dX0_loseSight_25 rfl ?_
  refine x_iand (pc2 := 27) C dX0_loseSight_26 rfl ?_
  refine x_callSv (pc2 := 30) C [rv G (this + 7), .int v1, .int (v3 &&& (v5 ^^^ (-1)))] [] cl_X0_73 (fun q hq => ctX1_put (kf_0_8 hk0) q hq) rfl rfl ⟨rfl, rfl, Nat.le_of_ble_eq_true rfl, Nat.le_of_ble_eq_true rfl⟩ (Nat.le_of_ble_eq_true rfl) ⟨Nat.zero_le _, Nat.zero_le _⟩ dX0_loseSight_27 rfl (fun v7 M8 => ?_)
  refine x_aload_n (pc2 := 31) C dX0_loseSight_30 rfl rfl ?_
  refine x_get (pc2 := 34) C fl_X0_40 hk0 (by decide) rfl dX0_loseSight_31 rfl ?_
  refine x_iload_n (pc2 := 35) C dX0_loseSight_34 rfl rfl ?_
  refine x_aload_n (pc2 := 36) C dX0_loseSight_35 rfl rfl ?_
  refine x_get (pc2 := 39) C fl_X0_40 hk0 (by decide) rfl dX0_loseSight_36 rfl ?_
  refine x_iload_n (pc2 := 40) C dX0_loseSight_39 rfl rfl ?_
  refine x_callSi (pc2 := 43) C [rv G (this + 8), .int v1] [.int v1, rv G (this + 8)] cl_X0_62 (fun q hq => ctX1_at (kf_0_9 hk0) q hq) rfl rfl ⟨rfl, rfl, Nat.le_of_ble_eq_true rfl, Nat.le_of_ble_eq_true rfl⟩ (Nat.le_of_ble_eq_true rfl) ⟨Nat.zero_le _, Nat.zero_le _⟩ dX0_loseSight_40 rfl (fun v9 M10 => ?_)
  refine x_aload_n (pc2 := 44) C dX0_loseSight_43 rfl rfl ?_
  refine x_iload_n (pc2 := 45) C dX0_loseSight_44 rfl rfl ?_
  refine x_callVi (pc2 := 48) C [.int a1] [.int v9, .int v1, rv G (this + 8)] cl_X0_66 (fun q hq => ctX0_bitOf hk0 q hq) hk0 rfl rfl rfl ⟨rfl, rfl, Nat.le_of_ble_eq_true rfl, Nat.le_of_ble_eq_true rfl⟩ (Nat.le_of_ble_eq_true rfl) ⟨Nat.zero_le _, Nat.zero_le _⟩ dX0_loseSight_45 rfl (fun v11 M12 => ?_)
  refine x_iconst (pc2 := 49) C dX0_loseSight_48 rfl ic_m1 ?_
  refine x_ixor (pc2 := 50) C dX0_loseSight_49 rfl ?_
  refine x_iand (pc2 := 51) C dX0_loseSight_50 rfl ?_
  refine x_callSv (pc2 := 54) C [rv G (this + 8), .int v1, .int (v9 &&& (v11 ^^^ (-1)))] [] cl_X0_73 (fun q hq => ctX1_put (kf_0_9 hk0) q hq) rfl rfl ⟨rfl, rfl, Nat.le_of_ble_eq_true rfl, Nat.le_of_ble_eq_true rfl⟩ (Nat.le_of_ble_eq_true rfl) ⟨Nat.zero_le _, Nat.zero_le _⟩ dX0_loseSight_51 rfl (fun v13 M14 => ?_)
  exact x_vret C rfl rfl dX0_loseSight_54
set_option maxRecDepth 100000 in
set_option maxHeartbeats 4000000 in
theorem ctX0_closesCorner {l : Launch} {G : bkG} {M : Mem} {this : Nat} {a1 : Int32} {a2 : Int32} (hk0 : kd this = 0) : ∀ r, fX0_closesCorner this a1 a2 M = some r → Met l yX0_closesCorner (Cond.code yX0_closesCorner cX0_closesCorner 6 (some .boolean) :: TT) ({ frames := 1, cells := 0, slots := 0, locals := 21 } : Room) (va_Pc [rv G this, .int a1, .int a2] (Wd G M)) (QQ G ((fun v => some (.int v)) r.1) r.2) 0 0 (An G) := by
  refine mkMet (vl := (fun v => some (.int v))) RX0 rfl (by decide +kernel) rfl (Nat.le_of_ble_eq_true rfl) [some (rv G this), some (.int a1), some (.int a2), none, none, none] rfl ?_
  intro p e s m args below meth c C _
  refine x_aload_n (pc2 := 1) C dX0_closesCorner_0 rfl rfl ?_
  refine x_get (pc2 := 4) C fl_X0_37 hk0 (by decide) rfl dX0_closesCorner_1 rfl ?_
  refine x_iload_n (pc2 := 5) C dX0_closesCorner_4 rfl rfl ?_
  refine x_callSi (pc2 := 8) C [rv G (this + 7), .int a1] [] cl_X0_62 (fun q hq => ctX1_at (kf_0_8 hk0) q hq) rfl rfl ⟨rfl, rfl, Nat.le_of_ble_eq_true rfl, Nat.le_of_ble_eq_true rfl⟩ (Nat.le_of_ble_eq_true rfl) ⟨Nat.zero_le _, Nat.zero_le _⟩ dX0_closesCorner_5 rfl (fun v1 M2 => ?_)
  refine x_iload_n (pc2 := 9) C dX0_closesCorner_8 rfl rfl ?_
  refine x_iconst (pc2 := 10) C dX0_closesCorner_9 rfl ic_m1 ?_
  refine x_ixor (pc2 := 11) C dX0_closesCorner_10 rfl ?_
  refine x_iand (pc2 := 12) C dX0_closesCorner_11 rfl ?_
  refine x_istore_n (pc2 := 13) C dX0_closesCorner_12 rfl [some (rv G this), some (.int a1), some (.int a2), some (.int (v1 &&& (a2 ^^^ (-1)))), none, none] rfl rfl ?_
  refine x_iconst (pc2 := 14) C dX0_closesCorner_13 rfl ic_0 ?_
  refine x_istore (pc2 := 16) C dX0_closesCorner_14 rfl [some (rv G this), some (.int a1), some (.int a2), some (.int (v1 &&& (a2 ^^^ (-1)))), some (.int 0), none] rfl rfl ?_
  refine x_wk [some (rv G this), some (.int a1), some (.int a2), some (.int (v1 &&& (a2 ^^^ (-1)))), some (.int 0), none] ⟨Or.inr rfl, Or.inr rfl, Or.inr rfl, Or.inr rfl, Or.inr rfl, Or.inl rfl, trivial⟩ ?_
  refine x_lp (fun (b3 : Int32) => [some (rv G this), some (.int a1), some (.int a2), some (.int (v1 &&& (a2 ^^^ (-1)))), some (.int b3), none]) ?_
  · intro rec5 hrec5 b3 M4
    refine x_iload (pc2 := 18) C dX0_closesCorner_16 rfl rfl ?_
    refine x_aload_n (pc2 := 19) C dX0_closesCorner_18 rfl rfl ?_
    refine x_get (pc2 := 22) C fl_X0_9 hk0 (by decide) rfl dX0_closesCorner_19 rfl ?_
    refine x_icmp_ge (tgt := 64) (pc2 := 25) C dX0_closesCorner_22 (by decide) rfl ?_ ?_
    · refine x_iconst (pc2 := 65) C dX0_closesCorner_64 rfl ic_0 ?_
      exact x_zret C rfl rfl rfl dX0_closesCorner_65
    · refine x_aload_n (pc2 := 26) C dX0_closesCorner_25 rfl rfl ?_
      refine x_get (pc2 := 29) C fl_X0_37 hk0 (by decide) rfl dX0_closesCorner_26 rfl ?_
      refine x_iload (pc2 := 31) C dX0_closesCorner_29 rfl rfl ?_
      refine x_callSi (pc2 := 34) C [rv G (this + 7), .int b3] [] cl_X0_62 (fun q hq => ctX1_at (kf_0_8 hk0) q hq) rfl rfl ⟨rfl, rfl, Nat.le_of_ble_eq_true rfl, Nat.le_of_ble_eq_true rfl⟩ (Nat.le_of_ble_eq_true rfl) ⟨Nat.zero_le _, Nat.zero_le _⟩ dX0_closesCorner_31 rfl (fun v6 M7 => ?_)
      refine x_istore (pc2 := 36) C dX0_closesCorner_34 rfl [some (rv G this), some (.int a1), some (.int a2), some (.int (v1 &&& (a2 ^^^ (-1)))), some (.int b3), some (.int v6)] rfl rfl ?_
      refine x_iload (pc2 := 38) C dX0_closesCorner_36 rfl rfl ?_
      refine x_iload_n (pc2 := 39) C dX0_closesCorner_38 rfl rfl ?_
      refine x_jn 58 (fun (b8 : Unit) => [some (rv G this), some (.int a1), some (.int a2), some (.int (v1 &&& (a2 ^^^ (-1)))), some (.int b3), none]) (fun (b8 : Unit) => []) ?_ ?_
      · intro b8 M10
        refine x_iinc (pc2 := 61) (v := b3 + 1) C dX0_closesCorner_58 rfl rfl 1 ic_1 rfl [some (rv G this), some (.int a1), some (.int a2), some (.int (v1 &&& (a2 ^^^ (-1)))), some (.int (b3 + 1)), none] rfl rfl ?_
        refine x_goto (tgt := 16) C dX0_closesCorner_61 (by decide) ?_
        exact x_wk [some (rv G this), some (.int a1), some (.int a2), some (.int (v1 &&& (a2 ^^^ (-1)))), some (.int (b3 + 1)), none] ⟨Or.inr rfl, Or.inr rfl, Or.inr rfl, Or.inr rfl, Or.inr rfl, Or.inl rfl, trivial⟩ (hrec5 (b3 + 1) _)
      · intro j9 hj9
        refine x_icmp_eq (tgt := 58) (pc2 := 42) C dX0_closesCorner_39 (by decide) rfl ?_ ?_
        · exact x_wk [some (rv G this), some (.int a1), some (.int a2), some (.int (v1 &&& (a2 ^^^ (-1)))), some (.int b3), none] ⟨Or.inr rfl, Or.inr rfl, Or.inr rfl, Or.inr rfl, Or.inr rfl, Or.inl rfl, trivial⟩ (hj9 () _)
        · refine x_iload (pc2 := 44) C dX0_closesCorner_42 rfl rfl ?_
          refine x_iload_n (pc2 := 45) C dX0_closesCorner_44 rfl rfl ?_
          refine x_iand (pc2 := 46) C dX0_closesCorner_45 rfl ?_
          refine x_if_eq (tgt := 58) (pc2 := 49) C dX0_closesCorner_46 (by decide) rfl ?_ ?_
          · exact x_wk [some (rv G this), some (.int a1), some (.int a2), some (.int (v1 &&& (a2 ^^^ (-1)))), some (.int b3), none] ⟨Or.inr rfl, Or.inr rfl, Or.inr rfl, Or.inr rfl, Or.inr rfl, Or.inl rfl, trivial⟩ (hj9 () _)
          · refine x_iload (pc2 := 51) C dX0_closesCorner_49 rfl rfl ?_
            refine x_iload_n (pc2 := 52) C dX0_closesCorner_51 rfl rfl ?_
            refine x_iand (pc2 := 53) C dX0_closesCorner_52 rfl ?_
            refine x_if_eq (tgt := 58) (pc2 := 56) C dX0_closesCorner_53 (by decide) rfl ?_ ?_
            · exact x_wk [some (rv G this), some (.int a1), some (.int a2), some (.int (v1 &&& (a2 ^^^ (-1)))), some (.int b3), none] ⟨Or.inr rfl, Or.inr rfl, Or.inr rfl, Or.inr rfl, Or.inr rfl, Or.inl rfl, trivial⟩ (hj9 () _)
            · refine x_iconst (pc2 := 57) C dX0_closesCorner_56 rfl ic_1 ?_
              exact x_zret C rfl rfl rfl dX0_closesCorner_57
set_option maxRecDepth 100000 in
set_option maxHeartbeats 4000000 in
theorem ctX0_see {l : Launch} {G : bkG} {M : Mem} {this : Nat} {a1 : Int32} {a2 : Int32} {a3 : Int32} (hk0 : kd this = 0) : ∀ r, fX0_see this a1 a2 a3 M = some r → Met l yX0_see (Cond.code yX0_see cX0_see 7 none :: TT) ({ frames := 3, cells := 0, slots := 0, locals := 64 } : Room) (va_Pc [rv G this, .int a1, .int a2, .int a3] (Wd G M)) (QQ G ((fun _ => none) r.1) r.2) 0 0 (An G) := by
  refine mkMet (vl := (fun _ => none)) RX0 rfl (by decide +kernel) rfl (Nat.le_of_ble_eq_true rfl) [some (rv G this), some (.int a1), some (.int a2), some (.int a3), none, none, none] rfl ?_
  intro p e s m args below meth c C _
  refine x_aload_n (pc2 := 1) C dX0_see_0 rfl rfl ?_
  refine x_get (pc2 := 4) C fl_X0_37 hk0 (by decide) rfl dX0_see_1 rfl ?_
  refine x_iload_n (pc2 := 5) C dX0_see_4 rfl rfl ?_
  refine x_aload_n (pc2 := 6) C dX0_see_5 rfl rfl ?_
  refine x_get (pc2 := 9) C fl_X0_37 hk0 (by decide) rfl dX0_see_6 rfl ?_
  refine x_iload_n (pc2 := 10) C dX0_see_9 rfl rfl ?_
  refine x_callSi (pc2 := 13) C [rv G (this + 7), .int a1] [.int a1, rv G (this + 7)] cl_X0_62 (fun q hq => ctX1_at (kf_0_8 hk0) q hq) rfl rfl ⟨rfl, rfl, Nat.le_of_ble_eq_true rfl, Nat.le_of_ble_eq_true rfl⟩ (Nat.le_of_ble_eq_true rfl) ⟨Nat.zero_le _, Nat.zero_le _⟩ dX0_see_10 rfl (fun v1 M2 => ?_)
  refine x_iload_n (pc2 := 14) C dX0_see_13 rfl rfl ?_
  refine x_ior (pc2 := 15) C dX0_see_14 rfl ?_
  refine x_callSv (pc2 := 18) C [rv G (this + 7), .int a1, .int (v1 ||| a2)] [] cl_X0_73 (fun q hq => ctX1_put (kf_0_8 hk0) q hq) rfl rfl ⟨rfl, rfl, Nat.le_of_ble_eq_true rfl, Nat.le_of_ble_eq_true rfl⟩ (Nat.le_of_ble_eq_true rfl) ⟨Nat.zero_le _, Nat.zero_le _⟩ dX0_see_15 rfl (fun v3 M4 => ?_)
  refine x_iconst (pc2 := 19) C dX0_see_18 rfl ic_0 ?_
  refine x_istore (pc2 := 21) C dX0_see_19 rfl [some (rv G this), some (.int a1), some (.int a2), some (.int a3), some (.int 0), none, none] rfl rfl ?_
  refine x_wk [some (rv G this), some (.int a1), some (.int a2), some (.int a3), some (.int 0), none, none] ⟨Or.inr rfl, Or.inr rfl, Or.inr rfl, Or.inr rfl, Or.inr rfl, Or.inl rfl, Or.inl rfl, trivial⟩ ?_
  refine x_lp1 (fun (b5 : Int32) => [some (rv G this), some (.int a1), some (.int a2), some (.int a3), some (.int b5), none, none]) 95 (fun (b8 : Unit) => [some (rv G this), some (.int a1), some (.int a2), none, none, none, none]) ?_ ?_
  · intro b8 M9
    refine x_aload_n (pc2 := 96) C dX0_see_95 rfl rfl ?_
    refine x_iconst (pc2 := 97) C dX0_see_96 rfl ic_0 ?_
    refine x_callVi (pc2 := 100) C [.int 0] [] cl_X0_109 (fun q hq => ctX0_isShiftOn hk0 q hq) hk0 rfl rfl rfl ⟨rfl, rfl, Nat.le_of_ble_eq_true rfl, Nat.le_of_ble_eq_true rfl⟩ (Nat.le_of_ble_eq_true rfl) ⟨Nat.zero_le _, Nat.zero_le _⟩ dX0_see_97 rfl (fun v10 M11 => ?_)
    refine x_jn 108 (fun (b12 : Int32) => [some (rv G this), some (.int a1), some (.int a2), none, none, none, none]) (fun (b12 : Int32) => [.int b12]) ?_ ?_
    · intro b12 M14
      refine x_aload_n (pc2 := 109) C dX0_see_108 rfl rfl ?_
      refine x_iconst (pc2 := 110) C dX0_see_109 rfl ic_1 ?_
      refine x_callVi (pc2 := 113) C [.int 1] [.int b12] cl_X0_109 (fun q hq => ctX0_isShiftOn hk0 q hq) hk0 rfl rfl rfl ⟨rfl, rfl, Nat.le_of_ble_eq_true rfl, Nat.le_of_ble_eq_true rfl⟩ (Nat.le_of_ble_eq_true rfl) ⟨Nat.zero_le _, Nat.zero_le _⟩ dX0_see_110 rfl (fun v15 M16 => ?_)
      refine x_jn 121 (fun (b17 : Int32) => [some (rv G this), some (.int a1), some (.int a2), none, none, none, none]) (fun (b17 : Int32) => [.int b17, .int b12]) ?_ ?_
      · intro b17 M19
        refine x_iadd (pc2 := 122) C dX0_see_121 rfl ?_
        refine x_istore (pc2 := 124) C dX0_see_122 rfl [some (rv G this), some (.int a1), some (.int a2), none, some (.int (b12 + b17)), none, none] rfl rfl ?_
        refine x_iconst (pc2 := 125) C dX0_see_124 rfl ic_0 ?_
        refine x_istore (pc2 := 127) C dX0_see_125 rfl [some (rv G this), some (.int a1), some (.int a2), none, some (.int (b12 + b17)), some (.int 0), none] rfl rfl ?_
        refine x_wk [some (rv G this), some (.int a1), some (.int a2), none, some (.int (b12 + b17)), some (.int 0), none] ⟨Or.inr rfl, Or.inr rfl, Or.inr rfl, Or.inl rfl, Or.inr rfl, Or.inr rfl, Or.inl rfl, trivial⟩ ?_
        refine x_lp (fun (b20 : Int32) => [some (rv G this), some (.int a1), some (.int a2), none, some (.int (b12 + b17)), some (.int b20), none]) ?_
        · intro rec22 hrec22 b20 M21
          refine x_iload (pc2 := 129) C dX0_see_127 rfl rfl ?_
          refine x_aload_n (pc2 := 130) C dX0_see_129 rfl rfl ?_
          refine x_get (pc2 := 133) C fl_X0_15 hk0 (by decide) rfl dX0_see_130 rfl ?_
          refine x_icmp_ge (tgt := 191) (pc2 := 136) C dX0_see_133 (by decide) rfl ?_ ?_
          · exact x_vret C rfl rfl dX0_see_191
          · refine x_iload_n (pc2 := 137) C dX0_see_136 rfl rfl ?_
            refine x_iload (pc2 := 139) C dX0_see_137 rfl rfl ?_
            refine x_ishr (pc2 := 140) C dX0_see_139 rfl ?_
            refine x_iconst (pc2 := 141) C dX0_see_140 rfl ic_1 ?_
            refine x_iand (pc2 := 142) C dX0_see_141 rfl ?_
            refine x_jn 185 (fun (b23 : Unit) => [some (rv G this), some (.int a1), some (.int a2), none, some (.int (b12 + b17)), some (.int b20), none]) (fun (b23 : Unit) => []) ?_ ?_
            · intro b23 M25
              refine x_iinc (pc2 := 188) (v := b20 + 1) C dX0_see_185 rfl rfl 1 ic_1 rfl [some (rv G this), some (.int a1), some (.int a2), none, some (.int (b12 + b17)), some (.int (b20 + 1)), none] rfl rfl ?_
              refine x_goto (tgt := 127) C dX0_see_188 (by decide) ?_
              exact x_wk [some (rv G this), some (.int a1), some (.int a2), none, some (.int (b12 + b17)), some (.int (b20 + 1)), none] ⟨Or.inr rfl, Or.inr rfl, Or.inr rfl, Or.inl rfl, Or.inr rfl, Or.inr rfl, Or.inl rfl, trivial⟩ (hrec22 (b20 + 1) _)
            · intro j24 hj24
              refine x_if_eq (tgt := 185) (pc2 := 145) C dX0_see_142 (by decide) rfl ?_ ?_
              · exact x_wk [some (rv G this), some (.int a1), some (.int a2), none, some (.int (b12 + b17)), some (.int b20), none] ⟨Or.inr rfl, Or.inr rfl, Or.inr rfl, Or.inl rfl, Or.inr rfl, Or.inr rfl, Or.inl rfl, trivial⟩ (hj24 () _)
              · refine x_iload_n (pc2 := 146) C dX0_see_145 rfl rfl ?_
                refine x_aload_n (pc2 := 147) C dX0_see_146 rfl rfl ?_
                refine x_get (pc2 := 150) C fl_X0_15 hk0 (by decide) rfl dX0_see_147 rfl ?_
                refine x_imul (pc2 := 151) C dX0_see_150 rfl ?_
                refine x_iload (pc2 := 153) C dX0_see_151 rfl rfl ?_
                refine x_iadd (pc2 := 154) C dX0_see_153 rfl ?_
                refine x_topi (fun v26 => ?_)
                refine x_istore (pc2 := 156) C dX0_see_154 rfl [some (rv G this), some (.int a1), some (.int a2), none, some (.int (b12 + b17)), some (.int b20), some (.int v26)] rfl rfl ?_
                refine x_aload_n (pc2 := 157) C dX0_see_156 rfl rfl ?_
                refine x_get (pc2 := 160) C fl_X0_28 hk0 (by decide) rfl dX0_see_157 rfl ?_
                refine x_iload (pc2 := 162) C dX0_see_160 rfl rfl ?_
                refine x_iload (pc2 := 164) C dX0_see_162 rfl rfl ?_
                refine x_callSv (pc2 := 167) C [rv G (this + 4), .int v26, .int (b12 + b17)] [] cl_X0_73 (fun q hq => ctX1_put (kf_0_5 hk0) q hq) rfl rfl ⟨rfl, rfl, Nat.le_of_ble_eq_true rfl, Nat.le_of_ble_eq_true rfl⟩ (Nat.le_of_ble_eq_true rfl) ⟨Nat.zero_le _, Nat.zero_le _⟩ dX0_see_164 rfl (fun v27 M28 => ?_)
                refine x_aload_n (pc2 := 168) C dX0_see_167 rfl rfl ?_
                refine x_get (pc2 := 171) C fl_X0_31 hk0 (by decide) rfl dX0_see_168 rfl ?_
                refine x_iload (pc2 := 173) C dX0_see_171 rfl rfl ?_
                refine x_aload_n (pc2 := 174) C dX0_see_173 rfl rfl ?_
                refine x_get (pc2 := 177) C fl_X0_18 hk0 (by decide) rfl dX0_see_174 rfl ?_
                refine x_iload (pc2 := 179) C dX0_see_177 rfl rfl ?_
                refine x_callSi (pc2 := 182) C [rv G (this + 1), .int v26] [.int v26, rv G (this + 5)] cl_X0_62 (fun q hq => ctX1_at (kf_0_2 hk0) q hq) rfl rfl ⟨rfl, rfl, Nat.le_of_ble_eq_true rfl, Nat.le_of_ble_eq_true rfl⟩ (Nat.le_of_ble_eq_true rfl) ⟨Nat.zero_le _, Nat.zero_le _⟩ dX0_see_179 rfl (fun v29 M30 => ?_)
                refine x_callSv (pc2 := 185) C [rv G (this + 5), .int v26, .int v29] [] cl_X0_73 (fun q hq => ctX1_put (kf_0_6 hk0) q hq) rfl rfl ⟨rfl, rfl, Nat.le_of_ble_eq_true rfl, Nat.le_of_ble_eq_true rfl⟩ (Nat.le_of_ble_eq_true rfl) ⟨Nat.zero_le _, Nat.zero_le _⟩ dX0_see_182 rfl (fun v31 M32 => ?_)
                exact x_wk [some (rv G this), some (.int a1), some (.int a2), none, some (.int (b12 + b17)), some (.int b20), none] ⟨Or.inr rfl, Or.inr rfl, Or.inr rfl, Or.inl rfl, Or.inr rfl, Or.inr rfl, Or.inl rfl, trivial⟩ (hj24 () _)
      · intro j18 hj18
        refine x_if_eq (tgt := 120) (pc2 := 116) C dX0_see_113 (by decide) rfl ?_ ?_
        · refine x_iconst (pc2 := 121) C dX0_see_120 rfl ic_0 ?_
          exact x_wk [some (rv G this), some (.int a1), some (.int a2), none, none, none, none] ⟨Or.inr rfl, Or.inr rfl, Or.inr rfl, Or.inl rfl, Or.inl rfl, Or.inl rfl, Or.inl rfl, trivial⟩ (hj18 0 _)
        · refine x_iconst (pc2 := 117) C dX0_see_116 rfl ic_2 ?_
          refine x_goto (tgt := 121) C dX0_see_117 (by decide) ?_
          exact x_wk [some (rv G this), some (.int a1), some (.int a2), none, none, none, none] ⟨Or.inr rfl, Or.inr rfl, Or.inr rfl, Or.inl rfl, Or.inl rfl, Or.inl rfl, Or.inl rfl, trivial⟩ (hj18 2 _)
    · intro j13 hj13
      refine x_if_eq (tgt := 107) (pc2 := 103) C dX0_see_100 (by decide) rfl ?_ ?_
      · refine x_iconst (pc2 := 108) C dX0_see_107 rfl ic_0 ?_
        exact x_wk [some (rv G this), some (.int a1), some (.int a2), none, none, none, none] ⟨Or.inr rfl, Or.inr rfl, Or.inr rfl, Or.inl rfl, Or.inl rfl, Or.inl rfl, Or.inl rfl, trivial⟩ (hj13 0 _)
      · refine x_iconst (pc2 := 104) C dX0_see_103 rfl ic_1 ?_
        refine x_goto (tgt := 108) C dX0_see_104 (by decide) ?_
        exact x_wk [some (rv G this), some (.int a1), some (.int a2), none, none, none, none] ⟨Or.inr rfl, Or.inr rfl, Or.inr rfl, Or.inl rfl, Or.inl rfl, Or.inl rfl, Or.inl rfl, trivial⟩ (hj13 1 _)
  · intro k33 hk33 rec7 hrec7 b5 M6
    refine x_iload (pc2 := 23) C dX0_see_21 rfl rfl ?_
    refine x_aload_n (pc2 := 24) C dX0_see_23 rfl rfl ?_
    refine x_get (pc2 := 27) C fl_X0_15 hk0 (by decide) rfl dX0_see_24 rfl ?_
    refine x_icmp_ge (tgt := 95) (pc2 := 30) C dX0_see_27 (by decide) rfl ?_ ?_
    · exact x_wk [some (rv G this), some (.int a1), some (.int a2), none, none, none, none] ⟨Or.inr rfl, Or.inr rfl, Or.inr rfl, Or.inl rfl, Or.inl rfl, Or.inl rfl, Or.inl rfl, trivial⟩ (hk33 () _)
    · refine x_iload_n (pc2 := 31) C dX0_see_30 rfl rfl ?_
      refine x_iload (pc2 := 33) C dX0_see_31 rfl rfl ?_
      refine x_ishr (pc2 := 34) C dX0_see_33 rfl ?_
      refine x_iconst (pc2 := 35) C dX0_see_34 rfl ic_1 ?_
      refine x_iand (pc2 := 36) C dX0_see_35 rfl ?_
      refine x_jn 89 (fun (b34 : Unit) => [some (rv G this), some (.int a1), some (.int a2), some (.int a3), some (.int b5), none, none]) (fun (b34 : Unit) => []) ?_ ?_
      · intro b34 M36
        refine x_iinc (pc2 := 92) (v := b5 + 1) C dX0_see_89 rfl rfl 1 ic_1 rfl [some (rv G this), some (.int a1), some (.int a2), some (.int a3), some (.int (b5 + 1)), none, none] rfl rfl ?_
        refine x_goto (tgt := 21) C dX0_see_92 (by decide) ?_
        exact x_wk [some (rv G this), some (.int a1), some (.int a2), some (.int a3), some (.int (b5 + 1)), none, none] ⟨Or.inr rfl, Or.inr rfl, Or.inr rfl, Or.inr rfl, Or.inr rfl, Or.inl rfl, Or.inl rfl, trivial⟩ (hrec7 (b5 + 1) _)
      · intro j35 hj35
        refine x_if_eq (tgt := 89) (pc2 := 39) C dX0_see_36 (by decide) rfl ?_ ?_
        · exact x_wk [some (rv G this), some (.int a1), some (.int a2), some (.int a3), some (.int b5), none, none] ⟨Or.inr rfl, Or.inr rfl, Or.inr rfl, Or.inr rfl, Or.inr rfl, Or.inl rfl, Or.inl rfl, trivial⟩ (hj35 () _)
        · refine x_aload_n (pc2 := 40) C dX0_see_39 rfl rfl ?_
          refine x_get (pc2 := 43) C fl_X0_25 hk0 (by decide) rfl dX0_see_40 rfl ?_
          refine x_iload_n (pc2 := 44) C dX0_see_43 rfl rfl ?_
          refine x_aload_n (pc2 := 45) C dX0_see_44 rfl rfl ?_
          refine x_get (pc2 := 48) C fl_X0_15 hk0 (by decide) rfl dX0_see_45 rfl ?_
          refine x_imul (pc2 := 49) C dX0_see_48 rfl ?_
          refine x_iload (pc2 := 51) C dX0_see_49 rfl rfl ?_
          refine x_iadd (pc2 := 52) C dX0_see_51 rfl ?_
          refine x_iload_n (pc2 := 53) C dX0_see_52 rfl rfl ?_
          refine x_callSv (pc2 := 56) C [rv G (this + 3), .int ((a1 * (M6.1 this 1)) + b5), .int a3] [] cl_X0_73 (fun q hq => ctX1_put (kf_0_4 hk0) q hq) rfl rfl ⟨rfl, rfl, Nat.le_of_ble_eq_true rfl, Nat.le_of_ble_eq_true rfl⟩ (Nat.le_of_ble_eq_true rfl) ⟨Nat.zero_le _, Nat.zero_le _⟩ dX0_see_53 rfl (fun v37 M38 => ?_)
          refine x_aload_n (pc2 := 57) C dX0_see_56 rfl rfl ?_
          refine x_iload_n (pc2 := 58) C dX0_see_57 rfl rfl ?_
          refine x_iconst (pc2 := 59) C dX0_see_58 rfl ic_1 ?_
          refine x_iload (pc2 := 61) C dX0_see_59 rfl rfl ?_
          refine x_ishl (pc2 := 62) C dX0_see_61 rfl ?_
          refine x_callVi (pc2 := 65) C [.int a1, .int ((1 : Int32) <<< (b5 &&& 31))] [] cl_X0_105 (fun q hq => ctX0_closesCorner hk0 q hq) hk0 rfl rfl rfl ⟨rfl, rfl, Nat.le_of_ble_eq_true rfl, Nat.le_of_ble_eq_true rfl⟩ (Nat.le_of_ble_eq_true rfl) ⟨Nat.zero_le _, Nat.zero_le _⟩ dX0_see_62 rfl (fun v39 M40 => ?_)
          refine x_if_eq (tgt := 89) (pc2 := 68) C dX0_see_65 (by decide) rfl ?_ ?_
          · exact x_wk [some (rv G this), some (.int a1), some (.int a2), some (.int a3), some (.int b5), none, none] ⟨Or.inr rfl, Or.inr rfl, Or.inr rfl, Or.inr rfl, Or.inr rfl, Or.inl rfl, Or.inl rfl, trivial⟩ (hj35 () _)
          · refine x_aload_n (pc2 := 69) C dX0_see_68 rfl rfl ?_
            refine x_get (pc2 := 72) C fl_X0_40 hk0 (by decide) rfl dX0_see_69 rfl ?_
            refine x_iload_n (pc2 := 73) C dX0_see_72 rfl rfl ?_
            refine x_aload_n (pc2 := 74) C dX0_see_73 rfl rfl ?_
            refine x_get (pc2 := 77) C fl_X0_40 hk0 (by decide) rfl dX0_see_74 rfl ?_
            refine x_iload_n (pc2 := 78) C dX0_see_77 rfl rfl ?_
            refine x_callSi (pc2 := 81) C [rv G (this + 8), .int a1] [.int a1, rv G (this + 8)] cl_X0_62 (fun q hq => ctX1_at (kf_0_9 hk0) q hq) rfl rfl ⟨rfl, rfl, Nat.le_of_ble_eq_true rfl, Nat.le_of_ble_eq_true rfl⟩ (Nat.le_of_ble_eq_true rfl) ⟨Nat.zero_le _, Nat.zero_le _⟩ dX0_see_78 rfl (fun v41 M42 => ?_)
            refine x_iconst (pc2 := 82) C dX0_see_81 rfl ic_1 ?_
            refine x_iload (pc2 := 84) C dX0_see_82 rfl rfl ?_
            refine x_ishl (pc2 := 85) C dX0_see_84 rfl ?_
            refine x_ior (pc2 := 86) C dX0_see_85 rfl ?_
            refine x_callSv (pc2 := 89) C [rv G (this + 8), .int a1, .int (v41 ||| ((1 : Int32) <<< (b5 &&& 31)))] [] cl_X0_73 (fun q hq => ctX1_put (kf_0_9 hk0) q hq) rfl rfl ⟨rfl, rfl, Nat.le_of_ble_eq_true rfl, Nat.le_of_ble_eq_true rfl⟩ (Nat.le_of_ble_eq_true rfl) ⟨Nat.zero_le _, Nat.zero_le _⟩ dX0_see_86 rfl (fun v43 M44 => ?_)
            exact x_wk [some (rv G this), some (.int a1), some (.int a2), some (.int a3), some (.int b5), none, none] ⟨Or.inr rfl, Or.inr rfl, Or.inr rfl, Or.inr rfl, Or.inr rfl, Or.inl rfl, Or.inl rfl, trivial⟩ (hj35 () _)
set_option maxRecDepth 100000 in
set_option maxHeartbeats 4000000 in
theorem ctX0_giveShift {l : Launch} {G : bkG} {M : Mem} {this : Nat} {a1 : Int32} {a2 : Int32} (hk0 : kd this = 0) : ∀ r, fX0_giveShift this a1 a2 M = some r → Met l yX0_giveShift (Cond.code yX0_giveShift cX0_giveShift 3 none :: TT) ({ frames := 1, cells := 0, slots := 0, locals := 22 } : Room) (va_Pc [rv G this, .int a1, .int a2] (Wd G M)) (QQ G ((fun _ => none) r.1) r.2) 0 0 (An G) := by
  refine mkMet (vl := (fun _ => none)) RX0 rfl (by decide +kernel) rfl (Nat.le_of_ble_eq_true rfl) [some (rv G this), some (.int a1), some (.int a2)] rfl ?_
  intro p e s m args below meth c C _
  refine x_aload_n (pc2 := 1) C dX0_giveShift_0 rfl rfl ?_
  refine x_get (pc2 := 4) C fl_X0_43 hk0 (by decide) rfl dX0_giveShift_1 rfl ?_
  refine x_iload_n (pc2 := 5) C dX0_giveShift_4 rfl rfl ?_
  refine x_iload_n (pc2 := 6) C dX0_giveShift_5 rfl rfl ?_
  refine x_callSv (pc2 := 9) C [rv G (this + 9), .int a1, .int a2] [] cl_X0_73 (fun q hq => ctX1_put (kf_0_10 hk0) q hq) rfl rfl ⟨rfl, rfl, Nat.le_of_ble_eq_true rfl, Nat.le_of_ble_eq_true rfl⟩ (Nat.le_of_ble_eq_true rfl) ⟨Nat.zero_le _, Nat.zero_le _⟩ dX0_giveShift_6 rfl (fun v1 M2 => ?_)
  refine x_aload_n (pc2 := 10) C dX0_giveShift_9 rfl rfl ?_
  refine x_get (pc2 := 13) C fl_X0_22 hk0 (by decide) rfl dX0_giveShift_10 rfl ?_
  refine x_iload_n (pc2 := 14) C dX0_giveShift_13 rfl rfl ?_
  refine x_bipush (pc2 := 16) C dX0_giveShift_14 rfl bc_46 ?_
  refine x_callSv (pc2 := 19) C [rv G (this + 2), .int a2, .int 46] [] cl_X0_73 (fun q hq => ctX1_put (kf_0_3 hk0) q hq) rfl rfl ⟨rfl, rfl, Nat.le_of_ble_eq_true rfl, Nat.le_of_ble_eq_true rfl⟩ (Nat.le_of_ble_eq_true rfl) ⟨Nat.zero_le _, Nat.zero_le _⟩ dX0_giveShift_16 rfl (fun v3 M4 => ?_)
  exact x_vret C rfl rfl dX0_giveShift_19
set_option maxRecDepth 100000 in
set_option maxHeartbeats 4000000 in
theorem ctX0_giveSign {l : Launch} {G : bkG} {M : Mem} {this : Nat} {a1 : Int32} {a2 : Int32} (hk0 : kd this = 0) : ∀ r, fX0_giveSign this a1 a2 M = some r → Met l yX0_giveSign (Cond.code yX0_giveSign cX0_giveSign 4 none :: TT) ({ frames := 2, cells := 0, slots := 0, locals := 42 } : Room) (va_Pc [rv G this, .int a1, .int a2] (Wd G M)) (QQ G ((fun _ => none) r.1) r.2) 0 0 (An G) := by
  refine mkMet (vl := (fun _ => none)) RX0 rfl (by decide +kernel) rfl (Nat.le_of_ble_eq_true rfl) [some (rv G this), some (.int a1), some (.int a2), none] rfl ?_
  intro p e s m args below meth c C _
  refine x_aload_n (pc2 := 1) C dX0_giveSign_0 rfl rfl ?_
  refine x_iload_n (pc2 := 2) C dX0_giveSign_1 rfl rfl ?_
  refine x_callVi (pc2 := 5) C [.int a1] [] cl_X0_81 (fun q hq => ctX0_shiftOwner hk0 q hq) hk0 rfl rfl rfl ⟨rfl, rfl, Nat.le_of_ble_eq_true rfl, Nat.le_of_ble_eq_true rfl⟩ (Nat.le_of_ble_eq_true rfl) ⟨Nat.zero_le _, Nat.zero_le _⟩ dX0_giveSign_2 rfl (fun v1 M2 => ?_)
  refine x_istore_n (pc2 := 6) C dX0_giveSign_5 rfl [some (rv G this), some (.int a1), some (.int a2), some (.int v1)] rfl rfl ?_
  refine x_iload_n (pc2 := 7) C dX0_giveSign_6 rfl rfl ?_
  refine x_iconst (pc2 := 8) C dX0_giveSign_7 rfl ic_m1 ?_
  refine x_jn 20 (fun (b3 : Unit) => [some (rv G this), some (.int a1), some (.int a2), none]) (fun (b3 : Unit) => []) ?_ ?_
  · intro b3 M5
    refine x_aload_n (pc2 := 21) C dX0_giveSign_20 rfl rfl ?_
    refine x_get (pc2 := 24) C fl_X0_22 hk0 (by decide) rfl dX0_giveSign_21 rfl ?_
    refine x_iload_n (pc2 := 25) C dX0_giveSign_24 rfl rfl ?_
    refine x_iload_n (pc2 := 26) C dX0_giveSign_25 rfl rfl ?_
    refine x_callSv (pc2 := 29) C [rv G (this + 2), .int a1, .int a2] [] cl_X0_73 (fun q hq => ctX1_put (kf_0_3 hk0) q hq) rfl rfl ⟨rfl, rfl, Nat.le_of_ble_eq_true rfl, Nat.le_of_ble_eq_true rfl⟩ (Nat.le_of_ble_eq_true rfl) ⟨Nat.zero_le _, Nat.zero_le _⟩ dX0_giveSign_26 rfl (fun v6 M7 => ?_)
    exact x_vret C rfl rfl dX0_giveSign_29
  · intro j4 hj4
    refine x_icmp_eq (tgt := 20) (pc2 := 11) C dX0_giveSign_8 (by decide) rfl ?_ ?_
    · exact x_wk [some (rv G this), some (.int a1), some (.int a2), none] ⟨Or.inr rfl, Or.inr rfl, Or.inr rfl, Or.inl rfl, trivial⟩ (hj4 () _)
    · refine x_aload_n (pc2 := 12) C dX0_giveSign_11 rfl rfl ?_
      refine x_get (pc2 := 15) C fl_X0_43 hk0 (by decide) rfl dX0_giveSign_12 rfl ?_
      refine x_iload_n (pc2 := 16) C dX0_giveSign_15 rfl rfl ?_
      refine x_iconst (pc2 := 17) C dX0_giveSign_16 rfl ic_m1 ?_
      refine x_callSv (pc2 := 20) C [rv G (this + 9), .int v1, .int (-1)] [] cl_X0_73 (fun q hq => ctX1_put (kf_0_10 hk0) q hq) rfl rfl ⟨rfl, rfl, Nat.le_of_ble_eq_true rfl, Nat.le_of_ble_eq_true rfl⟩ (Nat.le_of_ble_eq_true rfl) ⟨Nat.zero_le _, Nat.zero_le _⟩ dX0_giveSign_17 rfl (fun v8 M9 => ?_)
      exact x_wk [some (rv G this), some (.int a1), some (.int a2), none] ⟨Or.inr rfl, Or.inr rfl, Or.inr rfl, Or.inl rfl, trivial⟩ (hj4 () _)
set_option maxRecDepth 100000 in
set_option maxHeartbeats 4000000 in
theorem ctX0_rebuild {l : Launch} {G : bkG} {M : Mem} {this : Nat} {a1 : Int32} {a2 : Int32} (hk0 : kd this = 0) : ∀ r, fX0_rebuild this a1 a2 M = some r → Met l yX0_rebuild (Cond.code yX0_rebuild cX0_rebuild 3 none :: TT) ({ frames := 1, cells := 0, slots := 0, locals := 23 } : Room) (va_Pc [rv G this, .int a1, .int a2] (Wd G M)) (QQ G ((fun _ => none) r.1) r.2) 0 0 (An G) := by
  refine mkMet (vl := (fun _ => none)) RX0 rfl (by decide +kernel) rfl (Nat.le_of_ble_eq_true rfl) [some (rv G this), some (.int a1), some (.int a2)] rfl ?_
  intro p e s m args below meth c C _
  refine x_aload_n (pc2 := 1) C dX0_rebuild_0 rfl rfl ?_
  refine x_iload_n (pc2 := 2) C dX0_rebuild_1 rfl rfl ?_
  refine x_puti (pc2 := 5) C ft_X0_9 hk0 (by decide) hs_0_0 (Nat.le_of_ble_eq_true rfl) dX0_rebuild_2 rfl (fun M1 => ?_)
  refine x_aload_n (pc2 := 6) C dX0_rebuild_5 rfl rfl ?_
  refine x_iload_n (pc2 := 7) C dX0_rebuild_6 rfl rfl ?_
  refine x_puti (pc2 := 10) C ft_X0_15 hk0 (by decide) hs_0_1 (Nat.le_of_ble_eq_true rfl) dX0_rebuild_7 rfl (fun M2 => ?_)
  refine x_aload_n (pc2 := 11) C dX0_rebuild_10 rfl rfl ?_
  refine x_get (pc2 := 14) C fl_X0_22 hk0 (by decide) rfl dX0_rebuild_11 rfl ?_
  refine x_bipush (pc2 := 16) C dX0_rebuild_14 rfl bc_46 ?_
  refine x_callSv (pc2 := 19) C [rv G (this + 2), .int 46] [] cl_X0_46 (fun q hq => ctJ7_fill_53178 (kf_0_3 hk0) q hq) rfl rfl ⟨rfl, rfl, Nat.le_of_ble_eq_true rfl, Nat.le_of_ble_eq_true rfl⟩ (Nat.le_of_ble_eq_true rfl) ⟨Nat.zero_le _, Nat.zero_le _⟩ dX0_rebuild_16 rfl (fun v3 M4 => ?_)
  refine x_aload_n (pc2 := 20) C dX0_rebuild_19 rfl rfl ?_
  refine x_get (pc2 := 23) C fl_X0_43 hk0 (by decide) rfl dX0_rebuild_20 rfl ?_
  refine x_iconst (pc2 := 24) C dX0_rebuild_23 rfl ic_m1 ?_
  refine x_callSv (pc2 := 27) C [rv G (this + 9), .int (-1)] [] cl_X0_46 (fun q hq => ctJ7_fill_53178 (kf_0_10 hk0) q hq) rfl rfl ⟨rfl, rfl, Nat.le_of_ble_eq_true rfl, Nat.le_of_ble_eq_true rfl⟩ (Nat.le_of_ble_eq_true rfl) ⟨Nat.zero_le _, Nat.zero_le _⟩ dX0_rebuild_24 rfl (fun v5 M6 => ?_)
  exact x_vret C rfl rfl dX0_rebuild_27
set_option maxRecDepth 100000 in
set_option maxHeartbeats 4000000 in
theorem ctX0_size {l : Launch} {G : bkG} {M : Mem} {this : Nat} (hk0 : kd this = 0) : ∀ r, fX0_size this M = some r → Met l yX0_size (Cond.code yX0_size cX0_size 1 (some .int) :: TT) ({ frames := 0, cells := 0, slots := 0, locals := 0 } : Room) (va_Pc [rv G this] (Wd G M)) (QQ G ((fun v => some (.int v)) r.1) r.2) 0 0 (An G) := by
  refine mkMet (vl := (fun v => some (.int v))) RX0 rfl (by decide +kernel) rfl (Nat.le_of_ble_eq_true rfl) [some (rv G this)] rfl ?_
  intro p e s m args below meth c C _
  refine x_aload_n (pc2 := 1) C dX0_size_0 rfl rfl ?_
  refine x_get (pc2 := 4) C fl_X0_9 hk0 (by decide) rfl dX0_size_1 rfl ?_
  refine x_aload_n (pc2 := 5) C dX0_size_4 rfl rfl ?_
  refine x_get (pc2 := 8) C fl_X0_15 hk0 (by decide) rfl dX0_size_5 rfl ?_
  refine x_imul (pc2 := 9) C dX0_size_8 rfl ?_
  exact x_iret C rfl rfl dX0_size_9
set_option maxRecDepth 100000 in
set_option maxHeartbeats 4000000 in
theorem ctX0_ghostsBeside {l : Launch} {G : bkG} {M : Mem} {this : Nat} {a1 : Int32} {a2 : Int32} (hk0 : kd this = 0) : ∀ r, fX0_ghostsBeside this a1 a2 M = some r → Met l yX0_ghostsBeside (Cond.code yX0_ghostsBeside cX0_ghostsBeside 6 (some .int) :: TT) ({ frames := 3, cells := 0, slots := 0, locals := 71 } : Room) (va_Pc [rv G this, .int a1, .int a2] (Wd G M)) (QQ G ((fun v => some (.int v)) r.1) r.2) 0 0 (An G) := by
  refine mkMet (vl := (fun v => some (.int v))) RX0 rfl (by decide +kernel) rfl (Nat.le_of_ble_eq_true rfl) [some (rv G this), some (.int a1), some (.int a2), none, none, none] rfl ?_
  intro p e s m args below meth c C _
  refine x_iconst (pc2 := 1) C dX0_ghostsBeside_0 rfl ic_0 ?_
  refine x_istore_n (pc2 := 2) C dX0_ghostsBeside_1 rfl [some (rv G this), some (.int a1), some (.int a2), some (.int 0), none, none] rfl rfl ?_
  refine x_iconst (pc2 := 3) C dX0_ghostsBeside_2 rfl ic_0 ?_
  refine x_istore (pc2 := 5) C dX0_ghostsBeside_3 rfl [some (rv G this), some (.int a1), some (.int a2), some (.int 0), some (.int 0), none] rfl rfl ?_
  refine x_wk [some (rv G this), some (.int a1), some (.int a2), some (.int 0), some (.int 0), none] ⟨Or.inr rfl, Or.inr rfl, Or.inr rfl, Or.inr rfl, Or.inr rfl, Or.inl rfl, trivial⟩ ?_
  refine x_lp (fun (b1 : Int32 × Int32) => [some (rv G this), some (.int a1), some (.int a2), some (.int b1.1), some (.int b1.2), none]) ?_
  · intro rec3 hrec3 b1 M2
    refine x_iload (pc2 := 7) C dX0_ghostsBeside_5 rfl rfl ?_
    refine x_aload_n (pc2 := 8) C dX0_ghostsBeside_7 rfl rfl ?_
    refine x_get (pc2 := 11) C fl_X0_9 hk0 (by decide) rfl dX0_ghostsBeside_8 rfl ?_
    refine x_icmp_ge (tgt := 71) (pc2 := 14) C dX0_ghostsBeside_11 (by decide) rfl ?_ ?_
    · refine x_iload_n (pc2 := 72) C dX0_ghostsBeside_71 rfl rfl ?_
      exact x_iret C rfl rfl dX0_ghostsBeside_72
    · refine x_aload_n (pc2 := 15) C dX0_ghostsBeside_14 rfl rfl ?_
      refine x_get (pc2 := 18) C fl_X0_34 hk0 (by decide) rfl dX0_ghostsBeside_15 rfl ?_
      refine x_iload (pc2 := 20) C dX0_ghostsBeside_18 rfl rfl ?_
      refine x_callSi (pc2 := 23) C [rv G (this + 6), .int b1.2] [] cl_X0_62 (fun q hq => ctX1_at (kf_0_7 hk0) q hq) rfl rfl ⟨rfl, rfl, Nat.le_of_ble_eq_true rfl, Nat.le_of_ble_eq_true rfl⟩ (Nat.le_of_ble_eq_true rfl) ⟨Nat.zero_le _, Nat.zero_le _⟩ dX0_ghostsBeside_20 rfl (fun v4 M5 => ?_)
      refine x_iconst (pc2 := 24) C dX0_ghostsBeside_23 rfl ic_m1 ?_
      refine x_ixor (pc2 := 25) C dX0_ghostsBeside_24 rfl ?_
      refine x_istore (pc2 := 27) C dX0_ghostsBeside_25 rfl [some (rv G this), some (.int a1), some (.int a2), some (.int b1.1), some (.int b1.2), some (.int (v4 ^^^ (-1)))] rfl rfl ?_
      refine x_iload (pc2 := 29) C dX0_ghostsBeside_27 rfl rfl ?_
      refine x_aload_n (pc2 := 30) C dX0_ghostsBeside_29 rfl rfl ?_
      refine x_iload_n (pc2 := 31) C dX0_ghostsBeside_30 rfl rfl ?_
      refine x_callVi (pc2 := 34) C [.int a1] [.int b1.2] cl_X0_58 (fun q hq => ctX0_rowOf hk0 q hq) hk0 rfl rfl rfl ⟨rfl, rfl, Nat.le_of_ble_eq_true rfl, Nat.le_of_ble_eq_true rfl⟩ (Nat.le_of_ble_eq_true rfl) ⟨Nat.zero_le _, Nat.zero_le _⟩ dX0_ghostsBeside_31 rfl (fun v6 M7 => ?_)
      refine x_jn 49 (fun (b8 : Int32) => [some (rv G this), some (.int a1), some (.int a2), some (.int b1.1), some (.int b1.2), some (.int b8)]) (fun (b8 : Int32) => []) ?_ ?_
      · intro b8 M10
        refine x_iload_n (pc2 := 50) C dX0_ghostsBeside_49 rfl rfl ?_
        refine x_aload_n (pc2 := 51) C dX0_ghostsBeside_50 rfl rfl ?_
        refine x_iload (pc2 := 53) C dX0_ghostsBeside_51 rfl rfl ?_
        refine x_iload_n (pc2 := 54) C dX0_ghostsBeside_53 rfl rfl ?_
        refine x_callVi (pc2 := 57) C [.int b1.2, .int a2] [.int b1.1] cl_X0_97 (fun q hq => ctX0_sensed hk0 q hq) hk0 rfl rfl rfl ⟨rfl, rfl, Nat.le_of_ble_eq_true rfl, Nat.le_of_ble_eq_true rfl⟩ (Nat.le_of_ble_eq_true rfl) ⟨Nat.zero_le _, Nat.zero_le _⟩ dX0_ghostsBeside_54 rfl (fun v11 M12 => ?_)
        refine x_iload (pc2 := 59) C dX0_ghostsBeside_57 rfl rfl ?_
        refine x_iand (pc2 := 60) C dX0_ghostsBeside_59 rfl ?_
        refine x_callSi (pc2 := 63) C [.int (v11 &&& b8)] [.int b1.1] cl_X0_100 (fun q hq => ctJ6_bitCount_0f7a4  q hq) rfl rfl ⟨rfl, rfl, Nat.le_of_ble_eq_true rfl, Nat.le_of_ble_eq_true rfl⟩ (Nat.le_of_ble_eq_true rfl) ⟨Nat.zero_le _, Nat.zero_le _⟩ dX0_ghostsBeside_60 rfl (fun v13 M14 => ?_)
        refine x_iadd (pc2 := 64) C dX0_ghostsBeside_63 rfl ?_
        refine x_istore_n (pc2 := 65) C dX0_ghostsBeside_64 rfl [some (rv G this), some (.int a1), some (.int a2), some (.int (b1.1 + v13)), some (.int b1.2), some (.int b8)] rfl rfl ?_
        refine x_iinc (pc2 := 68) (v := b1.2 + 1) C dX0_ghostsBeside_65 rfl rfl 1 ic_1 rfl [some (rv G this), some (.int a1), some (.int a2), some (.int (b1.1 + v13)), some (.int (b1.2 + 1)), some (.int b8)] rfl rfl ?_
        refine x_goto (tgt := 5) C dX0_ghostsBeside_68 (by decide) ?_
        exact x_wk [some (rv G this), some (.int a1), some (.int a2), some (.int (b1.1 + v13)), some (.int (b1.2 + 1)), none] ⟨Or.inr rfl, Or.inr rfl, Or.inr rfl, Or.inr rfl, Or.inr rfl, Or.inl rfl, trivial⟩ (hrec3 (b1.1 + v13, b1.2 + 1) _)
      · intro j9 hj9
        refine x_icmp_ne (tgt := 49) (pc2 := 37) C dX0_ghostsBeside_34 (by decide) rfl ?_ ?_
        · exact x_wk [some (rv G this), some (.int a1), some (.int a2), some (.int b1.1), some (.int b1.2), some (.int (v4 ^^^ (-1)))] ⟨Or.inr rfl, Or.inr rfl, Or.inr rfl, Or.inr rfl, Or.inr rfl, Or.inr rfl, trivial⟩ (hj9 (v4 ^^^ (-1)) _)
        · refine x_iload (pc2 := 39) C dX0_ghostsBeside_37 rfl rfl ?_
          refine x_aload_n (pc2 := 40) C dX0_ghostsBeside_39 rfl rfl ?_
          refine x_iload_n (pc2 := 41) C dX0_ghostsBeside_40 rfl rfl ?_
          refine x_callVi (pc2 := 44) C [.int a1] [.int (v4 ^^^ (-1))] cl_X0_66 (fun q hq => ctX0_bitOf hk0 q hq) hk0 rfl rfl rfl ⟨rfl, rfl, Nat.le_of_ble_eq_true rfl, Nat.le_of_ble_eq_true rfl⟩ (Nat.le_of_ble_eq_true rfl) ⟨Nat.zero_le _, Nat.zero_le _⟩ dX0_ghostsBeside_41 rfl (fun v15 M16 => ?_)
          refine x_iconst (pc2 := 45) C dX0_ghostsBeside_44 rfl ic_m1 ?_
          refine x_ixor (pc2 := 46) C dX0_ghostsBeside_45 rfl ?_
          refine x_iand (pc2 := 47) C dX0_ghostsBeside_46 rfl ?_
          refine x_topi (fun v17 => ?_)
          refine x_istore (pc2 := 49) C dX0_ghostsBeside_47 rfl [some (rv G this), some (.int a1), some (.int a2), some (.int b1.1), some (.int b1.2), some (.int v17)] rfl rfl ?_
          exact x_wk [some (rv G this), some (.int a1), some (.int a2), some (.int b1.1), some (.int b1.2), some (.int v17)] ⟨Or.inr rfl, Or.inr rfl, Or.inr rfl, Or.inr rfl, Or.inr rfl, Or.inr rfl, trivial⟩ (hj9 v17 _)
