set_option maxRecDepth 100000 in
set_option maxHeartbeats 4000000 in
theorem ctX1_bitsIn {l : Launch} {G : bkG} {M : Mem} {a1 : Nat} (hk1 : kd a1 = 20) : ∀ r, fX1_bitsIn a1 M = some r → Met l yX1_bitsIn (Cond.code yX1_bitsIn cX1_bitsIn 6 (some .int) :: TT) ({ frames := 1, cells := 0, slots := 0, locals := 20 } : Room) (va_Pc [rv G a1] (Wd G M)) (QQ G ((fun v => some (.int v)) r.1) r.2) 0 0 (An G) := by
  refine mkMet (vl := (fun v => some (.int v))) RX1 rfl (by decide +kernel) rfl (Nat.le_of_ble_eq_true rfl) [some (rv G a1), none, none, none, none, none] rfl ?_
  intro p e s m args below meth c C _
  refine x_iconst (pc2 := 1) C dX1_bitsIn_0 rfl ic_0 ?_
  refine x_istore_n (pc2 := 2) C dX1_bitsIn_1 rfl [some (rv G a1), some (.int 0), none, none, none, none] rfl rfl ?_
  refine x_aload_n (pc2 := 3) C dX1_bitsIn_2 rfl rfl ?_
  refine x_astore_n (pc2 := 4) C dX1_bitsIn_3 rfl [some (rv G a1), some (.int 0), some (rv G a1), none, none, none] rfl rfl ?_
  refine x_aload_n (pc2 := 5) C dX1_bitsIn_4 rfl rfl ?_
  refine x_alen (pc2 := 6) C hk1 dX1_bitsIn_5 rfl ?_
  refine x_istore_n (pc2 := 7) C dX1_bitsIn_6 rfl [some (rv G a1), some (.int 0), some (rv G a1), some (.int (nI (ln a1))), none, none] rfl rfl ?_
  refine x_iconst (pc2 := 8) C dX1_bitsIn_7 rfl ic_0 ?_
  refine x_istore (pc2 := 10) C dX1_bitsIn_8 rfl [some (rv G a1), some (.int 0), some (rv G a1), some (.int (nI (ln a1))), some (.int 0), none] rfl rfl ?_
  refine x_wk [none, some (.int 0), some (rv G a1), some (.int (nI (ln a1))), some (.int 0), none] ⟨Or.inl rfl, Or.inr rfl, Or.inr rfl, Or.inr rfl, Or.inr rfl, Or.inl rfl, trivial⟩ ?_
  refine x_lp (fun (b1 : Int32 × Int32) => [none, some (.int b1.1), some (rv G a1), some (.int (nI (ln a1))), some (.int b1.2), none]) ?_
  · intro rec3 hrec3 b1 M2
    refine x_iload (pc2 := 12) C dX1_bitsIn_10 rfl rfl ?_
    refine x_iload_n (pc2 := 13) C dX1_bitsIn_12 rfl rfl ?_
    refine x_icmp_ge (tgt := 36) (pc2 := 16) C dX1_bitsIn_13 (by decide) rfl ?_ ?_
    · refine x_iload_n (pc2 := 37) C dX1_bitsIn_36 rfl rfl ?_
      exact x_iret C rfl rfl dX1_bitsIn_37
    · refine x_aload_n (pc2 := 17) C dX1_bitsIn_16 rfl rfl ?_
      refine x_iload (pc2 := 19) C dX1_bitsIn_17 rfl rfl ?_
      refine x_iald (pc2 := 20) C hk1 dX1_bitsIn_19 rfl ?_
      refine x_topi (fun v4 => ?_)
      refine x_istore (pc2 := 22) C dX1_bitsIn_20 rfl [none, some (.int b1.1), some (rv G a1), some (.int (nI (ln a1))), some (.int b1.2), some (.int v4)] rfl rfl ?_
      refine x_iload_n (pc2 := 23) C dX1_bitsIn_22 rfl rfl ?_
      refine x_iload (pc2 := 25) C dX1_bitsIn_23 rfl rfl ?_
      refine x_callSi (pc2 := 28) C [.int v4] [.int b1.1] cl_X1_19 (fun q hq => ctJ6_bitCount_0f7a4  q hq) rfl rfl ⟨rfl, rfl, Nat.le_of_ble_eq_true rfl, Nat.le_of_ble_eq_true rfl⟩ (Nat.le_of_ble_eq_true rfl) ⟨Nat.zero_le _, Nat.zero_le _⟩ dX1_bitsIn_25 rfl (fun v5 M6 => ?_)
      refine x_iadd (pc2 := 29) C dX1_bitsIn_28 rfl ?_
      refine x_istore_n (pc2 := 30) C dX1_bitsIn_29 rfl [none, some (.int (b1.1 + v5)), some (rv G a1), some (.int (nI (ln a1))), some (.int b1.2), some (.int v4)] rfl rfl ?_
      refine x_iinc (pc2 := 33) (v := b1.2 + 1) C dX1_bitsIn_30 rfl rfl 1 ic_1 rfl [none, some (.int (b1.1 + v5)), some (rv G a1), some (.int (nI (ln a1))), some (.int (b1.2 + 1)), some (.int v4)] rfl rfl ?_
      refine x_goto (tgt := 10) C dX1_bitsIn_33 (by decide) ?_
      exact x_wk [none, some (.int (b1.1 + v5)), some (rv G a1), some (.int (nI (ln a1))), some (.int (b1.2 + 1)), none] ⟨Or.inl rfl, Or.inr rfl, Or.inr rfl, Or.inr rfl, Or.inr rfl, Or.inl rfl, trivial⟩ (hrec3 (b1.1 + v5, b1.2 + 1) _)
set_option maxRecDepth 100000 in
set_option maxHeartbeats 4000000 in
theorem ctX1_at {l : Launch} {G : bkG} {M : Mem} {a1 : Nat} {a2 : Int32} (hk1 : kd a1 = 20) : ∀ r, fX1_at a1 a2 M = some r → Met l yX1_at (Cond.code yX1_at cX1_at 2 (some .int) :: TT) ({ frames := 0, cells := 0, slots := 0, locals := 0 } : Room) (va_Pc [rv G a1, .int a2] (Wd G M)) (QQ G ((fun v => some (.int v)) r.1) r.2) 0 0 (An G) := by
  refine mkMet (vl := (fun v => some (.int v))) RX1 rfl (by decide +kernel) rfl (Nat.le_of_ble_eq_true rfl) [some (rv G a1), some (.int a2)] rfl ?_
  intro p e s m args below meth c C _
  refine x_iload_n (pc2 := 1) C dX1_at_0 rfl rfl ?_
  refine x_if_lt (tgt := 16) (pc2 := 4) C dX1_at_1 (by decide) rfl ?_ ?_
  · refine x_iconst (pc2 := 17) C dX1_at_16 rfl ic_0 ?_
    exact x_iret C rfl rfl dX1_at_17
  · refine x_iload_n (pc2 := 5) C dX1_at_4 rfl rfl ?_
    refine x_aload_n (pc2 := 6) C dX1_at_5 rfl rfl ?_
    refine x_alen (pc2 := 7) C hk1 dX1_at_6 rfl ?_
    refine x_icmp_ge (tgt := 16) (pc2 := 10) C dX1_at_7 (by decide) rfl ?_ ?_
    · refine x_iconst (pc2 := 17) C dX1_at_16 rfl ic_0 ?_
      exact x_iret C rfl rfl dX1_at_17
    · refine x_aload_n (pc2 := 11) C dX1_at_10 rfl rfl ?_
      refine x_iload_n (pc2 := 12) C dX1_at_11 rfl rfl ?_
      refine x_iald (pc2 := 13) C hk1 dX1_at_12 rfl ?_
      refine x_goto (tgt := 17) C dX1_at_13 (by decide) ?_
      exact x_iret C rfl rfl dX1_at_17
set_option maxRecDepth 100000 in
set_option maxHeartbeats 4000000 in
theorem ctX1_copy {l : Launch} {G : bkG} {M : Mem} {a1 : Nat} {a2 : Nat} (hk1 : kd a1 = 20) (hk2 : kd a2 = 20) : ∀ r, fX1_copy a1 a2 M = some r → Met l yX1_copy (Cond.code yX1_copy cX1_copy 2 none :: TT) ({ frames := 1, cells := 0, slots := 0, locals := 27 } : Room) (va_Pc [rv G a1, rv G a2] (Wd G M)) (QQ G ((fun _ => none) r.1) r.2) 0 0 (An G) := by
  refine mkMet (vl := (fun _ => none)) RX1 rfl (by decide +kernel) rfl (Nat.le_of_ble_eq_true rfl) [some (rv G a1), some (rv G a2)] rfl ?_
  intro p e s m args below meth c C _
  refine x_aload_n (pc2 := 1) C dX1_copy_0 rfl rfl ?_
  refine x_iconst (pc2 := 2) C dX1_copy_1 rfl ic_0 ?_
  refine x_aload_n (pc2 := 3) C dX1_copy_2 rfl rfl ?_
  refine x_iconst (pc2 := 4) C dX1_copy_3 rfl ic_0 ?_
  refine x_aload_n (pc2 := 5) C dX1_copy_4 rfl rfl ?_
  refine x_alen (pc2 := 6) C hk1 dX1_copy_5 rfl ?_
  refine x_aload_n (pc2 := 7) C dX1_copy_6 rfl rfl ?_
  refine x_alen (pc2 := 8) C hk2 dX1_copy_7 rfl ?_
  refine x_callSi (pc2 := 11) C [.int (nI (ln a1)), .int (nI (ln a2))] [.int 0, rv G a2, .int 0, rv G a1] cl_X1_7 (fun q hq => ctJ9_min_7cf53  q hq) rfl rfl ⟨rfl, rfl, Nat.le_of_ble_eq_true rfl, Nat.le_of_ble_eq_true rfl⟩ (Nat.le_of_ble_eq_true rfl) ⟨Nat.zero_le _, Nat.zero_le _⟩ dX1_copy_8 rfl (fun v1 M2 => ?_)
  refine x_copy (pc2 := 14) C nat_X1_13 hk1 hk2 (Nat.le_of_ble_eq_true rfl) (Nat.le_of_ble_eq_true rfl) dX1_copy_11 rfl (fun M3 => ?_)
  exact x_vret C rfl rfl dX1_copy_14
set_option maxRecDepth 100000 in
set_option maxHeartbeats 4000000 in
theorem ctX1_put {l : Launch} {G : bkG} {M : Mem} {a1 : Nat} {a2 : Int32} {a3 : Int32} (hk1 : kd a1 = 20) : ∀ r, fX1_put a1 a2 a3 M = some r → Met l yX1_put (Cond.code yX1_put cX1_put 3 none :: TT) ({ frames := 0, cells := 0, slots := 0, locals := 0 } : Room) (va_Pc [rv G a1, .int a2, .int a3] (Wd G M)) (QQ G ((fun _ => none) r.1) r.2) 0 0 (An G) := by
  refine mkMet (vl := (fun _ => none)) RX1 rfl (by decide +kernel) rfl (Nat.le_of_ble_eq_true rfl) [some (rv G a1), some (.int a2), some (.int a3)] rfl ?_
  intro p e s m args below meth c C _
  refine x_iload_n (pc2 := 1) C dX1_put_0 rfl rfl ?_
  refine x_if_lt (tgt := 14) (pc2 := 4) C dX1_put_1 (by decide) rfl ?_ ?_
  · exact x_vret C rfl rfl dX1_put_14
  · refine x_iload_n (pc2 := 5) C dX1_put_4 rfl rfl ?_
    refine x_aload_n (pc2 := 6) C dX1_put_5 rfl rfl ?_
    refine x_alen (pc2 := 7) C hk1 dX1_put_6 rfl ?_
    refine x_icmp_ge (tgt := 14) (pc2 := 10) C dX1_put_7 (by decide) rfl ?_ ?_
    · exact x_vret C rfl rfl dX1_put_14
    · refine x_aload_n (pc2 := 11) C dX1_put_10 rfl rfl ?_
      refine x_iload_n (pc2 := 12) C dX1_put_11 rfl rfl ?_
      refine x_iload_n (pc2 := 13) C dX1_put_12 rfl rfl ?_
      refine x_iast (pc2 := 14) C hk1 dX1_put_13 rfl (fun M1 => ?_)
      exact x_vret C rfl rfl dX1_put_14
