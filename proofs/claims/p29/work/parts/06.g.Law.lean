set_option maxRecDepth 100000 in
set_option maxHeartbeats 4000000 in
theorem ctL_low {l : Launch} {G : bkG} {M : Mem} {a1 : Int32} {a2 : Int32}  : ∀ r, fL_low a1 a2 M = some r → Met l yL_low (Cond.code yL_low cL_low 2 (some .int) :: TT) ({ frames := 0, cells := 0, slots := 0, locals := 0 } : Room) (va_Pc [.int a1, .int a2] (Wd G M)) (QQ G ((fun v => some (.int v)) r.1) r.2) 0 0 (An G) := by
  refine mkMet (vl := (fun v => some (.int v))) RL rfl (by decide +kernel) rfl (Nat.le_of_ble_eq_true rfl) [some (.int a1), some (.int a2)] rfl ?_
  intro p e s m args below meth c C _
  refine x_iload_n (pc2 := 1) C dL_low_0 rfl rfl ?_
  refine x_ldc (pc2 := 3) C wt2_129 dL_low_1 rfl ?_
  refine x_iand (pc2 := 4) C dL_low_3 rfl ?_
  refine x_iload_n (pc2 := 5) C dL_low_4 rfl rfl ?_
  refine x_irem (pc2 := 6) C dL_low_5 rfl ?_
  exact x_iret C rfl rfl dL_low_6
set_option maxRecDepth 100000 in
set_option maxHeartbeats 4000000 in
theorem ctL_keys {l : Launch} {G : bkG} {M : Mem} {a1 : Nat} (hk1 : kd a1 = 7) : ∀ r, fL_keys a1 M = some r → Met l yL_keys (Cond.code yL_keys cL_keys 1 (some .int) :: TT) ({ frames := 4, cells := 0, slots := 0, locals := 87 } : Room) (va_Pc [rv G a1] (Wd G M)) (QQ G ((fun v => some (.int v)) r.1) r.2) 0 0 (An G) := by
  refine mkMet (vl := (fun v => some (.int v))) RL rfl (by decide +kernel) rfl (Nat.le_of_ble_eq_true rfl) [some (rv G a1)] rfl ?_
  intro p e s m args below meth c C _
  refine x_aload_n (pc2 := 1) C dL_keys_0 rfl rfl ?_
  refine x_iconst (pc2 := 2) C dL_keys_1 rfl ic_1 ?_
  refine x_callVi (pc2 := 5) C [.int 1] [] cl_L_9 (fun q hq => ctX8_count hk1 q hq) hk1 rfl rfl rfl ⟨rfl, rfl, Nat.le_of_ble_eq_true rfl, Nat.le_of_ble_eq_true rfl⟩ (Nat.le_of_ble_eq_true rfl) ⟨Nat.zero_le _, Nat.zero_le _⟩ dL_keys_2 rfl (fun v1 M2 => ?_)
  refine x_aload_n (pc2 := 6) C dL_keys_5 rfl rfl ?_
  refine x_iconst (pc2 := 7) C dL_keys_6 rfl ic_2 ?_
  refine x_callVi (pc2 := 10) C [.int 2] [.int v1] cl_L_9 (fun q hq => ctX8_count hk1 q hq) hk1 rfl rfl rfl ⟨rfl, rfl, Nat.le_of_ble_eq_true rfl, Nat.le_of_ble_eq_true rfl⟩ (Nat.le_of_ble_eq_true rfl) ⟨Nat.zero_le _, Nat.zero_le _⟩ dL_keys_7 rfl (fun v3 M4 => ?_)
  refine x_imul (pc2 := 11) C dL_keys_10 rfl ?_
  exact x_iret C rfl rfl dL_keys_11
set_option maxRecDepth 100000 in
set_option maxHeartbeats 4000000 in
theorem ctL_settles {l : Launch} {G : bkG} {M : Mem} {a1 : Nat} {a2 : Int32} {a3 : Int32} (hk1 : kd a1 = 7) : ∀ r, fL_settles a1 a2 a3 M = some r → Met l yL_settles (Cond.code yL_settles cL_settles 11 (some .boolean) :: TT) ({ frames := 6, cells := 0, slots := 0, locals := 134 } : Room) (va_Pc [rv G a1, .int a2, .int a3] (Wd G M)) (QQ G ((fun v => some (.int v)) r.1) r.2) 0 0 (An G) := by
  refine mkMet (vl := (fun v => some (.int v))) RL rfl (by decide +kernel) rfl (Nat.le_of_ble_eq_true rfl) [some (rv G a1), some (.int a2), some (.int a3), none, none, none, none, none, none, none, none] rfl ?_
  intro p e s m args below meth c C _
  refine x_iload_n (pc2 := 1) C dL_settles_0 rfl rfl ?_
  refine x_aload_n (pc2 := 2) C dL_settles_1 rfl rfl ?_
  refine x_bipush (pc2 := 4) C dL_settles_2 rfl bc_10 ?_
  refine x_callVi (pc2 := 7) C [.int 10] [.int a2] cl_L_9 (fun q hq => ctX8_count hk1 q hq) hk1 rfl rfl rfl ⟨rfl, rfl, Nat.le_of_ble_eq_true rfl, Nat.le_of_ble_eq_true rfl⟩ (Nat.le_of_ble_eq_true rfl) ⟨Nat.zero_le _, Nat.zero_le _⟩ dL_settles_4 rfl (fun v1 M2 => ?_)
  refine x_icmp_lt (tgt := 26) (pc2 := 10) C dL_settles_7 (by decide) rfl ?_ ?_
  · refine x_aload_n (pc2 := 27) C dL_settles_26 rfl rfl ?_
    refine x_iload_n (pc2 := 28) C dL_settles_27 rfl rfl ?_
    refine x_iconst (pc2 := 29) C dL_settles_28 rfl ic_3 ?_
    refine x_callVi (pc2 := 32) C [.int a2, .int 3] [] cl_L_63 (fun q hq => ctX8_dispute hk1 q hq) hk1 rfl rfl rfl ⟨rfl, rfl, Nat.le_of_ble_eq_true rfl, Nat.le_of_ble_eq_true rfl⟩ (Nat.le_of_ble_eq_true rfl) ⟨Nat.zero_le _, Nat.zero_le _⟩ dL_settles_29 rfl (fun v3 M4 => ?_)
    refine x_if_lt (tgt := 52) (pc2 := 35) C dL_settles_32 (by decide) rfl ?_ ?_
    · refine x_aload_n (pc2 := 53) C dL_settles_52 rfl rfl ?_
      refine x_iload_n (pc2 := 54) C dL_settles_53 rfl rfl ?_
      refine x_iconst (pc2 := 55) C dL_settles_54 rfl ic_0 ?_
      refine x_callVi (pc2 := 58) C [.int a2, .int 0] [] cl_L_63 (fun q hq => ctX8_dispute hk1 q hq) hk1 rfl rfl rfl ⟨rfl, rfl, Nat.le_of_ble_eq_true rfl, Nat.le_of_ble_eq_true rfl⟩ (Nat.le_of_ble_eq_true rfl) ⟨Nat.zero_le _, Nat.zero_le _⟩ dL_settles_55 rfl (fun v5 M6 => ?_)
      refine x_istore_n (pc2 := 59) C dL_settles_58 rfl [some (rv G a1), some (.int a2), some (.int a3), some (.int v5), none, none, none, none, none, none, none] rfl rfl ?_
      refine x_aload_n (pc2 := 60) C dL_settles_59 rfl rfl ?_
      refine x_iload_n (pc2 := 61) C dL_settles_60 rfl rfl ?_
      refine x_iconst (pc2 := 62) C dL_settles_61 rfl ic_2 ?_
      refine x_callVi (pc2 := 65) C [.int a2, .int 2] [] cl_L_63 (fun q hq => ctX8_dispute hk1 q hq) hk1 rfl rfl rfl ⟨rfl, rfl, Nat.le_of_ble_eq_true rfl, Nat.le_of_ble_eq_true rfl⟩ (Nat.le_of_ble_eq_true rfl) ⟨Nat.zero_le _, Nat.zero_le _⟩ dL_settles_62 rfl (fun v7 M8 => ?_)
      refine x_istore (pc2 := 67) C dL_settles_65 rfl [some (rv G a1), some (.int a2), some (.int a3), some (.int v5), some (.int v7), none, none, none, none, none, none] rfl rfl ?_
      refine x_aload_n (pc2 := 68) C dL_settles_67 rfl rfl ?_
      refine x_bipush (pc2 := 70) C dL_settles_68 rfl bc_8 ?_
      refine x_callVi (pc2 := 73) C [.int 8] [] cl_L_9 (fun q hq => ctX8_count hk1 q hq) hk1 rfl rfl rfl ⟨rfl, rfl, Nat.le_of_ble_eq_true rfl, Nat.le_of_ble_eq_true rfl⟩ (Nat.le_of_ble_eq_true rfl) ⟨Nat.zero_le _, Nat.zero_le _⟩ dL_settles_70 rfl (fun v9 M10 => ?_)
      refine x_istore (pc2 := 75) C dL_settles_73 rfl [some (rv G a1), some (.int a2), some (.int a3), some (.int v5), some (.int v7), some (.int v9), none, none, none, none, none] rfl rfl ?_
      refine x_iload_n (pc2 := 76) C dL_settles_75 rfl rfl ?_
      refine x_iconst (pc2 := 77) C dL_settles_76 rfl ic_2 ?_
      refine x_icmp_ne (tgt := 119) (pc2 := 80) C dL_settles_77 (by decide) rfl ?_ ?_
      · refine x_aload_n (pc2 := 120) C dL_settles_119 rfl rfl ?_
        refine x_iload_n (pc2 := 121) C dL_settles_120 rfl rfl ?_
        refine x_iconst (pc2 := 122) C dL_settles_121 rfl ic_0 ?_
        refine x_callVf (pc2 := 125) C [.int a3, .int 0] [] cl_L_52 (fun q hq => ctX8_style hk1 q hq) hk1 rfl rfl rfl ⟨rfl, rfl, Nat.le_of_ble_eq_true rfl, Nat.le_of_ble_eq_true rfl⟩ (Nat.le_of_ble_eq_true rfl) ⟨Nat.zero_le _, Nat.zero_le _⟩ dL_settles_122 rfl (fun v11 M12 => ?_)
        refine x_fstore (pc2 := 127) C dL_settles_125 rfl [some (rv G a1), some (.int a2), some (.int a3), some (.int v5), some (.int v7), some (.int v9), some (.float v11), none, none, none, none] rfl rfl ?_
        refine x_aload_n (pc2 := 128) C dL_settles_127 rfl rfl ?_
        refine x_iconst (pc2 := 129) C dL_settles_128 rfl ic_1 ?_
        refine x_iload_n (pc2 := 130) C dL_settles_129 rfl rfl ?_
        refine x_isub (pc2 := 131) C dL_settles_130 rfl ?_
        refine x_iconst (pc2 := 132) C dL_settles_131 rfl ic_0 ?_
        refine x_callVf (pc2 := 135) C [.int (1 - a3), .int 0] [] cl_L_52 (fun q hq => ctX8_style hk1 q hq) hk1 rfl rfl rfl ⟨rfl, rfl, Nat.le_of_ble_eq_true rfl, Nat.le_of_ble_eq_true rfl⟩ (Nat.le_of_ble_eq_true rfl) ⟨Nat.zero_le _, Nat.zero_le _⟩ dL_settles_132 rfl (fun v13 M14 => ?_)
        refine x_fstore (pc2 := 137) C dL_settles_135 rfl [some (rv G a1), some (.int a2), some (.int a3), some (.int v5), some (.int v7), some (.int v9), some (.float v11), some (.float v13), none, none, none] rfl rfl ?_
        refine x_fload (pc2 := 139) C dL_settles_137 rfl rfl ?_
        refine x_iload (pc2 := 141) C dL_settles_139 rfl rfl ?_
        refine x_i2f (pc2 := 142) C dL_settles_141 rfl ?_
        refine x_fload (pc2 := 144) C dL_settles_142 rfl rfl ?_
        refine x_fsub (pc2 := 145) C dL_settles_144 rfl ?_
        refine x_topf (fun v15 => ?_)
        refine x_ldcf (pc2 := 147) C wt4_34 dL_settles_145 rfl ?_
        refine x_fmul (pc2 := 148) C dL_settles_147 rfl ?_
        refine x_topf (fun v16 => ?_)
        refine x_fadd (pc2 := 149) C dL_settles_148 rfl ?_
        refine x_topf (fun v17 => ?_)
        refine x_fstore (pc2 := 151) C dL_settles_149 rfl [some (rv G a1), some (.int a2), some (.int a3), some (.int v5), some (.int v7), some (.int v9), some (.float v11), some (.float v13), some (.float v17), none, none] rfl rfl ?_
        refine x_aload_n (pc2 := 152) C dL_settles_151 rfl rfl ?_
        refine x_iload_n (pc2 := 153) C dL_settles_152 rfl rfl ?_
        refine x_iconst (pc2 := 154) C dL_settles_153 rfl ic_4 ?_
        refine x_callVi (pc2 := 157) C [.int a3, .int 4] [] cl_L_45 (fun q hq => ctX8_typist hk1 q hq) hk1 rfl rfl rfl ⟨rfl, rfl, Nat.le_of_ble_eq_true rfl, Nat.le_of_ble_eq_true rfl⟩ (Nat.le_of_ble_eq_true rfl) ⟨Nat.zero_le _, Nat.zero_le _⟩ dL_settles_154 rfl (fun v18 M19 => ?_)
        refine x_istore (pc2 := 159) C dL_settles_157 rfl [some (rv G a1), some (.int a2), some (.int a3), some (.int v5), some (.int v7), some (.int v9), some (.float v11), some (.float v13), some (.float v17), some (.int v18), none] rfl rfl ?_
        refine x_aload_n (pc2 := 160) C dL_settles_159 rfl rfl ?_
        refine x_iload_n (pc2 := 161) C dL_settles_160 rfl rfl ?_
        refine x_iload_n (pc2 := 162) C dL_settles_161 rfl rfl ?_
        refine x_callVi (pc2 := 165) C [.int a2, .int a3] [] cl_L_69 (fun q hq => ctX8_settle hk1 q hq) hk1 rfl rfl rfl ⟨rfl, rfl, Nat.le_of_ble_eq_true rfl, Nat.le_of_ble_eq_true rfl⟩ (Nat.le_of_ble_eq_true rfl) ⟨Nat.zero_le _, Nat.zero_le _⟩ dL_settles_162 rfl (fun v20 M21 => ?_)
        refine x_iload_n (pc2 := 166) C dL_settles_165 rfl rfl ?_
        refine x_jn 213 (fun (b22 : Int32) => [some (rv G a1), some (.int a2), some (.int a3), none, none, none, none, none, none, some (.int v18), none]) (fun (b22 : Int32) => [.int b22]) ?_ ?_
        · intro b22 M24
          refine x_istore (pc2 := 215) C dL_settles_213 rfl [some (rv G a1), some (.int a2), some (.int a3), none, none, none, none, none, none, some (.int v18), some (.int b22)] rfl rfl ?_
          refine x_iload (pc2 := 217) C dL_settles_215 rfl rfl ?_
          refine x_if_eq (tgt := 264) (pc2 := 220) C dL_settles_217 (by decide) rfl ?_ ?_
          · refine x_iconst (pc2 := 265) C dL_settles_264 rfl ic_0 ?_
            exact x_zret C rfl rfl rfl dL_settles_265
          · refine x_aload_n (pc2 := 221) C dL_settles_220 rfl rfl ?_
            refine x_iload_n (pc2 := 222) C dL_settles_221 rfl rfl ?_
            refine x_iconst (pc2 := 223) C dL_settles_222 rfl ic_4 ?_
            refine x_callVi (pc2 := 226) C [.int a3, .int 4] [] cl_L_45 (fun q hq => ctX8_typist hk1 q hq) hk1 rfl rfl rfl ⟨rfl, rfl, Nat.le_of_ble_eq_true rfl, Nat.le_of_ble_eq_true rfl⟩ (Nat.le_of_ble_eq_true rfl) ⟨Nat.zero_le _, Nat.zero_le _⟩ dL_settles_223 rfl (fun v25 M26 => ?_)
            refine x_iload (pc2 := 228) C dL_settles_226 rfl rfl ?_
            refine x_iconst (pc2 := 229) C dL_settles_228 rfl ic_1 ?_
            refine x_iadd (pc2 := 230) C dL_settles_229 rfl ?_
            refine x_icmp_ne (tgt := 264) (pc2 := 233) C dL_settles_230 (by decide) rfl ?_ ?_
            · refine x_iconst (pc2 := 265) C dL_settles_264 rfl ic_0 ?_
              exact x_zret C rfl rfl rfl dL_settles_265
            · refine x_aload_n (pc2 := 234) C dL_settles_233 rfl rfl ?_
              refine x_iload_n (pc2 := 235) C dL_settles_234 rfl rfl ?_
              refine x_bipush (pc2 := 237) C dL_settles_235 rfl bc_7 ?_
              refine x_callVi (pc2 := 240) C [.int a3, .int 7] [] cl_L_45 (fun q hq => ctX8_typist hk1 q hq) hk1 rfl rfl rfl ⟨rfl, rfl, Nat.le_of_ble_eq_true rfl, Nat.le_of_ble_eq_true rfl⟩ (Nat.le_of_ble_eq_true rfl) ⟨Nat.zero_le _, Nat.zero_le _⟩ dL_settles_237 rfl (fun v27 M28 => ?_)
              refine x_aload_n (pc2 := 241) C dL_settles_240 rfl rfl ?_
              refine x_iload_n (pc2 := 242) C dL_settles_241 rfl rfl ?_
              refine x_iconst (pc2 := 243) C dL_settles_242 rfl ic_1 ?_
              refine x_callVi (pc2 := 246) C [.int a2, .int 1] [.int v27] cl_L_63 (fun q hq => ctX8_dispute hk1 q hq) hk1 rfl rfl rfl ⟨rfl, rfl, Nat.le_of_ble_eq_true rfl, Nat.le_of_ble_eq_true rfl⟩ (Nat.le_of_ble_eq_true rfl) ⟨Nat.zero_le _, Nat.zero_le _⟩ dL_settles_243 rfl (fun v29 M30 => ?_)
              refine x_icmp_ne (tgt := 264) (pc2 := 249) C dL_settles_246 (by decide) rfl ?_ ?_
              · refine x_iconst (pc2 := 265) C dL_settles_264 rfl ic_0 ?_
                exact x_zret C rfl rfl rfl dL_settles_265
              · refine x_aload_n (pc2 := 250) C dL_settles_249 rfl rfl ?_
                refine x_iload_n (pc2 := 251) C dL_settles_250 rfl rfl ?_
                refine x_iload_n (pc2 := 252) C dL_settles_251 rfl rfl ?_
                refine x_callVi (pc2 := 255) C [.int a2, .int a3] [] cl_L_69 (fun q hq => ctX8_settle hk1 q hq) hk1 rfl rfl rfl ⟨rfl, rfl, Nat.le_of_ble_eq_true rfl, Nat.le_of_ble_eq_true rfl⟩ (Nat.le_of_ble_eq_true rfl) ⟨Nat.zero_le _, Nat.zero_le _⟩ dL_settles_252 rfl (fun v31 M32 => ?_)
                refine x_bipush (pc2 := 257) C dL_settles_255 rfl bc_m4 ?_
                refine x_icmp_ne (tgt := 264) (pc2 := 260) C dL_settles_257 (by decide) rfl ?_ ?_
                · refine x_iconst (pc2 := 265) C dL_settles_264 rfl ic_0 ?_
                  exact x_zret C rfl rfl rfl dL_settles_265
                · refine x_iconst (pc2 := 261) C dL_settles_260 rfl ic_1 ?_
                  refine x_goto (tgt := 265) C dL_settles_261 (by decide) ?_
                  exact x_zret C rfl rfl rfl dL_settles_265
        · intro j23 hj23
          refine x_jn 212 (fun (b33 : Unit) => [some (rv G a1), some (.int a2), some (.int a3), none, none, none, none, none, none, some (.int v18), none]) (fun (b33 : Unit) => []) ?_ ?_
          · intro b33 M35
            refine x_iconst (pc2 := 213) C dL_settles_212 rfl ic_0 ?_
            exact x_wk [some (rv G a1), some (.int a2), some (.int a3), none, none, none, none, none, none, some (.int v18), none] ⟨Or.inr rfl, Or.inr rfl, Or.inr rfl, Or.inl rfl, Or.inl rfl, Or.inl rfl, Or.inl rfl, Or.inl rfl, Or.inl rfl, Or.inr rfl, Or.inl rfl, trivial⟩ (hj23 0 _)
          · intro j34 hj34
            refine x_icmp_ne (tgt := 212) (pc2 := 169) C dL_settles_166 (by decide) rfl ?_ ?_
            · exact x_wk [some (rv G a1), some (.int a2), some (.int a3), none, none, none, none, none, none, some (.int v18), none] ⟨Or.inr rfl, Or.inr rfl, Or.inr rfl, Or.inl rfl, Or.inl rfl, Or.inl rfl, Or.inl rfl, Or.inl rfl, Or.inl rfl, Or.inr rfl, Or.inl rfl, trivial⟩ (hj34 () _)
            · refine x_aload_n (pc2 := 170) C dL_settles_169 rfl rfl ?_
              refine x_iload_n (pc2 := 171) C dL_settles_170 rfl rfl ?_
              refine x_iconst (pc2 := 172) C dL_settles_171 rfl ic_0 ?_
              refine x_callVf (pc2 := 175) C [.int a3, .int 0] [] cl_L_52 (fun q hq => ctX8_style hk1 q hq) hk1 rfl rfl rfl ⟨rfl, rfl, Nat.le_of_ble_eq_true rfl, Nat.le_of_ble_eq_true rfl⟩ (Nat.le_of_ble_eq_true rfl) ⟨Nat.zero_le _, Nat.zero_le _⟩ dL_settles_172 rfl (fun v36 M37 => ?_)
              refine x_fload (pc2 := 177) C dL_settles_175 rfl rfl ?_
              refine x_ldcf (pc2 := 179) C wt3_45 dL_settles_177 rfl ?_
              refine x_fcmpg (pc2 := 180) C dL_settles_179 rfl ?_
              refine x_jn 190 (fun (b38 : UInt32) => [some (rv G a1), some (.int a2), some (.int a3), none, none, none, none, some (.float v13), none, some (.int v18), none]) (fun (b38 : UInt32) => [.float b38, .float v36]) ?_ ?_
              · intro b38 M40
                refine x_fcmpl (pc2 := 191) C dL_settles_190 rfl ?_
                refine x_if_ne (tgt := 212) (pc2 := 194) C dL_settles_191 (by decide) rfl ?_ ?_
                · exact x_wk [some (rv G a1), some (.int a2), some (.int a3), none, none, none, none, none, none, some (.int v18), none] ⟨Or.inr rfl, Or.inr rfl, Or.inr rfl, Or.inl rfl, Or.inl rfl, Or.inl rfl, Or.inl rfl, Or.inl rfl, Or.inl rfl, Or.inr rfl, Or.inl rfl, trivial⟩ (hj34 () _)
                · refine x_aload_n (pc2 := 195) C dL_settles_194 rfl rfl ?_
                  refine x_iconst (pc2 := 196) C dL_settles_195 rfl ic_1 ?_
                  refine x_iload_n (pc2 := 197) C dL_settles_196 rfl rfl ?_
                  refine x_isub (pc2 := 198) C dL_settles_197 rfl ?_
                  refine x_iconst (pc2 := 199) C dL_settles_198 rfl ic_0 ?_
                  refine x_callVf (pc2 := 202) C [.int (1 - a3), .int 0] [] cl_L_52 (fun q hq => ctX8_style hk1 q hq) hk1 rfl rfl rfl ⟨rfl, rfl, Nat.le_of_ble_eq_true rfl, Nat.le_of_ble_eq_true rfl⟩ (Nat.le_of_ble_eq_true rfl) ⟨Nat.zero_le _, Nat.zero_le _⟩ dL_settles_199 rfl (fun v41 M42 => ?_)
                  refine x_fload (pc2 := 204) C dL_settles_202 rfl rfl ?_
                  refine x_fcmpl (pc2 := 205) C dL_settles_204 rfl ?_
                  refine x_if_ne (tgt := 212) (pc2 := 208) C dL_settles_205 (by decide) rfl ?_ ?_
                  · exact x_wk [some (rv G a1), some (.int a2), some (.int a3), none, none, none, none, none, none, some (.int v18), none] ⟨Or.inr rfl, Or.inr rfl, Or.inr rfl, Or.inl rfl, Or.inl rfl, Or.inl rfl, Or.inl rfl, Or.inl rfl, Or.inl rfl, Or.inr rfl, Or.inl rfl, trivial⟩ (hj34 () _)
                  · refine x_iconst (pc2 := 209) C dL_settles_208 rfl ic_1 ?_
                    refine x_goto (tgt := 213) C dL_settles_209 (by decide) ?_
                    exact x_wk [some (rv G a1), some (.int a2), some (.int a3), none, none, none, none, none, none, some (.int v18), none] ⟨Or.inr rfl, Or.inr rfl, Or.inr rfl, Or.inl rfl, Or.inl rfl, Or.inl rfl, Or.inl rfl, Or.inl rfl, Or.inl rfl, Or.inr rfl, Or.inl rfl, trivial⟩ (hj23 1 _)
              · intro j39 hj39
                refine x_if_ge (tgt := 188) (pc2 := 183) C dL_settles_180 (by decide) rfl ?_ ?_
                · refine x_fload (pc2 := 190) C dL_settles_188 rfl rfl ?_
                  exact x_wk [some (rv G a1), some (.int a2), some (.int a3), none, none, none, none, some (.float v13), none, some (.int v18), none] ⟨Or.inr rfl, Or.inr rfl, Or.inr rfl, Or.inl rfl, Or.inl rfl, Or.inl rfl, Or.inl rfl, Or.inr rfl, Or.inl rfl, Or.inr rfl, Or.inl rfl, trivial⟩ (hj39 v17 _)
                · refine x_ldcf (pc2 := 185) C wt3_45 dL_settles_183 rfl ?_
                  refine x_goto (tgt := 190) C dL_settles_185 (by decide) ?_
                  exact x_wk [some (rv G a1), some (.int a2), some (.int a3), none, none, none, none, some (.float v13), none, some (.int v18), none] ⟨Or.inr rfl, Or.inr rfl, Or.inr rfl, Or.inl rfl, Or.inl rfl, Or.inl rfl, Or.inl rfl, Or.inr rfl, Or.inl rfl, Or.inr rfl, Or.inl rfl, trivial⟩ (hj39 1056964608 _)
      · refine x_aload_n (pc2 := 81) C dL_settles_80 rfl rfl ?_
        refine x_iload_n (pc2 := 82) C dL_settles_81 rfl rfl ?_
        refine x_iconst (pc2 := 83) C dL_settles_82 rfl ic_2 ?_
        refine x_callVi (pc2 := 86) C [.int a2, .int 2] [] cl_L_69 (fun q hq => ctX8_settle hk1 q hq) hk1 rfl rfl rfl ⟨rfl, rfl, Nat.le_of_ble_eq_true rfl, Nat.le_of_ble_eq_true rfl⟩ (Nat.le_of_ble_eq_true rfl) ⟨Nat.zero_le _, Nat.zero_le _⟩ dL_settles_83 rfl (fun v43 M44 => ?_)
        refine x_iload_n (pc2 := 87) C dL_settles_86 rfl rfl ?_
        refine x_icmp_ne (tgt := 117) (pc2 := 90) C dL_settles_87 (by decide) rfl ?_ ?_
        · refine x_iconst (pc2 := 118) C dL_settles_117 rfl ic_0 ?_
          exact x_zret C rfl rfl rfl dL_settles_118
        · refine x_aload_n (pc2 := 91) C dL_settles_90 rfl rfl ?_
          refine x_bipush (pc2 := 93) C dL_settles_91 rfl bc_8 ?_
          refine x_callVi (pc2 := 96) C [.int 8] [] cl_L_9 (fun q hq => ctX8_count hk1 q hq) hk1 rfl rfl rfl ⟨rfl, rfl, Nat.le_of_ble_eq_true rfl, Nat.le_of_ble_eq_true rfl⟩ (Nat.le_of_ble_eq_true rfl) ⟨Nat.zero_le _, Nat.zero_le _⟩ dL_settles_93 rfl (fun v45 M46 => ?_)
          refine x_iload (pc2 := 98) C dL_settles_96 rfl rfl ?_
          refine x_iconst (pc2 := 99) C dL_settles_98 rfl ic_1 ?_
          refine x_iadd (pc2 := 100) C dL_settles_99 rfl ?_
          refine x_icmp_ne (tgt := 117) (pc2 := 103) C dL_settles_100 (by decide) rfl ?_ ?_
          · refine x_iconst (pc2 := 118) C dL_settles_117 rfl ic_0 ?_
            exact x_zret C rfl rfl rfl dL_settles_118
          · refine x_aload_n (pc2 := 104) C dL_settles_103 rfl rfl ?_
            refine x_iload_n (pc2 := 105) C dL_settles_104 rfl rfl ?_
            refine x_iconst (pc2 := 106) C dL_settles_105 rfl ic_3 ?_
            refine x_callVi (pc2 := 109) C [.int a2, .int 3] [] cl_L_63 (fun q hq => ctX8_dispute hk1 q hq) hk1 rfl rfl rfl ⟨rfl, rfl, Nat.le_of_ble_eq_true rfl, Nat.le_of_ble_eq_true rfl⟩ (Nat.le_of_ble_eq_true rfl) ⟨Nat.zero_le _, Nat.zero_le _⟩ dL_settles_106 rfl (fun v47 M48 => ?_)
            refine x_iconst (pc2 := 110) C dL_settles_109 rfl ic_2 ?_
            refine x_icmp_ne (tgt := 117) (pc2 := 113) C dL_settles_110 (by decide) rfl ?_ ?_
            · refine x_iconst (pc2 := 118) C dL_settles_117 rfl ic_0 ?_
              exact x_zret C rfl rfl rfl dL_settles_118
            · refine x_iconst (pc2 := 114) C dL_settles_113 rfl ic_1 ?_
              refine x_goto (tgt := 118) C dL_settles_114 (by decide) ?_
              exact x_zret C rfl rfl rfl dL_settles_118
    · refine x_aload_n (pc2 := 36) C dL_settles_35 rfl rfl ?_
      refine x_iload_n (pc2 := 37) C dL_settles_36 rfl rfl ?_
      refine x_iload_n (pc2 := 38) C dL_settles_37 rfl rfl ?_
      refine x_callVi (pc2 := 41) C [.int a2, .int a3] [] cl_L_69 (fun q hq => ctX8_settle hk1 q hq) hk1 rfl rfl rfl ⟨rfl, rfl, Nat.le_of_ble_eq_true rfl, Nat.le_of_ble_eq_true rfl⟩ (Nat.le_of_ble_eq_true rfl) ⟨Nat.zero_le _, Nat.zero_le _⟩ dL_settles_38 rfl (fun v49 M50 => ?_)
      refine x_bipush (pc2 := 43) C dL_settles_41 rfl bc_m4 ?_
      refine x_icmp_ne (tgt := 50) (pc2 := 46) C dL_settles_43 (by decide) rfl ?_ ?_
      · refine x_iconst (pc2 := 51) C dL_settles_50 rfl ic_0 ?_
        exact x_zret C rfl rfl rfl dL_settles_51
      · refine x_iconst (pc2 := 47) C dL_settles_46 rfl ic_1 ?_
        refine x_goto (tgt := 51) C dL_settles_47 (by decide) ?_
        exact x_zret C rfl rfl rfl dL_settles_51
  · refine x_aload_n (pc2 := 11) C dL_settles_10 rfl rfl ?_
    refine x_iload_n (pc2 := 12) C dL_settles_11 rfl rfl ?_
    refine x_iload_n (pc2 := 13) C dL_settles_12 rfl rfl ?_
    refine x_callVi (pc2 := 16) C [.int a2, .int a3] [] cl_L_69 (fun q hq => ctX8_settle hk1 q hq) hk1 rfl rfl rfl ⟨rfl, rfl, Nat.le_of_ble_eq_true rfl, Nat.le_of_ble_eq_true rfl⟩ (Nat.le_of_ble_eq_true rfl) ⟨Nat.zero_le _, Nat.zero_le _⟩ dL_settles_13 rfl (fun v51 M52 => ?_)
    refine x_iconst (pc2 := 17) C dL_settles_16 rfl ic_m1 ?_
    refine x_icmp_ne (tgt := 24) (pc2 := 20) C dL_settles_17 (by decide) rfl ?_ ?_
    · refine x_iconst (pc2 := 25) C dL_settles_24 rfl ic_0 ?_
      exact x_zret C rfl rfl rfl dL_settles_25
    · refine x_iconst (pc2 := 21) C dL_settles_20 rfl ic_1 ?_
      refine x_goto (tgt := 25) C dL_settles_21 (by decide) ?_
      exact x_zret C rfl rfl rfl dL_settles_25
set_option maxRecDepth 100000 in
set_option maxHeartbeats 4000000 in
theorem ctL_acts {l : Launch} {G : bkG} {M : Mem} {a1 : Nat} {a2 : Int32} {a3 : Int32} (hk1 : kd a1 = 7) : ∀ r, fL_acts a1 a2 a3 M = some r → Met l yL_acts (Cond.code yL_acts cL_acts 8 (some .boolean) :: TT) ({ frames := 7, cells := 0, slots := 0, locals := 164 } : Room) (va_Pc [rv G a1, .int a2, .int a3] (Wd G M)) (QQ G ((fun v => some (.int v)) r.1) r.2) 0 0 (An G) := by
  refine mkMet (vl := (fun v => some (.int v))) RL rfl (by decide +kernel) rfl (Nat.le_of_ble_eq_true rfl) [some (rv G a1), some (.int a2), some (.int a3), none, none, none, none, none] rfl ?_
  intro p e s m args below meth c C _
  refine x_iload_n (pc2 := 1) C dL_acts_0 rfl rfl ?_
  refine x_iconst (pc2 := 2) C dL_acts_1 rfl ic_4 ?_
  refine x_ishr (pc2 := 3) C dL_acts_2 rfl ?_
  refine x_iconst (pc2 := 4) C dL_acts_3 rfl ic_2 ?_
  refine x_callSi (pc2 := 7) C [.int (a2 >>> ((4 : Int32) &&& 31)), .int 2] [] cl_L_73 (fun q hq => ctL_low  q hq) rfl rfl ⟨rfl, rfl, Nat.le_of_ble_eq_true rfl, Nat.le_of_ble_eq_true rfl⟩ (Nat.le_of_ble_eq_true rfl) ⟨Nat.zero_le _, Nat.zero_le _⟩ dL_acts_4 rfl (fun v1 M2 => ?_)
  refine x_istore_n (pc2 := 8) C dL_acts_7 rfl [some (rv G a1), some (.int a2), some (.int a3), some (.int v1), none, none, none, none] rfl rfl ?_
  refine x_iload_n (pc2 := 9) C dL_acts_8 rfl rfl ?_
  refine x_aload_n (pc2 := 10) C dL_acts_9 rfl rfl ?_
  refine x_callSi (pc2 := 13) C [rv G a1] [.int a3] cl_L_15 (fun q hq => ctL_keys hk1 q hq) rfl rfl ⟨rfl, rfl, Nat.le_of_ble_eq_true rfl, Nat.le_of_ble_eq_true rfl⟩ (Nat.le_of_ble_eq_true rfl) ⟨Nat.zero_le _, Nat.zero_le _⟩ dL_acts_10 rfl (fun v3 M4 => ?_)
  refine x_callSi (pc2 := 16) C [.int a3, .int v3] [] cl_L_73 (fun q hq => ctL_low  q hq) rfl rfl ⟨rfl, rfl, Nat.le_of_ble_eq_true rfl, Nat.le_of_ble_eq_true rfl⟩ (Nat.le_of_ble_eq_true rfl) ⟨Nat.zero_le _, Nat.zero_le _⟩ dL_acts_13 rfl (fun v5 M6 => ?_)
  refine x_istore (pc2 := 18) C dL_acts_16 rfl [some (rv G a1), some (.int a2), some (.int a3), some (.int v1), some (.int v5), none, none, none] rfl rfl ?_
  refine x_iload_n (pc2 := 19) C dL_acts_18 rfl rfl ?_
  refine x_bipush (pc2 := 21) C dL_acts_19 rfl bc_12 ?_
  refine x_callSi (pc2 := 24) C [.int a2, .int 12] [] cl_L_73 (fun q hq => ctL_low  q hq) rfl rfl ⟨rfl, rfl, Nat.le_of_ble_eq_true rfl, Nat.le_of_ble_eq_true rfl⟩ (Nat.le_of_ble_eq_true rfl) ⟨Nat.zero_le _, Nat.zero_le _⟩ dL_acts_21 rfl (fun v7 M8 => ?_)
  refine x_jn 186 (fun (b9 : Unit) => [some (rv G a1), none, some (.int a3), none, none, none, none, none]) (fun (b9 : Unit) => []) ?_ ?_
  · intro b9 M11
    refine x_aload_n (pc2 := 187) C dL_acts_186 rfl rfl ?_
    refine x_bipush (pc2 := 189) C dL_acts_187 rfl bc_6 ?_
    refine x_callVi (pc2 := 192) C [.int 6] [] cl_L_9 (fun q hq => ctX8_count hk1 q hq) hk1 rfl rfl rfl ⟨rfl, rfl, Nat.le_of_ble_eq_true rfl, Nat.le_of_ble_eq_true rfl⟩ (Nat.le_of_ble_eq_true rfl) ⟨Nat.zero_le _, Nat.zero_le _⟩ dL_acts_189 rfl (fun v12 M13 => ?_)
    refine x_istore (pc2 := 194) C dL_acts_192 rfl [some (rv G a1), none, some (.int a3), none, none, some (.int v12), none, none] rfl rfl ?_
    refine x_aload_n (pc2 := 195) C dL_acts_194 rfl rfl ?_
    refine x_iconst (pc2 := 196) C dL_acts_195 rfl ic_0 ?_
    refine x_callVi (pc2 := 199) C [.int 0] [] cl_L_9 (fun q hq => ctX8_count hk1 q hq) hk1 rfl rfl rfl ⟨rfl, rfl, Nat.le_of_ble_eq_true rfl, Nat.le_of_ble_eq_true rfl⟩ (Nat.le_of_ble_eq_true rfl) ⟨Nat.zero_le _, Nat.zero_le _⟩ dL_acts_196 rfl (fun v14 M15 => ?_)
    refine x_istore (pc2 := 201) C dL_acts_199 rfl [some (rv G a1), none, some (.int a3), none, none, some (.int v12), some (.int v14), none] rfl rfl ?_
    refine x_iconst (pc2 := 202) C dL_acts_201 rfl ic_1 ?_
    refine x_iload_n (pc2 := 203) C dL_acts_202 rfl rfl ?_
    refine x_bipush (pc2 := 205) C dL_acts_203 rfl bc_9 ?_
    refine x_callSi (pc2 := 208) C [.int a3, .int 9] [.int 1] cl_L_73 (fun q hq => ctL_low  q hq) rfl rfl ⟨rfl, rfl, Nat.le_of_ble_eq_true rfl, Nat.le_of_ble_eq_true rfl⟩ (Nat.le_of_ble_eq_true rfl) ⟨Nat.zero_le _, Nat.zero_le _⟩ dL_acts_205 rfl (fun v16 M17 => ?_)
    refine x_iadd (pc2 := 209) C dL_acts_208 rfl ?_
    refine x_istore (pc2 := 211) C dL_acts_209 rfl [some (rv G a1), none, some (.int a3), none, none, some (.int v12), some (.int v14), some (.int (1 + v16))] rfl rfl ?_
    refine x_aload_n (pc2 := 212) C dL_acts_211 rfl rfl ?_
    refine x_iload (pc2 := 214) C dL_acts_212 rfl rfl ?_
    refine x_callVi (pc2 := 217) C [.int (1 + v16)] [] cl_L_82 (fun q hq => ctX8_tick hk1 q hq) hk1 rfl rfl rfl ⟨rfl, rfl, Nat.le_of_ble_eq_true rfl, Nat.le_of_ble_eq_true rfl⟩ (Nat.le_of_ble_eq_true rfl) ⟨Nat.zero_le _, Nat.zero_le _⟩ dL_acts_214 rfl (fun v18 M19 => ?_)
    refine x_aload_n (pc2 := 218) C dL_acts_217 rfl rfl ?_
    refine x_bipush (pc2 := 220) C dL_acts_218 rfl bc_6 ?_
    refine x_callVi (pc2 := 223) C [.int 6] [.int v18] cl_L_9 (fun q hq => ctX8_count hk1 q hq) hk1 rfl rfl rfl ⟨rfl, rfl, Nat.le_of_ble_eq_true rfl, Nat.le_of_ble_eq_true rfl⟩ (Nat.le_of_ble_eq_true rfl) ⟨Nat.zero_le _, Nat.zero_le _⟩ dL_acts_220 rfl (fun v20 M21 => ?_)
    refine x_iload (pc2 := 225) C dL_acts_223 rfl rfl ?_
    refine x_isub (pc2 := 226) C dL_acts_225 rfl ?_
    refine x_icmp_ne (tgt := 246) (pc2 := 229) C dL_acts_226 (by decide) rfl ?_ ?_
    · refine x_iconst (pc2 := 247) C dL_acts_246 rfl ic_0 ?_
      exact x_zret C rfl rfl rfl dL_acts_247
    · refine x_aload_n (pc2 := 230) C dL_acts_229 rfl rfl ?_
      refine x_iconst (pc2 := 231) C dL_acts_230 rfl ic_0 ?_
      refine x_callVi (pc2 := 234) C [.int 0] [] cl_L_9 (fun q hq => ctX8_count hk1 q hq) hk1 rfl rfl rfl ⟨rfl, rfl, Nat.le_of_ble_eq_true rfl, Nat.le_of_ble_eq_true rfl⟩ (Nat.le_of_ble_eq_true rfl) ⟨Nat.zero_le _, Nat.zero_le _⟩ dL_acts_231 rfl (fun v22 M23 => ?_)
      refine x_iload (pc2 := 236) C dL_acts_234 rfl rfl ?_
      refine x_iload (pc2 := 238) C dL_acts_236 rfl rfl ?_
      refine x_iadd (pc2 := 239) C dL_acts_238 rfl ?_
      refine x_icmp_ne (tgt := 246) (pc2 := 242) C dL_acts_239 (by decide) rfl ?_ ?_
      · refine x_iconst (pc2 := 247) C dL_acts_246 rfl ic_0 ?_
        exact x_zret C rfl rfl rfl dL_acts_247
      · refine x_iconst (pc2 := 243) C dL_acts_242 rfl ic_1 ?_
        refine x_goto (tgt := 247) C dL_acts_243 (by decide) ?_
        exact x_zret C rfl rfl rfl dL_acts_247
  · intro j10 hj10
    refine x_jn 142 (fun (b24 : Unit) => [some (rv G a1), none, none, some (.int v1), some (.int v5), none, none, none]) (fun (b24 : Unit) => []) ?_ ?_
    · intro b24 M26
      refine x_aload_n (pc2 := 143) C dL_acts_142 rfl rfl ?_
      refine x_iload (pc2 := 145) C dL_acts_143 rfl rfl ?_
      refine x_iconst (pc2 := 146) C dL_acts_145 rfl ic_0 ?_
      refine x_callVi (pc2 := 149) C [.int v5, .int 0] [] cl_L_21 (fun q hq => ctX8_key hk1 q hq) hk1 rfl rfl rfl ⟨rfl, rfl, Nat.le_of_ble_eq_true rfl, Nat.le_of_ble_eq_true rfl⟩ (Nat.le_of_ble_eq_true rfl) ⟨Nat.zero_le _, Nat.zero_le _⟩ dL_acts_146 rfl (fun v27 M28 => ?_)
      refine x_iload_n (pc2 := 150) C dL_acts_149 rfl rfl ?_
      refine x_jn 166 (fun (b29 : Int32) => [some (rv G a1), none, none, some (.int v1), some (.int v5), none, none, none]) (fun (b29 : Int32) => [.int b29]) ?_ ?_
      · intro b29 M31
        refine x_istore (pc2 := 168) C dL_acts_166 rfl [some (rv G a1), none, none, some (.int v1), some (.int v5), some (.int b29), none, none] rfl rfl ?_
        refine x_aload_n (pc2 := 169) C dL_acts_168 rfl rfl ?_
        refine x_iload_n (pc2 := 170) C dL_acts_169 rfl rfl ?_
        refine x_iload (pc2 := 172) C dL_acts_170 rfl rfl ?_
        refine x_callVi (pc2 := 175) C [.int v1, .int v5] [] cl_L_79 (fun q hq => ctX8_release hk1 q hq) hk1 rfl rfl rfl ⟨rfl, rfl, Nat.le_of_ble_eq_true rfl, Nat.le_of_ble_eq_true rfl⟩ (Nat.le_of_ble_eq_true rfl) ⟨Nat.zero_le _, Nat.zero_le _⟩ dL_acts_172 rfl (fun v32 M33 => ?_)
        refine x_iload (pc2 := 177) C dL_acts_175 rfl rfl ?_
        refine x_icmp_ne (tgt := 184) (pc2 := 180) C dL_acts_177 (by decide) rfl ?_ ?_
        · refine x_iconst (pc2 := 185) C dL_acts_184 rfl ic_0 ?_
          exact x_zret C rfl rfl rfl dL_acts_185
        · refine x_iconst (pc2 := 181) C dL_acts_180 rfl ic_1 ?_
          refine x_goto (tgt := 185) C dL_acts_181 (by decide) ?_
          exact x_zret C rfl rfl rfl dL_acts_185
      · intro j30 hj30
        refine x_icmp_ne (tgt := 164) (pc2 := 153) C dL_acts_150 (by decide) rfl ?_ ?_
        · refine x_bipush (pc2 := 166) C dL_acts_164 rfl bc_m4 ?_
          exact x_wk [some (rv G a1), none, none, some (.int v1), some (.int v5), none, none, none] ⟨Or.inr rfl, Or.inl rfl, Or.inl rfl, Or.inr rfl, Or.inr rfl, Or.inl rfl, Or.inl rfl, Or.inl rfl, trivial⟩ (hj30 (-4) _)
        · refine x_aload_n (pc2 := 154) C dL_acts_153 rfl rfl ?_
          refine x_iload_n (pc2 := 155) C dL_acts_154 rfl rfl ?_
          refine x_iconst (pc2 := 156) C dL_acts_155 rfl ic_0 ?_
          refine x_callVi (pc2 := 159) C [.int v1, .int 0] [] cl_L_45 (fun q hq => ctX8_typist hk1 q hq) hk1 rfl rfl rfl ⟨rfl, rfl, Nat.le_of_ble_eq_true rfl, Nat.le_of_ble_eq_true rfl⟩ (Nat.le_of_ble_eq_true rfl) ⟨Nat.zero_le _, Nat.zero_le _⟩ dL_acts_156 rfl (fun v34 M35 => ?_)
          refine x_iconst (pc2 := 160) C dL_acts_159 rfl ic_1 ?_
          refine x_isub (pc2 := 161) C dL_acts_160 rfl ?_
          refine x_goto (tgt := 166) C dL_acts_161 (by decide) ?_
          exact x_wk [some (rv G a1), none, none, some (.int v1), some (.int v5), none, none, none] ⟨Or.inr rfl, Or.inl rfl, Or.inl rfl, Or.inr rfl, Or.inr rfl, Or.inl rfl, Or.inl rfl, Or.inl rfl, trivial⟩ (hj30 (v34 - 1) _)
    · intro j25 hj25
      refine x_jn 84 (fun (b36 : Unit) => [some (rv G a1), none, none, some (.int v1), some (.int v5), none, none, none]) (fun (b36 : Unit) => []) ?_ ?_
      · intro b36 M38
        refine x_aload_n (pc2 := 85) C dL_acts_84 rfl rfl ?_
        refine x_iload_n (pc2 := 86) C dL_acts_85 rfl rfl ?_
        refine x_iconst (pc2 := 87) C dL_acts_86 rfl ic_0 ?_
        refine x_callVi (pc2 := 90) C [.int v1, .int 0] [] cl_L_45 (fun q hq => ctX8_typist hk1 q hq) hk1 rfl rfl rfl ⟨rfl, rfl, Nat.le_of_ble_eq_true rfl, Nat.le_of_ble_eq_true rfl⟩ (Nat.le_of_ble_eq_true rfl) ⟨Nat.zero_le _, Nat.zero_le _⟩ dL_acts_87 rfl (fun v39 M40 => ?_)
        refine x_istore (pc2 := 92) C dL_acts_90 rfl [some (rv G a1), none, none, some (.int v1), some (.int v5), some (.int v39), none, none] rfl rfl ?_
        refine x_aload_n (pc2 := 93) C dL_acts_92 rfl rfl ?_
        refine x_iload (pc2 := 95) C dL_acts_93 rfl rfl ?_
        refine x_iconst (pc2 := 96) C dL_acts_95 rfl ic_0 ?_
        refine x_callVi (pc2 := 99) C [.int v5, .int 0] [] cl_L_21 (fun q hq => ctX8_key hk1 q hq) hk1 rfl rfl rfl ⟨rfl, rfl, Nat.le_of_ble_eq_true rfl, Nat.le_of_ble_eq_true rfl⟩ (Nat.le_of_ble_eq_true rfl) ⟨Nat.zero_le _, Nat.zero_le _⟩ dL_acts_96 rfl (fun v41 M42 => ?_)
        refine x_jn 122 (fun (b43 : Int32) => [some (rv G a1), none, none, some (.int v1), some (.int v5), none, none, none]) (fun (b43 : Int32) => [.int b43]) ?_ ?_
        · intro b43 M45
          refine x_istore (pc2 := 124) C dL_acts_122 rfl [some (rv G a1), none, none, some (.int v1), some (.int v5), none, some (.int b43), none] rfl rfl ?_
          refine x_aload_n (pc2 := 125) C dL_acts_124 rfl rfl ?_
          refine x_iload_n (pc2 := 126) C dL_acts_125 rfl rfl ?_
          refine x_iload (pc2 := 128) C dL_acts_126 rfl rfl ?_
          refine x_callVi (pc2 := 131) C [.int v1, .int v5] [] cl_L_76 (fun q hq => ctX8_press hk1 q hq) hk1 rfl rfl rfl ⟨rfl, rfl, Nat.le_of_ble_eq_true rfl, Nat.le_of_ble_eq_true rfl⟩ (Nat.le_of_ble_eq_true rfl) ⟨Nat.zero_le _, Nat.zero_le _⟩ dL_acts_128 rfl (fun v46 M47 => ?_)
          refine x_iload (pc2 := 133) C dL_acts_131 rfl rfl ?_
          refine x_icmp_ne (tgt := 140) (pc2 := 136) C dL_acts_133 (by decide) rfl ?_ ?_
          · refine x_iconst (pc2 := 141) C dL_acts_140 rfl ic_0 ?_
            exact x_zret C rfl rfl rfl dL_acts_141
          · refine x_iconst (pc2 := 137) C dL_acts_136 rfl ic_1 ?_
            refine x_goto (tgt := 141) C dL_acts_137 (by decide) ?_
            exact x_zret C rfl rfl rfl dL_acts_141
        · intro j44 hj44
          refine x_if_lt (tgt := 107) (pc2 := 102) C dL_acts_99 (by decide) rfl ?_ ?_
          · refine x_iload (pc2 := 109) C dL_acts_107 rfl rfl ?_
            refine x_iconst (pc2 := 110) C dL_acts_109 rfl ic_5 ?_
            refine x_icmp_ne (tgt := 118) (pc2 := 113) C dL_acts_110 (by decide) rfl ?_ ?_
            · refine x_iload (pc2 := 120) C dL_acts_118 rfl rfl ?_
              refine x_iconst (pc2 := 121) C dL_acts_120 rfl ic_1 ?_
              refine x_iadd (pc2 := 122) C dL_acts_121 rfl ?_
              exact x_wk [some (rv G a1), none, none, some (.int v1), some (.int v5), none, none, none] ⟨Or.inr rfl, Or.inl rfl, Or.inl rfl, Or.inr rfl, Or.inr rfl, Or.inl rfl, Or.inl rfl, Or.inl rfl, trivial⟩ (hj44 (v39 + 1) _)
            · refine x_bipush (pc2 := 115) C dL_acts_113 rfl bc_m3 ?_
              refine x_goto (tgt := 122) C dL_acts_115 (by decide) ?_
              exact x_wk [some (rv G a1), none, none, some (.int v1), some (.int v5), none, none, none] ⟨Or.inr rfl, Or.inl rfl, Or.inl rfl, Or.inr rfl, Or.inr rfl, Or.inl rfl, Or.inl rfl, Or.inl rfl, trivial⟩ (hj44 (-3) _)
          · refine x_bipush (pc2 := 104) C dL_acts_102 rfl bc_m4 ?_
            refine x_goto (tgt := 122) C dL_acts_104 (by decide) ?_
            exact x_wk [some (rv G a1), none, none, some (.int v1), some (.int v5), none, none, none] ⟨Or.inr rfl, Or.inl rfl, Or.inl rfl, Or.inr rfl, Or.inr rfl, Or.inl rfl, Or.inl rfl, Or.inl rfl, trivial⟩ (hj44 (-4) _)
      · intro j37 hj37
        refine x_ite (fun hs48 => ?_) (fun hs48 => ?_)
        · refine x_tin (tgt := 84) C hs48 dL_acts_24 (by decide) (by decide) rfl (by decide) ?_
          exact x_wk [some (rv G a1), none, none, some (.int v1), some (.int v5), none, none, none] ⟨Or.inr rfl, Or.inl rfl, Or.inl rfl, Or.inr rfl, Or.inr rfl, Or.inl rfl, Or.inl rfl, Or.inl rfl, trivial⟩ (hj37 () _)
        · refine x_ite (fun hs49 => ?_) (fun hs49 => ?_)
          · refine x_tin (tgt := 84) C hs49 dL_acts_24 (by decide) (by decide) rfl (by decide) ?_
            exact x_wk [some (rv G a1), none, none, some (.int v1), some (.int v5), none, none, none] ⟨Or.inr rfl, Or.inl rfl, Or.inl rfl, Or.inr rfl, Or.inr rfl, Or.inl rfl, Or.inl rfl, Or.inl rfl, trivial⟩ (hj37 () _)
          · refine x_ite (fun hs50 => ?_) (fun hs50 => ?_)
            · refine x_tin (tgt := 84) C hs50 dL_acts_24 (by decide) (by decide) rfl (by decide) ?_
              exact x_wk [some (rv G a1), none, none, some (.int v1), some (.int v5), none, none, none] ⟨Or.inr rfl, Or.inl rfl, Or.inl rfl, Or.inr rfl, Or.inr rfl, Or.inl rfl, Or.inl rfl, Or.inl rfl, trivial⟩ (hj37 () _)
            · refine x_ite (fun hs51 => ?_) (fun hs51 => ?_)
              · refine x_tin (tgt := 84) C hs51 dL_acts_24 (by decide) (by decide) rfl (by decide) ?_
                exact x_wk [some (rv G a1), none, none, some (.int v1), some (.int v5), none, none, none] ⟨Or.inr rfl, Or.inl rfl, Or.inl rfl, Or.inr rfl, Or.inr rfl, Or.inl rfl, Or.inl rfl, Or.inl rfl, trivial⟩ (hj37 () _)
              · refine x_ite (fun hs52 => ?_) (fun hs52 => ?_)
                · refine x_tin (tgt := 142) C hs52 dL_acts_24 (by decide) (by decide) rfl (by decide) ?_
                  exact x_wk [some (rv G a1), none, none, some (.int v1), some (.int v5), none, none, none] ⟨Or.inr rfl, Or.inl rfl, Or.inl rfl, Or.inr rfl, Or.inr rfl, Or.inl rfl, Or.inl rfl, Or.inl rfl, trivial⟩ (hj25 () _)
                · refine x_ite (fun hs53 => ?_) (fun hs53 => ?_)
                  · refine x_tin (tgt := 142) C hs53 dL_acts_24 (by decide) (by decide) rfl (by decide) ?_
                    exact x_wk [some (rv G a1), none, none, some (.int v1), some (.int v5), none, none, none] ⟨Or.inr rfl, Or.inl rfl, Or.inl rfl, Or.inr rfl, Or.inr rfl, Or.inl rfl, Or.inl rfl, Or.inl rfl, trivial⟩ (hj25 () _)
                  · refine x_ite (fun hs54 => ?_) (fun hs54 => ?_)
                    · refine x_tin (tgt := 186) C hs54 dL_acts_24 (by decide) (by decide) rfl (by decide) ?_
                      exact x_wk [some (rv G a1), none, some (.int a3), none, none, none, none, none] ⟨Or.inr rfl, Or.inl rfl, Or.inr rfl, Or.inl rfl, Or.inl rfl, Or.inl rfl, Or.inl rfl, Or.inl rfl, trivial⟩ (hj10 () _)
                    · refine x_ite (fun hs55 => ?_) (fun hs55 => ?_)
                      · refine x_tin (tgt := 186) C hs55 dL_acts_24 (by decide) (by decide) rfl (by decide) ?_
                        exact x_wk [some (rv G a1), none, some (.int a3), none, none, none, none, none] ⟨Or.inr rfl, Or.inl rfl, Or.inr rfl, Or.inl rfl, Or.inl rfl, Or.inl rfl, Or.inl rfl, Or.inl rfl, trivial⟩ (hj10 () _)
                      · refine x_ite (fun hs56 => ?_) (fun hs56 => ?_)
                        · refine x_tin (tgt := 186) C hs56 dL_acts_24 (by decide) (by decide) rfl (by decide) ?_
                          exact x_wk [some (rv G a1), none, some (.int a3), none, none, none, none, none] ⟨Or.inr rfl, Or.inl rfl, Or.inr rfl, Or.inl rfl, Or.inl rfl, Or.inl rfl, Or.inl rfl, Or.inl rfl, trivial⟩ (hj10 () _)
                        · refine x_ite (fun hs57 => ?_) (fun hs57 => ?_)
                          · refine x_tin (tgt := 248) C hs57 dL_acts_24 (by decide) (by decide) rfl (by decide) ?_
                            refine x_aload_n (pc2 := 249) C dL_acts_248 rfl rfl ?_
                            refine x_iload_n (pc2 := 250) C dL_acts_249 rfl rfl ?_
                            refine x_iconst (pc2 := 251) C dL_acts_250 rfl ic_1 ?_
                            refine x_callVi (pc2 := 254) C [.int v1, .int 1] [] cl_L_45 (fun q hq => ctX8_typist hk1 q hq) hk1 rfl rfl rfl ⟨rfl, rfl, Nat.le_of_ble_eq_true rfl, Nat.le_of_ble_eq_true rfl⟩ (Nat.le_of_ble_eq_true rfl) ⟨Nat.zero_le _, Nat.zero_le _⟩ dL_acts_251 rfl (fun v58 M59 => ?_)
                            refine x_istore (pc2 := 256) C dL_acts_254 rfl [some (rv G a1), some (.int a2), some (.int a3), some (.int v1), some (.int v5), some (.int v58), none, none] rfl rfl ?_
                            refine x_aload_n (pc2 := 257) C dL_acts_256 rfl rfl ?_
                            refine x_iload (pc2 := 259) C dL_acts_257 rfl rfl ?_
                            refine x_iconst (pc2 := 260) C dL_acts_259 rfl ic_5 ?_
                            refine x_callVi (pc2 := 263) C [.int v5, .int 5] [] cl_L_21 (fun q hq => ctX8_key hk1 q hq) hk1 rfl rfl rfl ⟨rfl, rfl, Nat.le_of_ble_eq_true rfl, Nat.le_of_ble_eq_true rfl⟩ (Nat.le_of_ble_eq_true rfl) ⟨Nat.zero_le _, Nat.zero_le _⟩ dL_acts_260 rfl (fun v60 M61 => ?_)
                            refine x_istore (pc2 := 265) C dL_acts_263 rfl [some (rv G a1), some (.int a2), some (.int a3), some (.int v1), some (.int v5), some (.int v58), some (.int v60), none] rfl rfl ?_
                            refine x_iload (pc2 := 267) C dL_acts_265 rfl rfl ?_
                            refine x_iload_n (pc2 := 268) C dL_acts_267 rfl rfl ?_
                            refine x_jn 298 (fun (b62 : Int32) => [some (rv G a1), none, some (.int a3), some (.int v1), some (.int v5), none, none, none]) (fun (b62 : Int32) => [.int b62]) ?_ ?_
                            · intro b62 M64
                              refine x_istore (pc2 := 300) C dL_acts_298 rfl [some (rv G a1), none, some (.int a3), some (.int v1), some (.int v5), none, none, some (.int b62)] rfl rfl ?_
                              refine x_iload_n (pc2 := 301) C dL_acts_300 rfl rfl ?_
                              refine x_bipush (pc2 := 303) C dL_acts_301 rfl bc_8 ?_
                              refine x_ishr (pc2 := 304) C dL_acts_303 rfl ?_
                              refine x_iconst (pc2 := 305) C dL_acts_304 rfl ic_3 ?_
                              refine x_callSi (pc2 := 308) C [.int (a3 >>> ((8 : Int32) &&& 31)), .int 3] [] cl_L_73 (fun q hq => ctL_low  q hq) rfl rfl ⟨rfl, rfl, Nat.le_of_ble_eq_true rfl, Nat.le_of_ble_eq_true rfl⟩ (Nat.le_of_ble_eq_true rfl) ⟨Nat.zero_le _, Nat.zero_le _⟩ dL_acts_305 rfl (fun v65 M66 => ?_)
                              refine x_jn 323 (fun (b67 : Unit) => [none, none, none, none, none, none, none, none]) (fun (b67 : Unit) => []) ?_ ?_
                              · intro b67 M69
                                refine x_iconst (pc2 := 324) C dL_acts_323 rfl ic_1 ?_
                                refine x_goto (tgt := 328) C dL_acts_324 (by decide) ?_
                                exact x_zret C rfl rfl rfl dL_acts_328
                              · intro j68 hj68
                                refine x_if_gt (tgt := 323) (pc2 := 311) C dL_acts_308 (by decide) rfl ?_ ?_
                                · exact x_wk [none, none, none, none, none, none, none, none] ⟨Or.inl rfl, Or.inl rfl, Or.inl rfl, Or.inl rfl, Or.inl rfl, Or.inl rfl, Or.inl rfl, Or.inl rfl, trivial⟩ (hj68 () _)
                                · refine x_aload_n (pc2 := 312) C dL_acts_311 rfl rfl ?_
                                  refine x_iload_n (pc2 := 313) C dL_acts_312 rfl rfl ?_
                                  refine x_iload (pc2 := 315) C dL_acts_313 rfl rfl ?_
                                  refine x_callVi (pc2 := 318) C [.int v1, .int v5] [] cl_L_85 (fun q hq => ctX8_setShift hk1 q hq) hk1 rfl rfl rfl ⟨rfl, rfl, Nat.le_of_ble_eq_true rfl, Nat.le_of_ble_eq_true rfl⟩ (Nat.le_of_ble_eq_true rfl) ⟨Nat.zero_le _, Nat.zero_le _⟩ dL_acts_315 rfl (fun v70 M71 => ?_)
                                  refine x_iload (pc2 := 320) C dL_acts_318 rfl rfl ?_
                                  refine x_icmp_ne (tgt := 327) (pc2 := 323) C dL_acts_320 (by decide) rfl ?_ ?_
                                  · refine x_iconst (pc2 := 328) C dL_acts_327 rfl ic_0 ?_
                                    exact x_zret C rfl rfl rfl dL_acts_328
                                  · exact x_wk [none, none, none, none, none, none, none, none] ⟨Or.inl rfl, Or.inl rfl, Or.inl rfl, Or.inl rfl, Or.inl rfl, Or.inl rfl, Or.inl rfl, Or.inl rfl, trivial⟩ (hj68 () _)
                            · intro j63 hj63
                              refine x_icmp_ne (tgt := 276) (pc2 := 271) C dL_acts_268 (by decide) rfl ?_ ?_
                              · refine x_iload (pc2 := 278) C dL_acts_276 rfl rfl ?_
                                refine x_if_lt (tgt := 286) (pc2 := 281) C dL_acts_278 (by decide) rfl ?_ ?_
                                · refine x_iload (pc2 := 288) C dL_acts_286 rfl rfl ?_
                                  refine x_if_ge (tgt := 296) (pc2 := 291) C dL_acts_288 (by decide) rfl ?_ ?_
                                  · refine x_iload (pc2 := 298) C dL_acts_296 rfl rfl ?_
                                    exact x_wk [some (rv G a1), none, some (.int a3), some (.int v1), some (.int v5), none, none, none] ⟨Or.inr rfl, Or.inl rfl, Or.inr rfl, Or.inr rfl, Or.inr rfl, Or.inl rfl, Or.inl rfl, Or.inl rfl, trivial⟩ (hj63 v58 _)
                                  · refine x_iload (pc2 := 293) C dL_acts_291 rfl rfl ?_
                                    refine x_goto (tgt := 298) C dL_acts_293 (by decide) ?_
                                    exact x_wk [some (rv G a1), none, some (.int a3), some (.int v1), some (.int v5), none, none, none] ⟨Or.inr rfl, Or.inl rfl, Or.inr rfl, Or.inr rfl, Or.inr rfl, Or.inl rfl, Or.inl rfl, Or.inl rfl, trivial⟩ (hj63 v5 _)
                                · refine x_bipush (pc2 := 283) C dL_acts_281 rfl bc_m4 ?_
                                  refine x_goto (tgt := 298) C dL_acts_283 (by decide) ?_
                                  exact x_wk [some (rv G a1), none, some (.int a3), some (.int v1), some (.int v5), none, none, none] ⟨Or.inr rfl, Or.inl rfl, Or.inr rfl, Or.inr rfl, Or.inr rfl, Or.inl rfl, Or.inl rfl, Or.inl rfl, trivial⟩ (hj63 (-4) _)
                              · refine x_bipush (pc2 := 273) C dL_acts_271 rfl bc_m5 ?_
                                refine x_goto (tgt := 298) C dL_acts_273 (by decide) ?_
                                exact x_wk [some (rv G a1), none, some (.int a3), some (.int v1), some (.int v5), none, none, none] ⟨Or.inr rfl, Or.inl rfl, Or.inr rfl, Or.inr rfl, Or.inr rfl, Or.inl rfl, Or.inl rfl, Or.inl rfl, trivial⟩ (hj63 (-5) _)
                          · refine x_ite (fun hs72 => ?_) (fun hs72 => ?_)
                            · refine x_tin (tgt := 329) C hs72 dL_acts_24 (by decide) (by decide) rfl (by decide) ?_
                              refine x_iload_n (pc2 := 330) C dL_acts_329 rfl rfl ?_
                              refine x_bipush (pc2 := 332) C dL_acts_330 rfl bc_8 ?_
                              refine x_ishr (pc2 := 333) C dL_acts_332 rfl ?_
                              refine x_iconst (pc2 := 334) C dL_acts_333 rfl ic_5 ?_
                              refine x_callSi (pc2 := 337) C [.int (a3 >>> ((8 : Int32) &&& 31)), .int 5] [] cl_L_73 (fun q hq => ctL_low  q hq) rfl rfl ⟨rfl, rfl, Nat.le_of_ble_eq_true rfl, Nat.le_of_ble_eq_true rfl⟩ (Nat.le_of_ble_eq_true rfl) ⟨Nat.zero_le _, Nat.zero_le _⟩ dL_acts_334 rfl (fun v73 M74 => ?_)
                              refine x_jn 357 (fun (b75 : Int32) => [some (rv G a1), none, none, none, some (.int v5), none, none, none]) (fun (b75 : Int32) => [.int b75]) ?_ ?_
                              · intro b75 M77
                                refine x_i2c (pc2 := 358) C dL_acts_357 rfl ?_
                                refine x_istore (pc2 := 360) C dL_acts_358 rfl [some (rv G a1), none, none, none, some (.int v5), some (.int (i2cv b75)), none, none] rfl rfl ?_
                                refine x_aload_n (pc2 := 361) C dL_acts_360 rfl rfl ?_
                                refine x_iload (pc2 := 363) C dL_acts_361 rfl rfl ?_
                                refine x_iconst (pc2 := 364) C dL_acts_363 rfl ic_4 ?_
                                refine x_callVi (pc2 := 367) C [.int v5, .int 4] [] cl_L_21 (fun q hq => ctX8_key hk1 q hq) hk1 rfl rfl rfl ⟨rfl, rfl, Nat.le_of_ble_eq_true rfl, Nat.le_of_ble_eq_true rfl⟩ (Nat.le_of_ble_eq_true rfl) ⟨Nat.zero_le _, Nat.zero_le _⟩ dL_acts_364 rfl (fun v78 M79 => ?_)
                                refine x_istore (pc2 := 369) C dL_acts_367 rfl [some (rv G a1), none, none, none, some (.int v5), some (.int (i2cv b75)), some (.int v78), none] rfl rfl ?_
                                refine x_iload (pc2 := 371) C dL_acts_369 rfl rfl ?_
                                refine x_iload (pc2 := 373) C dL_acts_371 rfl rfl ?_
                                refine x_jn 393 (fun (b80 : Int32) => [some (rv G a1), none, none, none, some (.int v5), some (.int (i2cv b75)), none, none]) (fun (b80 : Int32) => [.int b80]) ?_ ?_
                                · intro b80 M82
                                  refine x_istore (pc2 := 395) C dL_acts_393 rfl [some (rv G a1), none, none, none, some (.int v5), some (.int (i2cv b75)), none, some (.int b80)] rfl rfl ?_
                                  refine x_aload_n (pc2 := 396) C dL_acts_395 rfl rfl ?_
                                  refine x_iload (pc2 := 398) C dL_acts_396 rfl rfl ?_
                                  refine x_iload (pc2 := 400) C dL_acts_398 rfl rfl ?_
                                  refine x_callVi (pc2 := 403) C [.int v5, .int (i2cv b75)] [] cl_L_88 (fun q hq => ctX8_setSign hk1 q hq) hk1 rfl rfl rfl ⟨rfl, rfl, Nat.le_of_ble_eq_true rfl, Nat.le_of_ble_eq_true rfl⟩ (Nat.le_of_ble_eq_true rfl) ⟨Nat.zero_le _, Nat.zero_le _⟩ dL_acts_400 rfl (fun v83 M84 => ?_)
                                  refine x_iload (pc2 := 405) C dL_acts_403 rfl rfl ?_
                                  refine x_icmp_ne (tgt := 436) (pc2 := 408) C dL_acts_405 (by decide) rfl ?_ ?_
                                  · refine x_iconst (pc2 := 437) C dL_acts_436 rfl ic_0 ?_
                                    exact x_zret C rfl rfl rfl dL_acts_437
                                  · refine x_aload_n (pc2 := 409) C dL_acts_408 rfl rfl ?_
                                    refine x_iload (pc2 := 411) C dL_acts_409 rfl rfl ?_
                                    refine x_iconst (pc2 := 412) C dL_acts_411 rfl ic_4 ?_
                                    refine x_callVi (pc2 := 415) C [.int v5, .int 4] [] cl_L_21 (fun q hq => ctX8_key hk1 q hq) hk1 rfl rfl rfl ⟨rfl, rfl, Nat.le_of_ble_eq_true rfl, Nat.le_of_ble_eq_true rfl⟩ (Nat.le_of_ble_eq_true rfl) ⟨Nat.zero_le _, Nat.zero_le _⟩ dL_acts_412 rfl (fun v85 M86 => ?_)
                                    refine x_iload (pc2 := 417) C dL_acts_415 rfl rfl ?_
                                    refine x_icmp_ne (tgt := 436) (pc2 := 420) C dL_acts_417 (by decide) rfl ?_ ?_
                                    · refine x_iconst (pc2 := 437) C dL_acts_436 rfl ic_0 ?_
                                      exact x_zret C rfl rfl rfl dL_acts_437
                                    · refine x_aload_n (pc2 := 421) C dL_acts_420 rfl rfl ?_
                                      refine x_iload (pc2 := 423) C dL_acts_421 rfl rfl ?_
                                      refine x_iconst (pc2 := 424) C dL_acts_423 rfl ic_5 ?_
                                      refine x_callVi (pc2 := 427) C [.int v5, .int 5] [] cl_L_21 (fun q hq => ctX8_key hk1 q hq) hk1 rfl rfl rfl ⟨rfl, rfl, Nat.le_of_ble_eq_true rfl, Nat.le_of_ble_eq_true rfl⟩ (Nat.le_of_ble_eq_true rfl) ⟨Nat.zero_le _, Nat.zero_le _⟩ dL_acts_424 rfl (fun v87 M88 => ?_)
                                      refine x_bipush (pc2 := 429) C dL_acts_427 rfl bc_m5 ?_
                                      refine x_icmp_ne (tgt := 436) (pc2 := 432) C dL_acts_429 (by decide) rfl ?_ ?_
                                      · refine x_iconst (pc2 := 437) C dL_acts_436 rfl ic_0 ?_
                                        exact x_zret C rfl rfl rfl dL_acts_437
                                      · refine x_iconst (pc2 := 433) C dL_acts_432 rfl ic_1 ?_
                                        refine x_goto (tgt := 437) C dL_acts_433 (by decide) ?_
                                        exact x_zret C rfl rfl rfl dL_acts_437
                                · intro j81 hj81
                                  refine x_jn 391 (fun (b89 : Unit) => [some (rv G a1), none, none, none, some (.int v5), some (.int (i2cv b75)), some (.int v78), none]) (fun (b89 : Unit) => []) ?_ ?_
                                  · intro b89 M91
                                    refine x_iload (pc2 := 393) C dL_acts_391 rfl rfl ?_
                                    exact x_wk [some (rv G a1), none, none, none, some (.int v5), some (.int (i2cv b75)), none, none] ⟨Or.inr rfl, Or.inl rfl, Or.inl rfl, Or.inl rfl, Or.inr rfl, Or.inr rfl, Or.inl rfl, Or.inl rfl, trivial⟩ (hj81 v78 _)
                                  · intro j90 hj90
                                    refine x_icmp_ne (tgt := 391) (pc2 := 376) C dL_acts_373 (by decide) rfl ?_ ?_
                                    · exact x_wk [some (rv G a1), none, none, none, some (.int v5), some (.int (i2cv b75)), some (.int v78), none] ⟨Or.inr rfl, Or.inl rfl, Or.inl rfl, Or.inl rfl, Or.inr rfl, Or.inr rfl, Or.inr rfl, Or.inl rfl, trivial⟩ (hj90 () _)
                                    · refine x_aload_n (pc2 := 377) C dL_acts_376 rfl rfl ?_
                                      refine x_iload (pc2 := 379) C dL_acts_377 rfl rfl ?_
                                      refine x_iconst (pc2 := 380) C dL_acts_379 rfl ic_5 ?_
                                      refine x_callVi (pc2 := 383) C [.int v5, .int 5] [] cl_L_21 (fun q hq => ctX8_key hk1 q hq) hk1 rfl rfl rfl ⟨rfl, rfl, Nat.le_of_ble_eq_true rfl, Nat.le_of_ble_eq_true rfl⟩ (Nat.le_of_ble_eq_true rfl) ⟨Nat.zero_le _, Nat.zero_le _⟩ dL_acts_380 rfl (fun v92 M93 => ?_)
                                      refine x_if_ge (tgt := 391) (pc2 := 386) C dL_acts_383 (by decide) rfl ?_ ?_
                                      · exact x_wk [some (rv G a1), none, none, none, some (.int v5), some (.int (i2cv b75)), some (.int v78), none] ⟨Or.inr rfl, Or.inl rfl, Or.inl rfl, Or.inl rfl, Or.inr rfl, Or.inr rfl, Or.inr rfl, Or.inl rfl, trivial⟩ (hj90 () _)
                                      · refine x_bipush (pc2 := 388) C dL_acts_386 rfl bc_m5 ?_
                                        refine x_goto (tgt := 393) C dL_acts_388 (by decide) ?_
                                        exact x_wk [some (rv G a1), none, none, none, some (.int v5), some (.int (i2cv b75)), none, none] ⟨Or.inr rfl, Or.inl rfl, Or.inl rfl, Or.inl rfl, Or.inr rfl, Or.inr rfl, Or.inl rfl, Or.inl rfl, trivial⟩ (hj81 (-5) _)
                              · intro j76 hj76
                                refine x_if_ne (tgt := 345) (pc2 := 340) C dL_acts_337 (by decide) rfl ?_ ?_
                                · refine x_bipush (pc2 := 347) C dL_acts_345 rfl bc_97 ?_
                                  refine x_iload_n (pc2 := 348) C dL_acts_347 rfl rfl ?_
                                  refine x_bipush (pc2 := 350) C dL_acts_348 rfl bc_11 ?_
                                  refine x_ishr (pc2 := 351) C dL_acts_350 rfl ?_
                                  refine x_bipush (pc2 := 353) C dL_acts_351 rfl bc_26 ?_
                                  refine x_callSi (pc2 := 356) C [.int (a3 >>> ((11 : Int32) &&& 31)), .int 26] [.int 97] cl_L_73 (fun q hq => ctL_low  q hq) rfl rfl ⟨rfl, rfl, Nat.le_of_ble_eq_true rfl, Nat.le_of_ble_eq_true rfl⟩ (Nat.le_of_ble_eq_true rfl) ⟨Nat.zero_le _, Nat.zero_le _⟩ dL_acts_353 rfl (fun v94 M95 => ?_)
                                  refine x_iadd (pc2 := 357) C dL_acts_356 rfl ?_
                                  exact x_wk [some (rv G a1), none, none, none, some (.int v5), none, none, none] ⟨Or.inr rfl, Or.inl rfl, Or.inl rfl, Or.inl rfl, Or.inr rfl, Or.inl rfl, Or.inl rfl, Or.inl rfl, trivial⟩ (hj76 (97 + v94) _)
                                · refine x_bipush (pc2 := 342) C dL_acts_340 rfl bc_46 ?_
                                  refine x_goto (tgt := 357) C dL_acts_342 (by decide) ?_
                                  exact x_wk [some (rv G a1), none, none, none, some (.int v5), none, none, none] ⟨Or.inr rfl, Or.inl rfl, Or.inl rfl, Or.inl rfl, Or.inr rfl, Or.inl rfl, Or.inl rfl, Or.inl rfl, trivial⟩ (hj76 46 _)
                            · refine x_tout (tgt := 438) C dL_acts_24 (by have t0 := lv_neT (a := 0) hs48 rfl; have t1 := lv_neT (a := 1) hs49 rfl; have t2 := lv_neT (a := 2) hs50 rfl; have t3 := lv_neT (a := 3) hs51 rfl; have t4 := lv_neT (a := 4) hs52 rfl; have t5 := lv_neT (a := 5) hs53 rfl; have t6 := lv_neT (a := 6) hs54 rfl; have t7 := lv_neT (a := 7) hs55 rfl; have t8 := lv_neT (a := 8) hs56 rfl; have t9 := lv_neT (a := 9) hs57 rfl; have t10 := lv_neT (a := 10) hs72 rfl; omega) (by decide) ?_
                              refine x_aload_n (pc2 := 439) C dL_acts_438 rfl rfl ?_
                              refine x_iload_n (pc2 := 440) C dL_acts_439 rfl rfl ?_
                              refine x_bipush (pc2 := 442) C dL_acts_440 rfl bc_22 ?_
                              refine x_callSi (pc2 := 445) C [.int a3, .int 22] [rv G a1] cl_L_73 (fun q hq => ctL_low  q hq) rfl rfl ⟨rfl, rfl, Nat.le_of_ble_eq_true rfl, Nat.le_of_ble_eq_true rfl⟩ (Nat.le_of_ble_eq_true rfl) ⟨Nat.zero_le _, Nat.zero_le _⟩ dL_acts_442 rfl (fun v96 M97 => ?_)
                              refine x_iload_n (pc2 := 446) C dL_acts_445 rfl rfl ?_
                              refine x_bipush (pc2 := 448) C dL_acts_446 rfl bc_6 ?_
                              refine x_ishr (pc2 := 449) C dL_acts_448 rfl ?_
                              refine x_iconst (pc2 := 450) C dL_acts_449 rfl ic_3 ?_
                              refine x_callSi (pc2 := 453) C [.int (a3 >>> ((6 : Int32) &&& 31)), .int 3] [.int v96, rv G a1] cl_L_73 (fun q hq => ctL_low  q hq) rfl rfl ⟨rfl, rfl, Nat.le_of_ble_eq_true rfl, Nat.le_of_ble_eq_true rfl⟩ (Nat.le_of_ble_eq_true rfl) ⟨Nat.zero_le _, Nat.zero_le _⟩ dL_acts_450 rfl (fun v98 M99 => ?_)
                              refine x_callSi (pc2 := 456) C [rv G a1, .int v96, .int v98] [] cl_L_92 (fun q hq => ctL_settles hk1 q hq) rfl rfl ⟨rfl, rfl, Nat.le_of_ble_eq_true rfl, Nat.le_of_ble_eq_true rfl⟩ (Nat.le_of_ble_eq_true rfl) ⟨Nat.zero_le _, Nat.zero_le _⟩ dL_acts_453 rfl (fun v100 M101 => ?_)
                              exact x_asr (fun hb => x_zret C rfl rfl (bzb_nar hb).1 dL_acts_456)
set_option maxRecDepth 100000 in
set_option maxHeartbeats 4000000 in
theorem ctL_errors {l : Launch} {G : bkG} {M : Mem} {a1 : Nat} (hk1 : kd a1 = 7) : ∀ r, fL_errors a1 M = some r → Met l yL_errors (Cond.code yL_errors cL_errors 6 (some .boolean) :: TT) ({ frames := 7, cells := 0, slots := 0, locals := 173 } : Room) (va_Pc [rv G a1] (Wd G M)) (QQ G ((fun v => some (.int v)) r.1) r.2) 0 0 (An G) := by
  refine mkMet (vl := (fun v => some (.int v))) RL rfl (by decide +kernel) rfl (Nat.le_of_ble_eq_true rfl) [some (rv G a1), none, none, none, none, none] rfl ?_
  intro p e s m args below meth c C _
  refine x_aload_n (pc2 := 1) C dL_errors_0 rfl rfl ?_
  refine x_iconst (pc2 := 2) C dL_errors_1 rfl ic_2 ?_
  refine x_iconst (pc2 := 3) C dL_errors_2 rfl ic_0 ?_
  refine x_callVi (pc2 := 6) C [.int 2, .int 0] [] cl_L_76 (fun q hq => ctX8_press hk1 q hq) hk1 rfl rfl rfl ⟨rfl, rfl, Nat.le_of_ble_eq_true rfl, Nat.le_of_ble_eq_true rfl⟩ (Nat.le_of_ble_eq_true rfl) ⟨Nat.zero_le _, Nat.zero_le _⟩ dL_errors_3 rfl (fun v1 M2 => ?_)
  refine x_iconst (pc2 := 7) C dL_errors_6 rfl ic_m1 ?_
  refine x_jn 101 (fun (b3 : Int32) => [some (rv G a1), none, none, none, none, none]) (fun (b3 : Int32) => [.int b3]) ?_ ?_
  · intro b3 M5
    refine x_istore_n (pc2 := 102) C dL_errors_101 rfl [some (rv G a1), some (.int b3), none, none, none, none] rfl rfl ?_
    refine x_aload_n (pc2 := 103) C dL_errors_102 rfl rfl ?_
    refine x_iconst (pc2 := 104) C dL_errors_103 rfl ic_2 ?_
    refine x_iconst (pc2 := 105) C dL_errors_104 rfl ic_0 ?_
    refine x_callVf (pc2 := 108) C [.int 2, .int 0] [] cl_L_52 (fun q hq => ctX8_style hk1 q hq) hk1 rfl rfl rfl ⟨rfl, rfl, Nat.le_of_ble_eq_true rfl, Nat.le_of_ble_eq_true rfl⟩ (Nat.le_of_ble_eq_true rfl) ⟨Nat.zero_le _, Nat.zero_le _⟩ dL_errors_105 rfl (fun v6 M7 => ?_)
    refine x_fstore_n (pc2 := 109) C dL_errors_108 rfl [some (rv G a1), some (.int b3), some (.float v6), none, none, none] rfl rfl ?_
    refine x_aload_n (pc2 := 110) C dL_errors_109 rfl rfl ?_
    refine x_iconst (pc2 := 111) C dL_errors_110 rfl ic_0 ?_
    refine x_iconst (pc2 := 112) C dL_errors_111 rfl ic_m1 ?_
    refine x_iconst (pc2 := 113) C dL_errors_112 rfl ic_0 ?_
    refine x_callVf (pc2 := 116) C [.int 0, .int (-1), .int 0] [] cl_L_39 (fun q hq => ctX8_distance hk1 q hq) hk1 rfl rfl rfl ⟨rfl, rfl, Nat.le_of_ble_eq_true rfl, Nat.le_of_ble_eq_true rfl⟩ (Nat.le_of_ble_eq_true rfl) ⟨Nat.zero_le _, Nat.zero_le _⟩ dL_errors_113 rfl (fun v8 M9 => ?_)
    refine x_fstore_n (pc2 := 117) C dL_errors_116 rfl [some (rv G a1), some (.int b3), some (.float v6), some (.float v8), none, none] rfl rfl ?_
    refine x_iload_n (pc2 := 118) C dL_errors_117 rfl rfl ?_
    refine x_jn 220 (fun (b10 : Int32) => [some (rv G a1), none, none, none, none, none]) (fun (b10 : Int32) => [.int b10]) ?_ ?_
    · intro b10 M12
      refine x_istore_n (pc2 := 221) C dL_errors_220 rfl [some (rv G a1), some (.int b10), none, none, none, none] rfl rfl ?_
      refine x_aload_n (pc2 := 222) C dL_errors_221 rfl rfl ?_
      refine x_callVi (pc2 := 225) C [] [] cl_L_105 (fun q hq => ctX8_clearText hk1 q hq) hk1 rfl rfl rfl ⟨rfl, rfl, Nat.le_of_ble_eq_true rfl, Nat.le_of_ble_eq_true rfl⟩ (Nat.le_of_ble_eq_true rfl) ⟨Nat.zero_le _, Nat.zero_le _⟩ dL_errors_222 rfl (fun v13 M14 => ?_)
      refine x_pop (pc2 := 226) C dL_errors_225 rfl rfl ?_
      refine x_iload_n (pc2 := 227) C dL_errors_226 rfl rfl ?_
      refine x_jn 244 (fun (b15 : Int32) => [some (rv G a1), none, none, none, none, none]) (fun (b15 : Int32) => [.int b15]) ?_ ?_
      · intro b15 M17
        refine x_istore_n (pc2 := 245) C dL_errors_244 rfl [some (rv G a1), some (.int b15), none, none, none, none] rfl rfl ?_
        refine x_aload_n (pc2 := 246) C dL_errors_245 rfl rfl ?_
        refine x_bipush (pc2 := 248) C dL_errors_246 rfl bc_116 ?_
        refine x_callVi (pc2 := 251) C [.int 116] [] cl_L_112 (fun q hq => ctX8_type hk1 q hq) hk1 rfl rfl rfl ⟨rfl, rfl, Nat.le_of_ble_eq_true rfl, Nat.le_of_ble_eq_true rfl⟩ (Nat.le_of_ble_eq_true rfl) ⟨Nat.zero_le _, Nat.zero_le _⟩ dL_errors_248 rfl (fun v18 M19 => ?_)
        refine x_pop (pc2 := 252) C dL_errors_251 rfl rfl ?_
        refine x_iload_n (pc2 := 253) C dL_errors_252 rfl rfl ?_
        refine x_jn 270 (fun (b20 : Int32) => [some (rv G a1), none, none, none, none, none]) (fun (b20 : Int32) => [.int b20]) ?_ ?_
        · intro b20 M22
          refine x_istore_n (pc2 := 271) C dL_errors_270 rfl [some (rv G a1), some (.int b20), none, none, none, none] rfl rfl ?_
          refine x_aload_n (pc2 := 272) C dL_errors_271 rfl rfl ?_
          refine x_bipush (pc2 := 274) C dL_errors_272 rfl bc_48 ?_
          refine x_callVi (pc2 := 277) C [.int 48] [] cl_L_112 (fun q hq => ctX8_type hk1 q hq) hk1 rfl rfl rfl ⟨rfl, rfl, Nat.le_of_ble_eq_true rfl, Nat.le_of_ble_eq_true rfl⟩ (Nat.le_of_ble_eq_true rfl) ⟨Nat.zero_le _, Nat.zero_le _⟩ dL_errors_274 rfl (fun v23 M24 => ?_)
          refine x_pop (pc2 := 278) C dL_errors_277 rfl rfl ?_
          refine x_iload_n (pc2 := 279) C dL_errors_278 rfl rfl ?_
          refine x_jn 304 (fun (b25 : Int32) => [some (rv G a1), none, none, none, none, none]) (fun (b25 : Int32) => [.int b25]) ?_ ?_
          · intro b25 M27
            refine x_istore_n (pc2 := 305) C dL_errors_304 rfl [some (rv G a1), some (.int b25), none, none, none, none] rfl rfl ?_
            refine x_aload_n (pc2 := 306) C dL_errors_305 rfl rfl ?_
            refine x_bipush (pc2 := 308) C dL_errors_306 rfl bc_48 ?_
            refine x_callVi (pc2 := 311) C [.int 48] [] cl_L_112 (fun q hq => ctX8_type hk1 q hq) hk1 rfl rfl rfl ⟨rfl, rfl, Nat.le_of_ble_eq_true rfl, Nat.le_of_ble_eq_true rfl⟩ (Nat.le_of_ble_eq_true rfl) ⟨Nat.zero_le _, Nat.zero_le _⟩ dL_errors_308 rfl (fun v28 M29 => ?_)
            refine x_pop (pc2 := 312) C dL_errors_311 rfl rfl ?_
            refine x_aload_n (pc2 := 313) C dL_errors_312 rfl rfl ?_
            refine x_bipush (pc2 := 315) C dL_errors_313 rfl bc_100 ?_
            refine x_callVi (pc2 := 318) C [.int 100] [] cl_L_112 (fun q hq => ctX8_type hk1 q hq) hk1 rfl rfl rfl ⟨rfl, rfl, Nat.le_of_ble_eq_true rfl, Nat.le_of_ble_eq_true rfl⟩ (Nat.le_of_ble_eq_true rfl) ⟨Nat.zero_le _, Nat.zero_le _⟩ dL_errors_315 rfl (fun v30 M31 => ?_)
            refine x_pop (pc2 := 319) C dL_errors_318 rfl rfl ?_
            refine x_aload_n (pc2 := 320) C dL_errors_319 rfl rfl ?_
            refine x_bipush (pc2 := 322) C dL_errors_320 rfl bc_48 ?_
            refine x_callVi (pc2 := 325) C [.int 48] [] cl_L_112 (fun q hq => ctX8_type hk1 q hq) hk1 rfl rfl rfl ⟨rfl, rfl, Nat.le_of_ble_eq_true rfl, Nat.le_of_ble_eq_true rfl⟩ (Nat.le_of_ble_eq_true rfl) ⟨Nat.zero_le _, Nat.zero_le _⟩ dL_errors_322 rfl (fun v32 M33 => ?_)
            refine x_pop (pc2 := 326) C dL_errors_325 rfl rfl ?_
            refine x_aload_n (pc2 := 327) C dL_errors_326 rfl rfl ?_
            refine x_bipush (pc2 := 329) C dL_errors_327 rfl bc_53 ?_
            refine x_callVi (pc2 := 332) C [.int 53] [] cl_L_112 (fun q hq => ctX8_type hk1 q hq) hk1 rfl rfl rfl ⟨rfl, rfl, Nat.le_of_ble_eq_true rfl, Nat.le_of_ble_eq_true rfl⟩ (Nat.le_of_ble_eq_true rfl) ⟨Nat.zero_le _, Nat.zero_le _⟩ dL_errors_329 rfl (fun v34 M35 => ?_)
            refine x_pop (pc2 := 333) C dL_errors_332 rfl rfl ?_
            refine x_iload_n (pc2 := 334) C dL_errors_333 rfl rfl ?_
            refine x_jn 372 (fun (b36 : Int32) => [some (rv G a1), none, none, none, none, none]) (fun (b36 : Int32) => [.int b36]) ?_ ?_
            · intro b36 M38
              refine x_istore_n (pc2 := 373) C dL_errors_372 rfl [some (rv G a1), some (.int b36), none, none, none, none] rfl rfl ?_
              refine x_aload_n (pc2 := 374) C dL_errors_373 rfl rfl ?_
              refine x_iconst (pc2 := 375) C dL_errors_374 rfl ic_0 ?_
              refine x_callVi (pc2 := 378) C [.int 0] [] cl_L_9 (fun q hq => ctX8_count hk1 q hq) hk1 rfl rfl rfl ⟨rfl, rfl, Nat.le_of_ble_eq_true rfl, Nat.le_of_ble_eq_true rfl⟩ (Nat.le_of_ble_eq_true rfl) ⟨Nat.zero_le _, Nat.zero_le _⟩ dL_errors_375 rfl (fun v39 M40 => ?_)
              refine x_istore (pc2 := 380) C dL_errors_378 rfl [some (rv G a1), some (.int b36), none, none, some (.int v39), none] rfl rfl ?_
              refine x_aload_n (pc2 := 381) C dL_errors_380 rfl rfl ?_
              refine x_bipush (pc2 := 383) C dL_errors_381 rfl bc_14 ?_
              refine x_callVi (pc2 := 386) C [.int 14] [] cl_L_9 (fun q hq => ctX8_count hk1 q hq) hk1 rfl rfl rfl ⟨rfl, rfl, Nat.le_of_ble_eq_true rfl, Nat.le_of_ble_eq_true rfl⟩ (Nat.le_of_ble_eq_true rfl) ⟨Nat.zero_le _, Nat.zero_le _⟩ dL_errors_383 rfl (fun v41 M42 => ?_)
              refine x_istore (pc2 := 388) C dL_errors_386 rfl [some (rv G a1), some (.int b36), none, none, some (.int v39), some (.int v41)] rfl rfl ?_
              refine x_iload_n (pc2 := 389) C dL_errors_388 rfl rfl ?_
              refine x_if_eq (tgt := 427) (pc2 := 392) C dL_errors_389 (by decide) rfl ?_ ?_
              · refine x_iconst (pc2 := 428) C dL_errors_427 rfl ic_0 ?_
                exact x_zret C rfl rfl rfl dL_errors_428
              · refine x_aload_n (pc2 := 393) C dL_errors_392 rfl rfl ?_
                refine x_callVi (pc2 := 396) C [] [] cl_L_116 (fun q hq => ctX8_undo hk1 q hq) hk1 rfl rfl rfl ⟨rfl, rfl, Nat.le_of_ble_eq_true rfl, Nat.le_of_ble_eq_true rfl⟩ (Nat.le_of_ble_eq_true rfl) ⟨Nat.zero_le _, Nat.zero_le _⟩ dL_errors_393 rfl (fun v43 M44 => ?_)
                refine x_iload (pc2 := 398) C dL_errors_396 rfl rfl ?_
                refine x_jn 410 (fun (b45 : Int32) => [some (rv G a1), none, none, none, some (.int v39), none]) (fun (b45 : Int32) => [.int b45, .int v43]) ?_ ?_
                · intro b45 M47
                  refine x_icmp_ne (tgt := 427) (pc2 := 413) C dL_errors_410 (by decide) rfl ?_ ?_
                  · refine x_iconst (pc2 := 428) C dL_errors_427 rfl ic_0 ?_
                    exact x_zret C rfl rfl rfl dL_errors_428
                  · refine x_aload_n (pc2 := 414) C dL_errors_413 rfl rfl ?_
                    refine x_iconst (pc2 := 415) C dL_errors_414 rfl ic_0 ?_
                    refine x_callVi (pc2 := 418) C [.int 0] [] cl_L_9 (fun q hq => ctX8_count hk1 q hq) hk1 rfl rfl rfl ⟨rfl, rfl, Nat.le_of_ble_eq_true rfl, Nat.le_of_ble_eq_true rfl⟩ (Nat.le_of_ble_eq_true rfl) ⟨Nat.zero_le _, Nat.zero_le _⟩ dL_errors_415 rfl (fun v48 M49 => ?_)
                    refine x_iload (pc2 := 420) C dL_errors_418 rfl rfl ?_
                    refine x_icmp_gt (tgt := 427) (pc2 := 423) C dL_errors_420 (by decide) rfl ?_ ?_
                    · refine x_iconst (pc2 := 428) C dL_errors_427 rfl ic_0 ?_
                      exact x_zret C rfl rfl rfl dL_errors_428
                    · refine x_iconst (pc2 := 424) C dL_errors_423 rfl ic_1 ?_
                      refine x_goto (tgt := 428) C dL_errors_424 (by decide) ?_
                      exact x_zret C rfl rfl rfl dL_errors_428
                · intro j46 hj46
                  refine x_if_le (tgt := 408) (pc2 := 401) C dL_errors_398 (by decide) rfl ?_ ?_
                  · refine x_bipush (pc2 := 410) C dL_errors_408 rfl bc_m5 ?_
                    exact x_wk [some (rv G a1), none, none, none, some (.int v39), none] ⟨Or.inr rfl, Or.inl rfl, Or.inl rfl, Or.inl rfl, Or.inr rfl, Or.inl rfl, trivial⟩ (hj46 (-5) _)
                  · refine x_iload (pc2 := 403) C dL_errors_401 rfl rfl ?_
                    refine x_iconst (pc2 := 404) C dL_errors_403 rfl ic_1 ?_
                    refine x_isub (pc2 := 405) C dL_errors_404 rfl ?_
                    refine x_goto (tgt := 410) C dL_errors_405 (by decide) ?_
                    exact x_wk [some (rv G a1), none, none, none, some (.int v39), none] ⟨Or.inr rfl, Or.inl rfl, Or.inl rfl, Or.inl rfl, Or.inr rfl, Or.inl rfl, trivial⟩ (hj46 (v41 - 1) _)
            · intro j37 hj37
              refine x_jn 371 (fun (b50 : Unit) => [some (rv G a1), none, none, none, none, none]) (fun (b50 : Unit) => []) ?_ ?_
              · intro b50 M52
                refine x_iconst (pc2 := 372) C dL_errors_371 rfl ic_0 ?_
                exact x_wk [some (rv G a1), none, none, none, none, none] ⟨Or.inr rfl, Or.inl rfl, Or.inl rfl, Or.inl rfl, Or.inl rfl, Or.inl rfl, trivial⟩ (hj37 0 _)
              · intro j51 hj51
                refine x_if_eq (tgt := 371) (pc2 := 337) C dL_errors_334 (by decide) rfl ?_ ?_
                · exact x_wk [some (rv G a1), none, none, none, none, none] ⟨Or.inr rfl, Or.inl rfl, Or.inl rfl, Or.inl rfl, Or.inl rfl, Or.inl rfl, trivial⟩ (hj51 () _)
                · refine x_aload_n (pc2 := 338) C dL_errors_337 rfl rfl ?_
                  refine x_callVi (pc2 := 341) C [] [] cl_L_109 (fun q hq => ctX8_perform hk1 q hq) hk1 rfl rfl rfl ⟨rfl, rfl, Nat.le_of_ble_eq_true rfl, Nat.le_of_ble_eq_true rfl⟩ (Nat.le_of_ble_eq_true rfl) ⟨Nat.zero_le _, Nat.zero_le _⟩ dL_errors_338 rfl (fun v53 M54 => ?_)
                  refine x_bipush (pc2 := 343) C dL_errors_341 rfl bc_m103 ?_
                  refine x_icmp_ne (tgt := 371) (pc2 := 346) C dL_errors_343 (by decide) rfl ?_ ?_
                  · exact x_wk [some (rv G a1), none, none, none, none, none] ⟨Or.inr rfl, Or.inl rfl, Or.inl rfl, Or.inl rfl, Or.inl rfl, Or.inl rfl, trivial⟩ (hj51 () _)
                  · refine x_aload_n (pc2 := 347) C dL_errors_346 rfl rfl ?_
                    refine x_bipush (pc2 := 349) C dL_errors_347 rfl bc_15 ?_
                    refine x_callVi (pc2 := 352) C [.int 15] [] cl_L_9 (fun q hq => ctX8_count hk1 q hq) hk1 rfl rfl rfl ⟨rfl, rfl, Nat.le_of_ble_eq_true rfl, Nat.le_of_ble_eq_true rfl⟩ (Nat.le_of_ble_eq_true rfl) ⟨Nat.zero_le _, Nat.zero_le _⟩ dL_errors_349 rfl (fun v55 M56 => ?_)
                    refine x_iconst (pc2 := 353) C dL_errors_352 rfl ic_4 ?_
                    refine x_icmp_ne (tgt := 371) (pc2 := 356) C dL_errors_353 (by decide) rfl ?_ ?_
                    · exact x_wk [some (rv G a1), none, none, none, none, none] ⟨Or.inr rfl, Or.inl rfl, Or.inl rfl, Or.inl rfl, Or.inl rfl, Or.inl rfl, trivial⟩ (hj51 () _)
                    · refine x_aload_n (pc2 := 357) C dL_errors_356 rfl rfl ?_
                      refine x_bipush (pc2 := 359) C dL_errors_357 rfl bc_16 ?_
                      refine x_callVi (pc2 := 362) C [.int 16] [] cl_L_9 (fun q hq => ctX8_count hk1 q hq) hk1 rfl rfl rfl ⟨rfl, rfl, Nat.le_of_ble_eq_true rfl, Nat.le_of_ble_eq_true rfl⟩ (Nat.le_of_ble_eq_true rfl) ⟨Nat.zero_le _, Nat.zero_le _⟩ dL_errors_359 rfl (fun v57 M58 => ?_)
                      refine x_bipush (pc2 := 364) C dL_errors_362 rfl bc_m2 ?_
                      refine x_icmp_ne (tgt := 371) (pc2 := 367) C dL_errors_364 (by decide) rfl ?_ ?_
                      · exact x_wk [some (rv G a1), none, none, none, none, none] ⟨Or.inr rfl, Or.inl rfl, Or.inl rfl, Or.inl rfl, Or.inl rfl, Or.inl rfl, trivial⟩ (hj51 () _)
                      · refine x_iconst (pc2 := 368) C dL_errors_367 rfl ic_1 ?_
                        refine x_goto (tgt := 372) C dL_errors_368 (by decide) ?_
                        exact x_wk [some (rv G a1), none, none, none, none, none] ⟨Or.inr rfl, Or.inl rfl, Or.inl rfl, Or.inl rfl, Or.inl rfl, Or.inl rfl, trivial⟩ (hj37 1 _)
          · intro j26 hj26
            refine x_jn 303 (fun (b59 : Unit) => [some (rv G a1), none, none, none, none, none]) (fun (b59 : Unit) => []) ?_ ?_
            · intro b59 M61
              refine x_iconst (pc2 := 304) C dL_errors_303 rfl ic_0 ?_
              exact x_wk [some (rv G a1), none, none, none, none, none] ⟨Or.inr rfl, Or.inl rfl, Or.inl rfl, Or.inl rfl, Or.inl rfl, Or.inl rfl, trivial⟩ (hj26 0 _)
            · intro j60 hj60
              refine x_if_eq (tgt := 303) (pc2 := 282) C dL_errors_279 (by decide) rfl ?_ ?_
              · exact x_wk [some (rv G a1), none, none, none, none, none] ⟨Or.inr rfl, Or.inl rfl, Or.inl rfl, Or.inl rfl, Or.inl rfl, Or.inl rfl, trivial⟩ (hj60 () _)
              · refine x_aload_n (pc2 := 283) C dL_errors_282 rfl rfl ?_
                refine x_callVi (pc2 := 286) C [] [] cl_L_109 (fun q hq => ctX8_perform hk1 q hq) hk1 rfl rfl rfl ⟨rfl, rfl, Nat.le_of_ble_eq_true rfl, Nat.le_of_ble_eq_true rfl⟩ (Nat.le_of_ble_eq_true rfl) ⟨Nat.zero_le _, Nat.zero_le _⟩ dL_errors_283 rfl (fun v62 M63 => ?_)
                refine x_bipush (pc2 := 288) C dL_errors_286 rfl bc_m101 ?_
                refine x_icmp_ne (tgt := 303) (pc2 := 291) C dL_errors_288 (by decide) rfl ?_ ?_
                · exact x_wk [some (rv G a1), none, none, none, none, none] ⟨Or.inr rfl, Or.inl rfl, Or.inl rfl, Or.inl rfl, Or.inl rfl, Or.inl rfl, trivial⟩ (hj60 () _)
                · refine x_aload_n (pc2 := 292) C dL_errors_291 rfl rfl ?_
                  refine x_callVi (pc2 := 295) C [] [] cl_L_105 (fun q hq => ctX8_clearText hk1 q hq) hk1 rfl rfl rfl ⟨rfl, rfl, Nat.le_of_ble_eq_true rfl, Nat.le_of_ble_eq_true rfl⟩ (Nat.le_of_ble_eq_true rfl) ⟨Nat.zero_le _, Nat.zero_le _⟩ dL_errors_292 rfl (fun v64 M65 => ?_)
                  refine x_iconst (pc2 := 296) C dL_errors_295 rfl ic_2 ?_
                  refine x_icmp_ne (tgt := 303) (pc2 := 299) C dL_errors_296 (by decide) rfl ?_ ?_
                  · exact x_wk [some (rv G a1), none, none, none, none, none] ⟨Or.inr rfl, Or.inl rfl, Or.inl rfl, Or.inl rfl, Or.inl rfl, Or.inl rfl, trivial⟩ (hj60 () _)
                  · refine x_iconst (pc2 := 300) C dL_errors_299 rfl ic_1 ?_
                    refine x_goto (tgt := 304) C dL_errors_300 (by decide) ?_
                    exact x_wk [some (rv G a1), none, none, none, none, none] ⟨Or.inr rfl, Or.inl rfl, Or.inl rfl, Or.inl rfl, Or.inl rfl, Or.inl rfl, trivial⟩ (hj26 1 _)
        · intro j21 hj21
          refine x_jn 269 (fun (b66 : Unit) => [some (rv G a1), none, none, none, none, none]) (fun (b66 : Unit) => []) ?_ ?_
          · intro b66 M68
            refine x_iconst (pc2 := 270) C dL_errors_269 rfl ic_0 ?_
            exact x_wk [some (rv G a1), none, none, none, none, none] ⟨Or.inr rfl, Or.inl rfl, Or.inl rfl, Or.inl rfl, Or.inl rfl, Or.inl rfl, trivial⟩ (hj21 0 _)
          · intro j67 hj67
            refine x_if_eq (tgt := 269) (pc2 := 256) C dL_errors_253 (by decide) rfl ?_ ?_
            · exact x_wk [some (rv G a1), none, none, none, none, none] ⟨Or.inr rfl, Or.inl rfl, Or.inl rfl, Or.inl rfl, Or.inl rfl, Or.inl rfl, trivial⟩ (hj67 () _)
            · refine x_aload_n (pc2 := 257) C dL_errors_256 rfl rfl ?_
              refine x_callVi (pc2 := 260) C [] [] cl_L_109 (fun q hq => ctX8_perform hk1 q hq) hk1 rfl rfl rfl ⟨rfl, rfl, Nat.le_of_ble_eq_true rfl, Nat.le_of_ble_eq_true rfl⟩ (Nat.le_of_ble_eq_true rfl) ⟨Nat.zero_le _, Nat.zero_le _⟩ dL_errors_257 rfl (fun v69 M70 => ?_)
              refine x_bipush (pc2 := 262) C dL_errors_260 rfl bc_m101 ?_
              refine x_icmp_ne (tgt := 269) (pc2 := 265) C dL_errors_262 (by decide) rfl ?_ ?_
              · exact x_wk [some (rv G a1), none, none, none, none, none] ⟨Or.inr rfl, Or.inl rfl, Or.inl rfl, Or.inl rfl, Or.inl rfl, Or.inl rfl, trivial⟩ (hj67 () _)
              · refine x_iconst (pc2 := 266) C dL_errors_265 rfl ic_1 ?_
                refine x_goto (tgt := 270) C dL_errors_266 (by decide) ?_
                exact x_wk [some (rv G a1), none, none, none, none, none] ⟨Or.inr rfl, Or.inl rfl, Or.inl rfl, Or.inl rfl, Or.inl rfl, Or.inl rfl, trivial⟩ (hj21 1 _)
      · intro j16 hj16
        refine x_jn 243 (fun (b71 : Unit) => [some (rv G a1), none, none, none, none, none]) (fun (b71 : Unit) => []) ?_ ?_
        · intro b71 M73
          refine x_iconst (pc2 := 244) C dL_errors_243 rfl ic_0 ?_
          exact x_wk [some (rv G a1), none, none, none, none, none] ⟨Or.inr rfl, Or.inl rfl, Or.inl rfl, Or.inl rfl, Or.inl rfl, Or.inl rfl, trivial⟩ (hj16 0 _)
        · intro j72 hj72
          refine x_if_eq (tgt := 243) (pc2 := 230) C dL_errors_227 (by decide) rfl ?_ ?_
          · exact x_wk [some (rv G a1), none, none, none, none, none] ⟨Or.inr rfl, Or.inl rfl, Or.inl rfl, Or.inl rfl, Or.inl rfl, Or.inl rfl, trivial⟩ (hj72 () _)
          · refine x_aload_n (pc2 := 231) C dL_errors_230 rfl rfl ?_
            refine x_callVi (pc2 := 234) C [] [] cl_L_109 (fun q hq => ctX8_perform hk1 q hq) hk1 rfl rfl rfl ⟨rfl, rfl, Nat.le_of_ble_eq_true rfl, Nat.le_of_ble_eq_true rfl⟩ (Nat.le_of_ble_eq_true rfl) ⟨Nat.zero_le _, Nat.zero_le _⟩ dL_errors_231 rfl (fun v74 M75 => ?_)
            refine x_bipush (pc2 := 236) C dL_errors_234 rfl bc_m100 ?_
            refine x_icmp_ne (tgt := 243) (pc2 := 239) C dL_errors_236 (by decide) rfl ?_ ?_
            · exact x_wk [some (rv G a1), none, none, none, none, none] ⟨Or.inr rfl, Or.inl rfl, Or.inl rfl, Or.inl rfl, Or.inl rfl, Or.inl rfl, trivial⟩ (hj72 () _)
            · refine x_iconst (pc2 := 240) C dL_errors_239 rfl ic_1 ?_
              refine x_goto (tgt := 244) C dL_errors_240 (by decide) ?_
              exact x_wk [some (rv G a1), none, none, none, none, none] ⟨Or.inr rfl, Or.inl rfl, Or.inl rfl, Or.inl rfl, Or.inl rfl, Or.inl rfl, trivial⟩ (hj16 1 _)
    · intro j11 hj11
      refine x_jn 219 (fun (b76 : Unit) => [some (rv G a1), none, none, none, none, none]) (fun (b76 : Unit) => []) ?_ ?_
      · intro b76 M78
        refine x_iconst (pc2 := 220) C dL_errors_219 rfl ic_0 ?_
        exact x_wk [some (rv G a1), none, none, none, none, none] ⟨Or.inr rfl, Or.inl rfl, Or.inl rfl, Or.inl rfl, Or.inl rfl, Or.inl rfl, trivial⟩ (hj11 0 _)
      · intro j77 hj77
        refine x_if_eq (tgt := 219) (pc2 := 121) C dL_errors_118 (by decide) rfl ?_ ?_
        · exact x_wk [some (rv G a1), none, none, none, none, none] ⟨Or.inr rfl, Or.inl rfl, Or.inl rfl, Or.inl rfl, Or.inl rfl, Or.inl rfl, trivial⟩ (hj77 () _)
        · refine x_fload_n (pc2 := 122) C dL_errors_121 rfl rfl ?_
          refine x_fload_n (pc2 := 123) C dL_errors_122 rfl rfl ?_
          refine x_fcmpl (pc2 := 124) C dL_errors_123 rfl ?_
          refine x_if_eq (tgt := 219) (pc2 := 127) C dL_errors_124 (by decide) rfl ?_ ?_
          · exact x_wk [some (rv G a1), none, none, none, none, none] ⟨Or.inr rfl, Or.inl rfl, Or.inl rfl, Or.inl rfl, Or.inl rfl, Or.inl rfl, trivial⟩ (hj77 () _)
          · refine x_fload_n (pc2 := 128) C dL_errors_127 rfl rfl ?_
            refine x_fload_n (pc2 := 129) C dL_errors_128 rfl rfl ?_
            refine x_fcmpl (pc2 := 130) C dL_errors_129 rfl ?_
            refine x_if_eq (tgt := 219) (pc2 := 133) C dL_errors_130 (by decide) rfl ?_ ?_
            · exact x_wk [some (rv G a1), none, none, none, none, none] ⟨Or.inr rfl, Or.inl rfl, Or.inl rfl, Or.inl rfl, Or.inl rfl, Or.inl rfl, trivial⟩ (hj77 () _)
            · refine x_aload_n (pc2 := 134) C dL_errors_133 rfl rfl ?_
              refine x_iconst (pc2 := 135) C dL_errors_134 rfl ic_3 ?_
              refine x_iconst (pc2 := 136) C dL_errors_135 rfl ic_0 ?_
              refine x_callVi (pc2 := 139) C [.int 3, .int 0] [] cl_L_98 (fun q hq => ctX8_set hk1 q hq) hk1 rfl rfl rfl ⟨rfl, rfl, Nat.le_of_ble_eq_true rfl, Nat.le_of_ble_eq_true rfl⟩ (Nat.le_of_ble_eq_true rfl) ⟨Nat.zero_le _, Nat.zero_le _⟩ dL_errors_136 rfl (fun v79 M80 => ?_)
              refine x_bipush (pc2 := 141) C dL_errors_139 rfl bc_m2 ?_
              refine x_icmp_ne (tgt := 219) (pc2 := 144) C dL_errors_141 (by decide) rfl ?_ ?_
              · exact x_wk [some (rv G a1), none, none, none, none, none] ⟨Or.inr rfl, Or.inl rfl, Or.inl rfl, Or.inl rfl, Or.inl rfl, Or.inl rfl, trivial⟩ (hj77 () _)
              · refine x_aload_n (pc2 := 145) C dL_errors_144 rfl rfl ?_
                refine x_iconst (pc2 := 146) C dL_errors_145 rfl ic_0 ?_
                refine x_ldc (pc2 := 148) C wt4_62 dL_errors_146 rfl ?_
                refine x_callVi (pc2 := 151) C [.int 0, .int (-2147483648)] [] cl_L_98 (fun q hq => ctX8_set hk1 q hq) hk1 rfl rfl rfl ⟨rfl, rfl, Nat.le_of_ble_eq_true rfl, Nat.le_of_ble_eq_true rfl⟩ (Nat.le_of_ble_eq_true rfl) ⟨Nat.zero_le _, Nat.zero_le _⟩ dL_errors_148 rfl (fun v81 M82 => ?_)
                refine x_bipush (pc2 := 153) C dL_errors_151 rfl bc_m2 ?_
                refine x_icmp_ne (tgt := 219) (pc2 := 156) C dL_errors_153 (by decide) rfl ?_ ?_
                · exact x_wk [some (rv G a1), none, none, none, none, none] ⟨Or.inr rfl, Or.inl rfl, Or.inl rfl, Or.inl rfl, Or.inl rfl, Or.inl rfl, trivial⟩ (hj77 () _)
                · refine x_aload_n (pc2 := 157) C dL_errors_156 rfl rfl ?_
                  refine x_iconst (pc2 := 158) C dL_errors_157 rfl ic_2 ?_
                  refine x_ldc (pc2 := 160) C wt4_63 dL_errors_158 rfl ?_
                  refine x_callVi (pc2 := 163) C [.int 2, .int 1065353217] [] cl_L_98 (fun q hq => ctX8_set hk1 q hq) hk1 rfl rfl rfl ⟨rfl, rfl, Nat.le_of_ble_eq_true rfl, Nat.le_of_ble_eq_true rfl⟩ (Nat.le_of_ble_eq_true rfl) ⟨Nat.zero_le _, Nat.zero_le _⟩ dL_errors_160 rfl (fun v83 M84 => ?_)
                  refine x_bipush (pc2 := 165) C dL_errors_163 rfl bc_m2 ?_
                  refine x_icmp_ne (tgt := 219) (pc2 := 168) C dL_errors_165 (by decide) rfl ?_ ?_
                  · exact x_wk [some (rv G a1), none, none, none, none, none] ⟨Or.inr rfl, Or.inl rfl, Or.inl rfl, Or.inl rfl, Or.inl rfl, Or.inl rfl, trivial⟩ (hj77 () _)
                  · refine x_aload_n (pc2 := 169) C dL_errors_168 rfl rfl ?_
                    refine x_iconst (pc2 := 170) C dL_errors_169 rfl ic_0 ?_
                    refine x_ldc (pc2 := 172) C wt4_64 dL_errors_170 rfl ?_
                    refine x_callVi (pc2 := 175) C [.int 0, .int 2143289344] [] cl_L_98 (fun q hq => ctX8_set hk1 q hq) hk1 rfl rfl rfl ⟨rfl, rfl, Nat.le_of_ble_eq_true rfl, Nat.le_of_ble_eq_true rfl⟩ (Nat.le_of_ble_eq_true rfl) ⟨Nat.zero_le _, Nat.zero_le _⟩ dL_errors_172 rfl (fun v85 M86 => ?_)
                    refine x_bipush (pc2 := 177) C dL_errors_175 rfl bc_m2 ?_
                    refine x_icmp_ne (tgt := 219) (pc2 := 180) C dL_errors_177 (by decide) rfl ?_ ?_
                    · exact x_wk [some (rv G a1), none, none, none, none, none] ⟨Or.inr rfl, Or.inl rfl, Or.inl rfl, Or.inl rfl, Or.inl rfl, Or.inl rfl, trivial⟩ (hj77 () _)
                    · refine x_aload_n (pc2 := 181) C dL_errors_180 rfl rfl ?_
                      refine x_iconst (pc2 := 182) C dL_errors_181 rfl ic_0 ?_
                      refine x_ldc (pc2 := 184) C wt4_65 dL_errors_182 rfl ?_
                      refine x_callVi (pc2 := 187) C [.int 0, .int 1040187392] [] cl_L_98 (fun q hq => ctX8_set hk1 q hq) hk1 rfl rfl rfl ⟨rfl, rfl, Nat.le_of_ble_eq_true rfl, Nat.le_of_ble_eq_true rfl⟩ (Nat.le_of_ble_eq_true rfl) ⟨Nat.zero_le _, Nat.zero_le _⟩ dL_errors_184 rfl (fun v87 M88 => ?_)
                      refine x_bipush (pc2 := 189) C dL_errors_187 rfl bc_m5 ?_
                      refine x_icmp_ne (tgt := 219) (pc2 := 192) C dL_errors_189 (by decide) rfl ?_ ?_
                      · exact x_wk [some (rv G a1), none, none, none, none, none] ⟨Or.inr rfl, Or.inl rfl, Or.inl rfl, Or.inl rfl, Or.inl rfl, Or.inl rfl, trivial⟩ (hj77 () _)
                      · refine x_aload_n (pc2 := 193) C dL_errors_192 rfl rfl ?_
                        refine x_iconst (pc2 := 194) C dL_errors_193 rfl ic_0 ?_
                        refine x_bipush (pc2 := 196) C dL_errors_194 rfl bc_65 ?_
                        refine x_callVi (pc2 := 199) C [.int 0, .int 65] [] cl_L_88 (fun q hq => ctX8_setSign hk1 q hq) hk1 rfl rfl rfl ⟨rfl, rfl, Nat.le_of_ble_eq_true rfl, Nat.le_of_ble_eq_true rfl⟩ (Nat.le_of_ble_eq_true rfl) ⟨Nat.zero_le _, Nat.zero_le _⟩ dL_errors_196 rfl (fun v89 M90 => ?_)
                        refine x_bipush (pc2 := 201) C dL_errors_199 rfl bc_m2 ?_
                        refine x_icmp_ne (tgt := 219) (pc2 := 204) C dL_errors_201 (by decide) rfl ?_ ?_
                        · exact x_wk [some (rv G a1), none, none, none, none, none] ⟨Or.inr rfl, Or.inl rfl, Or.inl rfl, Or.inl rfl, Or.inl rfl, Or.inl rfl, trivial⟩ (hj77 () _)
                        · refine x_aload_n (pc2 := 205) C dL_errors_204 rfl rfl ?_
                          refine x_iconst (pc2 := 206) C dL_errors_205 rfl ic_m1 ?_
                          refine x_bipush (pc2 := 208) C dL_errors_206 rfl bc_97 ?_
                          refine x_callVi (pc2 := 211) C [.int (-1), .int 97] [] cl_L_88 (fun q hq => ctX8_setSign hk1 q hq) hk1 rfl rfl rfl ⟨rfl, rfl, Nat.le_of_ble_eq_true rfl, Nat.le_of_ble_eq_true rfl⟩ (Nat.le_of_ble_eq_true rfl) ⟨Nat.zero_le _, Nat.zero_le _⟩ dL_errors_208 rfl (fun v91 M92 => ?_)
                          refine x_iconst (pc2 := 212) C dL_errors_211 rfl ic_m1 ?_
                          refine x_icmp_ne (tgt := 219) (pc2 := 215) C dL_errors_212 (by decide) rfl ?_ ?_
                          · exact x_wk [some (rv G a1), none, none, none, none, none] ⟨Or.inr rfl, Or.inl rfl, Or.inl rfl, Or.inl rfl, Or.inl rfl, Or.inl rfl, trivial⟩ (hj77 () _)
                          · refine x_iconst (pc2 := 216) C dL_errors_215 rfl ic_1 ?_
                            refine x_goto (tgt := 220) C dL_errors_216 (by decide) ?_
                            exact x_wk [some (rv G a1), none, none, none, none, none] ⟨Or.inr rfl, Or.inl rfl, Or.inl rfl, Or.inl rfl, Or.inl rfl, Or.inl rfl, trivial⟩ (hj11 1 _)
  · intro j4 hj4
    refine x_jn 100 (fun (b93 : Unit) => [some (rv G a1), none, none, none, none, none]) (fun (b93 : Unit) => []) ?_ ?_
    · intro b93 M95
      refine x_iconst (pc2 := 101) C dL_errors_100 rfl ic_0 ?_
      exact x_wk [some (rv G a1), none, none, none, none, none] ⟨Or.inr rfl, Or.inl rfl, Or.inl rfl, Or.inl rfl, Or.inl rfl, Or.inl rfl, trivial⟩ (hj4 0 _)
    · intro j94 hj94
      refine x_icmp_ne (tgt := 100) (pc2 := 10) C dL_errors_7 (by decide) rfl ?_ ?_
      · exact x_wk [some (rv G a1), none, none, none, none, none] ⟨Or.inr rfl, Or.inl rfl, Or.inl rfl, Or.inl rfl, Or.inl rfl, Or.inl rfl, trivial⟩ (hj94 () _)
      · refine x_aload_n (pc2 := 11) C dL_errors_10 rfl rfl ?_
        refine x_iconst (pc2 := 12) C dL_errors_11 rfl ic_0 ?_
        refine x_iconst (pc2 := 13) C dL_errors_12 rfl ic_m1 ?_
        refine x_callVi (pc2 := 16) C [.int 0, .int (-1)] [] cl_L_76 (fun q hq => ctX8_press hk1 q hq) hk1 rfl rfl rfl ⟨rfl, rfl, Nat.le_of_ble_eq_true rfl, Nat.le_of_ble_eq_true rfl⟩ (Nat.le_of_ble_eq_true rfl) ⟨Nat.zero_le _, Nat.zero_le _⟩ dL_errors_13 rfl (fun v96 M97 => ?_)
        refine x_iconst (pc2 := 17) C dL_errors_16 rfl ic_m1 ?_
        refine x_icmp_ne (tgt := 100) (pc2 := 20) C dL_errors_17 (by decide) rfl ?_ ?_
        · exact x_wk [some (rv G a1), none, none, none, none, none] ⟨Or.inr rfl, Or.inl rfl, Or.inl rfl, Or.inl rfl, Or.inl rfl, Or.inl rfl, trivial⟩ (hj94 () _)
        · refine x_aload_n (pc2 := 21) C dL_errors_20 rfl rfl ?_
          refine x_iconst (pc2 := 22) C dL_errors_21 rfl ic_m1 ?_
          refine x_iconst (pc2 := 23) C dL_errors_22 rfl ic_0 ?_
          refine x_callVi (pc2 := 26) C [.int (-1), .int 0] [] cl_L_79 (fun q hq => ctX8_release hk1 q hq) hk1 rfl rfl rfl ⟨rfl, rfl, Nat.le_of_ble_eq_true rfl, Nat.le_of_ble_eq_true rfl⟩ (Nat.le_of_ble_eq_true rfl) ⟨Nat.zero_le _, Nat.zero_le _⟩ dL_errors_23 rfl (fun v98 M99 => ?_)
          refine x_iconst (pc2 := 27) C dL_errors_26 rfl ic_m1 ?_
          refine x_icmp_ne (tgt := 100) (pc2 := 30) C dL_errors_27 (by decide) rfl ?_ ?_
          · exact x_wk [some (rv G a1), none, none, none, none, none] ⟨Or.inr rfl, Or.inl rfl, Or.inl rfl, Or.inl rfl, Or.inl rfl, Or.inl rfl, trivial⟩ (hj94 () _)
          · refine x_aload_n (pc2 := 31) C dL_errors_30 rfl rfl ?_
            refine x_iconst (pc2 := 32) C dL_errors_31 rfl ic_0 ?_
            refine x_callVi (pc2 := 35) C [.int 0] [] cl_L_82 (fun q hq => ctX8_tick hk1 q hq) hk1 rfl rfl rfl ⟨rfl, rfl, Nat.le_of_ble_eq_true rfl, Nat.le_of_ble_eq_true rfl⟩ (Nat.le_of_ble_eq_true rfl) ⟨Nat.zero_le _, Nat.zero_le _⟩ dL_errors_32 rfl (fun v100 M101 => ?_)
            refine x_bipush (pc2 := 37) C dL_errors_35 rfl bc_m2 ?_
            refine x_icmp_ne (tgt := 100) (pc2 := 40) C dL_errors_37 (by decide) rfl ?_ ?_
            · exact x_wk [some (rv G a1), none, none, none, none, none] ⟨Or.inr rfl, Or.inl rfl, Or.inl rfl, Or.inl rfl, Or.inl rfl, Or.inl rfl, trivial⟩ (hj94 () _)
            · refine x_aload_n (pc2 := 41) C dL_errors_40 rfl rfl ?_
              refine x_bipush (pc2 := 43) C dL_errors_41 rfl bc_100 ?_
              refine x_callVi (pc2 := 46) C [.int 100] [] cl_L_82 (fun q hq => ctX8_tick hk1 q hq) hk1 rfl rfl rfl ⟨rfl, rfl, Nat.le_of_ble_eq_true rfl, Nat.le_of_ble_eq_true rfl⟩ (Nat.le_of_ble_eq_true rfl) ⟨Nat.zero_le _, Nat.zero_le _⟩ dL_errors_43 rfl (fun v102 M103 => ?_)
              refine x_bipush (pc2 := 48) C dL_errors_46 rfl bc_m2 ?_
              refine x_icmp_ne (tgt := 100) (pc2 := 51) C dL_errors_48 (by decide) rfl ?_ ?_
              · exact x_wk [some (rv G a1), none, none, none, none, none] ⟨Or.inr rfl, Or.inl rfl, Or.inl rfl, Or.inl rfl, Or.inl rfl, Or.inl rfl, trivial⟩ (hj94 () _)
              · refine x_aload_n (pc2 := 52) C dL_errors_51 rfl rfl ?_
                refine x_iconst (pc2 := 53) C dL_errors_52 rfl ic_1 ?_
                refine x_iconst (pc2 := 54) C dL_errors_53 rfl ic_2 ?_
                refine x_callVi (pc2 := 57) C [.int 1, .int 2] [] cl_L_95 (fun q hq => ctX8_build hk1 q hq) hk1 rfl rfl rfl ⟨rfl, rfl, Nat.le_of_ble_eq_true rfl, Nat.le_of_ble_eq_true rfl⟩ (Nat.le_of_ble_eq_true rfl) ⟨Nat.zero_le _, Nat.zero_le _⟩ dL_errors_54 rfl (fun v104 M105 => ?_)
                refine x_bipush (pc2 := 59) C dL_errors_57 rfl bc_m2 ?_
                refine x_icmp_ne (tgt := 100) (pc2 := 62) C dL_errors_59 (by decide) rfl ?_ ?_
                · exact x_wk [some (rv G a1), none, none, none, none, none] ⟨Or.inr rfl, Or.inl rfl, Or.inl rfl, Or.inl rfl, Or.inl rfl, Or.inl rfl, trivial⟩ (hj94 () _)
                · refine x_aload_n (pc2 := 63) C dL_errors_62 rfl rfl ?_
                  refine x_bipush (pc2 := 65) C dL_errors_63 rfl bc_6 ?_
                  refine x_bipush (pc2 := 67) C dL_errors_65 rfl bc_9 ?_
                  refine x_callVi (pc2 := 70) C [.int 6, .int 9] [] cl_L_95 (fun q hq => ctX8_build hk1 q hq) hk1 rfl rfl rfl ⟨rfl, rfl, Nat.le_of_ble_eq_true rfl, Nat.le_of_ble_eq_true rfl⟩ (Nat.le_of_ble_eq_true rfl) ⟨Nat.zero_le _, Nat.zero_le _⟩ dL_errors_67 rfl (fun v106 M107 => ?_)
                  refine x_bipush (pc2 := 72) C dL_errors_70 rfl bc_m2 ?_
                  refine x_icmp_ne (tgt := 100) (pc2 := 75) C dL_errors_72 (by decide) rfl ?_ ?_
                  · exact x_wk [some (rv G a1), none, none, none, none, none] ⟨Or.inr rfl, Or.inl rfl, Or.inl rfl, Or.inl rfl, Or.inl rfl, Or.inl rfl, trivial⟩ (hj94 () _)
                  · refine x_aload_n (pc2 := 76) C dL_errors_75 rfl rfl ?_
                    refine x_iconst (pc2 := 77) C dL_errors_76 rfl ic_2 ?_
                    refine x_iconst (pc2 := 78) C dL_errors_77 rfl ic_0 ?_
                    refine x_callVi (pc2 := 81) C [.int 2, .int 0] [] cl_L_45 (fun q hq => ctX8_typist hk1 q hq) hk1 rfl rfl rfl ⟨rfl, rfl, Nat.le_of_ble_eq_true rfl, Nat.le_of_ble_eq_true rfl⟩ (Nat.le_of_ble_eq_true rfl) ⟨Nat.zero_le _, Nat.zero_le _⟩ dL_errors_78 rfl (fun v108 M109 => ?_)
                    refine x_iconst (pc2 := 82) C dL_errors_81 rfl ic_m1 ?_
                    refine x_icmp_ne (tgt := 100) (pc2 := 85) C dL_errors_82 (by decide) rfl ?_ ?_
                    · exact x_wk [some (rv G a1), none, none, none, none, none] ⟨Or.inr rfl, Or.inl rfl, Or.inl rfl, Or.inl rfl, Or.inl rfl, Or.inl rfl, trivial⟩ (hj94 () _)
                    · refine x_aload_n (pc2 := 86) C dL_errors_85 rfl rfl ?_
                      refine x_iconst (pc2 := 87) C dL_errors_86 rfl ic_0 ?_
                      refine x_iconst (pc2 := 88) C dL_errors_87 rfl ic_2 ?_
                      refine x_callVi (pc2 := 91) C [.int 0, .int 2] [] cl_L_56 (fun q hq => ctX8_hundredths hk1 q hq) hk1 rfl rfl rfl ⟨rfl, rfl, Nat.le_of_ble_eq_true rfl, Nat.le_of_ble_eq_true rfl⟩ (Nat.le_of_ble_eq_true rfl) ⟨Nat.zero_le _, Nat.zero_le _⟩ dL_errors_88 rfl (fun v110 M111 => ?_)
                      refine x_bipush (pc2 := 93) C dL_errors_91 rfl bc_m2 ?_
                      refine x_icmp_ne (tgt := 100) (pc2 := 96) C dL_errors_93 (by decide) rfl ?_ ?_
                      · exact x_wk [some (rv G a1), none, none, none, none, none] ⟨Or.inr rfl, Or.inl rfl, Or.inl rfl, Or.inl rfl, Or.inl rfl, Or.inl rfl, trivial⟩ (hj94 () _)
                      · refine x_iconst (pc2 := 97) C dL_errors_96 rfl ic_1 ?_
                        refine x_goto (tgt := 101) C dL_errors_97 (by decide) ?_
                        exact x_wk [some (rv G a1), none, none, none, none, none] ⟨Or.inr rfl, Or.inl rfl, Or.inl rfl, Or.inl rfl, Or.inl rfl, Or.inl rfl, trivial⟩ (hj4 1 _)
set_option maxRecDepth 100000 in
set_option maxHeartbeats 4000000 in
theorem ctL_sensed {l : Launch} {G : bkG} {M : Mem} {a1 : Nat} {a2 : Int32} {a3 : Int32} (hk1 : kd a1 = 7) : ∀ r, fL_sensed a1 a2 a3 M = some r → Met l yL_sensed (Cond.code yL_sensed cL_sensed 10 (some .int) :: TT) ({ frames := 5, cells := 0, slots := 0, locals := 107 } : Room) (va_Pc [rv G a1, .int a2, .int a3] (Wd G M)) (QQ G ((fun v => some (.int v)) r.1) r.2) 0 0 (An G) := by
  refine mkMet (vl := (fun v => some (.int v))) RL rfl (by decide +kernel) rfl (Nat.le_of_ble_eq_true rfl) [some (rv G a1), some (.int a2), some (.int a3), none, none, none, none, none, none, none] rfl ?_
  intro p e s m args below meth c C _
  refine x_aload_n (pc2 := 1) C dL_sensed_0 rfl rfl ?_
  refine x_iconst (pc2 := 2) C dL_sensed_1 rfl ic_2 ?_
  refine x_callVi (pc2 := 5) C [.int 2] [] cl_L_9 (fun q hq => ctX8_count hk1 q hq) hk1 rfl rfl rfl ⟨rfl, rfl, Nat.le_of_ble_eq_true rfl, Nat.le_of_ble_eq_true rfl⟩ (Nat.le_of_ble_eq_true rfl) ⟨Nat.zero_le _, Nat.zero_le _⟩ dL_sensed_2 rfl (fun v1 M2 => ?_)
  refine x_istore_n (pc2 := 6) C dL_sensed_5 rfl [some (rv G a1), some (.int a2), some (.int a3), some (.int v1), none, none, none, none, none, none] rfl rfl ?_
  refine x_iconst (pc2 := 7) C dL_sensed_6 rfl ic_1 ?_
  refine x_iload_n (pc2 := 8) C dL_sensed_7 rfl rfl ?_
  refine x_ishl (pc2 := 9) C dL_sensed_8 rfl ?_
  refine x_topi (fun v3 => ?_)
  refine x_istore (pc2 := 11) C dL_sensed_9 rfl [some (rv G a1), some (.int a2), some (.int a3), some (.int v1), some (.int v3), none, none, none, none, none] rfl rfl ?_
  refine x_iconst (pc2 := 12) C dL_sensed_11 rfl ic_0 ?_
  refine x_istore (pc2 := 14) C dL_sensed_12 rfl [some (rv G a1), some (.int a2), some (.int a3), some (.int v1), some (.int v3), some (.int 0), none, none, none, none] rfl rfl ?_
  refine x_iconst (pc2 := 15) C dL_sensed_14 rfl ic_0 ?_
  refine x_istore (pc2 := 17) C dL_sensed_15 rfl [some (rv G a1), some (.int a2), some (.int a3), some (.int v1), some (.int v3), some (.int 0), some (.int 0), none, none, none] rfl rfl ?_
  refine x_wk [some (rv G a1), none, some (.int a3), some (.int v1), some (.int v3), some (.int 0), some (.int 0), none, none, none] ⟨Or.inr rfl, Or.inl rfl, Or.inr rfl, Or.inr rfl, Or.inr rfl, Or.inr rfl, Or.inr rfl, Or.inl rfl, Or.inl rfl, Or.inl rfl, trivial⟩ ?_
  refine x_lp (fun (b4 : Int32 × Int32 × Int32) => [some (rv G a1), none, some (.int a3), some (.int v1), some (.int b4.1), some (.int b4.2.1), some (.int b4.2.2), none, none, none]) ?_
  · intro rec6 hrec6 b4 M5
    refine x_iload (pc2 := 19) C dL_sensed_17 rfl rfl ?_
    refine x_bipush (pc2 := 21) C dL_sensed_19 rfl bc_12 ?_
    refine x_icmp_ge (tgt := 162) (pc2 := 24) C dL_sensed_21 (by decide) rfl ?_ ?_
    · refine x_iload (pc2 := 164) C dL_sensed_162 rfl rfl ?_
      exact x_iret C rfl rfl dL_sensed_164
    · refine x_iconst (pc2 := 25) C dL_sensed_24 rfl ic_0 ?_
      refine x_istore (pc2 := 27) C dL_sensed_25 rfl [some (rv G a1), none, some (.int a3), some (.int v1), some (.int b4.1), some (.int b4.2.1), some (.int b4.2.2), some (.int 0), none, none] rfl rfl ?_
      refine x_wk [some (rv G a1), none, some (.int a3), some (.int v1), some (.int b4.1), some (.int b4.2.1), some (.int b4.2.2), some (.int 0), none, none] ⟨Or.inr rfl, Or.inl rfl, Or.inr rfl, Or.inr rfl, Or.inr rfl, Or.inr rfl, Or.inr rfl, Or.inr rfl, Or.inl rfl, Or.inl rfl, trivial⟩ ?_
      refine x_lp1 (fun (b7 : Int32 × Int32 × Int32) => [some (rv G a1), none, some (.int a3), some (.int v1), some (.int b7.1), some (.int b7.2.1), some (.int b4.2.2), some (.int b7.2.2), none, none]) 156 (fun (b10 : Int32 × Int32) => [some (rv G a1), none, some (.int a3), some (.int v1), some (.int b10.1), some (.int b10.2), some (.int b4.2.2), none, none, none]) ?_ ?_
      · intro b10 M11
        refine x_iinc (pc2 := 159) (v := b4.2.2 + 1) C dL_sensed_156 rfl rfl 1 ic_1 rfl [some (rv G a1), none, some (.int a3), some (.int v1), some (.int b10.1), some (.int b10.2), some (.int (b4.2.2 + 1)), none, none, none] rfl rfl ?_
        refine x_goto (tgt := 17) C dL_sensed_159 (by decide) ?_
        exact x_wk [some (rv G a1), none, some (.int a3), some (.int v1), some (.int b10.1), some (.int b10.2), some (.int (b4.2.2 + 1)), none, none, none] ⟨Or.inr rfl, Or.inl rfl, Or.inr rfl, Or.inr rfl, Or.inr rfl, Or.inr rfl, Or.inr rfl, Or.inl rfl, Or.inl rfl, Or.inl rfl, trivial⟩ (hrec6 (b10.1, b10.2, b4.2.2 + 1) _)
      · intro k12 hk12 rec9 hrec9 b7 M8
        refine x_iload (pc2 := 29) C dL_sensed_27 rfl rfl ?_
        refine x_aload_n (pc2 := 30) C dL_sensed_29 rfl rfl ?_
        refine x_callSi (pc2 := 33) C [rv G a1] [.int b7.2.2] cl_L_15 (fun q hq => ctL_keys hk1 q hq) rfl rfl ⟨rfl, rfl, Nat.le_of_ble_eq_true rfl, Nat.le_of_ble_eq_true rfl⟩ (Nat.le_of_ble_eq_true rfl) ⟨Nat.zero_le _, Nat.zero_le _⟩ dL_sensed_30 rfl (fun v13 M14 => ?_)
        refine x_icmp_ge (tgt := 156) (pc2 := 36) C dL_sensed_33 (by decide) rfl ?_ ?_
        · exact x_wk [some (rv G a1), none, some (.int a3), some (.int v1), some (.int b7.1), some (.int b7.2.1), some (.int b4.2.2), none, none, none] ⟨Or.inr rfl, Or.inl rfl, Or.inr rfl, Or.inr rfl, Or.inr rfl, Or.inr rfl, Or.inr rfl, Or.inl rfl, Or.inl rfl, Or.inl rfl, trivial⟩ (hk12 (b7.1, b7.2.1) _)
        · refine x_aload_n (pc2 := 37) C dL_sensed_36 rfl rfl ?_
          refine x_iload (pc2 := 39) C dL_sensed_37 rfl rfl ?_
          refine x_iconst (pc2 := 40) C dL_sensed_39 rfl ic_0 ?_
          refine x_callVi (pc2 := 43) C [.int b7.2.2, .int 0] [] cl_L_21 (fun q hq => ctX8_key hk1 q hq) hk1 rfl rfl rfl ⟨rfl, rfl, Nat.le_of_ble_eq_true rfl, Nat.le_of_ble_eq_true rfl⟩ (Nat.le_of_ble_eq_true rfl) ⟨Nat.zero_le _, Nat.zero_le _⟩ dL_sensed_40 rfl (fun v15 M16 => ?_)
          refine x_jn 51 (fun (b17 : Int32) => [some (rv G a1), none, some (.int a3), some (.int v1), some (.int b7.1), some (.int b7.2.1), some (.int b4.2.2), some (.int b7.2.2), none, none]) (fun (b17 : Int32) => [.int b17]) ?_ ?_
          · intro b17 M19
            refine x_iload (pc2 := 53) C dL_sensed_51 rfl rfl ?_
            refine x_iload_n (pc2 := 54) C dL_sensed_53 rfl rfl ?_
            refine x_jn 62 (fun (b20 : Int32) => [some (rv G a1), none, some (.int a3), some (.int v1), some (.int b7.1), some (.int b7.2.1), some (.int b4.2.2), some (.int b7.2.2), none, none]) (fun (b20 : Int32) => [.int b20, .int b17]) ?_ ?_
            · intro b20 M22
              refine x_jn 70 (fun (b23 : Int32) => [some (rv G a1), none, some (.int a3), some (.int v1), some (.int b7.1), some (.int b7.2.1), some (.int b4.2.2), some (.int b7.2.2), none, none]) (fun (b23 : Int32) => [.int b23]) ?_ ?_
              · intro b23 M25
                refine x_istore (pc2 := 72) C dL_sensed_70 rfl [some (rv G a1), none, some (.int a3), some (.int v1), some (.int b7.1), some (.int b7.2.1), some (.int b4.2.2), some (.int b7.2.2), some (.int b23), none] rfl rfl ?_
                refine x_iload (pc2 := 74) C dL_sensed_72 rfl rfl ?_
                refine x_jn 108 (fun (b26 : Int32) => [some (rv G a1), none, some (.int a3), some (.int v1), some (.int b7.1), some (.int b7.2.1), some (.int b4.2.2), some (.int b7.2.2), none, none]) (fun (b26 : Int32) => [.int b26]) ?_ ?_
                · intro b26 M28
                  refine x_istore (pc2 := 110) C dL_sensed_108 rfl [some (rv G a1), none, some (.int a3), some (.int v1), some (.int b7.1), some (.int b7.2.1), some (.int b4.2.2), some (.int b7.2.2), none, some (.int b26)] rfl rfl ?_
                  refine x_iload (pc2 := 112) C dL_sensed_110 rfl rfl ?_
                  refine x_iload (pc2 := 114) C dL_sensed_112 rfl rfl ?_
                  refine x_jn 127 (fun (b29 : Int32) => [some (rv G a1), none, some (.int a3), some (.int v1), none, some (.int b7.2.1), some (.int b4.2.2), some (.int b7.2.2), none, some (.int b26)]) (fun (b29 : Int32) => [.int b29, .int b7.1]) ?_ ?_
                  · intro b29 M31
                    refine x_ior (pc2 := 128) C dL_sensed_127 rfl ?_
                    refine x_istore (pc2 := 130) C dL_sensed_128 rfl [some (rv G a1), none, some (.int a3), some (.int v1), some (.int (b7.1 ||| b29)), some (.int b7.2.1), some (.int b4.2.2), some (.int b7.2.2), none, some (.int b26)] rfl rfl ?_
                    refine x_iload (pc2 := 132) C dL_sensed_130 rfl rfl ?_
                    refine x_iload (pc2 := 134) C dL_sensed_132 rfl rfl ?_
                    refine x_jn 147 (fun (b32 : Int32) => [some (rv G a1), none, some (.int a3), some (.int v1), some (.int (b7.1 ||| b29)), none, some (.int b4.2.2), some (.int b7.2.2), none, none]) (fun (b32 : Int32) => [.int b32, .int b7.2.1]) ?_ ?_
                    · intro b32 M34
                      refine x_ior (pc2 := 148) C dL_sensed_147 rfl ?_
                      refine x_istore (pc2 := 150) C dL_sensed_148 rfl [some (rv G a1), none, some (.int a3), some (.int v1), some (.int (b7.1 ||| b29)), some (.int (b7.2.1 ||| b32)), some (.int b4.2.2), some (.int b7.2.2), none, none] rfl rfl ?_
                      refine x_iinc (pc2 := 153) (v := b7.2.2 + 1) C dL_sensed_150 rfl rfl 1 ic_1 rfl [some (rv G a1), none, some (.int a3), some (.int v1), some (.int (b7.1 ||| b29)), some (.int (b7.2.1 ||| b32)), some (.int b4.2.2), some (.int (b7.2.2 + 1)), none, none] rfl rfl ?_
                      refine x_goto (tgt := 27) C dL_sensed_153 (by decide) ?_
                      exact x_wk [some (rv G a1), none, some (.int a3), some (.int v1), some (.int (b7.1 ||| b29)), some (.int (b7.2.1 ||| b32)), some (.int b4.2.2), some (.int (b7.2.2 + 1)), none, none] ⟨Or.inr rfl, Or.inl rfl, Or.inr rfl, Or.inr rfl, Or.inr rfl, Or.inr rfl, Or.inr rfl, Or.inr rfl, Or.inl rfl, Or.inl rfl, trivial⟩ (hrec9 (b7.1 ||| b29, b7.2.1 ||| b32, b7.2.2 + 1) _)
                    · intro j33 hj33
                      refine x_if_eq (tgt := 146) (pc2 := 137) C dL_sensed_134 (by decide) rfl ?_ ?_
                      · refine x_iconst (pc2 := 147) C dL_sensed_146 rfl ic_0 ?_
                        exact x_wk [some (rv G a1), none, some (.int a3), some (.int v1), some (.int (b7.1 ||| b29)), none, some (.int b4.2.2), some (.int b7.2.2), none, none] ⟨Or.inr rfl, Or.inl rfl, Or.inr rfl, Or.inr rfl, Or.inr rfl, Or.inl rfl, Or.inr rfl, Or.inr rfl, Or.inl rfl, Or.inl rfl, trivial⟩ (hj33 0 _)
                      · refine x_iconst (pc2 := 138) C dL_sensed_137 rfl ic_1 ?_
                        refine x_iload (pc2 := 140) C dL_sensed_138 rfl rfl ?_
                        refine x_iload_n (pc2 := 141) C dL_sensed_140 rfl rfl ?_
                        refine x_irem (pc2 := 142) C dL_sensed_141 rfl ?_
                        refine x_ishl (pc2 := 143) C dL_sensed_142 rfl ?_
                        refine x_goto (tgt := 147) C dL_sensed_143 (by decide) ?_
                        exact x_wk [some (rv G a1), none, some (.int a3), some (.int v1), some (.int (b7.1 ||| b29)), none, some (.int b4.2.2), some (.int b7.2.2), none, none] ⟨Or.inr rfl, Or.inl rfl, Or.inr rfl, Or.inr rfl, Or.inr rfl, Or.inl rfl, Or.inr rfl, Or.inr rfl, Or.inl rfl, Or.inl rfl, trivial⟩ (hj33 ((1 : Int32) <<< ((remv b7.2.2 v1) &&& 31)) _)
                  · intro j30 hj30
                    refine x_if_eq (tgt := 126) (pc2 := 117) C dL_sensed_114 (by decide) rfl ?_ ?_
                    · refine x_iconst (pc2 := 127) C dL_sensed_126 rfl ic_0 ?_
                      exact x_wk [some (rv G a1), none, some (.int a3), some (.int v1), none, some (.int b7.2.1), some (.int b4.2.2), some (.int b7.2.2), none, some (.int b26)] ⟨Or.inr rfl, Or.inl rfl, Or.inr rfl, Or.inr rfl, Or.inl rfl, Or.inr rfl, Or.inr rfl, Or.inr rfl, Or.inl rfl, Or.inr rfl, trivial⟩ (hj30 0 _)
                    · refine x_iconst (pc2 := 118) C dL_sensed_117 rfl ic_1 ?_
                      refine x_iload (pc2 := 120) C dL_sensed_118 rfl rfl ?_
                      refine x_iload_n (pc2 := 121) C dL_sensed_120 rfl rfl ?_
                      refine x_idiv (pc2 := 122) C dL_sensed_121 rfl ?_
                      refine x_ishl (pc2 := 123) C dL_sensed_122 rfl ?_
                      refine x_goto (tgt := 127) C dL_sensed_123 (by decide) ?_
                      exact x_wk [some (rv G a1), none, some (.int a3), some (.int v1), none, some (.int b7.2.1), some (.int b4.2.2), some (.int b7.2.2), none, some (.int b26)] ⟨Or.inr rfl, Or.inl rfl, Or.inr rfl, Or.inr rfl, Or.inl rfl, Or.inr rfl, Or.inr rfl, Or.inr rfl, Or.inl rfl, Or.inr rfl, trivial⟩ (hj30 ((1 : Int32) <<< ((b7.2.2 / v1) &&& 31)) _)
                · intro j27 hj27
                  refine x_jn 107 (fun (b35 : Unit) => [some (rv G a1), none, some (.int a3), some (.int v1), some (.int b7.1), some (.int b7.2.1), some (.int b4.2.2), some (.int b7.2.2), none, none]) (fun (b35 : Unit) => []) ?_ ?_
                  · intro b35 M37
                    refine x_iconst (pc2 := 108) C dL_sensed_107 rfl ic_0 ?_
                    exact x_wk [some (rv G a1), none, some (.int a3), some (.int v1), some (.int b7.1), some (.int b7.2.1), some (.int b4.2.2), some (.int b7.2.2), none, none] ⟨Or.inr rfl, Or.inl rfl, Or.inr rfl, Or.inr rfl, Or.inr rfl, Or.inr rfl, Or.inr rfl, Or.inr rfl, Or.inl rfl, Or.inl rfl, trivial⟩ (hj27 0 _)
                  · intro j36 hj36
                    refine x_if_eq (tgt := 107) (pc2 := 77) C dL_sensed_74 (by decide) rfl ?_ ?_
                    · exact x_wk [some (rv G a1), none, some (.int a3), some (.int v1), some (.int b7.1), some (.int b7.2.1), some (.int b4.2.2), some (.int b7.2.2), none, none] ⟨Or.inr rfl, Or.inl rfl, Or.inr rfl, Or.inr rfl, Or.inr rfl, Or.inr rfl, Or.inr rfl, Or.inr rfl, Or.inl rfl, Or.inl rfl, trivial⟩ (hj36 () _)
                    · refine x_iload (pc2 := 79) C dL_sensed_77 rfl rfl ?_
                      refine x_iload (pc2 := 81) C dL_sensed_79 rfl rfl ?_
                      refine x_iload_n (pc2 := 82) C dL_sensed_81 rfl rfl ?_
                      refine x_idiv (pc2 := 83) C dL_sensed_82 rfl ?_
                      refine x_ishr (pc2 := 84) C dL_sensed_83 rfl ?_
                      refine x_iconst (pc2 := 85) C dL_sensed_84 rfl ic_1 ?_
                      refine x_iand (pc2 := 86) C dL_sensed_85 rfl ?_
                      refine x_iconst (pc2 := 87) C dL_sensed_86 rfl ic_1 ?_
                      refine x_jn 103 (fun (b38 : Unit) => [some (rv G a1), none, some (.int a3), some (.int v1), some (.int b7.1), some (.int b7.2.1), some (.int b4.2.2), some (.int b7.2.2), none, none]) (fun (b38 : Unit) => []) ?_ ?_
                      · intro b38 M40
                        refine x_iconst (pc2 := 104) C dL_sensed_103 rfl ic_1 ?_
                        refine x_goto (tgt := 108) C dL_sensed_104 (by decide) ?_
                        exact x_wk [some (rv G a1), none, some (.int a3), some (.int v1), some (.int b7.1), some (.int b7.2.1), some (.int b4.2.2), some (.int b7.2.2), none, none] ⟨Or.inr rfl, Or.inl rfl, Or.inr rfl, Or.inr rfl, Or.inr rfl, Or.inr rfl, Or.inr rfl, Or.inr rfl, Or.inl rfl, Or.inl rfl, trivial⟩ (hj27 1 _)
                      · intro j39 hj39
                        refine x_icmp_eq (tgt := 103) (pc2 := 90) C dL_sensed_87 (by decide) rfl ?_ ?_
                        · exact x_wk [some (rv G a1), none, some (.int a3), some (.int v1), some (.int b7.1), some (.int b7.2.1), some (.int b4.2.2), some (.int b7.2.2), none, none] ⟨Or.inr rfl, Or.inl rfl, Or.inr rfl, Or.inr rfl, Or.inr rfl, Or.inr rfl, Or.inr rfl, Or.inr rfl, Or.inl rfl, Or.inl rfl, trivial⟩ (hj39 () _)
                        · refine x_iload (pc2 := 92) C dL_sensed_90 rfl rfl ?_
                          refine x_iload (pc2 := 94) C dL_sensed_92 rfl rfl ?_
                          refine x_iload_n (pc2 := 95) C dL_sensed_94 rfl rfl ?_
                          refine x_irem (pc2 := 96) C dL_sensed_95 rfl ?_
                          refine x_ishr (pc2 := 97) C dL_sensed_96 rfl ?_
                          refine x_iconst (pc2 := 98) C dL_sensed_97 rfl ic_1 ?_
                          refine x_iand (pc2 := 99) C dL_sensed_98 rfl ?_
                          refine x_iconst (pc2 := 100) C dL_sensed_99 rfl ic_1 ?_
                          refine x_icmp_ne (tgt := 107) (pc2 := 103) C dL_sensed_100 (by decide) rfl ?_ ?_
                          · exact x_wk [some (rv G a1), none, some (.int a3), some (.int v1), some (.int b7.1), some (.int b7.2.1), some (.int b4.2.2), some (.int b7.2.2), none, none] ⟨Or.inr rfl, Or.inl rfl, Or.inr rfl, Or.inr rfl, Or.inr rfl, Or.inr rfl, Or.inr rfl, Or.inr rfl, Or.inl rfl, Or.inl rfl, trivial⟩ (hj36 () _)
                          · exact x_wk [some (rv G a1), none, some (.int a3), some (.int v1), some (.int b7.1), some (.int b7.2.1), some (.int b4.2.2), some (.int b7.2.2), none, none] ⟨Or.inr rfl, Or.inl rfl, Or.inr rfl, Or.inr rfl, Or.inr rfl, Or.inr rfl, Or.inr rfl, Or.inr rfl, Or.inl rfl, Or.inl rfl, trivial⟩ (hj39 () _)
              · intro j24 hj24
                refine x_icmp_eq (tgt := 69) (pc2 := 65) C dL_sensed_62 (by decide) rfl ?_ ?_
                · refine x_iconst (pc2 := 70) C dL_sensed_69 rfl ic_0 ?_
                  exact x_wk [some (rv G a1), none, some (.int a3), some (.int v1), some (.int b7.1), some (.int b7.2.1), some (.int b4.2.2), some (.int b7.2.2), none, none] ⟨Or.inr rfl, Or.inl rfl, Or.inr rfl, Or.inr rfl, Or.inr rfl, Or.inr rfl, Or.inr rfl, Or.inr rfl, Or.inl rfl, Or.inl rfl, trivial⟩ (hj24 0 _)
                · refine x_iconst (pc2 := 66) C dL_sensed_65 rfl ic_1 ?_
                  refine x_goto (tgt := 70) C dL_sensed_66 (by decide) ?_
                  exact x_wk [some (rv G a1), none, some (.int a3), some (.int v1), some (.int b7.1), some (.int b7.2.1), some (.int b4.2.2), some (.int b7.2.2), none, none] ⟨Or.inr rfl, Or.inl rfl, Or.inr rfl, Or.inr rfl, Or.inr rfl, Or.inr rfl, Or.inr rfl, Or.inr rfl, Or.inl rfl, Or.inl rfl, trivial⟩ (hj24 1 _)
            · intro j21 hj21
              refine x_icmp_ne (tgt := 61) (pc2 := 57) C dL_sensed_54 (by decide) rfl ?_ ?_
              · refine x_iconst (pc2 := 62) C dL_sensed_61 rfl ic_0 ?_
                exact x_wk [some (rv G a1), none, some (.int a3), some (.int v1), some (.int b7.1), some (.int b7.2.1), some (.int b4.2.2), some (.int b7.2.2), none, none] ⟨Or.inr rfl, Or.inl rfl, Or.inr rfl, Or.inr rfl, Or.inr rfl, Or.inr rfl, Or.inr rfl, Or.inr rfl, Or.inl rfl, Or.inl rfl, trivial⟩ (hj21 0 _)
              · refine x_iconst (pc2 := 58) C dL_sensed_57 rfl ic_1 ?_
                refine x_goto (tgt := 62) C dL_sensed_58 (by decide) ?_
                exact x_wk [some (rv G a1), none, some (.int a3), some (.int v1), some (.int b7.1), some (.int b7.2.1), some (.int b4.2.2), some (.int b7.2.2), none, none] ⟨Or.inr rfl, Or.inl rfl, Or.inr rfl, Or.inr rfl, Or.inr rfl, Or.inr rfl, Or.inr rfl, Or.inr rfl, Or.inl rfl, Or.inl rfl, trivial⟩ (hj21 1 _)
          · intro j18 hj18
            refine x_if_lt (tgt := 50) (pc2 := 46) C dL_sensed_43 (by decide) rfl ?_ ?_
            · refine x_iconst (pc2 := 51) C dL_sensed_50 rfl ic_0 ?_
              exact x_wk [some (rv G a1), none, some (.int a3), some (.int v1), some (.int b7.1), some (.int b7.2.1), some (.int b4.2.2), some (.int b7.2.2), none, none] ⟨Or.inr rfl, Or.inl rfl, Or.inr rfl, Or.inr rfl, Or.inr rfl, Or.inr rfl, Or.inr rfl, Or.inr rfl, Or.inl rfl, Or.inl rfl, trivial⟩ (hj18 0 _)
            · refine x_iconst (pc2 := 47) C dL_sensed_46 rfl ic_1 ?_
              refine x_goto (tgt := 51) C dL_sensed_47 (by decide) ?_
              exact x_wk [some (rv G a1), none, some (.int a3), some (.int v1), some (.int b7.1), some (.int b7.2.1), some (.int b4.2.2), some (.int b7.2.2), none, none] ⟨Or.inr rfl, Or.inl rfl, Or.inr rfl, Or.inr rfl, Or.inr rfl, Or.inr rfl, Or.inr rfl, Or.inr rfl, Or.inl rfl, Or.inl rfl, trivial⟩ (hj18 1 _)
set_option maxRecDepth 100000 in
set_option maxHeartbeats 4000000 in
theorem ctL_senses {l : Launch} {G : bkG} {M : Mem} {a1 : Nat} {a2 : Int32} {a3 : Int32} (hk1 : kd a1 = 7) : ∀ r, fL_senses a1 a2 a3 M = some r → Met l yL_senses (Cond.code yL_senses cL_senses 4 (some .boolean) :: TT) ({ frames := 6, cells := 0, slots := 0, locals := 136 } : Room) (va_Pc [rv G a1, .int a2, .int a3] (Wd G M)) (QQ G ((fun v => some (.int v)) r.1) r.2) 0 0 (An G) := by
  refine mkMet (vl := (fun v => some (.int v))) RL rfl (by decide +kernel) rfl (Nat.le_of_ble_eq_true rfl) [some (rv G a1), some (.int a2), some (.int a3), none] rfl ?_
  intro p e s m args below meth c C _
  refine x_aload_n (pc2 := 1) C dL_senses_0 rfl rfl ?_
  refine x_iconst (pc2 := 2) C dL_senses_1 rfl ic_2 ?_
  refine x_callVi (pc2 := 5) C [.int 2] [] cl_L_9 (fun q hq => ctX8_count hk1 q hq) hk1 rfl rfl rfl ⟨rfl, rfl, Nat.le_of_ble_eq_true rfl, Nat.le_of_ble_eq_true rfl⟩ (Nat.le_of_ble_eq_true rfl) ⟨Nat.zero_le _, Nat.zero_le _⟩ dL_senses_2 rfl (fun v1 M2 => ?_)
  refine x_istore_n (pc2 := 6) C dL_senses_5 rfl [some (rv G a1), some (.int a2), some (.int a3), some (.int v1)] rfl rfl ?_
  refine x_aload_n (pc2 := 7) C dL_senses_6 rfl rfl ?_
  refine x_iload_n (pc2 := 8) C dL_senses_7 rfl rfl ?_
  refine x_iload_n (pc2 := 9) C dL_senses_8 rfl rfl ?_
  refine x_idiv (pc2 := 10) C dL_senses_9 rfl ?_
  refine x_iload_n (pc2 := 11) C dL_senses_10 rfl rfl ?_
  refine x_callSi (pc2 := 14) C [rv G a1, .int (a2 / v1), .int a3] [] cl_L_25 (fun q hq => ctL_sensed hk1 q hq) rfl rfl ⟨rfl, rfl, Nat.le_of_ble_eq_true rfl, Nat.le_of_ble_eq_true rfl⟩ (Nat.le_of_ble_eq_true rfl) ⟨Nat.zero_le _, Nat.zero_le _⟩ dL_senses_11 rfl (fun v3 M4 => ?_)
  refine x_iload_n (pc2 := 15) C dL_senses_14 rfl rfl ?_
  refine x_iload_n (pc2 := 16) C dL_senses_15 rfl rfl ?_
  refine x_irem (pc2 := 17) C dL_senses_16 rfl ?_
  refine x_ishr (pc2 := 18) C dL_senses_17 rfl ?_
  refine x_iconst (pc2 := 19) C dL_senses_18 rfl ic_1 ?_
  refine x_iand (pc2 := 20) C dL_senses_19 rfl ?_
  refine x_iconst (pc2 := 21) C dL_senses_20 rfl ic_1 ?_
  refine x_icmp_ne (tgt := 28) (pc2 := 24) C dL_senses_21 (by decide) rfl ?_ ?_
  · refine x_iconst (pc2 := 29) C dL_senses_28 rfl ic_0 ?_
    exact x_zret C rfl rfl rfl dL_senses_29
  · refine x_iconst (pc2 := 25) C dL_senses_24 rfl ic_1 ?_
    refine x_goto (tgt := 29) C dL_senses_25 (by decide) ?_
    exact x_zret C rfl rfl rfl dL_senses_29
set_option maxRecDepth 100000 in
set_option maxHeartbeats 4000000 in
theorem ctL_ghosts {l : Launch} {G : bkG} {M : Mem} {a1 : Nat} {a2 : Int32} (hk1 : kd a1 = 7) : ∀ r, fL_ghosts a1 a2 M = some r → Met l yL_ghosts (Cond.code yL_ghosts cL_ghosts 4 (some .boolean) :: TT) ({ frames := 7, cells := 0, slots := 0, locals := 159 } : Room) (va_Pc [rv G a1, .int a2] (Wd G M)) (QQ G ((fun v => some (.int v)) r.1) r.2) 0 0 (An G) := by
  refine mkMet (vl := (fun v => some (.int v))) RL rfl (by decide +kernel) rfl (Nat.le_of_ble_eq_true rfl) [some (rv G a1), some (.int a2), none, none] rfl ?_
  intro p e s m args below meth c C _
  refine x_bipush (pc2 := 2) C dL_ghosts_0 rfl bc_100 ?_
  refine x_istore_n (pc2 := 3) C dL_ghosts_2 rfl [some (rv G a1), some (.int a2), some (.int 100), none] rfl rfl ?_
  refine x_iconst (pc2 := 4) C dL_ghosts_3 rfl ic_0 ?_
  refine x_istore_n (pc2 := 5) C dL_ghosts_4 rfl [some (rv G a1), some (.int a2), some (.int 100), some (.int 0)] rfl rfl ?_
  refine x_wk [some (rv G a1), some (.int a2), some (.int 100), some (.int 0)] ⟨Or.inr rfl, Or.inr rfl, Or.inr rfl, Or.inr rfl, trivial⟩ ?_
  refine x_lp1 (fun (b1 : Int32 × Int32) => [some (rv G a1), some (.int a2), some (.int b1.1), some (.int b1.2)]) 65 (fun (b4 : Int32) => [some (rv G a1), some (.int a2), some (.int b4), none]) ?_ ?_
  · intro b4 M5
    refine x_aload_n (pc2 := 66) C dL_ghosts_65 rfl rfl ?_
    refine x_iload_n (pc2 := 67) C dL_ghosts_66 rfl rfl ?_
    refine x_callVi (pc2 := 70) C [.int a2] [] cl_L_33 (fun q hq => ctX8_ghostsBy hk1 q hq) hk1 rfl rfl rfl ⟨rfl, rfl, Nat.le_of_ble_eq_true rfl, Nat.le_of_ble_eq_true rfl⟩ (Nat.le_of_ble_eq_true rfl) ⟨Nat.zero_le _, Nat.zero_le _⟩ dL_ghosts_67 rfl (fun v6 M7 => ?_)
    refine x_iload_n (pc2 := 71) C dL_ghosts_70 rfl rfl ?_
    refine x_icmp_ne (tgt := 78) (pc2 := 74) C dL_ghosts_71 (by decide) rfl ?_ ?_
    · refine x_iconst (pc2 := 79) C dL_ghosts_78 rfl ic_0 ?_
      exact x_zret C rfl rfl rfl dL_ghosts_79
    · refine x_iconst (pc2 := 75) C dL_ghosts_74 rfl ic_1 ?_
      refine x_goto (tgt := 79) C dL_ghosts_75 (by decide) ?_
      exact x_zret C rfl rfl rfl dL_ghosts_79
  · intro k8 hk8 rec3 hrec3 b1 M2
    refine x_iload_n (pc2 := 6) C dL_ghosts_5 rfl rfl ?_
    refine x_aload_n (pc2 := 7) C dL_ghosts_6 rfl rfl ?_
    refine x_callSi (pc2 := 10) C [rv G a1] [.int b1.2] cl_L_15 (fun q hq => ctL_keys hk1 q hq) rfl rfl ⟨rfl, rfl, Nat.le_of_ble_eq_true rfl, Nat.le_of_ble_eq_true rfl⟩ (Nat.le_of_ble_eq_true rfl) ⟨Nat.zero_le _, Nat.zero_le _⟩ dL_ghosts_7 rfl (fun v9 M10 => ?_)
    refine x_icmp_ge (tgt := 65) (pc2 := 13) C dL_ghosts_10 (by decide) rfl ?_ ?_
    · exact x_wk [some (rv G a1), some (.int a2), some (.int b1.1), none] ⟨Or.inr rfl, Or.inr rfl, Or.inr rfl, Or.inl rfl, trivial⟩ (hk8 b1.1 _)
    · refine x_iload_n (pc2 := 14) C dL_ghosts_13 rfl rfl ?_
      refine x_iload_n (pc2 := 15) C dL_ghosts_14 rfl rfl ?_
      refine x_jn 59 (fun (b11 : Int32) => [some (rv G a1), some (.int a2), some (.int b11), some (.int b1.2)]) (fun (b11 : Int32) => []) ?_ ?_
      · intro b11 M13
        refine x_iinc (pc2 := 62) (v := b1.2 + 1) C dL_ghosts_59 rfl rfl 1 ic_1 rfl [some (rv G a1), some (.int a2), some (.int b11), some (.int (b1.2 + 1))] rfl rfl ?_
        refine x_goto (tgt := 5) C dL_ghosts_62 (by decide) ?_
        exact x_wk [some (rv G a1), some (.int a2), some (.int b11), some (.int (b1.2 + 1))] ⟨Or.inr rfl, Or.inr rfl, Or.inr rfl, Or.inr rfl, trivial⟩ (hrec3 (b11, b1.2 + 1) _)
      · intro j12 hj12
        refine x_icmp_eq (tgt := 59) (pc2 := 18) C dL_ghosts_15 (by decide) rfl ?_ ?_
        · exact x_wk [some (rv G a1), some (.int a2), some (.int b1.1), some (.int b1.2)] ⟨Or.inr rfl, Or.inr rfl, Or.inr rfl, Or.inr rfl, trivial⟩ (hj12 b1.1 _)
        · refine x_aload_n (pc2 := 19) C dL_ghosts_18 rfl rfl ?_
          refine x_iload_n (pc2 := 20) C dL_ghosts_19 rfl rfl ?_
          refine x_iconst (pc2 := 21) C dL_ghosts_20 rfl ic_0 ?_
          refine x_callVi (pc2 := 24) C [.int b1.2, .int 0] [] cl_L_21 (fun q hq => ctX8_key hk1 q hq) hk1 rfl rfl rfl ⟨rfl, rfl, Nat.le_of_ble_eq_true rfl, Nat.le_of_ble_eq_true rfl⟩ (Nat.le_of_ble_eq_true rfl) ⟨Nat.zero_le _, Nat.zero_le _⟩ dL_ghosts_21 rfl (fun v14 M15 => ?_)
          refine x_if_ge (tgt := 59) (pc2 := 27) C dL_ghosts_24 (by decide) rfl ?_ ?_
          · exact x_wk [some (rv G a1), some (.int a2), some (.int b1.1), some (.int b1.2)] ⟨Or.inr rfl, Or.inr rfl, Or.inr rfl, Or.inr rfl, trivial⟩ (hj12 b1.1 _)
          · refine x_iload_n (pc2 := 28) C dL_ghosts_27 rfl rfl ?_
            refine x_aload_n (pc2 := 29) C dL_ghosts_28 rfl rfl ?_
            refine x_iload_n (pc2 := 30) C dL_ghosts_29 rfl rfl ?_
            refine x_iconst (pc2 := 31) C dL_ghosts_30 rfl ic_m1 ?_
            refine x_callSi (pc2 := 34) C [rv G a1, .int b1.2, .int (-1)] [.int b1.1] cl_L_29 (fun q hq => ctL_senses hk1 q hq) rfl rfl ⟨rfl, rfl, Nat.le_of_ble_eq_true rfl, Nat.le_of_ble_eq_true rfl⟩ (Nat.le_of_ble_eq_true rfl) ⟨Nat.zero_le _, Nat.zero_le _⟩ dL_ghosts_31 rfl (fun v16 M17 => ?_)
            refine x_jn 42 (fun (b18 : Int32) => [some (rv G a1), some (.int a2), none, some (.int b1.2)]) (fun (b18 : Int32) => [.int b18, .int b1.1]) ?_ ?_
            · intro b18 M20
              refine x_aload_n (pc2 := 43) C dL_ghosts_42 rfl rfl ?_
              refine x_iload_n (pc2 := 44) C dL_ghosts_43 rfl rfl ?_
              refine x_iload_n (pc2 := 45) C dL_ghosts_44 rfl rfl ?_
              refine x_callSi (pc2 := 48) C [rv G a1, .int b1.2, .int a2] [.int b18, .int b1.1] cl_L_29 (fun q hq => ctL_senses hk1 q hq) rfl rfl ⟨rfl, rfl, Nat.le_of_ble_eq_true rfl, Nat.le_of_ble_eq_true rfl⟩ (Nat.le_of_ble_eq_true rfl) ⟨Nat.zero_le _, Nat.zero_le _⟩ dL_ghosts_45 rfl (fun v21 M22 => ?_)
              refine x_jn 56 (fun (b23 : Int32) => [some (rv G a1), some (.int a2), none, some (.int b1.2)]) (fun (b23 : Int32) => [.int b23, .int b18, .int b1.1]) ?_ ?_
              · intro b23 M25
                refine x_isub (pc2 := 57) C dL_ghosts_56 rfl ?_
                refine x_iadd (pc2 := 58) C dL_ghosts_57 rfl ?_
                refine x_istore_n (pc2 := 59) C dL_ghosts_58 rfl [some (rv G a1), some (.int a2), some (.int (b1.1 + (b18 - b23))), some (.int b1.2)] rfl rfl ?_
                exact x_wk [some (rv G a1), some (.int a2), some (.int (b1.1 + (b18 - b23))), some (.int b1.2)] ⟨Or.inr rfl, Or.inr rfl, Or.inr rfl, Or.inr rfl, trivial⟩ (hj12 (b1.1 + (b18 - b23)) _)
              · intro j24 hj24
                refine x_if_eq (tgt := 55) (pc2 := 51) C dL_ghosts_48 (by decide) rfl ?_ ?_
                · refine x_iconst (pc2 := 56) C dL_ghosts_55 rfl ic_0 ?_
                  exact x_wk [some (rv G a1), some (.int a2), none, some (.int b1.2)] ⟨Or.inr rfl, Or.inr rfl, Or.inl rfl, Or.inr rfl, trivial⟩ (hj24 0 _)
                · refine x_iconst (pc2 := 52) C dL_ghosts_51 rfl ic_1 ?_
                  refine x_goto (tgt := 56) C dL_ghosts_52 (by decide) ?_
                  exact x_wk [some (rv G a1), some (.int a2), none, some (.int b1.2)] ⟨Or.inr rfl, Or.inr rfl, Or.inl rfl, Or.inr rfl, trivial⟩ (hj24 1 _)
            · intro j19 hj19
              refine x_if_eq (tgt := 41) (pc2 := 37) C dL_ghosts_34 (by decide) rfl ?_ ?_
              · refine x_iconst (pc2 := 42) C dL_ghosts_41 rfl ic_0 ?_
                exact x_wk [some (rv G a1), some (.int a2), none, some (.int b1.2)] ⟨Or.inr rfl, Or.inr rfl, Or.inl rfl, Or.inr rfl, trivial⟩ (hj19 0 _)
              · refine x_iconst (pc2 := 38) C dL_ghosts_37 rfl ic_1 ?_
                refine x_goto (tgt := 42) C dL_ghosts_38 (by decide) ?_
                exact x_wk [some (rv G a1), some (.int a2), none, some (.int b1.2)] ⟨Or.inr rfl, Or.inr rfl, Or.inl rfl, Or.inr rfl, trivial⟩ (hj19 1 _)
set_option maxRecDepth 100000 in
set_option maxHeartbeats 4000000 in
theorem ctL_judged {l : Launch} {G : bkG} {M : Mem} {a1 : Nat} {a2 : Int32} (hk1 : kd a1 = 7) : ∀ r, fL_judged a1 a2 M = some r → Met l yL_judged (Cond.code yL_judged cL_judged 12 (some .boolean) :: TT) ({ frames := 4, cells := 0, slots := 0, locals := 94 } : Room) (va_Pc [rv G a1, .int a2] (Wd G M)) (QQ G ((fun v => some (.int v)) r.1) r.2) 0 0 (An G) := by
  refine mkMet (vl := (fun v => some (.int v))) RL rfl (by decide +kernel) rfl (Nat.le_of_ble_eq_true rfl) [some (rv G a1), some (.int a2), none, none, none, none, none, none, none, none, none, none] rfl ?_
  intro p e s m args below meth c C _
  refine x_aload_n (pc2 := 1) C dL_judged_0 rfl rfl ?_
  refine x_iload_n (pc2 := 2) C dL_judged_1 rfl rfl ?_
  refine x_iconst (pc2 := 3) C dL_judged_2 rfl ic_1 ?_
  refine x_callVi (pc2 := 6) C [.int a2, .int 1] [] cl_L_21 (fun q hq => ctX8_key hk1 q hq) hk1 rfl rfl rfl ⟨rfl, rfl, Nat.le_of_ble_eq_true rfl, Nat.le_of_ble_eq_true rfl⟩ (Nat.le_of_ble_eq_true rfl) ⟨Nat.zero_le _, Nat.zero_le _⟩ dL_judged_3 rfl (fun v1 M2 => ?_)
  refine x_if_ne (tgt := 45) (pc2 := 9) C dL_judged_6 (by decide) rfl ?_ ?_
  · refine x_aload_n (pc2 := 46) C dL_judged_45 rfl rfl ?_
    refine x_iload_n (pc2 := 47) C dL_judged_46 rfl rfl ?_
    refine x_iconst (pc2 := 48) C dL_judged_47 rfl ic_2 ?_
    refine x_callVi (pc2 := 51) C [.int a2, .int 2] [] cl_L_21 (fun q hq => ctX8_key hk1 q hq) hk1 rfl rfl rfl ⟨rfl, rfl, Nat.le_of_ble_eq_true rfl, Nat.le_of_ble_eq_true rfl⟩ (Nat.le_of_ble_eq_true rfl) ⟨Nat.zero_le _, Nat.zero_le _⟩ dL_judged_48 rfl (fun v3 M4 => ?_)
    refine x_istore_n (pc2 := 52) C dL_judged_51 rfl [some (rv G a1), some (.int a2), some (.int v3), none, none, none, none, none, none, none, none, none] rfl rfl ?_
    refine x_aload_n (pc2 := 53) C dL_judged_52 rfl rfl ?_
    refine x_iconst (pc2 := 54) C dL_judged_53 rfl ic_0 ?_
    refine x_callVi (pc2 := 57) C [.int 0] [] cl_L_9 (fun q hq => ctX8_count hk1 q hq) hk1 rfl rfl rfl ⟨rfl, rfl, Nat.le_of_ble_eq_true rfl, Nat.le_of_ble_eq_true rfl⟩ (Nat.le_of_ble_eq_true rfl) ⟨Nat.zero_le _, Nat.zero_le _⟩ dL_judged_54 rfl (fun v5 M6 => ?_)
    refine x_iload_n (pc2 := 58) C dL_judged_57 rfl rfl ?_
    refine x_isub (pc2 := 59) C dL_judged_58 rfl ?_
    refine x_istore_n (pc2 := 60) C dL_judged_59 rfl [some (rv G a1), some (.int a2), some (.int v3), some (.int (v5 - v3)), none, none, none, none, none, none, none, none] rfl rfl ?_
    refine x_aload_n (pc2 := 61) C dL_judged_60 rfl rfl ?_
    refine x_iload_n (pc2 := 62) C dL_judged_61 rfl rfl ?_
    refine x_iconst (pc2 := 63) C dL_judged_62 rfl ic_5 ?_
    refine x_callVi (pc2 := 66) C [.int a2, .int 5] [] cl_L_21 (fun q hq => ctX8_key hk1 q hq) hk1 rfl rfl rfl ⟨rfl, rfl, Nat.le_of_ble_eq_true rfl, Nat.le_of_ble_eq_true rfl⟩ (Nat.le_of_ble_eq_true rfl) ⟨Nat.zero_le _, Nat.zero_le _⟩ dL_judged_63 rfl (fun v7 M8 => ?_)
    refine x_istore (pc2 := 68) C dL_judged_66 rfl [some (rv G a1), some (.int a2), some (.int v3), some (.int (v5 - v3)), some (.int v7), none, none, none, none, none, none, none] rfl rfl ?_
    refine x_aload_n (pc2 := 69) C dL_judged_68 rfl rfl ?_
    refine x_iload_n (pc2 := 70) C dL_judged_69 rfl rfl ?_
    refine x_iconst (pc2 := 71) C dL_judged_70 rfl ic_3 ?_
    refine x_callVi (pc2 := 74) C [.int a2, .int 3] [] cl_L_21 (fun q hq => ctX8_key hk1 q hq) hk1 rfl rfl rfl ⟨rfl, rfl, Nat.le_of_ble_eq_true rfl, Nat.le_of_ble_eq_true rfl⟩ (Nat.le_of_ble_eq_true rfl) ⟨Nat.zero_le _, Nat.zero_le _⟩ dL_judged_71 rfl (fun v9 M10 => ?_)
    refine x_iconst (pc2 := 75) C dL_judged_74 rfl ic_1 ?_
    refine x_jn 83 (fun (b11 : Int32) => [some (rv G a1), some (.int a2), some (.int v3), some (.int (v5 - v3)), some (.int v7), none, none, none, none, none, none, none]) (fun (b11 : Int32) => [.int b11]) ?_ ?_
    · intro b11 M13
      refine x_istore (pc2 := 85) C dL_judged_83 rfl [some (rv G a1), some (.int a2), some (.int v3), some (.int (v5 - v3)), some (.int v7), some (.int b11), none, none, none, none, none, none] rfl rfl ?_
      refine x_iload (pc2 := 87) C dL_judged_85 rfl rfl ?_
      refine x_if_lt (tgt := 115) (pc2 := 90) C dL_judged_87 (by decide) rfl ?_ ?_
      · refine x_iload_n (pc2 := 116) C dL_judged_115 rfl rfl ?_
        refine x_sipush (pc2 := 119) C dL_judged_116 rfl sc_9999 ?_
        refine x_icmp_le (tgt := 124) (pc2 := 122) C dL_judged_119 (by decide) rfl ?_ ?_
        · refine x_aload_n (pc2 := 125) C dL_judged_124 rfl rfl ?_
          refine x_iconst (pc2 := 126) C dL_judged_125 rfl ic_0 ?_
          refine x_iload_n (pc2 := 127) C dL_judged_126 rfl rfl ?_
          refine x_iload_n (pc2 := 128) C dL_judged_127 rfl rfl ?_
          refine x_callVf (pc2 := 131) C [.int 0, .int v3, .int (v5 - v3)] [] cl_L_39 (fun q hq => ctX8_distance hk1 q hq) hk1 rfl rfl rfl ⟨rfl, rfl, Nat.le_of_ble_eq_true rfl, Nat.le_of_ble_eq_true rfl⟩ (Nat.le_of_ble_eq_true rfl) ⟨Nat.zero_le _, Nat.zero_le _⟩ dL_judged_128 rfl (fun v14 M15 => ?_)
          refine x_fstore (pc2 := 133) C dL_judged_131 rfl [some (rv G a1), some (.int a2), some (.int v3), some (.int (v5 - v3)), some (.int v7), some (.int b11), some (.float v14), none, none, none, none, none] rfl rfl ?_
          refine x_aload_n (pc2 := 134) C dL_judged_133 rfl rfl ?_
          refine x_iconst (pc2 := 135) C dL_judged_134 rfl ic_1 ?_
          refine x_iload_n (pc2 := 136) C dL_judged_135 rfl rfl ?_
          refine x_iload_n (pc2 := 137) C dL_judged_136 rfl rfl ?_
          refine x_callVf (pc2 := 140) C [.int 1, .int v3, .int (v5 - v3)] [] cl_L_39 (fun q hq => ctX8_distance hk1 q hq) hk1 rfl rfl rfl ⟨rfl, rfl, Nat.le_of_ble_eq_true rfl, Nat.le_of_ble_eq_true rfl⟩ (Nat.le_of_ble_eq_true rfl) ⟨Nat.zero_le _, Nat.zero_le _⟩ dL_judged_137 rfl (fun v16 M17 => ?_)
          refine x_fstore (pc2 := 142) C dL_judged_140 rfl [some (rv G a1), some (.int a2), some (.int v3), some (.int (v5 - v3)), some (.int v7), some (.int b11), some (.float v14), some (.float v16), none, none, none, none] rfl rfl ?_
          refine x_fload (pc2 := 144) C dL_judged_142 rfl rfl ?_
          refine x_fload (pc2 := 146) C dL_judged_144 rfl rfl ?_
          refine x_fcmpg (pc2 := 147) C dL_judged_146 rfl ?_
          refine x_jn 155 (fun (b18 : Int32) => [some (rv G a1), some (.int a2), none, none, none, some (.int b11), some (.float v14), some (.float v16), none, none, none, none]) (fun (b18 : Int32) => [.int b18]) ?_ ?_
          · intro b18 M20
            refine x_istore (pc2 := 157) C dL_judged_155 rfl [some (rv G a1), some (.int a2), none, none, none, some (.int b11), some (.float v14), some (.float v16), some (.int b18), none, none, none] rfl rfl ?_
            refine x_iload (pc2 := 159) C dL_judged_157 rfl rfl ?_
            refine x_jn 169 (fun (b21 : UInt32) => [some (rv G a1), some (.int a2), none, none, none, some (.int b11), some (.float v14), some (.float v16), some (.int b18), none, none, none]) (fun (b21 : UInt32) => [.float b21]) ?_ ?_
            · intro b21 M23
              refine x_fstore (pc2 := 171) C dL_judged_169 rfl [some (rv G a1), some (.int a2), none, none, none, some (.int b11), some (.float v14), some (.float v16), some (.int b18), some (.float b21), none, none] rfl rfl ?_
              refine x_fload (pc2 := 173) C dL_judged_171 rfl rfl ?_
              refine x_fload (pc2 := 175) C dL_judged_173 rfl rfl ?_
              refine x_fcmpg (pc2 := 176) C dL_judged_175 rfl ?_
              refine x_jn 192 (fun (b24 : UInt32) => [some (rv G a1), some (.int a2), none, none, none, some (.int b11), none, none, some (.int b18), some (.float b21), none, none]) (fun (b24 : UInt32) => [.float b24]) ?_ ?_
              · intro b24 M26
                refine x_fstore (pc2 := 194) C dL_judged_192 rfl [some (rv G a1), some (.int a2), none, none, none, some (.int b11), none, none, some (.int b18), some (.float b21), some (.float b24), none] rfl rfl ?_
                refine x_iload (pc2 := 196) C dL_judged_194 rfl rfl ?_
                refine x_jn 245 (fun (b27 : Int32) => [some (rv G a1), some (.int a2), none, none, none, none, none, none, none, none, none, none]) (fun (b27 : Int32) => [.int b27]) ?_ ?_
                · intro b27 M29
                  refine x_istore (pc2 := 247) C dL_judged_245 rfl [some (rv G a1), some (.int a2), none, none, none, none, none, none, none, none, none, some (.int b27)] rfl rfl ?_
                  refine x_aload_n (pc2 := 248) C dL_judged_247 rfl rfl ?_
                  refine x_iload_n (pc2 := 249) C dL_judged_248 rfl rfl ?_
                  refine x_callVi (pc2 := 252) C [.int a2] [] cl_L_36 (fun q hq => ctX8_verdict hk1 q hq) hk1 rfl rfl rfl ⟨rfl, rfl, Nat.le_of_ble_eq_true rfl, Nat.le_of_ble_eq_true rfl⟩ (Nat.le_of_ble_eq_true rfl) ⟨Nat.zero_le _, Nat.zero_le _⟩ dL_judged_249 rfl (fun v30 M31 => ?_)
                  refine x_iload (pc2 := 254) C dL_judged_252 rfl rfl ?_
                  refine x_icmp_ne (tgt := 261) (pc2 := 257) C dL_judged_254 (by decide) rfl ?_ ?_
                  · refine x_iconst (pc2 := 262) C dL_judged_261 rfl ic_0 ?_
                    exact x_zret C rfl rfl rfl dL_judged_262
                  · refine x_iconst (pc2 := 258) C dL_judged_257 rfl ic_1 ?_
                    refine x_goto (tgt := 262) C dL_judged_258 (by decide) ?_
                    exact x_zret C rfl rfl rfl dL_judged_262
                · intro j28 hj28
                  refine x_if_eq (tgt := 216) (pc2 := 199) C dL_judged_196 (by decide) rfl ?_ ?_
                  · refine x_fload (pc2 := 218) C dL_judged_216 rfl rfl ?_
                    refine x_ldcf (pc2 := 220) C wt3_46 dL_judged_218 rfl ?_
                    refine x_fcmpg (pc2 := 221) C dL_judged_220 rfl ?_
                    refine x_if_ge (tgt := 243) (pc2 := 224) C dL_judged_221 (by decide) rfl ?_ ?_
                    · refine x_iload (pc2 := 245) C dL_judged_243 rfl rfl ?_
                      exact x_wk [some (rv G a1), some (.int a2), none, none, none, none, none, none, none, none, none, none] ⟨Or.inr rfl, Or.inr rfl, Or.inl rfl, Or.inl rfl, Or.inl rfl, Or.inl rfl, Or.inl rfl, Or.inl rfl, Or.inl rfl, Or.inl rfl, Or.inl rfl, Or.inl rfl, trivial⟩ (hj28 b18 _)
                    · refine x_aload_n (pc2 := 225) C dL_judged_224 rfl rfl ?_
                      refine x_bipush (pc2 := 227) C dL_judged_225 rfl bc_10 ?_
                      refine x_callVi (pc2 := 230) C [.int 10] [] cl_L_9 (fun q hq => ctX8_count hk1 q hq) hk1 rfl rfl rfl ⟨rfl, rfl, Nat.le_of_ble_eq_true rfl, Nat.le_of_ble_eq_true rfl⟩ (Nat.le_of_ble_eq_true rfl) ⟨Nat.zero_le _, Nat.zero_le _⟩ dL_judged_227 rfl (fun v32 M33 => ?_)
                      refine x_bipush (pc2 := 232) C dL_judged_230 rfl bc_20 ?_
                      refine x_icmp_ne (tgt := 239) (pc2 := 235) C dL_judged_232 (by decide) rfl ?_ ?_
                      · refine x_iconst (pc2 := 240) C dL_judged_239 rfl ic_3 ?_
                        refine x_goto (tgt := 245) C dL_judged_240 (by decide) ?_
                        exact x_wk [some (rv G a1), some (.int a2), none, none, none, none, none, none, none, none, none, none] ⟨Or.inr rfl, Or.inr rfl, Or.inl rfl, Or.inl rfl, Or.inl rfl, Or.inl rfl, Or.inl rfl, Or.inl rfl, Or.inl rfl, Or.inl rfl, Or.inl rfl, Or.inl rfl, trivial⟩ (hj28 3 _)
                      · refine x_iconst (pc2 := 236) C dL_judged_235 rfl ic_2 ?_
                        refine x_goto (tgt := 245) C dL_judged_236 (by decide) ?_
                        exact x_wk [some (rv G a1), some (.int a2), none, none, none, none, none, none, none, none, none, none] ⟨Or.inr rfl, Or.inr rfl, Or.inl rfl, Or.inl rfl, Or.inl rfl, Or.inl rfl, Or.inl rfl, Or.inl rfl, Or.inl rfl, Or.inl rfl, Or.inl rfl, Or.inl rfl, trivial⟩ (hj28 2 _)
                  · refine x_fload (pc2 := 201) C dL_judged_199 rfl rfl ?_
                    refine x_ldcf (pc2 := 203) C wt3_45 dL_judged_201 rfl ?_
                    refine x_fcmpg (pc2 := 204) C dL_judged_203 rfl ?_
                    refine x_if_gt (tgt := 212) (pc2 := 207) C dL_judged_204 (by decide) rfl ?_ ?_
                    · refine x_iconst (pc2 := 213) C dL_judged_212 rfl ic_2 ?_
                      refine x_goto (tgt := 245) C dL_judged_213 (by decide) ?_
                      exact x_wk [some (rv G a1), some (.int a2), none, none, none, none, none, none, none, none, none, none] ⟨Or.inr rfl, Or.inr rfl, Or.inl rfl, Or.inl rfl, Or.inl rfl, Or.inl rfl, Or.inl rfl, Or.inl rfl, Or.inl rfl, Or.inl rfl, Or.inl rfl, Or.inl rfl, trivial⟩ (hj28 2 _)
                    · refine x_iload (pc2 := 209) C dL_judged_207 rfl rfl ?_
                      refine x_goto (tgt := 245) C dL_judged_209 (by decide) ?_
                      exact x_wk [some (rv G a1), some (.int a2), none, none, none, none, none, none, none, none, none, none] ⟨Or.inr rfl, Or.inr rfl, Or.inl rfl, Or.inl rfl, Or.inl rfl, Or.inl rfl, Or.inl rfl, Or.inl rfl, Or.inl rfl, Or.inl rfl, Or.inl rfl, Or.inl rfl, trivial⟩ (hj28 b18 _)
              · intro j25 hj25
                refine x_if_ge (tgt := 187) (pc2 := 179) C dL_judged_176 (by decide) rfl ?_ ?_
                · refine x_fload (pc2 := 189) C dL_judged_187 rfl rfl ?_
                  refine x_fload (pc2 := 191) C dL_judged_189 rfl rfl ?_
                  refine x_fsub (pc2 := 192) C dL_judged_191 rfl ?_
                  refine x_topf (fun v34 => ?_)
                  exact x_wk [some (rv G a1), some (.int a2), none, none, none, some (.int b11), none, none, some (.int b18), some (.float b21), none, none] ⟨Or.inr rfl, Or.inr rfl, Or.inl rfl, Or.inl rfl, Or.inl rfl, Or.inr rfl, Or.inl rfl, Or.inl rfl, Or.inr rfl, Or.inr rfl, Or.inl rfl, Or.inl rfl, trivial⟩ (hj25 v34 _)
                · refine x_fload (pc2 := 181) C dL_judged_179 rfl rfl ?_
                  refine x_fload (pc2 := 183) C dL_judged_181 rfl rfl ?_
                  refine x_fsub (pc2 := 184) C dL_judged_183 rfl ?_
                  refine x_topf (fun v35 => ?_)
                  refine x_goto (tgt := 192) C dL_judged_184 (by decide) ?_
                  exact x_wk [some (rv G a1), some (.int a2), none, none, none, some (.int b11), none, none, some (.int b18), some (.float b21), none, none] ⟨Or.inr rfl, Or.inr rfl, Or.inl rfl, Or.inl rfl, Or.inl rfl, Or.inr rfl, Or.inl rfl, Or.inl rfl, Or.inr rfl, Or.inr rfl, Or.inl rfl, Or.inl rfl, trivial⟩ (hj25 v35 _)
            · intro j22 hj22
              refine x_if_ne (tgt := 167) (pc2 := 162) C dL_judged_159 (by decide) rfl ?_ ?_
              · refine x_fload (pc2 := 169) C dL_judged_167 rfl rfl ?_
                exact x_wk [some (rv G a1), some (.int a2), none, none, none, some (.int b11), some (.float v14), some (.float v16), some (.int b18), none, none, none] ⟨Or.inr rfl, Or.inr rfl, Or.inl rfl, Or.inl rfl, Or.inl rfl, Or.inr rfl, Or.inr rfl, Or.inr rfl, Or.inr rfl, Or.inl rfl, Or.inl rfl, Or.inl rfl, trivial⟩ (hj22 v16 _)
              · refine x_fload (pc2 := 164) C dL_judged_162 rfl rfl ?_
                refine x_goto (tgt := 169) C dL_judged_164 (by decide) ?_
                exact x_wk [some (rv G a1), some (.int a2), none, none, none, some (.int b11), some (.float v14), some (.float v16), some (.int b18), none, none, none] ⟨Or.inr rfl, Or.inr rfl, Or.inl rfl, Or.inl rfl, Or.inl rfl, Or.inr rfl, Or.inr rfl, Or.inr rfl, Or.inr rfl, Or.inl rfl, Or.inl rfl, Or.inl rfl, trivial⟩ (hj22 v14 _)
          · intro j19 hj19
            refine x_if_ge (tgt := 154) (pc2 := 150) C dL_judged_147 (by decide) rfl ?_ ?_
            · refine x_iconst (pc2 := 155) C dL_judged_154 rfl ic_0 ?_
              exact x_wk [some (rv G a1), some (.int a2), none, none, none, some (.int b11), some (.float v14), some (.float v16), none, none, none, none] ⟨Or.inr rfl, Or.inr rfl, Or.inl rfl, Or.inl rfl, Or.inl rfl, Or.inr rfl, Or.inr rfl, Or.inr rfl, Or.inl rfl, Or.inl rfl, Or.inl rfl, Or.inl rfl, trivial⟩ (hj19 0 _)
            · refine x_iconst (pc2 := 151) C dL_judged_150 rfl ic_1 ?_
              refine x_goto (tgt := 155) C dL_judged_151 (by decide) ?_
              exact x_wk [some (rv G a1), some (.int a2), none, none, none, some (.int b11), some (.float v14), some (.float v16), none, none, none, none] ⟨Or.inr rfl, Or.inr rfl, Or.inl rfl, Or.inl rfl, Or.inl rfl, Or.inr rfl, Or.inr rfl, Or.inr rfl, Or.inl rfl, Or.inl rfl, Or.inl rfl, Or.inl rfl, trivial⟩ (hj19 1 _)
        · refine x_iconst (pc2 := 123) C dL_judged_122 rfl ic_1 ?_
          exact x_zret C rfl rfl rfl dL_judged_123
      · refine x_aload_n (pc2 := 91) C dL_judged_90 rfl rfl ?_
        refine x_iload_n (pc2 := 92) C dL_judged_91 rfl rfl ?_
        refine x_callVi (pc2 := 95) C [.int a2] [] cl_L_36 (fun q hq => ctX8_verdict hk1 q hq) hk1 rfl rfl rfl ⟨rfl, rfl, Nat.le_of_ble_eq_true rfl, Nat.le_of_ble_eq_true rfl⟩ (Nat.le_of_ble_eq_true rfl) ⟨Nat.zero_le _, Nat.zero_le _⟩ dL_judged_92 rfl (fun v36 M37 => ?_)
        refine x_iload (pc2 := 97) C dL_judged_95 rfl rfl ?_
        refine x_jn 106 (fun (b38 : Int32) => [none, none, none, none, none, none, none, none, none, none, none, none]) (fun (b38 : Int32) => [.int b38, .int v36]) ?_ ?_
        · intro b38 M40
          refine x_icmp_ne (tgt := 113) (pc2 := 109) C dL_judged_106 (by decide) rfl ?_ ?_
          · refine x_iconst (pc2 := 114) C dL_judged_113 rfl ic_0 ?_
            exact x_zret C rfl rfl rfl dL_judged_114
          · refine x_iconst (pc2 := 110) C dL_judged_109 rfl ic_1 ?_
            refine x_goto (tgt := 114) C dL_judged_110 (by decide) ?_
            exact x_zret C rfl rfl rfl dL_judged_114
        · intro j39 hj39
          refine x_if_eq (tgt := 104) (pc2 := 100) C dL_judged_97 (by decide) rfl ?_ ?_
          · refine x_iload (pc2 := 106) C dL_judged_104 rfl rfl ?_
            exact x_wk [none, none, none, none, none, none, none, none, none, none, none, none] ⟨Or.inl rfl, Or.inl rfl, Or.inl rfl, Or.inl rfl, Or.inl rfl, Or.inl rfl, Or.inl rfl, Or.inl rfl, Or.inl rfl, Or.inl rfl, Or.inl rfl, Or.inl rfl, trivial⟩ (hj39 v7 _)
          · refine x_iconst (pc2 := 101) C dL_judged_100 rfl ic_2 ?_
            refine x_goto (tgt := 106) C dL_judged_101 (by decide) ?_
            exact x_wk [none, none, none, none, none, none, none, none, none, none, none, none] ⟨Or.inl rfl, Or.inl rfl, Or.inl rfl, Or.inl rfl, Or.inl rfl, Or.inl rfl, Or.inl rfl, Or.inl rfl, Or.inl rfl, Or.inl rfl, Or.inl rfl, Or.inl rfl, trivial⟩ (hj39 2 _)
    · intro j12 hj12
      refine x_icmp_ne (tgt := 82) (pc2 := 78) C dL_judged_75 (by decide) rfl ?_ ?_
      · refine x_iconst (pc2 := 83) C dL_judged_82 rfl ic_0 ?_
        exact x_wk [some (rv G a1), some (.int a2), some (.int v3), some (.int (v5 - v3)), some (.int v7), none, none, none, none, none, none, none] ⟨Or.inr rfl, Or.inr rfl, Or.inr rfl, Or.inr rfl, Or.inr rfl, Or.inl rfl, Or.inl rfl, Or.inl rfl, Or.inl rfl, Or.inl rfl, Or.inl rfl, Or.inl rfl, trivial⟩ (hj12 0 _)
      · refine x_iconst (pc2 := 79) C dL_judged_78 rfl ic_1 ?_
        refine x_goto (tgt := 83) C dL_judged_79 (by decide) ?_
        exact x_wk [some (rv G a1), some (.int a2), some (.int v3), some (.int (v5 - v3)), some (.int v7), none, none, none, none, none, none, none] ⟨Or.inr rfl, Or.inr rfl, Or.inr rfl, Or.inr rfl, Or.inr rfl, Or.inl rfl, Or.inl rfl, Or.inl rfl, Or.inl rfl, Or.inl rfl, Or.inl rfl, Or.inl rfl, trivial⟩ (hj12 1 _)
  · refine x_aload_n (pc2 := 10) C dL_judged_9 rfl rfl ?_
    refine x_iload_n (pc2 := 11) C dL_judged_10 rfl rfl ?_
    refine x_callVi (pc2 := 14) C [.int a2] [] cl_L_36 (fun q hq => ctX8_verdict hk1 q hq) hk1 rfl rfl rfl ⟨rfl, rfl, Nat.le_of_ble_eq_true rfl, Nat.le_of_ble_eq_true rfl⟩ (Nat.le_of_ble_eq_true rfl) ⟨Nat.zero_le _, Nat.zero_le _⟩ dL_judged_11 rfl (fun v41 M42 => ?_)
    refine x_bipush (pc2 := 16) C dL_judged_14 rfl bc_m5 ?_
    refine x_icmp_ne (tgt := 43) (pc2 := 19) C dL_judged_16 (by decide) rfl ?_ ?_
    · refine x_iconst (pc2 := 44) C dL_judged_43 rfl ic_0 ?_
      exact x_zret C rfl rfl rfl dL_judged_44
    · refine x_aload_n (pc2 := 20) C dL_judged_19 rfl rfl ?_
      refine x_iload_n (pc2 := 21) C dL_judged_20 rfl rfl ?_
      refine x_iconst (pc2 := 22) C dL_judged_21 rfl ic_2 ?_
      refine x_callVi (pc2 := 25) C [.int a2, .int 2] [] cl_L_21 (fun q hq => ctX8_key hk1 q hq) hk1 rfl rfl rfl ⟨rfl, rfl, Nat.le_of_ble_eq_true rfl, Nat.le_of_ble_eq_true rfl⟩ (Nat.le_of_ble_eq_true rfl) ⟨Nat.zero_le _, Nat.zero_le _⟩ dL_judged_22 rfl (fun v43 M44 => ?_)
      refine x_bipush (pc2 := 27) C dL_judged_25 rfl bc_m5 ?_
      refine x_icmp_ne (tgt := 43) (pc2 := 30) C dL_judged_27 (by decide) rfl ?_ ?_
      · refine x_iconst (pc2 := 44) C dL_judged_43 rfl ic_0 ?_
        exact x_zret C rfl rfl rfl dL_judged_44
      · refine x_aload_n (pc2 := 31) C dL_judged_30 rfl rfl ?_
        refine x_iload_n (pc2 := 32) C dL_judged_31 rfl rfl ?_
        refine x_iconst (pc2 := 33) C dL_judged_32 rfl ic_3 ?_
        refine x_callVi (pc2 := 36) C [.int a2, .int 3] [] cl_L_21 (fun q hq => ctX8_key hk1 q hq) hk1 rfl rfl rfl ⟨rfl, rfl, Nat.le_of_ble_eq_true rfl, Nat.le_of_ble_eq_true rfl⟩ (Nat.le_of_ble_eq_true rfl) ⟨Nat.zero_le _, Nat.zero_le _⟩ dL_judged_33 rfl (fun v45 M46 => ?_)
        refine x_if_ne (tgt := 43) (pc2 := 39) C dL_judged_36 (by decide) rfl ?_ ?_
        · refine x_iconst (pc2 := 44) C dL_judged_43 rfl ic_0 ?_
          exact x_zret C rfl rfl rfl dL_judged_44
        · refine x_iconst (pc2 := 40) C dL_judged_39 rfl ic_1 ?_
          refine x_goto (tgt := 44) C dL_judged_40 (by decide) ?_
          exact x_zret C rfl rfl rfl dL_judged_44
set_option maxRecDepth 100000 in
set_option maxHeartbeats 4000000 in
theorem ctL_keyboard {l : Launch} {G : bkG} {M : Mem} {a1 : Nat} (hk1 : kd a1 = 7) : ∀ r, fL_keyboard a1 M = some r → Met l yL_keyboard (Cond.code yL_keyboard cL_keyboard 8 (some .boolean) :: TT) ({ frames := 7, cells := 0, slots := 0, locals := 159 } : Room) (va_Pc [rv G a1] (Wd G M)) (QQ G ((fun v => some (.int v)) r.1) r.2) 0 0 (An G) := by
  refine mkMet (vl := (fun v => some (.int v))) RL rfl (by decide +kernel) rfl (Nat.le_of_ble_eq_true rfl) [some (rv G a1), none, none, none, none, none, none, none] rfl ?_
  intro p e s m args below meth c C _
  refine x_iconst (pc2 := 1) C dL_keyboard_0 rfl ic_0 ?_
  refine x_istore_n (pc2 := 2) C dL_keyboard_1 rfl [some (rv G a1), some (.int 0), none, none, none, none, none, none] rfl rfl ?_
  refine x_iconst (pc2 := 3) C dL_keyboard_2 rfl ic_0 ?_
  refine x_istore_n (pc2 := 4) C dL_keyboard_3 rfl [some (rv G a1), some (.int 0), some (.int 0), none, none, none, none, none] rfl rfl ?_
  refine x_iconst (pc2 := 5) C dL_keyboard_4 rfl ic_0 ?_
  refine x_istore_n (pc2 := 6) C dL_keyboard_5 rfl [some (rv G a1), some (.int 0), some (.int 0), some (.int 0), none, none, none, none] rfl rfl ?_
  refine x_iconst (pc2 := 7) C dL_keyboard_6 rfl ic_0 ?_
  refine x_istore (pc2 := 9) C dL_keyboard_7 rfl [some (rv G a1), some (.int 0), some (.int 0), some (.int 0), some (.int 0), none, none, none] rfl rfl ?_
  refine x_iconst (pc2 := 10) C dL_keyboard_9 rfl ic_0 ?_
  refine x_istore (pc2 := 12) C dL_keyboard_10 rfl [some (rv G a1), some (.int 0), some (.int 0), some (.int 0), some (.int 0), some (.int 0), none, none] rfl rfl ?_
  refine x_wk [some (rv G a1), some (.int 0), some (.int 0), some (.int 0), some (.int 0), some (.int 0), none, none] ⟨Or.inr rfl, Or.inr rfl, Or.inr rfl, Or.inr rfl, Or.inr rfl, Or.inr rfl, Or.inl rfl, Or.inl rfl, trivial⟩ ?_
  refine x_lp1 (fun (b1 : Int32 × Int32 × Int32 × Int32 × Int32) => [some (rv G a1), some (.int b1.1), some (.int b1.2.1), some (.int b1.2.2.1), some (.int b1.2.2.2.1), some (.int b1.2.2.2.2), none, none]) 198 (fun (b4 : Int32 × Int32 × Int32 × Int32) => [some (rv G a1), some (.int b4.1), some (.int b4.2.1), some (.int b4.2.2.1), some (.int b4.2.2.2), none, none, none]) ?_ ?_
  · intro b4 M5
    refine x_aload_n (pc2 := 199) C dL_keyboard_198 rfl rfl ?_
    refine x_iconst (pc2 := 200) C dL_keyboard_199 rfl ic_0 ?_
    refine x_iconst (pc2 := 201) C dL_keyboard_200 rfl ic_0 ?_
    refine x_callVi (pc2 := 204) C [.int 0, .int 0] [] cl_L_45 (fun q hq => ctX8_typist hk1 q hq) hk1 rfl rfl rfl ⟨rfl, rfl, Nat.le_of_ble_eq_true rfl, Nat.le_of_ble_eq_true rfl⟩ (Nat.le_of_ble_eq_true rfl) ⟨Nat.zero_le _, Nat.zero_le _⟩ dL_keyboard_201 rfl (fun v6 M7 => ?_)
    refine x_iload (pc2 := 206) C dL_keyboard_204 rfl rfl ?_
    refine x_jn 243 (fun (b8 : Int32) => [some (rv G a1), some (.int b4.1), some (.int b4.2.1), some (.int b4.2.2.1), none, none, none, none]) (fun (b8 : Int32) => [.int b8]) ?_ ?_
    · intro b8 M10
      refine x_istore (pc2 := 245) C dL_keyboard_243 rfl [some (rv G a1), some (.int b4.1), some (.int b4.2.1), some (.int b4.2.2.1), none, some (.int b8), none, none] rfl rfl ?_
      refine x_iload (pc2 := 247) C dL_keyboard_245 rfl rfl ?_
      refine x_if_eq (tgt := 314) (pc2 := 250) C dL_keyboard_247 (by decide) rfl ?_ ?_
      · refine x_iconst (pc2 := 315) C dL_keyboard_314 rfl ic_0 ?_
        exact x_zret C rfl rfl rfl dL_keyboard_315
      · refine x_aload_n (pc2 := 251) C dL_keyboard_250 rfl rfl ?_
        refine x_iconst (pc2 := 252) C dL_keyboard_251 rfl ic_3 ?_
        refine x_callVi (pc2 := 255) C [.int 3] [] cl_L_9 (fun q hq => ctX8_count hk1 q hq) hk1 rfl rfl rfl ⟨rfl, rfl, Nat.le_of_ble_eq_true rfl, Nat.le_of_ble_eq_true rfl⟩ (Nat.le_of_ble_eq_true rfl) ⟨Nat.zero_le _, Nat.zero_le _⟩ dL_keyboard_252 rfl (fun v11 M12 => ?_)
        refine x_iload_n (pc2 := 256) C dL_keyboard_255 rfl rfl ?_
        refine x_icmp_ne (tgt := 314) (pc2 := 259) C dL_keyboard_256 (by decide) rfl ?_ ?_
        · refine x_iconst (pc2 := 315) C dL_keyboard_314 rfl ic_0 ?_
          exact x_zret C rfl rfl rfl dL_keyboard_315
        · refine x_aload_n (pc2 := 260) C dL_keyboard_259 rfl rfl ?_
          refine x_iconst (pc2 := 261) C dL_keyboard_260 rfl ic_4 ?_
          refine x_callVi (pc2 := 264) C [.int 4] [] cl_L_9 (fun q hq => ctX8_count hk1 q hq) hk1 rfl rfl rfl ⟨rfl, rfl, Nat.le_of_ble_eq_true rfl, Nat.le_of_ble_eq_true rfl⟩ (Nat.le_of_ble_eq_true rfl) ⟨Nat.zero_le _, Nat.zero_le _⟩ dL_keyboard_261 rfl (fun v13 M14 => ?_)
          refine x_iload_n (pc2 := 265) C dL_keyboard_264 rfl rfl ?_
          refine x_icmp_ne (tgt := 314) (pc2 := 268) C dL_keyboard_265 (by decide) rfl ?_ ?_
          · refine x_iconst (pc2 := 315) C dL_keyboard_314 rfl ic_0 ?_
            exact x_zret C rfl rfl rfl dL_keyboard_315
          · refine x_aload_n (pc2 := 269) C dL_keyboard_268 rfl rfl ?_
            refine x_iconst (pc2 := 270) C dL_keyboard_269 rfl ic_5 ?_
            refine x_callVi (pc2 := 273) C [.int 5] [] cl_L_9 (fun q hq => ctX8_count hk1 q hq) hk1 rfl rfl rfl ⟨rfl, rfl, Nat.le_of_ble_eq_true rfl, Nat.le_of_ble_eq_true rfl⟩ (Nat.le_of_ble_eq_true rfl) ⟨Nat.zero_le _, Nat.zero_le _⟩ dL_keyboard_270 rfl (fun v15 M16 => ?_)
            refine x_iload_n (pc2 := 274) C dL_keyboard_273 rfl rfl ?_
            refine x_icmp_ne (tgt := 314) (pc2 := 277) C dL_keyboard_274 (by decide) rfl ?_ ?_
            · refine x_iconst (pc2 := 315) C dL_keyboard_314 rfl ic_0 ?_
              exact x_zret C rfl rfl rfl dL_keyboard_315
            · refine x_aload_n (pc2 := 278) C dL_keyboard_277 rfl rfl ?_
              refine x_bipush (pc2 := 280) C dL_keyboard_278 rfl bc_13 ?_
              refine x_callVi (pc2 := 283) C [.int 13] [] cl_L_9 (fun q hq => ctX8_count hk1 q hq) hk1 rfl rfl rfl ⟨rfl, rfl, Nat.le_of_ble_eq_true rfl, Nat.le_of_ble_eq_true rfl⟩ (Nat.le_of_ble_eq_true rfl) ⟨Nat.zero_le _, Nat.zero_le _⟩ dL_keyboard_280 rfl (fun v17 M18 => ?_)
              refine x_aload_n (pc2 := 284) C dL_keyboard_283 rfl rfl ?_
              refine x_iconst (pc2 := 285) C dL_keyboard_284 rfl ic_0 ?_
              refine x_callVi (pc2 := 288) C [.int 0] [.int v17] cl_L_9 (fun q hq => ctX8_count hk1 q hq) hk1 rfl rfl rfl ⟨rfl, rfl, Nat.le_of_ble_eq_true rfl, Nat.le_of_ble_eq_true rfl⟩ (Nat.le_of_ble_eq_true rfl) ⟨Nat.zero_le _, Nat.zero_le _⟩ dL_keyboard_285 rfl (fun v19 M20 => ?_)
              refine x_aload_n (pc2 := 289) C dL_keyboard_288 rfl rfl ?_
              refine x_iconst (pc2 := 290) C dL_keyboard_289 rfl ic_1 ?_
              refine x_callVi (pc2 := 293) C [.int 1] [.int v19, .int v17] cl_L_9 (fun q hq => ctX8_count hk1 q hq) hk1 rfl rfl rfl ⟨rfl, rfl, Nat.le_of_ble_eq_true rfl, Nat.le_of_ble_eq_true rfl⟩ (Nat.le_of_ble_eq_true rfl) ⟨Nat.zero_le _, Nat.zero_le _⟩ dL_keyboard_290 rfl (fun v21 M22 => ?_)
              refine x_irem (pc2 := 294) C dL_keyboard_293 rfl ?_
              refine x_icmp_ne (tgt := 314) (pc2 := 297) C dL_keyboard_294 (by decide) rfl ?_ ?_
              · refine x_iconst (pc2 := 315) C dL_keyboard_314 rfl ic_0 ?_
                exact x_zret C rfl rfl rfl dL_keyboard_315
              · refine x_aload_n (pc2 := 298) C dL_keyboard_297 rfl rfl ?_
                refine x_aload_n (pc2 := 299) C dL_keyboard_298 rfl rfl ?_
                refine x_callSi (pc2 := 302) C [rv G a1] [rv G a1] cl_L_15 (fun q hq => ctL_keys hk1 q hq) rfl rfl ⟨rfl, rfl, Nat.le_of_ble_eq_true rfl, Nat.le_of_ble_eq_true rfl⟩ (Nat.le_of_ble_eq_true rfl) ⟨Nat.zero_le _, Nat.zero_le _⟩ dL_keyboard_299 rfl (fun v23 M24 => ?_)
                refine x_iconst (pc2 := 303) C dL_keyboard_302 rfl ic_0 ?_
                refine x_callVi (pc2 := 306) C [.int v23, .int 0] [] cl_L_21 (fun q hq => ctX8_key hk1 q hq) hk1 rfl rfl rfl ⟨rfl, rfl, Nat.le_of_ble_eq_true rfl, Nat.le_of_ble_eq_true rfl⟩ (Nat.le_of_ble_eq_true rfl) ⟨Nat.zero_le _, Nat.zero_le _⟩ dL_keyboard_303 rfl (fun v25 M26 => ?_)
                refine x_iconst (pc2 := 307) C dL_keyboard_306 rfl ic_m1 ?_
                refine x_icmp_ne (tgt := 314) (pc2 := 310) C dL_keyboard_307 (by decide) rfl ?_ ?_
                · refine x_iconst (pc2 := 315) C dL_keyboard_314 rfl ic_0 ?_
                  exact x_zret C rfl rfl rfl dL_keyboard_315
                · refine x_iconst (pc2 := 311) C dL_keyboard_310 rfl ic_1 ?_
                  refine x_goto (tgt := 315) C dL_keyboard_311 (by decide) ?_
                  exact x_zret C rfl rfl rfl dL_keyboard_315
    · intro j9 hj9
      refine x_jn 242 (fun (b27 : Unit) => [some (rv G a1), some (.int b4.1), some (.int b4.2.1), some (.int b4.2.2.1), none, none, none, none]) (fun (b27 : Unit) => []) ?_ ?_
      · intro b27 M29
        refine x_iconst (pc2 := 243) C dL_keyboard_242 rfl ic_0 ?_
        exact x_wk [some (rv G a1), some (.int b4.1), some (.int b4.2.1), some (.int b4.2.2.1), none, none, none, none] ⟨Or.inr rfl, Or.inr rfl, Or.inr rfl, Or.inr rfl, Or.inl rfl, Or.inl rfl, Or.inl rfl, Or.inl rfl, trivial⟩ (hj9 0 _)
      · intro j28 hj28
        refine x_icmp_ne (tgt := 242) (pc2 := 209) C dL_keyboard_206 (by decide) rfl ?_ ?_
        · exact x_wk [some (rv G a1), some (.int b4.1), some (.int b4.2.1), some (.int b4.2.2.1), none, none, none, none] ⟨Or.inr rfl, Or.inr rfl, Or.inr rfl, Or.inr rfl, Or.inl rfl, Or.inl rfl, Or.inl rfl, Or.inl rfl, trivial⟩ (hj28 () _)
        · refine x_aload_n (pc2 := 210) C dL_keyboard_209 rfl rfl ?_
          refine x_iconst (pc2 := 211) C dL_keyboard_210 rfl ic_1 ?_
          refine x_iconst (pc2 := 212) C dL_keyboard_211 rfl ic_0 ?_
          refine x_callVi (pc2 := 215) C [.int 1, .int 0] [] cl_L_45 (fun q hq => ctX8_typist hk1 q hq) hk1 rfl rfl rfl ⟨rfl, rfl, Nat.le_of_ble_eq_true rfl, Nat.le_of_ble_eq_true rfl⟩ (Nat.le_of_ble_eq_true rfl) ⟨Nat.zero_le _, Nat.zero_le _⟩ dL_keyboard_212 rfl (fun v30 M31 => ?_)
          refine x_iload_n (pc2 := 216) C dL_keyboard_215 rfl rfl ?_
          refine x_iload (pc2 := 218) C dL_keyboard_216 rfl rfl ?_
          refine x_isub (pc2 := 219) C dL_keyboard_218 rfl ?_
          refine x_icmp_ne (tgt := 242) (pc2 := 222) C dL_keyboard_219 (by decide) rfl ?_ ?_
          · exact x_wk [some (rv G a1), some (.int b4.1), some (.int b4.2.1), some (.int b4.2.2.1), none, none, none, none] ⟨Or.inr rfl, Or.inr rfl, Or.inr rfl, Or.inr rfl, Or.inl rfl, Or.inl rfl, Or.inl rfl, Or.inl rfl, trivial⟩ (hj28 () _)
          · refine x_iload (pc2 := 224) C dL_keyboard_222 rfl rfl ?_
            refine x_bipush (pc2 := 226) C dL_keyboard_224 rfl bc_6 ?_
            refine x_icmp_ge (tgt := 242) (pc2 := 229) C dL_keyboard_226 (by decide) rfl ?_ ?_
            · exact x_wk [some (rv G a1), some (.int b4.1), some (.int b4.2.1), some (.int b4.2.2.1), none, none, none, none] ⟨Or.inr rfl, Or.inr rfl, Or.inr rfl, Or.inr rfl, Or.inl rfl, Or.inl rfl, Or.inl rfl, Or.inl rfl, trivial⟩ (hj28 () _)
            · refine x_iload_n (pc2 := 230) C dL_keyboard_229 rfl rfl ?_
              refine x_iload (pc2 := 232) C dL_keyboard_230 rfl rfl ?_
              refine x_isub (pc2 := 233) C dL_keyboard_232 rfl ?_
              refine x_bipush (pc2 := 235) C dL_keyboard_233 rfl bc_6 ?_
              refine x_icmp_ge (tgt := 242) (pc2 := 238) C dL_keyboard_235 (by decide) rfl ?_ ?_
              · exact x_wk [some (rv G a1), some (.int b4.1), some (.int b4.2.1), some (.int b4.2.2.1), none, none, none, none] ⟨Or.inr rfl, Or.inr rfl, Or.inr rfl, Or.inr rfl, Or.inl rfl, Or.inl rfl, Or.inl rfl, Or.inl rfl, trivial⟩ (hj28 () _)
              · refine x_iconst (pc2 := 239) C dL_keyboard_238 rfl ic_1 ?_
                refine x_goto (tgt := 243) C dL_keyboard_239 (by decide) ?_
                exact x_wk [some (rv G a1), some (.int b4.1), some (.int b4.2.1), some (.int b4.2.2.1), none, none, none, none] ⟨Or.inr rfl, Or.inr rfl, Or.inr rfl, Or.inr rfl, Or.inl rfl, Or.inl rfl, Or.inl rfl, Or.inl rfl, trivial⟩ (hj9 1 _)
  · intro k32 hk32 rec3 hrec3 b1 M2
    refine x_iload (pc2 := 14) C dL_keyboard_12 rfl rfl ?_
    refine x_aload_n (pc2 := 15) C dL_keyboard_14 rfl rfl ?_
    refine x_callSi (pc2 := 18) C [rv G a1] [.int b1.2.2.2.2] cl_L_15 (fun q hq => ctL_keys hk1 q hq) rfl rfl ⟨rfl, rfl, Nat.le_of_ble_eq_true rfl, Nat.le_of_ble_eq_true rfl⟩ (Nat.le_of_ble_eq_true rfl) ⟨Nat.zero_le _, Nat.zero_le _⟩ dL_keyboard_15 rfl (fun v33 M34 => ?_)
    refine x_icmp_ge (tgt := 198) (pc2 := 21) C dL_keyboard_18 (by decide) rfl ?_ ?_
    · exact x_wk [some (rv G a1), some (.int b1.1), some (.int b1.2.1), some (.int b1.2.2.1), some (.int b1.2.2.2.1), none, none, none] ⟨Or.inr rfl, Or.inr rfl, Or.inr rfl, Or.inr rfl, Or.inr rfl, Or.inl rfl, Or.inl rfl, Or.inl rfl, trivial⟩ (hk32 (b1.1, b1.2.1, b1.2.2.1, b1.2.2.2.1) _)
    · refine x_iload_n (pc2 := 22) C dL_keyboard_21 rfl rfl ?_
      refine x_aload_n (pc2 := 23) C dL_keyboard_22 rfl rfl ?_
      refine x_iload (pc2 := 25) C dL_keyboard_23 rfl rfl ?_
      refine x_iconst (pc2 := 26) C dL_keyboard_25 rfl ic_0 ?_
      refine x_callVi (pc2 := 29) C [.int b1.2.2.2.2, .int 0] [.int b1.1] cl_L_21 (fun q hq => ctX8_key hk1 q hq) hk1 rfl rfl rfl ⟨rfl, rfl, Nat.le_of_ble_eq_true rfl, Nat.le_of_ble_eq_true rfl⟩ (Nat.le_of_ble_eq_true rfl) ⟨Nat.zero_le _, Nat.zero_le _⟩ dL_keyboard_26 rfl (fun v35 M36 => ?_)
      refine x_jn 37 (fun (b37 : Int32) => [some (rv G a1), none, some (.int b1.2.1), some (.int b1.2.2.1), some (.int b1.2.2.2.1), some (.int b1.2.2.2.2), none, none]) (fun (b37 : Int32) => [.int b37, .int b1.1]) ?_ ?_
      · intro b37 M39
        refine x_iadd (pc2 := 38) C dL_keyboard_37 rfl ?_
        refine x_istore_n (pc2 := 39) C dL_keyboard_38 rfl [some (rv G a1), some (.int (b1.1 + b37)), some (.int b1.2.1), some (.int b1.2.2.1), some (.int b1.2.2.2.1), some (.int b1.2.2.2.2), none, none] rfl rfl ?_
        refine x_iload (pc2 := 41) C dL_keyboard_39 rfl rfl ?_
        refine x_aload_n (pc2 := 42) C dL_keyboard_41 rfl rfl ?_
        refine x_iload (pc2 := 44) C dL_keyboard_42 rfl rfl ?_
        refine x_iconst (pc2 := 45) C dL_keyboard_44 rfl ic_0 ?_
        refine x_callVi (pc2 := 48) C [.int b1.2.2.2.2, .int 0] [.int b1.2.2.2.1] cl_L_21 (fun q hq => ctX8_key hk1 q hq) hk1 rfl rfl rfl ⟨rfl, rfl, Nat.le_of_ble_eq_true rfl, Nat.le_of_ble_eq_true rfl⟩ (Nat.le_of_ble_eq_true rfl) ⟨Nat.zero_le _, Nat.zero_le _⟩ dL_keyboard_45 rfl (fun v40 M41 => ?_)
        refine x_jn 56 (fun (b42 : Int32) => [some (rv G a1), some (.int (b1.1 + b37)), some (.int b1.2.1), some (.int b1.2.2.1), none, some (.int b1.2.2.2.2), none, none]) (fun (b42 : Int32) => [.int b42, .int b1.2.2.2.1]) ?_ ?_
        · intro b42 M44
          refine x_iadd (pc2 := 57) C dL_keyboard_56 rfl ?_
          refine x_istore (pc2 := 59) C dL_keyboard_57 rfl [some (rv G a1), some (.int (b1.1 + b37)), some (.int b1.2.1), some (.int b1.2.2.1), some (.int (b1.2.2.2.1 + b42)), some (.int b1.2.2.2.2), none, none] rfl rfl ?_
          refine x_iload_n (pc2 := 60) C dL_keyboard_59 rfl rfl ?_
          refine x_aload_n (pc2 := 61) C dL_keyboard_60 rfl rfl ?_
          refine x_iload (pc2 := 63) C dL_keyboard_61 rfl rfl ?_
          refine x_iconst (pc2 := 64) C dL_keyboard_63 rfl ic_1 ?_
          refine x_callVi (pc2 := 67) C [.int b1.2.2.2.2, .int 1] [.int b1.2.1] cl_L_21 (fun q hq => ctX8_key hk1 q hq) hk1 rfl rfl rfl ⟨rfl, rfl, Nat.le_of_ble_eq_true rfl, Nat.le_of_ble_eq_true rfl⟩ (Nat.le_of_ble_eq_true rfl) ⟨Nat.zero_le _, Nat.zero_le _⟩ dL_keyboard_64 rfl (fun v45 M46 => ?_)
          refine x_iadd (pc2 := 68) C dL_keyboard_67 rfl ?_
          refine x_istore_n (pc2 := 69) C dL_keyboard_68 rfl [some (rv G a1), some (.int (b1.1 + b37)), some (.int (b1.2.1 + v45)), some (.int b1.2.2.1), some (.int (b1.2.2.2.1 + b42)), some (.int b1.2.2.2.2), none, none] rfl rfl ?_
          refine x_iload_n (pc2 := 70) C dL_keyboard_69 rfl rfl ?_
          refine x_aload_n (pc2 := 71) C dL_keyboard_70 rfl rfl ?_
          refine x_iload (pc2 := 73) C dL_keyboard_71 rfl rfl ?_
          refine x_iconst (pc2 := 74) C dL_keyboard_73 rfl ic_3 ?_
          refine x_callVi (pc2 := 77) C [.int b1.2.2.2.2, .int 3] [.int b1.2.2.1] cl_L_21 (fun q hq => ctX8_key hk1 q hq) hk1 rfl rfl rfl ⟨rfl, rfl, Nat.le_of_ble_eq_true rfl, Nat.le_of_ble_eq_true rfl⟩ (Nat.le_of_ble_eq_true rfl) ⟨Nat.zero_le _, Nat.zero_le _⟩ dL_keyboard_74 rfl (fun v47 M48 => ?_)
          refine x_iadd (pc2 := 78) C dL_keyboard_77 rfl ?_
          refine x_istore_n (pc2 := 79) C dL_keyboard_78 rfl [some (rv G a1), some (.int (b1.1 + b37)), some (.int (b1.2.1 + v45)), some (.int (b1.2.2.1 + v47)), some (.int (b1.2.2.2.1 + b42)), some (.int b1.2.2.2.2), none, none] rfl rfl ?_
          refine x_aload_n (pc2 := 80) C dL_keyboard_79 rfl rfl ?_
          refine x_iload (pc2 := 82) C dL_keyboard_80 rfl rfl ?_
          refine x_iconst (pc2 := 83) C dL_keyboard_82 rfl ic_5 ?_
          refine x_callVi (pc2 := 86) C [.int b1.2.2.2.2, .int 5] [] cl_L_21 (fun q hq => ctX8_key hk1 q hq) hk1 rfl rfl rfl ⟨rfl, rfl, Nat.le_of_ble_eq_true rfl, Nat.le_of_ble_eq_true rfl⟩ (Nat.le_of_ble_eq_true rfl) ⟨Nat.zero_le _, Nat.zero_le _⟩ dL_keyboard_83 rfl (fun v49 M50 => ?_)
          refine x_jn 94 (fun (b51 : Int32) => [some (rv G a1), some (.int (b1.1 + b37)), some (.int (b1.2.1 + v45)), some (.int (b1.2.2.1 + v47)), some (.int (b1.2.2.2.1 + b42)), some (.int b1.2.2.2.2), none, none]) (fun (b51 : Int32) => [.int b51]) ?_ ?_
          · intro b51 M53
            refine x_istore (pc2 := 96) C dL_keyboard_94 rfl [some (rv G a1), some (.int (b1.1 + b37)), some (.int (b1.2.1 + v45)), some (.int (b1.2.2.1 + v47)), some (.int (b1.2.2.2.1 + b42)), some (.int b1.2.2.2.2), some (.int b51), none] rfl rfl ?_
            refine x_aload_n (pc2 := 97) C dL_keyboard_96 rfl rfl ?_
            refine x_iload (pc2 := 99) C dL_keyboard_97 rfl rfl ?_
            refine x_bipush (pc2 := 101) C dL_keyboard_99 rfl bc_6 ?_
            refine x_callVi (pc2 := 104) C [.int b1.2.2.2.2, .int 6] [] cl_L_21 (fun q hq => ctX8_key hk1 q hq) hk1 rfl rfl rfl ⟨rfl, rfl, Nat.le_of_ble_eq_true rfl, Nat.le_of_ble_eq_true rfl⟩ (Nat.le_of_ble_eq_true rfl) ⟨Nat.zero_le _, Nat.zero_le _⟩ dL_keyboard_101 rfl (fun v54 M55 => ?_)
            refine x_aload_n (pc2 := 105) C dL_keyboard_104 rfl rfl ?_
            refine x_iload (pc2 := 107) C dL_keyboard_105 rfl rfl ?_
            refine x_iconst (pc2 := 108) C dL_keyboard_107 rfl ic_m1 ?_
            refine x_callSi (pc2 := 111) C [rv G a1, .int b1.2.2.2.2, .int (-1)] [.int v54] cl_L_29 (fun q hq => ctL_senses hk1 q hq) rfl rfl ⟨rfl, rfl, Nat.le_of_ble_eq_true rfl, Nat.le_of_ble_eq_true rfl⟩ (Nat.le_of_ble_eq_true rfl) ⟨Nat.zero_le _, Nat.zero_le _⟩ dL_keyboard_108 rfl (fun v56 M57 => ?_)
            refine x_jn 119 (fun (b58 : Int32) => [some (rv G a1), some (.int (b1.1 + b37)), some (.int (b1.2.1 + v45)), some (.int (b1.2.2.1 + v47)), some (.int (b1.2.2.2.1 + b42)), some (.int b1.2.2.2.2), some (.int b51), none]) (fun (b58 : Int32) => [.int b58, .int v54]) ?_ ?_
            · intro b58 M60
              refine x_jn 161 (fun (b61 : Int32) => [some (rv G a1), some (.int (b1.1 + b37)), some (.int (b1.2.1 + v45)), some (.int (b1.2.2.1 + v47)), some (.int (b1.2.2.2.1 + b42)), some (.int b1.2.2.2.2), none, none]) (fun (b61 : Int32) => [.int b61]) ?_ ?_
              · intro b61 M63
                refine x_istore (pc2 := 163) C dL_keyboard_161 rfl [some (rv G a1), some (.int (b1.1 + b37)), some (.int (b1.2.1 + v45)), some (.int (b1.2.2.1 + v47)), some (.int (b1.2.2.2.1 + b42)), some (.int b1.2.2.2.2), none, some (.int b61)] rfl rfl ?_
                refine x_iload (pc2 := 165) C dL_keyboard_163 rfl rfl ?_
                refine x_if_eq (tgt := 190) (pc2 := 168) C dL_keyboard_165 (by decide) rfl ?_ ?_
                · refine x_iconst (pc2 := 191) C dL_keyboard_190 rfl ic_0 ?_
                  exact x_zret C rfl rfl rfl dL_keyboard_191
                · refine x_aload_n (pc2 := 169) C dL_keyboard_168 rfl rfl ?_
                  refine x_iload (pc2 := 171) C dL_keyboard_169 rfl rfl ?_
                  refine x_callSi (pc2 := 174) C [rv G a1, .int b1.2.2.2.2] [] cl_L_48 (fun q hq => ctL_judged hk1 q hq) rfl rfl ⟨rfl, rfl, Nat.le_of_ble_eq_true rfl, Nat.le_of_ble_eq_true rfl⟩ (Nat.le_of_ble_eq_true rfl) ⟨Nat.zero_le _, Nat.zero_le _⟩ dL_keyboard_171 rfl (fun v64 M65 => ?_)
                  refine x_if_eq (tgt := 190) (pc2 := 177) C dL_keyboard_174 (by decide) rfl ?_ ?_
                  · refine x_iconst (pc2 := 191) C dL_keyboard_190 rfl ic_0 ?_
                    exact x_zret C rfl rfl rfl dL_keyboard_191
                  · refine x_aload_n (pc2 := 178) C dL_keyboard_177 rfl rfl ?_
                    refine x_iload (pc2 := 180) C dL_keyboard_178 rfl rfl ?_
                    refine x_bipush (pc2 := 182) C dL_keyboard_180 rfl bc_7 ?_
                    refine x_callVi (pc2 := 185) C [.int b1.2.2.2.2, .int 7] [] cl_L_21 (fun q hq => ctX8_key hk1 q hq) hk1 rfl rfl rfl ⟨rfl, rfl, Nat.le_of_ble_eq_true rfl, Nat.le_of_ble_eq_true rfl⟩ (Nat.le_of_ble_eq_true rfl) ⟨Nat.zero_le _, Nat.zero_le _⟩ dL_keyboard_182 rfl (fun v66 M67 => ?_)
                    refine x_bipush (pc2 := 187) C dL_keyboard_185 rfl bc_m2 ?_
                    refine x_icmp_eq (tgt := 192) (pc2 := 190) C dL_keyboard_187 (by decide) rfl ?_ ?_
                    · refine x_iinc (pc2 := 195) (v := b1.2.2.2.2 + 1) C dL_keyboard_192 rfl rfl 1 ic_1 rfl [some (rv G a1), some (.int (b1.1 + b37)), some (.int (b1.2.1 + v45)), some (.int (b1.2.2.1 + v47)), some (.int (b1.2.2.2.1 + b42)), some (.int (b1.2.2.2.2 + 1)), none, some (.int b61)] rfl rfl ?_
                      refine x_goto (tgt := 12) C dL_keyboard_195 (by decide) ?_
                      exact x_wk [some (rv G a1), some (.int (b1.1 + b37)), some (.int (b1.2.1 + v45)), some (.int (b1.2.2.1 + v47)), some (.int (b1.2.2.2.1 + b42)), some (.int (b1.2.2.2.2 + 1)), none, none] ⟨Or.inr rfl, Or.inr rfl, Or.inr rfl, Or.inr rfl, Or.inr rfl, Or.inr rfl, Or.inl rfl, Or.inl rfl, trivial⟩ (hrec3 (b1.1 + b37, b1.2.1 + v45, b1.2.2.1 + v47, b1.2.2.2.1 + b42, b1.2.2.2.2 + 1) _)
                    · refine x_iconst (pc2 := 191) C dL_keyboard_190 rfl ic_0 ?_
                      exact x_zret C rfl rfl rfl dL_keyboard_191
              · intro j62 hj62
                refine x_jn 160 (fun (b68 : Unit) => [some (rv G a1), some (.int (b1.1 + b37)), some (.int (b1.2.1 + v45)), some (.int (b1.2.2.1 + v47)), some (.int (b1.2.2.2.1 + b42)), some (.int b1.2.2.2.2), none, none]) (fun (b68 : Unit) => []) ?_ ?_
                · intro b68 M70
                  refine x_iconst (pc2 := 161) C dL_keyboard_160 rfl ic_0 ?_
                  exact x_wk [some (rv G a1), some (.int (b1.1 + b37)), some (.int (b1.2.1 + v45)), some (.int (b1.2.2.1 + v47)), some (.int (b1.2.2.2.1 + b42)), some (.int b1.2.2.2.2), none, none] ⟨Or.inr rfl, Or.inr rfl, Or.inr rfl, Or.inr rfl, Or.inr rfl, Or.inr rfl, Or.inl rfl, Or.inl rfl, trivial⟩ (hj62 0 _)
                · intro j69 hj69
                  refine x_icmp_ne (tgt := 160) (pc2 := 122) C dL_keyboard_119 (by decide) rfl ?_ ?_
                  · exact x_wk [some (rv G a1), some (.int (b1.1 + b37)), some (.int (b1.2.1 + v45)), some (.int (b1.2.2.1 + v47)), some (.int (b1.2.2.2.1 + b42)), some (.int b1.2.2.2.2), none, none] ⟨Or.inr rfl, Or.inr rfl, Or.inr rfl, Or.inr rfl, Or.inr rfl, Or.inr rfl, Or.inl rfl, Or.inl rfl, trivial⟩ (hj69 () _)
                  · refine x_iload (pc2 := 124) C dL_keyboard_122 rfl rfl ?_
                    refine x_jn 156 (fun (b71 : Unit) => [some (rv G a1), some (.int (b1.1 + b37)), some (.int (b1.2.1 + v45)), some (.int (b1.2.2.1 + v47)), some (.int (b1.2.2.2.1 + b42)), some (.int b1.2.2.2.2), none, none]) (fun (b71 : Unit) => []) ?_ ?_
                    · intro b71 M73
                      refine x_iconst (pc2 := 157) C dL_keyboard_156 rfl ic_1 ?_
                      refine x_goto (tgt := 161) C dL_keyboard_157 (by decide) ?_
                      exact x_wk [some (rv G a1), some (.int (b1.1 + b37)), some (.int (b1.2.1 + v45)), some (.int (b1.2.2.1 + v47)), some (.int (b1.2.2.2.1 + b42)), some (.int b1.2.2.2.2), none, none] ⟨Or.inr rfl, Or.inr rfl, Or.inr rfl, Or.inr rfl, Or.inr rfl, Or.inr rfl, Or.inl rfl, Or.inl rfl, trivial⟩ (hj62 1 _)
                    · intro j72 hj72
                      refine x_if_eq (tgt := 156) (pc2 := 127) C dL_keyboard_124 (by decide) rfl ?_ ?_
                      · exact x_wk [some (rv G a1), some (.int (b1.1 + b37)), some (.int (b1.2.1 + v45)), some (.int (b1.2.2.1 + v47)), some (.int (b1.2.2.2.1 + b42)), some (.int b1.2.2.2.2), none, none] ⟨Or.inr rfl, Or.inr rfl, Or.inr rfl, Or.inr rfl, Or.inr rfl, Or.inr rfl, Or.inl rfl, Or.inl rfl, trivial⟩ (hj72 () _)
                      · refine x_aload_n (pc2 := 128) C dL_keyboard_127 rfl rfl ?_
                        refine x_iload (pc2 := 130) C dL_keyboard_128 rfl rfl ?_
                        refine x_iconst (pc2 := 131) C dL_keyboard_130 rfl ic_4 ?_
                        refine x_callVi (pc2 := 134) C [.int b1.2.2.2.2, .int 4] [] cl_L_21 (fun q hq => ctX8_key hk1 q hq) hk1 rfl rfl rfl ⟨rfl, rfl, Nat.le_of_ble_eq_true rfl, Nat.le_of_ble_eq_true rfl⟩ (Nat.le_of_ble_eq_true rfl) ⟨Nat.zero_le _, Nat.zero_le _⟩ dL_keyboard_131 rfl (fun v74 M75 => ?_)
                        refine x_bipush (pc2 := 136) C dL_keyboard_134 rfl bc_46 ?_
                        refine x_icmp_ne (tgt := 160) (pc2 := 139) C dL_keyboard_136 (by decide) rfl ?_ ?_
                        · exact x_wk [some (rv G a1), some (.int (b1.1 + b37)), some (.int (b1.2.1 + v45)), some (.int (b1.2.2.1 + v47)), some (.int (b1.2.2.2.1 + b42)), some (.int b1.2.2.2.2), none, none] ⟨Or.inr rfl, Or.inr rfl, Or.inr rfl, Or.inr rfl, Or.inr rfl, Or.inr rfl, Or.inl rfl, Or.inl rfl, trivial⟩ (hj69 () _)
                        · refine x_aload_n (pc2 := 140) C dL_keyboard_139 rfl rfl ?_
                          refine x_aload_n (pc2 := 141) C dL_keyboard_140 rfl rfl ?_
                          refine x_iload (pc2 := 143) C dL_keyboard_141 rfl rfl ?_
                          refine x_iconst (pc2 := 144) C dL_keyboard_143 rfl ic_5 ?_
                          refine x_callVi (pc2 := 147) C [.int b1.2.2.2.2, .int 5] [rv G a1] cl_L_21 (fun q hq => ctX8_key hk1 q hq) hk1 rfl rfl rfl ⟨rfl, rfl, Nat.le_of_ble_eq_true rfl, Nat.le_of_ble_eq_true rfl⟩ (Nat.le_of_ble_eq_true rfl) ⟨Nat.zero_le _, Nat.zero_le _⟩ dL_keyboard_144 rfl (fun v76 M77 => ?_)
                          refine x_iconst (pc2 := 148) C dL_keyboard_147 rfl ic_1 ?_
                          refine x_callVi (pc2 := 151) C [.int v76, .int 1] [] cl_L_45 (fun q hq => ctX8_typist hk1 q hq) hk1 rfl rfl rfl ⟨rfl, rfl, Nat.le_of_ble_eq_true rfl, Nat.le_of_ble_eq_true rfl⟩ (Nat.le_of_ble_eq_true rfl) ⟨Nat.zero_le _, Nat.zero_le _⟩ dL_keyboard_148 rfl (fun v78 M79 => ?_)
                          refine x_iload (pc2 := 153) C dL_keyboard_151 rfl rfl ?_
                          refine x_icmp_ne (tgt := 160) (pc2 := 156) C dL_keyboard_153 (by decide) rfl ?_ ?_
                          · exact x_wk [some (rv G a1), some (.int (b1.1 + b37)), some (.int (b1.2.1 + v45)), some (.int (b1.2.2.1 + v47)), some (.int (b1.2.2.2.1 + b42)), some (.int b1.2.2.2.2), none, none] ⟨Or.inr rfl, Or.inr rfl, Or.inr rfl, Or.inr rfl, Or.inr rfl, Or.inr rfl, Or.inl rfl, Or.inl rfl, trivial⟩ (hj69 () _)
                          · exact x_wk [some (rv G a1), some (.int (b1.1 + b37)), some (.int (b1.2.1 + v45)), some (.int (b1.2.2.1 + v47)), some (.int (b1.2.2.2.1 + b42)), some (.int b1.2.2.2.2), none, none] ⟨Or.inr rfl, Or.inr rfl, Or.inr rfl, Or.inr rfl, Or.inr rfl, Or.inr rfl, Or.inl rfl, Or.inl rfl, trivial⟩ (hj72 () _)
            · intro j59 hj59
              refine x_if_eq (tgt := 118) (pc2 := 114) C dL_keyboard_111 (by decide) rfl ?_ ?_
              · refine x_iconst (pc2 := 119) C dL_keyboard_118 rfl ic_0 ?_
                exact x_wk [some (rv G a1), some (.int (b1.1 + b37)), some (.int (b1.2.1 + v45)), some (.int (b1.2.2.1 + v47)), some (.int (b1.2.2.2.1 + b42)), some (.int b1.2.2.2.2), some (.int b51), none] ⟨Or.inr rfl, Or.inr rfl, Or.inr rfl, Or.inr rfl, Or.inr rfl, Or.inr rfl, Or.inr rfl, Or.inl rfl, trivial⟩ (hj59 0 _)
              · refine x_iconst (pc2 := 115) C dL_keyboard_114 rfl ic_1 ?_
                refine x_goto (tgt := 119) C dL_keyboard_115 (by decide) ?_
                exact x_wk [some (rv G a1), some (.int (b1.1 + b37)), some (.int (b1.2.1 + v45)), some (.int (b1.2.2.1 + v47)), some (.int (b1.2.2.2.1 + b42)), some (.int b1.2.2.2.2), some (.int b51), none] ⟨Or.inr rfl, Or.inr rfl, Or.inr rfl, Or.inr rfl, Or.inr rfl, Or.inr rfl, Or.inr rfl, Or.inl rfl, trivial⟩ (hj59 1 _)
          · intro j52 hj52
            refine x_if_lt (tgt := 93) (pc2 := 89) C dL_keyboard_86 (by decide) rfl ?_ ?_
            · refine x_iconst (pc2 := 94) C dL_keyboard_93 rfl ic_0 ?_
              exact x_wk [some (rv G a1), some (.int (b1.1 + b37)), some (.int (b1.2.1 + v45)), some (.int (b1.2.2.1 + v47)), some (.int (b1.2.2.2.1 + b42)), some (.int b1.2.2.2.2), none, none] ⟨Or.inr rfl, Or.inr rfl, Or.inr rfl, Or.inr rfl, Or.inr rfl, Or.inr rfl, Or.inl rfl, Or.inl rfl, trivial⟩ (hj52 0 _)
            · refine x_iconst (pc2 := 90) C dL_keyboard_89 rfl ic_1 ?_
              refine x_goto (tgt := 94) C dL_keyboard_90 (by decide) ?_
              exact x_wk [some (rv G a1), some (.int (b1.1 + b37)), some (.int (b1.2.1 + v45)), some (.int (b1.2.2.1 + v47)), some (.int (b1.2.2.2.1 + b42)), some (.int b1.2.2.2.2), none, none] ⟨Or.inr rfl, Or.inr rfl, Or.inr rfl, Or.inr rfl, Or.inr rfl, Or.inr rfl, Or.inl rfl, Or.inl rfl, trivial⟩ (hj52 1 _)
        · intro j43 hj43
          refine x_if_ne (tgt := 55) (pc2 := 51) C dL_keyboard_48 (by decide) rfl ?_ ?_
          · refine x_iconst (pc2 := 56) C dL_keyboard_55 rfl ic_0 ?_
            exact x_wk [some (rv G a1), some (.int (b1.1 + b37)), some (.int b1.2.1), some (.int b1.2.2.1), none, some (.int b1.2.2.2.2), none, none] ⟨Or.inr rfl, Or.inr rfl, Or.inr rfl, Or.inr rfl, Or.inl rfl, Or.inr rfl, Or.inl rfl, Or.inl rfl, trivial⟩ (hj43 0 _)
          · refine x_iconst (pc2 := 52) C dL_keyboard_51 rfl ic_1 ?_
            refine x_goto (tgt := 56) C dL_keyboard_52 (by decide) ?_
            exact x_wk [some (rv G a1), some (.int (b1.1 + b37)), some (.int b1.2.1), some (.int b1.2.2.1), none, some (.int b1.2.2.2.2), none, none] ⟨Or.inr rfl, Or.inr rfl, Or.inr rfl, Or.inr rfl, Or.inl rfl, Or.inr rfl, Or.inl rfl, Or.inl rfl, trivial⟩ (hj43 1 _)
      · intro j38 hj38
        refine x_if_lt (tgt := 36) (pc2 := 32) C dL_keyboard_29 (by decide) rfl ?_ ?_
        · refine x_iconst (pc2 := 37) C dL_keyboard_36 rfl ic_0 ?_
          exact x_wk [some (rv G a1), none, some (.int b1.2.1), some (.int b1.2.2.1), some (.int b1.2.2.2.1), some (.int b1.2.2.2.2), none, none] ⟨Or.inr rfl, Or.inl rfl, Or.inr rfl, Or.inr rfl, Or.inr rfl, Or.inr rfl, Or.inl rfl, Or.inl rfl, trivial⟩ (hj38 0 _)
        · refine x_iconst (pc2 := 33) C dL_keyboard_32 rfl ic_1 ?_
          refine x_goto (tgt := 37) C dL_keyboard_33 (by decide) ?_
          exact x_wk [some (rv G a1), none, some (.int b1.2.1), some (.int b1.2.2.1), some (.int b1.2.2.2.1), some (.int b1.2.2.2.2), none, none] ⟨Or.inr rfl, Or.inl rfl, Or.inr rfl, Or.inr rfl, Or.inr rfl, Or.inr rfl, Or.inl rfl, Or.inl rfl, trivial⟩ (hj38 1 _)
set_option maxRecDepth 100000 in
set_option maxHeartbeats 4000000 in
theorem ctL_strokes {l : Launch} {G : bkG} {M : Mem} {a1 : Nat} (hk1 : kd a1 = 7) : ∀ r, fL_strokes a1 M = some r → Met l yL_strokes (Cond.code yL_strokes cL_strokes 6 (some .boolean) :: TT) ({ frames := 4, cells := 0, slots := 0, locals := 87 } : Room) (va_Pc [rv G a1] (Wd G M)) (QQ G ((fun v => some (.int v)) r.1) r.2) 0 0 (An G) := by
  refine mkMet (vl := (fun v => some (.int v))) RL rfl (by decide +kernel) rfl (Nat.le_of_ble_eq_true rfl) [some (rv G a1), none, none, none, none, none] rfl ?_
  intro p e s m args below meth c C _
  refine x_iconst (pc2 := 1) C dL_strokes_0 rfl ic_0 ?_
  refine x_istore_n (pc2 := 2) C dL_strokes_1 rfl [some (rv G a1), some (.int 0), none, none, none, none] rfl rfl ?_
  refine x_iconst (pc2 := 3) C dL_strokes_2 rfl ic_0 ?_
  refine x_istore_n (pc2 := 4) C dL_strokes_3 rfl [some (rv G a1), some (.int 0), some (.int 0), none, none, none] rfl rfl ?_
  refine x_wk [some (rv G a1), some (.int 0), some (.int 0), none, none, none] ⟨Or.inr rfl, Or.inr rfl, Or.inr rfl, Or.inl rfl, Or.inl rfl, Or.inl rfl, trivial⟩ ?_
  refine x_lp1 (fun (b1 : Int32 × Int32) => [some (rv G a1), some (.int b1.1), some (.int b1.2), none, none, none]) 82 (fun (b4 : Int32) => [some (rv G a1), some (.int b4), none, none, none, none]) ?_ ?_
  · intro b4 M5
    refine x_aload_n (pc2 := 83) C dL_strokes_82 rfl rfl ?_
    refine x_bipush (pc2 := 85) C dL_strokes_83 rfl bc_6 ?_
    refine x_callVi (pc2 := 88) C [.int 6] [] cl_L_9 (fun q hq => ctX8_count hk1 q hq) hk1 rfl rfl rfl ⟨rfl, rfl, Nat.le_of_ble_eq_true rfl, Nat.le_of_ble_eq_true rfl⟩ (Nat.le_of_ble_eq_true rfl) ⟨Nat.zero_le _, Nat.zero_le _⟩ dL_strokes_85 rfl (fun v6 M7 => ?_)
    refine x_istore_n (pc2 := 89) C dL_strokes_88 rfl [some (rv G a1), some (.int b4), some (.int v6), none, none, none] rfl rfl ?_
    refine x_iconst (pc2 := 90) C dL_strokes_89 rfl ic_0 ?_
    refine x_istore_n (pc2 := 91) C dL_strokes_90 rfl [some (rv G a1), some (.int b4), some (.int v6), some (.int 0), none, none] rfl rfl ?_
    refine x_wk [some (rv G a1), some (.int b4), some (.int v6), some (.int 0), none, none] ⟨Or.inr rfl, Or.inr rfl, Or.inr rfl, Or.inr rfl, Or.inl rfl, Or.inl rfl, trivial⟩ ?_
    refine x_lp2 (fun (b8 : Int32) => [some (rv G a1), some (.int b4), some (.int v6), some (.int b8), none, none]) 250 (fun (b11 : Unit) => [some (rv G a1), some (.int b4), some (.int v6), none, none, none]) 188 (fun (b27 : Unit) => [none, none, none, none, none, none]) ?_ ?_ ?_
    · intro b11 M12
      refine x_aload_n (pc2 := 251) C dL_strokes_250 rfl rfl ?_
      refine x_bipush (pc2 := 253) C dL_strokes_251 rfl bc_9 ?_
      refine x_callVi (pc2 := 256) C [.int 9] [] cl_L_9 (fun q hq => ctX8_count hk1 q hq) hk1 rfl rfl rfl ⟨rfl, rfl, Nat.le_of_ble_eq_true rfl, Nat.le_of_ble_eq_true rfl⟩ (Nat.le_of_ble_eq_true rfl) ⟨Nat.zero_le _, Nat.zero_le _⟩ dL_strokes_253 rfl (fun v13 M14 => ?_)
      refine x_iload_n (pc2 := 257) C dL_strokes_256 rfl rfl ?_
      refine x_icmp_ne (tgt := 321) (pc2 := 260) C dL_strokes_257 (by decide) rfl ?_ ?_
      · refine x_iconst (pc2 := 322) C dL_strokes_321 rfl ic_0 ?_
        exact x_zret C rfl rfl rfl dL_strokes_322
      · refine x_iload_n (pc2 := 261) C dL_strokes_260 rfl rfl ?_
        refine x_aload_n (pc2 := 262) C dL_strokes_261 rfl rfl ?_
        refine x_bipush (pc2 := 264) C dL_strokes_262 rfl bc_7 ?_
        refine x_callVi (pc2 := 267) C [.int 7] [.int v6] cl_L_9 (fun q hq => ctX8_count hk1 q hq) hk1 rfl rfl rfl ⟨rfl, rfl, Nat.le_of_ble_eq_true rfl, Nat.le_of_ble_eq_true rfl⟩ (Nat.le_of_ble_eq_true rfl) ⟨Nat.zero_le _, Nat.zero_le _⟩ dL_strokes_264 rfl (fun v15 M16 => ?_)
        refine x_aload_n (pc2 := 268) C dL_strokes_267 rfl rfl ?_
        refine x_bipush (pc2 := 270) C dL_strokes_268 rfl bc_8 ?_
        refine x_callVi (pc2 := 273) C [.int 8] [.int v15, .int v6] cl_L_9 (fun q hq => ctX8_count hk1 q hq) hk1 rfl rfl rfl ⟨rfl, rfl, Nat.le_of_ble_eq_true rfl, Nat.le_of_ble_eq_true rfl⟩ (Nat.le_of_ble_eq_true rfl) ⟨Nat.zero_le _, Nat.zero_le _⟩ dL_strokes_270 rfl (fun v17 M18 => ?_)
        refine x_iadd (pc2 := 274) C dL_strokes_273 rfl ?_
        refine x_iload_n (pc2 := 275) C dL_strokes_274 rfl rfl ?_
        refine x_iadd (pc2 := 276) C dL_strokes_275 rfl ?_
        refine x_icmp_ne (tgt := 321) (pc2 := 279) C dL_strokes_276 (by decide) rfl ?_ ?_
        · refine x_iconst (pc2 := 322) C dL_strokes_321 rfl ic_0 ?_
          exact x_zret C rfl rfl rfl dL_strokes_322
        · refine x_aload_n (pc2 := 280) C dL_strokes_279 rfl rfl ?_
          refine x_bipush (pc2 := 282) C dL_strokes_280 rfl bc_12 ?_
          refine x_callVi (pc2 := 285) C [.int 12] [] cl_L_9 (fun q hq => ctX8_count hk1 q hq) hk1 rfl rfl rfl ⟨rfl, rfl, Nat.le_of_ble_eq_true rfl, Nat.le_of_ble_eq_true rfl⟩ (Nat.le_of_ble_eq_true rfl) ⟨Nat.zero_le _, Nat.zero_le _⟩ dL_strokes_282 rfl (fun v19 M20 => ?_)
          refine x_aload_n (pc2 := 286) C dL_strokes_285 rfl rfl ?_
          refine x_bipush (pc2 := 288) C dL_strokes_286 rfl bc_8 ?_
          refine x_callVi (pc2 := 291) C [.int 8] [.int v19] cl_L_9 (fun q hq => ctX8_count hk1 q hq) hk1 rfl rfl rfl ⟨rfl, rfl, Nat.le_of_ble_eq_true rfl, Nat.le_of_ble_eq_true rfl⟩ (Nat.le_of_ble_eq_true rfl) ⟨Nat.zero_le _, Nat.zero_le _⟩ dL_strokes_288 rfl (fun v21 M22 => ?_)
          refine x_icmp_gt (tgt := 321) (pc2 := 294) C dL_strokes_291 (by decide) rfl ?_ ?_
          · refine x_iconst (pc2 := 322) C dL_strokes_321 rfl ic_0 ?_
            exact x_zret C rfl rfl rfl dL_strokes_322
          · refine x_aload_n (pc2 := 295) C dL_strokes_294 rfl rfl ?_
            refine x_iconst (pc2 := 296) C dL_strokes_295 rfl ic_0 ?_
            refine x_bipush (pc2 := 298) C dL_strokes_296 rfl bc_6 ?_
            refine x_callVi (pc2 := 301) C [.int 0, .int 6] [] cl_L_66 (fun q hq => ctX8_stroke hk1 q hq) hk1 rfl rfl rfl ⟨rfl, rfl, Nat.le_of_ble_eq_true rfl, Nat.le_of_ble_eq_true rfl⟩ (Nat.le_of_ble_eq_true rfl) ⟨Nat.zero_le _, Nat.zero_le _⟩ dL_strokes_298 rfl (fun v23 M24 => ?_)
            refine x_bipush (pc2 := 303) C dL_strokes_301 rfl bc_m2 ?_
            refine x_icmp_ne (tgt := 321) (pc2 := 306) C dL_strokes_303 (by decide) rfl ?_ ?_
            · refine x_iconst (pc2 := 322) C dL_strokes_321 rfl ic_0 ?_
              exact x_zret C rfl rfl rfl dL_strokes_322
            · refine x_aload_n (pc2 := 307) C dL_strokes_306 rfl rfl ?_
              refine x_iconst (pc2 := 308) C dL_strokes_307 rfl ic_m1 ?_
              refine x_iconst (pc2 := 309) C dL_strokes_308 rfl ic_0 ?_
              refine x_callVi (pc2 := 312) C [.int (-1), .int 0] [] cl_L_66 (fun q hq => ctX8_stroke hk1 q hq) hk1 rfl rfl rfl ⟨rfl, rfl, Nat.le_of_ble_eq_true rfl, Nat.le_of_ble_eq_true rfl⟩ (Nat.le_of_ble_eq_true rfl) ⟨Nat.zero_le _, Nat.zero_le _⟩ dL_strokes_309 rfl (fun v25 M26 => ?_)
              refine x_bipush (pc2 := 314) C dL_strokes_312 rfl bc_m2 ?_
              refine x_icmp_ne (tgt := 321) (pc2 := 317) C dL_strokes_314 (by decide) rfl ?_ ?_
              · refine x_iconst (pc2 := 322) C dL_strokes_321 rfl ic_0 ?_
                exact x_zret C rfl rfl rfl dL_strokes_322
              · refine x_iconst (pc2 := 318) C dL_strokes_317 rfl ic_1 ?_
                refine x_goto (tgt := 322) C dL_strokes_318 (by decide) ?_
                exact x_zret C rfl rfl rfl dL_strokes_322
    · intro b27 M28
      refine x_goto (tgt := 198) C dL_strokes_188 (by decide) ?_
      refine x_iconst (pc2 := 199) C dL_strokes_198 rfl ic_0 ?_
      exact x_zret C rfl rfl rfl dL_strokes_199
    · intro k29 k30 hk29 hk30 rec10 hrec10 b8 M9
      refine x_iload_n (pc2 := 92) C dL_strokes_91 rfl rfl ?_
      refine x_bipush (pc2 := 94) C dL_strokes_92 rfl bc_18 ?_
      refine x_icmp_ge (tgt := 250) (pc2 := 97) C dL_strokes_94 (by decide) rfl ?_ ?_
      · exact x_wk [some (rv G a1), some (.int b4), some (.int v6), none, none, none] ⟨Or.inr rfl, Or.inr rfl, Or.inr rfl, Or.inl rfl, Or.inl rfl, Or.inl rfl, trivial⟩ (hk29 () _)
      · refine x_iload_n (pc2 := 98) C dL_strokes_97 rfl rfl ?_
        refine x_iload_n (pc2 := 99) C dL_strokes_98 rfl rfl ?_
        refine x_jn 113 (fun (b31 : Int32) => [some (rv G a1), some (.int b4), some (.int v6), some (.int b8), none, none]) (fun (b31 : Int32) => [.int b31]) ?_ ?_
        · intro b31 M33
          refine x_istore (pc2 := 115) C dL_strokes_113 rfl [some (rv G a1), some (.int b4), some (.int v6), some (.int b8), some (.int b31), none] rfl rfl ?_
          refine x_aload_n (pc2 := 116) C dL_strokes_115 rfl rfl ?_
          refine x_iload_n (pc2 := 117) C dL_strokes_116 rfl rfl ?_
          refine x_iconst (pc2 := 118) C dL_strokes_117 rfl ic_3 ?_
          refine x_callVi (pc2 := 121) C [.int b8, .int 3] [] cl_L_66 (fun q hq => ctX8_stroke hk1 q hq) hk1 rfl rfl rfl ⟨rfl, rfl, Nat.le_of_ble_eq_true rfl, Nat.le_of_ble_eq_true rfl⟩ (Nat.le_of_ble_eq_true rfl) ⟨Nat.zero_le _, Nat.zero_le _⟩ dL_strokes_118 rfl (fun v34 M35 => ?_)
          refine x_istore (pc2 := 123) C dL_strokes_121 rfl [some (rv G a1), some (.int b4), some (.int v6), some (.int b8), some (.int b31), some (.int v34)] rfl rfl ?_
          refine x_iload (pc2 := 125) C dL_strokes_123 rfl rfl ?_
          refine x_jn 200 (fun (b36 : Unit) => [some (rv G a1), some (.int b4), some (.int v6), some (.int b8), some (.int b31), none]) (fun (b36 : Unit) => []) ?_ ?_
          · intro b36 M38
            refine x_iload_n (pc2 := 201) C dL_strokes_200 rfl rfl ?_
            refine x_jn 244 (fun (b39 : Unit) => [some (rv G a1), some (.int b4), some (.int v6), some (.int b8), none, none]) (fun (b39 : Unit) => []) ?_ ?_
            · intro b39 M41
              refine x_iinc (pc2 := 247) (v := b8 + 1) C dL_strokes_244 rfl rfl 1 ic_1 rfl [some (rv G a1), some (.int b4), some (.int v6), some (.int (b8 + 1)), none, none] rfl rfl ?_
              refine x_goto (tgt := 91) C dL_strokes_247 (by decide) ?_
              exact x_wk [some (rv G a1), some (.int b4), some (.int v6), some (.int (b8 + 1)), none, none] ⟨Or.inr rfl, Or.inr rfl, Or.inr rfl, Or.inr rfl, Or.inl rfl, Or.inl rfl, trivial⟩ (hrec10 (b8 + 1) _)
            · intro j40 hj40
              refine x_if_le (tgt := 244) (pc2 := 204) C dL_strokes_201 (by decide) rfl ?_ ?_
              · exact x_wk [some (rv G a1), some (.int b4), some (.int v6), some (.int b8), none, none] ⟨Or.inr rfl, Or.inr rfl, Or.inr rfl, Or.inr rfl, Or.inl rfl, Or.inl rfl, trivial⟩ (hj40 () _)
              · refine x_iload (pc2 := 206) C dL_strokes_204 rfl rfl ?_
                refine x_if_eq (tgt := 244) (pc2 := 209) C dL_strokes_206 (by decide) rfl ?_ ?_
                · exact x_wk [some (rv G a1), some (.int b4), some (.int v6), some (.int b8), none, none] ⟨Or.inr rfl, Or.inr rfl, Or.inr rfl, Or.inr rfl, Or.inl rfl, Or.inl rfl, trivial⟩ (hj40 () _)
                · refine x_aload_n (pc2 := 210) C dL_strokes_209 rfl rfl ?_
                  refine x_iload_n (pc2 := 211) C dL_strokes_210 rfl rfl ?_
                  refine x_iconst (pc2 := 212) C dL_strokes_211 rfl ic_1 ?_
                  refine x_callVi (pc2 := 215) C [.int b8, .int 1] [] cl_L_66 (fun q hq => ctX8_stroke hk1 q hq) hk1 rfl rfl rfl ⟨rfl, rfl, Nat.le_of_ble_eq_true rfl, Nat.le_of_ble_eq_true rfl⟩ (Nat.le_of_ble_eq_true rfl) ⟨Nat.zero_le _, Nat.zero_le _⟩ dL_strokes_212 rfl (fun v42 M43 => ?_)
                  refine x_aload_n (pc2 := 216) C dL_strokes_215 rfl rfl ?_
                  refine x_iload_n (pc2 := 217) C dL_strokes_216 rfl rfl ?_
                  refine x_iconst (pc2 := 218) C dL_strokes_217 rfl ic_2 ?_
                  refine x_callVi (pc2 := 221) C [.int b8, .int 2] [.int v42] cl_L_66 (fun q hq => ctX8_stroke hk1 q hq) hk1 rfl rfl rfl ⟨rfl, rfl, Nat.le_of_ble_eq_true rfl, Nat.le_of_ble_eq_true rfl⟩ (Nat.le_of_ble_eq_true rfl) ⟨Nat.zero_le _, Nat.zero_le _⟩ dL_strokes_218 rfl (fun v44 M45 => ?_)
                  refine x_iadd (pc2 := 222) C dL_strokes_221 rfl ?_
                  refine x_aload_n (pc2 := 223) C dL_strokes_222 rfl rfl ?_
                  refine x_iload_n (pc2 := 224) C dL_strokes_223 rfl rfl ?_
                  refine x_iconst (pc2 := 225) C dL_strokes_224 rfl ic_1 ?_
                  refine x_isub (pc2 := 226) C dL_strokes_225 rfl ?_
                  refine x_iconst (pc2 := 227) C dL_strokes_226 rfl ic_1 ?_
                  refine x_callVi (pc2 := 230) C [.int (b8 - 1), .int 1] [.int (v42 + v44)] cl_L_66 (fun q hq => ctX8_stroke hk1 q hq) hk1 rfl rfl rfl ⟨rfl, rfl, Nat.le_of_ble_eq_true rfl, Nat.le_of_ble_eq_true rfl⟩ (Nat.le_of_ble_eq_true rfl) ⟨Nat.zero_le _, Nat.zero_le _⟩ dL_strokes_227 rfl (fun v46 M47 => ?_)
                  refine x_aload_n (pc2 := 231) C dL_strokes_230 rfl rfl ?_
                  refine x_iload_n (pc2 := 232) C dL_strokes_231 rfl rfl ?_
                  refine x_iconst (pc2 := 233) C dL_strokes_232 rfl ic_1 ?_
                  refine x_isub (pc2 := 234) C dL_strokes_233 rfl ?_
                  refine x_iconst (pc2 := 235) C dL_strokes_234 rfl ic_2 ?_
                  refine x_callVi (pc2 := 238) C [.int (b8 - 1), .int 2] [.int v46, .int (v42 + v44)] cl_L_66 (fun q hq => ctX8_stroke hk1 q hq) hk1 rfl rfl rfl ⟨rfl, rfl, Nat.le_of_ble_eq_true rfl, Nat.le_of_ble_eq_true rfl⟩ (Nat.le_of_ble_eq_true rfl) ⟨Nat.zero_le _, Nat.zero_le _⟩ dL_strokes_235 rfl (fun v48 M49 => ?_)
                  refine x_iadd (pc2 := 239) C dL_strokes_238 rfl ?_
                  refine x_icmp_le (tgt := 244) (pc2 := 242) C dL_strokes_239 (by decide) rfl ?_ ?_
                  · exact x_wk [some (rv G a1), some (.int b4), some (.int v6), some (.int b8), none, none] ⟨Or.inr rfl, Or.inr rfl, Or.inr rfl, Or.inr rfl, Or.inl rfl, Or.inl rfl, trivial⟩ (hj40 () _)
                  · refine x_iconst (pc2 := 243) C dL_strokes_242 rfl ic_0 ?_
                    exact x_zret C rfl rfl rfl dL_strokes_243
          · intro j37 hj37
            refine x_if_eq (tgt := 191) (pc2 := 128) C dL_strokes_125 (by decide) rfl ?_ ?_
            · refine x_iload (pc2 := 193) C dL_strokes_191 rfl rfl ?_
              refine x_bipush (pc2 := 195) C dL_strokes_193 rfl bc_m5 ?_
              refine x_icmp_eq (tgt := 200) (pc2 := 198) C dL_strokes_195 (by decide) rfl ?_ ?_
              · exact x_wk [some (rv G a1), some (.int b4), some (.int v6), some (.int b8), some (.int b31), none] ⟨Or.inr rfl, Or.inr rfl, Or.inr rfl, Or.inr rfl, Or.inr rfl, Or.inl rfl, trivial⟩ (hj37 () _)
              · refine x_iconst (pc2 := 199) C dL_strokes_198 rfl ic_0 ?_
                exact x_zret C rfl rfl rfl dL_strokes_199
            · refine x_iload (pc2 := 130) C dL_strokes_128 rfl rfl ?_
              refine x_if_lt (tgt := 198) (pc2 := 133) C dL_strokes_130 (by decide) rfl ?_ ?_
              · refine x_iconst (pc2 := 199) C dL_strokes_198 rfl ic_0 ?_
                exact x_zret C rfl rfl rfl dL_strokes_199
              · refine x_iload (pc2 := 135) C dL_strokes_133 rfl rfl ?_
                refine x_iconst (pc2 := 136) C dL_strokes_135 rfl ic_3 ?_
                refine x_icmp_gt (tgt := 198) (pc2 := 139) C dL_strokes_136 (by decide) rfl ?_ ?_
                · refine x_iconst (pc2 := 199) C dL_strokes_198 rfl ic_0 ?_
                  exact x_zret C rfl rfl rfl dL_strokes_199
                · refine x_aload_n (pc2 := 140) C dL_strokes_139 rfl rfl ?_
                  refine x_iload_n (pc2 := 141) C dL_strokes_140 rfl rfl ?_
                  refine x_iconst (pc2 := 142) C dL_strokes_141 rfl ic_2 ?_
                  refine x_callVi (pc2 := 145) C [.int b8, .int 2] [] cl_L_66 (fun q hq => ctX8_stroke hk1 q hq) hk1 rfl rfl rfl ⟨rfl, rfl, Nat.le_of_ble_eq_true rfl, Nat.le_of_ble_eq_true rfl⟩ (Nat.le_of_ble_eq_true rfl) ⟨Nat.zero_le _, Nat.zero_le _⟩ dL_strokes_142 rfl (fun v50 M51 => ?_)
                  refine x_if_lt (tgt := 198) (pc2 := 148) C dL_strokes_145 (by decide) rfl ?_ ?_
                  · refine x_iconst (pc2 := 199) C dL_strokes_198 rfl ic_0 ?_
                    exact x_zret C rfl rfl rfl dL_strokes_199
                  · refine x_aload_n (pc2 := 149) C dL_strokes_148 rfl rfl ?_
                    refine x_iload_n (pc2 := 150) C dL_strokes_149 rfl rfl ?_
                    refine x_iconst (pc2 := 151) C dL_strokes_150 rfl ic_5 ?_
                    refine x_callVi (pc2 := 154) C [.int b8, .int 5] [] cl_L_66 (fun q hq => ctX8_stroke hk1 q hq) hk1 rfl rfl rfl ⟨rfl, rfl, Nat.le_of_ble_eq_true rfl, Nat.le_of_ble_eq_true rfl⟩ (Nat.le_of_ble_eq_true rfl) ⟨Nat.zero_le _, Nat.zero_le _⟩ dL_strokes_151 rfl (fun v52 M53 => ?_)
                    refine x_if_lt (tgt := 198) (pc2 := 157) C dL_strokes_154 (by decide) rfl ?_ ?_
                    · refine x_iconst (pc2 := 199) C dL_strokes_198 rfl ic_0 ?_
                      exact x_zret C rfl rfl rfl dL_strokes_199
                    · refine x_aload_n (pc2 := 158) C dL_strokes_157 rfl rfl ?_
                      refine x_iload_n (pc2 := 159) C dL_strokes_158 rfl rfl ?_
                      refine x_iconst (pc2 := 160) C dL_strokes_159 rfl ic_5 ?_
                      refine x_callVi (pc2 := 163) C [.int b8, .int 5] [] cl_L_66 (fun q hq => ctX8_stroke hk1 q hq) hk1 rfl rfl rfl ⟨rfl, rfl, Nat.le_of_ble_eq_true rfl, Nat.le_of_ble_eq_true rfl⟩ (Nat.le_of_ble_eq_true rfl) ⟨Nat.zero_le _, Nat.zero_le _⟩ dL_strokes_160 rfl (fun v54 M55 => ?_)
                      refine x_iconst (pc2 := 164) C dL_strokes_163 rfl ic_3 ?_
                      refine x_icmp_gt (tgt := 198) (pc2 := 167) C dL_strokes_164 (by decide) rfl ?_ ?_
                      · refine x_iconst (pc2 := 199) C dL_strokes_198 rfl ic_0 ?_
                        exact x_zret C rfl rfl rfl dL_strokes_199
                      · refine x_aload_n (pc2 := 168) C dL_strokes_167 rfl rfl ?_
                        refine x_iload_n (pc2 := 169) C dL_strokes_168 rfl rfl ?_
                        refine x_iconst (pc2 := 170) C dL_strokes_169 rfl ic_1 ?_
                        refine x_callVi (pc2 := 173) C [.int b8, .int 1] [] cl_L_66 (fun q hq => ctX8_stroke hk1 q hq) hk1 rfl rfl rfl ⟨rfl, rfl, Nat.le_of_ble_eq_true rfl, Nat.le_of_ble_eq_true rfl⟩ (Nat.le_of_ble_eq_true rfl) ⟨Nat.zero_le _, Nat.zero_le _⟩ dL_strokes_170 rfl (fun v56 M57 => ?_)
                        refine x_aload_n (pc2 := 174) C dL_strokes_173 rfl rfl ?_
                        refine x_iload_n (pc2 := 175) C dL_strokes_174 rfl rfl ?_
                        refine x_iconst (pc2 := 176) C dL_strokes_175 rfl ic_2 ?_
                        refine x_callVi (pc2 := 179) C [.int b8, .int 2] [.int v56] cl_L_66 (fun q hq => ctX8_stroke hk1 q hq) hk1 rfl rfl rfl ⟨rfl, rfl, Nat.le_of_ble_eq_true rfl, Nat.le_of_ble_eq_true rfl⟩ (Nat.le_of_ble_eq_true rfl) ⟨Nat.zero_le _, Nat.zero_le _⟩ dL_strokes_176 rfl (fun v58 M59 => ?_)
                        refine x_iadd (pc2 := 180) C dL_strokes_179 rfl ?_
                        refine x_aload_n (pc2 := 181) C dL_strokes_180 rfl rfl ?_
                        refine x_iconst (pc2 := 182) C dL_strokes_181 rfl ic_0 ?_
                        refine x_callVi (pc2 := 185) C [.int 0] [.int (v56 + v58)] cl_L_9 (fun q hq => ctX8_count hk1 q hq) hk1 rfl rfl rfl ⟨rfl, rfl, Nat.le_of_ble_eq_true rfl, Nat.le_of_ble_eq_true rfl⟩ (Nat.le_of_ble_eq_true rfl) ⟨Nat.zero_le _, Nat.zero_le _⟩ dL_strokes_182 rfl (fun v60 M61 => ?_)
                        refine x_icmp_lt (tgt := 200) (pc2 := 188) C dL_strokes_185 (by decide) rfl ?_ ?_
                        · exact x_wk [some (rv G a1), some (.int b4), some (.int v6), some (.int b8), some (.int b31), none] ⟨Or.inr rfl, Or.inr rfl, Or.inr rfl, Or.inr rfl, Or.inr rfl, Or.inl rfl, trivial⟩ (hj37 () _)
                        · exact x_wk [none, none, none, none, none, none] ⟨Or.inl rfl, Or.inl rfl, Or.inl rfl, Or.inl rfl, Or.inl rfl, Or.inl rfl, trivial⟩ (hk30 () _)
        · intro j32 hj32
          refine x_jn 112 (fun (b62 : Unit) => [some (rv G a1), some (.int b4), some (.int v6), some (.int b8), none, none]) (fun (b62 : Unit) => []) ?_ ?_
          · intro b62 M64
            refine x_iconst (pc2 := 113) C dL_strokes_112 rfl ic_0 ?_
            exact x_wk [some (rv G a1), some (.int b4), some (.int v6), some (.int b8), none, none] ⟨Or.inr rfl, Or.inr rfl, Or.inr rfl, Or.inr rfl, Or.inl rfl, Or.inl rfl, trivial⟩ (hj32 0 _)
          · intro j63 hj63
            refine x_icmp_ge (tgt := 112) (pc2 := 102) C dL_strokes_99 (by decide) rfl ?_ ?_
            · exact x_wk [some (rv G a1), some (.int b4), some (.int v6), some (.int b8), none, none] ⟨Or.inr rfl, Or.inr rfl, Or.inr rfl, Or.inr rfl, Or.inl rfl, Or.inl rfl, trivial⟩ (hj63 () _)
            · refine x_iload_n (pc2 := 103) C dL_strokes_102 rfl rfl ?_
              refine x_bipush (pc2 := 105) C dL_strokes_103 rfl bc_16 ?_
              refine x_icmp_ge (tgt := 112) (pc2 := 108) C dL_strokes_105 (by decide) rfl ?_ ?_
              · exact x_wk [some (rv G a1), some (.int b4), some (.int v6), some (.int b8), none, none] ⟨Or.inr rfl, Or.inr rfl, Or.inr rfl, Or.inr rfl, Or.inl rfl, Or.inl rfl, trivial⟩ (hj63 () _)
              · refine x_iconst (pc2 := 109) C dL_strokes_108 rfl ic_1 ?_
                refine x_goto (tgt := 113) C dL_strokes_109 (by decide) ?_
                exact x_wk [some (rv G a1), some (.int b4), some (.int v6), some (.int b8), none, none] ⟨Or.inr rfl, Or.inr rfl, Or.inr rfl, Or.inr rfl, Or.inl rfl, Or.inl rfl, trivial⟩ (hj32 1 _)
  · intro k65 hk65 rec3 hrec3 b1 M2
    refine x_iload_n (pc2 := 5) C dL_strokes_4 rfl rfl ?_
    refine x_aload_n (pc2 := 6) C dL_strokes_5 rfl rfl ?_
    refine x_bipush (pc2 := 8) C dL_strokes_6 rfl bc_10 ?_
    refine x_callVi (pc2 := 11) C [.int 10] [.int b1.2] cl_L_9 (fun q hq => ctX8_count hk1 q hq) hk1 rfl rfl rfl ⟨rfl, rfl, Nat.le_of_ble_eq_true rfl, Nat.le_of_ble_eq_true rfl⟩ (Nat.le_of_ble_eq_true rfl) ⟨Nat.zero_le _, Nat.zero_le _⟩ dL_strokes_8 rfl (fun v66 M67 => ?_)
    refine x_icmp_ge (tgt := 82) (pc2 := 14) C dL_strokes_11 (by decide) rfl ?_ ?_
    · exact x_wk [some (rv G a1), some (.int b1.1), none, none, none, none] ⟨Or.inr rfl, Or.inr rfl, Or.inl rfl, Or.inl rfl, Or.inl rfl, Or.inl rfl, trivial⟩ (hk65 b1.1 _)
    · refine x_iload_n (pc2 := 15) C dL_strokes_14 rfl rfl ?_
      refine x_aload_n (pc2 := 16) C dL_strokes_15 rfl rfl ?_
      refine x_iload_n (pc2 := 17) C dL_strokes_16 rfl rfl ?_
      refine x_iconst (pc2 := 18) C dL_strokes_17 rfl ic_3 ?_
      refine x_callVi (pc2 := 21) C [.int b1.2, .int 3] [.int b1.1] cl_L_63 (fun q hq => ctX8_dispute hk1 q hq) hk1 rfl rfl rfl ⟨rfl, rfl, Nat.le_of_ble_eq_true rfl, Nat.le_of_ble_eq_true rfl⟩ (Nat.le_of_ble_eq_true rfl) ⟨Nat.zero_le _, Nat.zero_le _⟩ dL_strokes_18 rfl (fun v68 M69 => ?_)
      refine x_bipush (pc2 := 23) C dL_strokes_21 rfl bc_m5 ?_
      refine x_jn 31 (fun (b70 : Int32) => [some (rv G a1), none, some (.int b1.2), none, none, none]) (fun (b70 : Int32) => [.int b70, .int b1.1]) ?_ ?_
      · intro b70 M72
        refine x_iadd (pc2 := 32) C dL_strokes_31 rfl ?_
        refine x_istore_n (pc2 := 33) C dL_strokes_32 rfl [some (rv G a1), some (.int (b1.1 + b70)), some (.int b1.2), none, none, none] rfl rfl ?_
        refine x_aload_n (pc2 := 34) C dL_strokes_33 rfl rfl ?_
        refine x_iload_n (pc2 := 35) C dL_strokes_34 rfl rfl ?_
        refine x_iconst (pc2 := 36) C dL_strokes_35 rfl ic_2 ?_
        refine x_callVi (pc2 := 39) C [.int b1.2, .int 2] [] cl_L_63 (fun q hq => ctX8_dispute hk1 q hq) hk1 rfl rfl rfl ⟨rfl, rfl, Nat.le_of_ble_eq_true rfl, Nat.le_of_ble_eq_true rfl⟩ (Nat.le_of_ble_eq_true rfl) ⟨Nat.zero_le _, Nat.zero_le _⟩ dL_strokes_36 rfl (fun v73 M74 => ?_)
        refine x_if_lt (tgt := 74) (pc2 := 42) C dL_strokes_39 (by decide) rfl ?_ ?_
        · refine x_iconst (pc2 := 75) C dL_strokes_74 rfl ic_0 ?_
          exact x_zret C rfl rfl rfl dL_strokes_75
        · refine x_aload_n (pc2 := 43) C dL_strokes_42 rfl rfl ?_
          refine x_iload_n (pc2 := 44) C dL_strokes_43 rfl rfl ?_
          refine x_iconst (pc2 := 45) C dL_strokes_44 rfl ic_4 ?_
          refine x_callVi (pc2 := 48) C [.int b1.2, .int 4] [] cl_L_63 (fun q hq => ctX8_dispute hk1 q hq) hk1 rfl rfl rfl ⟨rfl, rfl, Nat.le_of_ble_eq_true rfl, Nat.le_of_ble_eq_true rfl⟩ (Nat.le_of_ble_eq_true rfl) ⟨Nat.zero_le _, Nat.zero_le _⟩ dL_strokes_45 rfl (fun v75 M76 => ?_)
          refine x_bipush (pc2 := 50) C dL_strokes_48 rfl bc_m5 ?_
          refine x_icmp_lt (tgt := 74) (pc2 := 53) C dL_strokes_50 (by decide) rfl ?_ ?_
          · refine x_iconst (pc2 := 75) C dL_strokes_74 rfl ic_0 ?_
            exact x_zret C rfl rfl rfl dL_strokes_75
          · refine x_aload_n (pc2 := 54) C dL_strokes_53 rfl rfl ?_
            refine x_iload_n (pc2 := 55) C dL_strokes_54 rfl rfl ?_
            refine x_iconst (pc2 := 56) C dL_strokes_55 rfl ic_4 ?_
            refine x_callVi (pc2 := 59) C [.int b1.2, .int 4] [] cl_L_63 (fun q hq => ctX8_dispute hk1 q hq) hk1 rfl rfl rfl ⟨rfl, rfl, Nat.le_of_ble_eq_true rfl, Nat.le_of_ble_eq_true rfl⟩ (Nat.le_of_ble_eq_true rfl) ⟨Nat.zero_le _, Nat.zero_le _⟩ dL_strokes_56 rfl (fun v77 M78 => ?_)
            refine x_iconst (pc2 := 60) C dL_strokes_59 rfl ic_1 ?_
            refine x_icmp_gt (tgt := 74) (pc2 := 63) C dL_strokes_60 (by decide) rfl ?_ ?_
            · refine x_iconst (pc2 := 75) C dL_strokes_74 rfl ic_0 ?_
              exact x_zret C rfl rfl rfl dL_strokes_75
            · refine x_aload_n (pc2 := 64) C dL_strokes_63 rfl rfl ?_
              refine x_iload_n (pc2 := 65) C dL_strokes_64 rfl rfl ?_
              refine x_iconst (pc2 := 66) C dL_strokes_65 rfl ic_5 ?_
              refine x_callVi (pc2 := 69) C [.int b1.2, .int 5] [] cl_L_63 (fun q hq => ctX8_dispute hk1 q hq) hk1 rfl rfl rfl ⟨rfl, rfl, Nat.le_of_ble_eq_true rfl, Nat.le_of_ble_eq_true rfl⟩ (Nat.le_of_ble_eq_true rfl) ⟨Nat.zero_le _, Nat.zero_le _⟩ dL_strokes_66 rfl (fun v79 M80 => ?_)
              refine x_bipush (pc2 := 71) C dL_strokes_69 rfl bc_m2 ?_
              refine x_icmp_eq (tgt := 76) (pc2 := 74) C dL_strokes_71 (by decide) rfl ?_ ?_
              · refine x_iinc (pc2 := 79) (v := b1.2 + 1) C dL_strokes_76 rfl rfl 1 ic_1 rfl [some (rv G a1), some (.int (b1.1 + b70)), some (.int (b1.2 + 1)), none, none, none] rfl rfl ?_
                refine x_goto (tgt := 4) C dL_strokes_79 (by decide) ?_
                exact x_wk [some (rv G a1), some (.int (b1.1 + b70)), some (.int (b1.2 + 1)), none, none, none] ⟨Or.inr rfl, Or.inr rfl, Or.inr rfl, Or.inl rfl, Or.inl rfl, Or.inl rfl, trivial⟩ (hrec3 (b1.1 + b70, b1.2 + 1) _)
              · refine x_iconst (pc2 := 75) C dL_strokes_74 rfl ic_0 ?_
                exact x_zret C rfl rfl rfl dL_strokes_75
      · intro j71 hj71
        refine x_icmp_ne (tgt := 30) (pc2 := 26) C dL_strokes_23 (by decide) rfl ?_ ?_
        · refine x_iconst (pc2 := 31) C dL_strokes_30 rfl ic_0 ?_
          exact x_wk [some (rv G a1), none, some (.int b1.2), none, none, none] ⟨Or.inr rfl, Or.inl rfl, Or.inr rfl, Or.inl rfl, Or.inl rfl, Or.inl rfl, trivial⟩ (hj71 0 _)
        · refine x_iconst (pc2 := 27) C dL_strokes_26 rfl ic_1 ?_
          refine x_goto (tgt := 31) C dL_strokes_27 (by decide) ?_
          exact x_wk [some (rv G a1), none, some (.int b1.2), none, none, none] ⟨Or.inr rfl, Or.inl rfl, Or.inr rfl, Or.inl rfl, Or.inl rfl, Or.inl rfl, trivial⟩ (hj71 1 _)
set_option maxRecDepth 100000 in
set_option maxHeartbeats 4000000 in
theorem ctL_typists {l : Launch} {G : bkG} {M : Mem} {a1 : Nat} (hk1 : kd a1 = 7) : ∀ r, fL_typists a1 M = some r → Met l yL_typists (Cond.code yL_typists cL_typists 11 (some .boolean) :: TT) ({ frames := 4, cells := 0, slots := 0, locals := 94 } : Room) (va_Pc [rv G a1] (Wd G M)) (QQ G ((fun v => some (.int v)) r.1) r.2) 0 0 (An G) := by
  refine mkMet (vl := (fun v => some (.int v))) RL rfl (by decide +kernel) rfl (Nat.le_of_ble_eq_true rfl) [some (rv G a1), none, none, none, none, none, none, none, none, none, none] rfl ?_
  intro p e s m args below meth c C _
  refine x_iconst (pc2 := 1) C dL_typists_0 rfl ic_0 ?_
  refine x_istore_n (pc2 := 2) C dL_typists_1 rfl [some (rv G a1), some (.int 0), none, none, none, none, none, none, none, none, none] rfl rfl ?_
  refine x_iconst (pc2 := 3) C dL_typists_2 rfl ic_0 ?_
  refine x_istore_n (pc2 := 4) C dL_typists_3 rfl [some (rv G a1), some (.int 0), some (.int 0), none, none, none, none, none, none, none, none] rfl rfl ?_
  refine x_iconst (pc2 := 5) C dL_typists_4 rfl ic_0 ?_
  refine x_istore_n (pc2 := 6) C dL_typists_5 rfl [some (rv G a1), some (.int 0), some (.int 0), some (.int 0), none, none, none, none, none, none, none] rfl rfl ?_
  refine x_wk [some (rv G a1), some (.int 0), some (.int 0), some (.int 0), none, none, none, none, none, none, none] ⟨Or.inr rfl, Or.inr rfl, Or.inr rfl, Or.inr rfl, Or.inl rfl, Or.inl rfl, Or.inl rfl, Or.inl rfl, Or.inl rfl, Or.inl rfl, Or.inl rfl, trivial⟩ ?_
  refine x_lp2 (fun (b1 : Int32 × Int32 × Int32) => [some (rv G a1), some (.int b1.1), some (.int b1.2.1), some (.int b1.2.2), none, none, none, none, none, none, none]) 301 (fun (b4 : Int32 × Int32) => [some (rv G a1), some (.int b4.1), some (.int b4.2), none, none, none, none, none, none, none, none]) 277 (fun (b10 : Unit) => [none, none, none, none, none, none, none, none, none, none, none]) ?_ ?_ ?_
  · intro b4 M5
    refine x_aload_n (pc2 := 302) C dL_typists_301 rfl rfl ?_
    refine x_bipush (pc2 := 304) C dL_typists_302 rfl bc_7 ?_
    refine x_callVi (pc2 := 307) C [.int 7] [] cl_L_9 (fun q hq => ctX8_count hk1 q hq) hk1 rfl rfl rfl ⟨rfl, rfl, Nat.le_of_ble_eq_true rfl, Nat.le_of_ble_eq_true rfl⟩ (Nat.le_of_ble_eq_true rfl) ⟨Nat.zero_le _, Nat.zero_le _⟩ dL_typists_304 rfl (fun v6 M7 => ?_)
    refine x_iload_n (pc2 := 308) C dL_typists_307 rfl rfl ?_
    refine x_icmp_ne (tgt := 325) (pc2 := 311) C dL_typists_308 (by decide) rfl ?_ ?_
    · refine x_iconst (pc2 := 326) C dL_typists_325 rfl ic_0 ?_
      exact x_zret C rfl rfl rfl dL_typists_326
    · refine x_aload_n (pc2 := 312) C dL_typists_311 rfl rfl ?_
      refine x_bipush (pc2 := 314) C dL_typists_312 rfl bc_11 ?_
      refine x_callVi (pc2 := 317) C [.int 11] [] cl_L_9 (fun q hq => ctX8_count hk1 q hq) hk1 rfl rfl rfl ⟨rfl, rfl, Nat.le_of_ble_eq_true rfl, Nat.le_of_ble_eq_true rfl⟩ (Nat.le_of_ble_eq_true rfl) ⟨Nat.zero_le _, Nat.zero_le _⟩ dL_typists_314 rfl (fun v8 M9 => ?_)
      refine x_iload_n (pc2 := 318) C dL_typists_317 rfl rfl ?_
      refine x_icmp_ne (tgt := 325) (pc2 := 321) C dL_typists_318 (by decide) rfl ?_ ?_
      · refine x_iconst (pc2 := 326) C dL_typists_325 rfl ic_0 ?_
        exact x_zret C rfl rfl rfl dL_typists_326
      · refine x_iconst (pc2 := 322) C dL_typists_321 rfl ic_1 ?_
        refine x_goto (tgt := 326) C dL_typists_322 (by decide) ?_
        exact x_zret C rfl rfl rfl dL_typists_326
  · intro b10 M11
    refine x_goto (tgt := 287) C dL_typists_277 (by decide) ?_
    refine x_iconst (pc2 := 288) C dL_typists_287 rfl ic_0 ?_
    exact x_zret C rfl rfl rfl dL_typists_288
  · intro k12 k13 hk12 hk13 rec3 hrec3 b1 M2
    refine x_iload_n (pc2 := 7) C dL_typists_6 rfl rfl ?_
    refine x_iconst (pc2 := 8) C dL_typists_7 rfl ic_2 ?_
    refine x_icmp_ge (tgt := 301) (pc2 := 11) C dL_typists_8 (by decide) rfl ?_ ?_
    · exact x_wk [some (rv G a1), some (.int b1.1), some (.int b1.2.1), none, none, none, none, none, none, none, none] ⟨Or.inr rfl, Or.inr rfl, Or.inr rfl, Or.inl rfl, Or.inl rfl, Or.inl rfl, Or.inl rfl, Or.inl rfl, Or.inl rfl, Or.inl rfl, Or.inl rfl, trivial⟩ (hk12 (b1.1, b1.2.1) _)
    · refine x_aload_n (pc2 := 12) C dL_typists_11 rfl rfl ?_
      refine x_iload_n (pc2 := 13) C dL_typists_12 rfl rfl ?_
      refine x_iconst (pc2 := 14) C dL_typists_13 rfl ic_1 ?_
      refine x_callVi (pc2 := 17) C [.int b1.2.2, .int 1] [] cl_L_45 (fun q hq => ctX8_typist hk1 q hq) hk1 rfl rfl rfl ⟨rfl, rfl, Nat.le_of_ble_eq_true rfl, Nat.le_of_ble_eq_true rfl⟩ (Nat.le_of_ble_eq_true rfl) ⟨Nat.zero_le _, Nat.zero_le _⟩ dL_typists_14 rfl (fun v14 M15 => ?_)
      refine x_istore (pc2 := 19) C dL_typists_17 rfl [some (rv G a1), some (.int b1.1), some (.int b1.2.1), some (.int b1.2.2), some (.int v14), none, none, none, none, none, none] rfl rfl ?_
      refine x_iload (pc2 := 21) C dL_typists_19 rfl rfl ?_
      refine x_jn 50 (fun (b16 : Int32) => [some (rv G a1), some (.int b1.1), some (.int b1.2.1), some (.int b1.2.2), none, none, none, none, none, none, none]) (fun (b16 : Int32) => [.int b16]) ?_ ?_
      · intro b16 M18
        refine x_istore (pc2 := 52) C dL_typists_50 rfl [some (rv G a1), some (.int b1.1), some (.int b1.2.1), some (.int b1.2.2), none, some (.int b16), none, none, none, none, none] rfl rfl ?_
        refine x_aload_n (pc2 := 53) C dL_typists_52 rfl rfl ?_
        refine x_iload_n (pc2 := 54) C dL_typists_53 rfl rfl ?_
        refine x_bipush (pc2 := 56) C dL_typists_54 rfl bc_6 ?_
        refine x_callVi (pc2 := 59) C [.int b1.2.2, .int 6] [] cl_L_45 (fun q hq => ctX8_typist hk1 q hq) hk1 rfl rfl rfl ⟨rfl, rfl, Nat.le_of_ble_eq_true rfl, Nat.le_of_ble_eq_true rfl⟩ (Nat.le_of_ble_eq_true rfl) ⟨Nat.zero_le _, Nat.zero_le _⟩ dL_typists_56 rfl (fun v19 M20 => ?_)
        refine x_istore (pc2 := 61) C dL_typists_59 rfl [some (rv G a1), some (.int b1.1), some (.int b1.2.1), some (.int b1.2.2), none, some (.int b16), some (.int v19), none, none, none, none] rfl rfl ?_
        refine x_iload_n (pc2 := 62) C dL_typists_61 rfl rfl ?_
        refine x_aload_n (pc2 := 63) C dL_typists_62 rfl rfl ?_
        refine x_iload_n (pc2 := 64) C dL_typists_63 rfl rfl ?_
        refine x_iconst (pc2 := 65) C dL_typists_64 rfl ic_4 ?_
        refine x_callVi (pc2 := 68) C [.int b1.2.2, .int 4] [.int b1.1] cl_L_45 (fun q hq => ctX8_typist hk1 q hq) hk1 rfl rfl rfl ⟨rfl, rfl, Nat.le_of_ble_eq_true rfl, Nat.le_of_ble_eq_true rfl⟩ (Nat.le_of_ble_eq_true rfl) ⟨Nat.zero_le _, Nat.zero_le _⟩ dL_typists_65 rfl (fun v21 M22 => ?_)
        refine x_iadd (pc2 := 69) C dL_typists_68 rfl ?_
        refine x_istore_n (pc2 := 70) C dL_typists_69 rfl [some (rv G a1), some (.int (b1.1 + v21)), some (.int b1.2.1), some (.int b1.2.2), none, some (.int b16), some (.int v19), none, none, none, none] rfl rfl ?_
        refine x_iload_n (pc2 := 71) C dL_typists_70 rfl rfl ?_
        refine x_aload_n (pc2 := 72) C dL_typists_71 rfl rfl ?_
        refine x_iload_n (pc2 := 73) C dL_typists_72 rfl rfl ?_
        refine x_iconst (pc2 := 74) C dL_typists_73 rfl ic_5 ?_
        refine x_callVi (pc2 := 77) C [.int b1.2.2, .int 5] [.int b1.2.1] cl_L_45 (fun q hq => ctX8_typist hk1 q hq) hk1 rfl rfl rfl ⟨rfl, rfl, Nat.le_of_ble_eq_true rfl, Nat.le_of_ble_eq_true rfl⟩ (Nat.le_of_ble_eq_true rfl) ⟨Nat.zero_le _, Nat.zero_le _⟩ dL_typists_74 rfl (fun v23 M24 => ?_)
        refine x_iadd (pc2 := 78) C dL_typists_77 rfl ?_
        refine x_istore_n (pc2 := 79) C dL_typists_78 rfl [some (rv G a1), some (.int (b1.1 + v21)), some (.int (b1.2.1 + v23)), some (.int b1.2.2), none, some (.int b16), some (.int v19), none, none, none, none] rfl rfl ?_
        refine x_aload_n (pc2 := 80) C dL_typists_79 rfl rfl ?_
        refine x_iload_n (pc2 := 81) C dL_typists_80 rfl rfl ?_
        refine x_iconst (pc2 := 82) C dL_typists_81 rfl ic_0 ?_
        refine x_callVf (pc2 := 85) C [.int b1.2.2, .int 0] [] cl_L_52 (fun q hq => ctX8_style hk1 q hq) hk1 rfl rfl rfl ⟨rfl, rfl, Nat.le_of_ble_eq_true rfl, Nat.le_of_ble_eq_true rfl⟩ (Nat.le_of_ble_eq_true rfl) ⟨Nat.zero_le _, Nat.zero_le _⟩ dL_typists_82 rfl (fun v25 M26 => ?_)
        refine x_ldcf (pc2 := 87) C wt3_45 dL_typists_85 rfl ?_
        refine x_fcmpl (pc2 := 88) C dL_typists_87 rfl ?_
        refine x_jn 146 (fun (b27 : Int32) => [some (rv G a1), some (.int (b1.1 + v21)), some (.int (b1.2.1 + v23)), some (.int b1.2.2), none, some (.int b16), some (.int v19), none, none, none, none]) (fun (b27 : Int32) => [.int b27]) ?_ ?_
        · intro b27 M29
          refine x_istore (pc2 := 148) C dL_typists_146 rfl [some (rv G a1), some (.int (b1.1 + v21)), some (.int (b1.2.1 + v23)), some (.int b1.2.2), none, some (.int b16), some (.int v19), some (.int b27), none, none, none] rfl rfl ?_
          refine x_aload_n (pc2 := 149) C dL_typists_148 rfl rfl ?_
          refine x_iload_n (pc2 := 150) C dL_typists_149 rfl rfl ?_
          refine x_iconst (pc2 := 151) C dL_typists_150 rfl ic_2 ?_
          refine x_callVi (pc2 := 154) C [.int b1.2.2, .int 2] [] cl_L_45 (fun q hq => ctX8_typist hk1 q hq) hk1 rfl rfl rfl ⟨rfl, rfl, Nat.le_of_ble_eq_true rfl, Nat.le_of_ble_eq_true rfl⟩ (Nat.le_of_ble_eq_true rfl) ⟨Nat.zero_le _, Nat.zero_le _⟩ dL_typists_151 rfl (fun v30 M31 => ?_)
          refine x_iload (pc2 := 156) C dL_typists_154 rfl rfl ?_
          refine x_icmp_ne (tgt := 202) (pc2 := 159) C dL_typists_156 (by decide) rfl ?_ ?_
          · refine x_iconst (pc2 := 203) C dL_typists_202 rfl ic_0 ?_
            exact x_zret C rfl rfl rfl dL_typists_203
          · refine x_iload (pc2 := 161) C dL_typists_159 rfl rfl ?_
            refine x_aload_n (pc2 := 162) C dL_typists_161 rfl rfl ?_
            refine x_iload_n (pc2 := 163) C dL_typists_162 rfl rfl ?_
            refine x_iconst (pc2 := 164) C dL_typists_163 rfl ic_4 ?_
            refine x_callVi (pc2 := 167) C [.int b1.2.2, .int 4] [.int v19] cl_L_45 (fun q hq => ctX8_typist hk1 q hq) hk1 rfl rfl rfl ⟨rfl, rfl, Nat.le_of_ble_eq_true rfl, Nat.le_of_ble_eq_true rfl⟩ (Nat.le_of_ble_eq_true rfl) ⟨Nat.zero_le _, Nat.zero_le _⟩ dL_typists_164 rfl (fun v32 M33 => ?_)
            refine x_icmp_gt (tgt := 202) (pc2 := 170) C dL_typists_167 (by decide) rfl ?_ ?_
            · refine x_iconst (pc2 := 203) C dL_typists_202 rfl ic_0 ?_
              exact x_zret C rfl rfl rfl dL_typists_203
            · refine x_aload_n (pc2 := 171) C dL_typists_170 rfl rfl ?_
              refine x_iload_n (pc2 := 172) C dL_typists_171 rfl rfl ?_
              refine x_iconst (pc2 := 173) C dL_typists_172 rfl ic_5 ?_
              refine x_callVi (pc2 := 176) C [.int b1.2.2, .int 5] [] cl_L_45 (fun q hq => ctX8_typist hk1 q hq) hk1 rfl rfl rfl ⟨rfl, rfl, Nat.le_of_ble_eq_true rfl, Nat.le_of_ble_eq_true rfl⟩ (Nat.le_of_ble_eq_true rfl) ⟨Nat.zero_le _, Nat.zero_le _⟩ dL_typists_173 rfl (fun v34 M35 => ?_)
              refine x_aload_n (pc2 := 177) C dL_typists_176 rfl rfl ?_
              refine x_iload_n (pc2 := 178) C dL_typists_177 rfl rfl ?_
              refine x_iconst (pc2 := 179) C dL_typists_178 rfl ic_4 ?_
              refine x_callVi (pc2 := 182) C [.int b1.2.2, .int 4] [.int v34] cl_L_45 (fun q hq => ctX8_typist hk1 q hq) hk1 rfl rfl rfl ⟨rfl, rfl, Nat.le_of_ble_eq_true rfl, Nat.le_of_ble_eq_true rfl⟩ (Nat.le_of_ble_eq_true rfl) ⟨Nat.zero_le _, Nat.zero_le _⟩ dL_typists_179 rfl (fun v36 M37 => ?_)
              refine x_icmp_gt (tgt := 202) (pc2 := 185) C dL_typists_182 (by decide) rfl ?_ ?_
              · refine x_iconst (pc2 := 203) C dL_typists_202 rfl ic_0 ?_
                exact x_zret C rfl rfl rfl dL_typists_203
              · refine x_iload (pc2 := 187) C dL_typists_185 rfl rfl ?_
                refine x_if_eq (tgt := 202) (pc2 := 190) C dL_typists_187 (by decide) rfl ?_ ?_
                · refine x_iconst (pc2 := 203) C dL_typists_202 rfl ic_0 ?_
                  exact x_zret C rfl rfl rfl dL_typists_203
                · refine x_aload_n (pc2 := 191) C dL_typists_190 rfl rfl ?_
                  refine x_iload_n (pc2 := 192) C dL_typists_191 rfl rfl ?_
                  refine x_bipush (pc2 := 194) C dL_typists_192 rfl bc_8 ?_
                  refine x_callVi (pc2 := 197) C [.int b1.2.2, .int 8] [] cl_L_45 (fun q hq => ctX8_typist hk1 q hq) hk1 rfl rfl rfl ⟨rfl, rfl, Nat.le_of_ble_eq_true rfl, Nat.le_of_ble_eq_true rfl⟩ (Nat.le_of_ble_eq_true rfl) ⟨Nat.zero_le _, Nat.zero_le _⟩ dL_typists_194 rfl (fun v38 M39 => ?_)
                  refine x_bipush (pc2 := 199) C dL_typists_197 rfl bc_m2 ?_
                  refine x_icmp_eq (tgt := 204) (pc2 := 202) C dL_typists_199 (by decide) rfl ?_ ?_
                  · refine x_iconst (pc2 := 205) C dL_typists_204 rfl ic_0 ?_
                    refine x_istore (pc2 := 207) C dL_typists_205 rfl [some (rv G a1), some (.int (b1.1 + v21)), some (.int (b1.2.1 + v23)), some (.int b1.2.2), none, some (.int b16), some (.int v19), some (.int b27), some (.int 0), none, none] rfl rfl ?_
                    refine x_wk [some (rv G a1), some (.int (b1.1 + v21)), some (.int (b1.2.1 + v23)), some (.int b1.2.2), none, none, some (.int v19), none, some (.int 0), none, none] ⟨Or.inr rfl, Or.inr rfl, Or.inr rfl, Or.inr rfl, Or.inl rfl, Or.inl rfl, Or.inr rfl, Or.inl rfl, Or.inr rfl, Or.inl rfl, Or.inl rfl, trivial⟩ ?_
                    refine x_lp2 (fun (b40 : Int32) => [some (rv G a1), some (.int (b1.1 + v21)), some (.int (b1.2.1 + v23)), some (.int b1.2.2), none, none, some (.int v19), none, some (.int b40), none, none]) 295 (fun (b43 : Unit) => [some (rv G a1), some (.int (b1.1 + v21)), some (.int (b1.2.1 + v23)), some (.int b1.2.2), none, none, none, none, none, none, none]) 277 (fun (b10 : Unit) => [none, none, none, none, none, none, none, none, none, none, none]) ?_ ?_ ?_
                    · intro b43 M44
                      refine x_iinc (pc2 := 298) (v := b1.2.2 + 1) C dL_typists_295 rfl rfl 1 ic_1 rfl [some (rv G a1), some (.int (b1.1 + v21)), some (.int (b1.2.1 + v23)), some (.int (b1.2.2 + 1)), none, none, none, none, none, none, none] rfl rfl ?_
                      refine x_goto (tgt := 6) C dL_typists_298 (by decide) ?_
                      exact x_wk [some (rv G a1), some (.int (b1.1 + v21)), some (.int (b1.2.1 + v23)), some (.int (b1.2.2 + 1)), none, none, none, none, none, none, none] ⟨Or.inr rfl, Or.inr rfl, Or.inr rfl, Or.inr rfl, Or.inl rfl, Or.inl rfl, Or.inl rfl, Or.inl rfl, Or.inl rfl, Or.inl rfl, Or.inl rfl, trivial⟩ (hrec3 (b1.1 + v21, b1.2.1 + v23, b1.2.2 + 1) _)
                    · exact hk13
                    · intro k45 k46 hk45 hk46 rec42 hrec42 b40 M41
                      refine x_iload (pc2 := 209) C dL_typists_207 rfl rfl ?_
                      refine x_bipush (pc2 := 211) C dL_typists_209 rfl bc_26 ?_
                      refine x_icmp_ge (tgt := 295) (pc2 := 214) C dL_typists_211 (by decide) rfl ?_ ?_
                      · exact x_wk [some (rv G a1), some (.int (b1.1 + v21)), some (.int (b1.2.1 + v23)), some (.int b1.2.2), none, none, none, none, none, none, none] ⟨Or.inr rfl, Or.inr rfl, Or.inr rfl, Or.inr rfl, Or.inl rfl, Or.inl rfl, Or.inl rfl, Or.inl rfl, Or.inl rfl, Or.inl rfl, Or.inl rfl, trivial⟩ (hk45 () _)
                      · refine x_aload_n (pc2 := 215) C dL_typists_214 rfl rfl ?_
                        refine x_iload_n (pc2 := 216) C dL_typists_215 rfl rfl ?_
                        refine x_iload (pc2 := 218) C dL_typists_216 rfl rfl ?_
                        refine x_callVi (pc2 := 221) C [.int b1.2.2, .int b40] [] cl_L_60 (fun q hq => ctX8_typed hk1 q hq) hk1 rfl rfl rfl ⟨rfl, rfl, Nat.le_of_ble_eq_true rfl, Nat.le_of_ble_eq_true rfl⟩ (Nat.le_of_ble_eq_true rfl) ⟨Nat.zero_le _, Nat.zero_le _⟩ dL_typists_218 rfl (fun v47 M48 => ?_)
                        refine x_istore (pc2 := 223) C dL_typists_221 rfl [some (rv G a1), some (.int (b1.1 + v21)), some (.int (b1.2.1 + v23)), some (.int b1.2.2), none, none, some (.int v19), none, some (.int b40), some (.int v47), none] rfl rfl ?_
                        refine x_iload (pc2 := 225) C dL_typists_223 rfl rfl ?_
                        refine x_bipush (pc2 := 227) C dL_typists_225 rfl bc_97 ?_
                        refine x_jn 256 (fun (b49 : Int32) => [some (rv G a1), some (.int (b1.1 + v21)), some (.int (b1.2.1 + v23)), some (.int b1.2.2), none, none, some (.int v19), none, some (.int b40), some (.int v47), none]) (fun (b49 : Int32) => [.int b49]) ?_ ?_
                        · intro b49 M51
                          refine x_istore (pc2 := 258) C dL_typists_256 rfl [some (rv G a1), some (.int (b1.1 + v21)), some (.int (b1.2.1 + v23)), some (.int b1.2.2), none, none, some (.int v19), none, some (.int b40), some (.int v47), some (.int b49)] rfl rfl ?_
                          refine x_iload (pc2 := 260) C dL_typists_258 rfl rfl ?_
                          refine x_iload (pc2 := 262) C dL_typists_260 rfl rfl ?_
                          refine x_jn 289 (fun (b52 : Unit) => [some (rv G a1), some (.int (b1.1 + v21)), some (.int (b1.2.1 + v23)), some (.int b1.2.2), none, none, some (.int v19), none, some (.int b40), none, none]) (fun (b52 : Unit) => []) ?_ ?_
                          · intro b52 M54
                            refine x_iinc (pc2 := 292) (v := b40 + 1) C dL_typists_289 rfl rfl 1 ic_1 rfl [some (rv G a1), some (.int (b1.1 + v21)), some (.int (b1.2.1 + v23)), some (.int b1.2.2), none, none, some (.int v19), none, some (.int (b40 + 1)), none, none] rfl rfl ?_
                            refine x_goto (tgt := 207) C dL_typists_292 (by decide) ?_
                            exact x_wk [some (rv G a1), some (.int (b1.1 + v21)), some (.int (b1.2.1 + v23)), some (.int b1.2.2), none, none, some (.int v19), none, some (.int (b40 + 1)), none, none] ⟨Or.inr rfl, Or.inr rfl, Or.inr rfl, Or.inr rfl, Or.inl rfl, Or.inl rfl, Or.inr rfl, Or.inl rfl, Or.inr rfl, Or.inl rfl, Or.inl rfl, trivial⟩ (hrec42 (b40 + 1) _)
                          · intro j53 hj53
                            refine x_jn 280 (fun (b55 : Unit) => [some (rv G a1), some (.int (b1.1 + v21)), some (.int (b1.2.1 + v23)), some (.int b1.2.2), none, none, some (.int v19), none, some (.int b40), some (.int v47), none]) (fun (b55 : Unit) => []) ?_ ?_
                            · intro b55 M57
                              refine x_iload (pc2 := 282) C dL_typists_280 rfl rfl ?_
                              refine x_bipush (pc2 := 284) C dL_typists_282 rfl bc_m5 ?_
                              refine x_icmp_eq (tgt := 289) (pc2 := 287) C dL_typists_284 (by decide) rfl ?_ ?_
                              · exact x_wk [some (rv G a1), some (.int (b1.1 + v21)), some (.int (b1.2.1 + v23)), some (.int b1.2.2), none, none, some (.int v19), none, some (.int b40), none, none] ⟨Or.inr rfl, Or.inr rfl, Or.inr rfl, Or.inr rfl, Or.inl rfl, Or.inl rfl, Or.inr rfl, Or.inl rfl, Or.inr rfl, Or.inl rfl, Or.inl rfl, trivial⟩ (hj53 () _)
                              · refine x_iconst (pc2 := 288) C dL_typists_287 rfl ic_0 ?_
                                exact x_zret C rfl rfl rfl dL_typists_288
                            · intro j56 hj56
                              refine x_icmp_ge (tgt := 280) (pc2 := 265) C dL_typists_262 (by decide) rfl ?_ ?_
                              · exact x_wk [some (rv G a1), some (.int (b1.1 + v21)), some (.int (b1.2.1 + v23)), some (.int b1.2.2), none, none, some (.int v19), none, some (.int b40), some (.int v47), none] ⟨Or.inr rfl, Or.inr rfl, Or.inr rfl, Or.inr rfl, Or.inl rfl, Or.inl rfl, Or.inr rfl, Or.inl rfl, Or.inr rfl, Or.inr rfl, Or.inl rfl, trivial⟩ (hj56 () _)
                              · refine x_iload (pc2 := 267) C dL_typists_265 rfl rfl ?_
                                refine x_bipush (pc2 := 269) C dL_typists_267 rfl bc_24 ?_
                                refine x_icmp_ge (tgt := 280) (pc2 := 272) C dL_typists_269 (by decide) rfl ?_ ?_
                                · exact x_wk [some (rv G a1), some (.int (b1.1 + v21)), some (.int (b1.2.1 + v23)), some (.int b1.2.2), none, none, some (.int v19), none, some (.int b40), some (.int v47), none] ⟨Or.inr rfl, Or.inr rfl, Or.inr rfl, Or.inr rfl, Or.inl rfl, Or.inl rfl, Or.inr rfl, Or.inl rfl, Or.inr rfl, Or.inr rfl, Or.inl rfl, trivial⟩ (hj56 () _)
                                · refine x_iload (pc2 := 274) C dL_typists_272 rfl rfl ?_
                                  refine x_if_ne (tgt := 289) (pc2 := 277) C dL_typists_274 (by decide) rfl ?_ ?_
                                  · exact x_wk [some (rv G a1), some (.int (b1.1 + v21)), some (.int (b1.2.1 + v23)), some (.int b1.2.2), none, none, some (.int v19), none, some (.int b40), none, none] ⟨Or.inr rfl, Or.inr rfl, Or.inr rfl, Or.inr rfl, Or.inl rfl, Or.inl rfl, Or.inr rfl, Or.inl rfl, Or.inr rfl, Or.inl rfl, Or.inl rfl, trivial⟩ (hj53 () _)
                                  · exact x_wk [none, none, none, none, none, none, none, none, none, none, none] ⟨Or.inl rfl, Or.inl rfl, Or.inl rfl, Or.inl rfl, Or.inl rfl, Or.inl rfl, Or.inl rfl, Or.inl rfl, Or.inl rfl, Or.inl rfl, Or.inl rfl, trivial⟩ (hk46 () _)
                        · intro j50 hj50
                          refine x_jn 251 (fun (b58 : Unit) => [some (rv G a1), some (.int (b1.1 + v21)), some (.int (b1.2.1 + v23)), some (.int b1.2.2), none, none, some (.int v19), none, some (.int b40), some (.int v47), none]) (fun (b58 : Unit) => []) ?_ ?_
                          · intro b58 M60
                            refine x_iconst (pc2 := 252) C dL_typists_251 rfl ic_1 ?_
                            refine x_goto (tgt := 256) C dL_typists_252 (by decide) ?_
                            exact x_wk [some (rv G a1), some (.int (b1.1 + v21)), some (.int (b1.2.1 + v23)), some (.int b1.2.2), none, none, some (.int v19), none, some (.int b40), some (.int v47), none] ⟨Or.inr rfl, Or.inr rfl, Or.inr rfl, Or.inr rfl, Or.inl rfl, Or.inl rfl, Or.inr rfl, Or.inl rfl, Or.inr rfl, Or.inr rfl, Or.inl rfl, trivial⟩ (hj50 1 _)
                          · intro j59 hj59
                            refine x_jn 237 (fun (b61 : Unit) => [some (rv G a1), some (.int (b1.1 + v21)), some (.int (b1.2.1 + v23)), some (.int b1.2.2), none, none, some (.int v19), none, some (.int b40), some (.int v47), none]) (fun (b61 : Unit) => []) ?_ ?_
                            · intro b61 M63
                              refine x_iload (pc2 := 239) C dL_typists_237 rfl rfl ?_
                              refine x_bipush (pc2 := 241) C dL_typists_239 rfl bc_65 ?_
                              refine x_jn 255 (fun (b64 : Unit) => [some (rv G a1), some (.int (b1.1 + v21)), some (.int (b1.2.1 + v23)), some (.int b1.2.2), none, none, some (.int v19), none, some (.int b40), some (.int v47), none]) (fun (b64 : Unit) => []) ?_ ?_
                              · intro b64 M66
                                refine x_iconst (pc2 := 256) C dL_typists_255 rfl ic_0 ?_
                                exact x_wk [some (rv G a1), some (.int (b1.1 + v21)), some (.int (b1.2.1 + v23)), some (.int b1.2.2), none, none, some (.int v19), none, some (.int b40), some (.int v47), none] ⟨Or.inr rfl, Or.inr rfl, Or.inr rfl, Or.inr rfl, Or.inl rfl, Or.inl rfl, Or.inr rfl, Or.inl rfl, Or.inr rfl, Or.inr rfl, Or.inl rfl, trivial⟩ (hj50 0 _)
                              · intro j65 hj65
                                refine x_icmp_lt (tgt := 255) (pc2 := 244) C dL_typists_241 (by decide) rfl ?_ ?_
                                · exact x_wk [some (rv G a1), some (.int (b1.1 + v21)), some (.int (b1.2.1 + v23)), some (.int b1.2.2), none, none, some (.int v19), none, some (.int b40), some (.int v47), none] ⟨Or.inr rfl, Or.inr rfl, Or.inr rfl, Or.inr rfl, Or.inl rfl, Or.inl rfl, Or.inr rfl, Or.inl rfl, Or.inr rfl, Or.inr rfl, Or.inl rfl, trivial⟩ (hj65 () _)
                                · refine x_iload (pc2 := 246) C dL_typists_244 rfl rfl ?_
                                  refine x_bipush (pc2 := 248) C dL_typists_246 rfl bc_90 ?_
                                  refine x_icmp_gt (tgt := 255) (pc2 := 251) C dL_typists_248 (by decide) rfl ?_ ?_
                                  · exact x_wk [some (rv G a1), some (.int (b1.1 + v21)), some (.int (b1.2.1 + v23)), some (.int b1.2.2), none, none, some (.int v19), none, some (.int b40), some (.int v47), none] ⟨Or.inr rfl, Or.inr rfl, Or.inr rfl, Or.inr rfl, Or.inl rfl, Or.inl rfl, Or.inr rfl, Or.inl rfl, Or.inr rfl, Or.inr rfl, Or.inl rfl, trivial⟩ (hj65 () _)
                                  · exact x_wk [some (rv G a1), some (.int (b1.1 + v21)), some (.int (b1.2.1 + v23)), some (.int b1.2.2), none, none, some (.int v19), none, some (.int b40), some (.int v47), none] ⟨Or.inr rfl, Or.inr rfl, Or.inr rfl, Or.inr rfl, Or.inl rfl, Or.inl rfl, Or.inr rfl, Or.inl rfl, Or.inr rfl, Or.inr rfl, Or.inl rfl, trivial⟩ (hj59 () _)
                            · intro j62 hj62
                              refine x_icmp_lt (tgt := 237) (pc2 := 230) C dL_typists_227 (by decide) rfl ?_ ?_
                              · exact x_wk [some (rv G a1), some (.int (b1.1 + v21)), some (.int (b1.2.1 + v23)), some (.int b1.2.2), none, none, some (.int v19), none, some (.int b40), some (.int v47), none] ⟨Or.inr rfl, Or.inr rfl, Or.inr rfl, Or.inr rfl, Or.inl rfl, Or.inl rfl, Or.inr rfl, Or.inl rfl, Or.inr rfl, Or.inr rfl, Or.inl rfl, trivial⟩ (hj62 () _)
                              · refine x_iload (pc2 := 232) C dL_typists_230 rfl rfl ?_
                                refine x_bipush (pc2 := 234) C dL_typists_232 rfl bc_122 ?_
                                refine x_icmp_le (tgt := 251) (pc2 := 237) C dL_typists_234 (by decide) rfl ?_ ?_
                                · exact x_wk [some (rv G a1), some (.int (b1.1 + v21)), some (.int (b1.2.1 + v23)), some (.int b1.2.2), none, none, some (.int v19), none, some (.int b40), some (.int v47), none] ⟨Or.inr rfl, Or.inr rfl, Or.inr rfl, Or.inr rfl, Or.inl rfl, Or.inl rfl, Or.inr rfl, Or.inl rfl, Or.inr rfl, Or.inr rfl, Or.inl rfl, trivial⟩ (hj59 () _)
                                · exact x_wk [some (rv G a1), some (.int (b1.1 + v21)), some (.int (b1.2.1 + v23)), some (.int b1.2.2), none, none, some (.int v19), none, some (.int b40), some (.int v47), none] ⟨Or.inr rfl, Or.inr rfl, Or.inr rfl, Or.inr rfl, Or.inl rfl, Or.inl rfl, Or.inr rfl, Or.inl rfl, Or.inr rfl, Or.inr rfl, Or.inl rfl, trivial⟩ (hj62 () _)
                  · refine x_iconst (pc2 := 203) C dL_typists_202 rfl ic_0 ?_
                    exact x_zret C rfl rfl rfl dL_typists_203
        · intro j28 hj28
          refine x_jn 145 (fun (b67 : Unit) => [some (rv G a1), some (.int (b1.1 + v21)), some (.int (b1.2.1 + v23)), some (.int b1.2.2), none, some (.int b16), some (.int v19), none, none, none, none]) (fun (b67 : Unit) => []) ?_ ?_
          · intro b67 M69
            refine x_iconst (pc2 := 146) C dL_typists_145 rfl ic_0 ?_
            exact x_wk [some (rv G a1), some (.int (b1.1 + v21)), some (.int (b1.2.1 + v23)), some (.int b1.2.2), none, some (.int b16), some (.int v19), none, none, none, none] ⟨Or.inr rfl, Or.inr rfl, Or.inr rfl, Or.inr rfl, Or.inl rfl, Or.inr rfl, Or.inr rfl, Or.inl rfl, Or.inl rfl, Or.inl rfl, Or.inl rfl, trivial⟩ (hj28 0 _)
          · intro j68 hj68
            refine x_if_lt (tgt := 145) (pc2 := 91) C dL_typists_88 (by decide) rfl ?_ ?_
            · exact x_wk [some (rv G a1), some (.int (b1.1 + v21)), some (.int (b1.2.1 + v23)), some (.int b1.2.2), none, some (.int b16), some (.int v19), none, none, none, none] ⟨Or.inr rfl, Or.inr rfl, Or.inr rfl, Or.inr rfl, Or.inl rfl, Or.inr rfl, Or.inr rfl, Or.inl rfl, Or.inl rfl, Or.inl rfl, Or.inl rfl, trivial⟩ (hj68 () _)
            · refine x_aload_n (pc2 := 92) C dL_typists_91 rfl rfl ?_
              refine x_iload_n (pc2 := 93) C dL_typists_92 rfl rfl ?_
              refine x_iconst (pc2 := 94) C dL_typists_93 rfl ic_1 ?_
              refine x_callVf (pc2 := 97) C [.int b1.2.2, .int 1] [] cl_L_52 (fun q hq => ctX8_style hk1 q hq) hk1 rfl rfl rfl ⟨rfl, rfl, Nat.le_of_ble_eq_true rfl, Nat.le_of_ble_eq_true rfl⟩ (Nat.le_of_ble_eq_true rfl) ⟨Nat.zero_le _, Nat.zero_le _⟩ dL_typists_94 rfl (fun v70 M71 => ?_)
              refine x_ldcf (pc2 := 99) C wt3_45 dL_typists_97 rfl ?_
              refine x_fcmpl (pc2 := 100) C dL_typists_99 rfl ?_
              refine x_if_lt (tgt := 145) (pc2 := 103) C dL_typists_100 (by decide) rfl ?_ ?_
              · exact x_wk [some (rv G a1), some (.int (b1.1 + v21)), some (.int (b1.2.1 + v23)), some (.int b1.2.2), none, some (.int b16), some (.int v19), none, none, none, none] ⟨Or.inr rfl, Or.inr rfl, Or.inr rfl, Or.inr rfl, Or.inl rfl, Or.inr rfl, Or.inr rfl, Or.inl rfl, Or.inl rfl, Or.inl rfl, Or.inl rfl, trivial⟩ (hj68 () _)
              · refine x_aload_n (pc2 := 104) C dL_typists_103 rfl rfl ?_
                refine x_iload_n (pc2 := 105) C dL_typists_104 rfl rfl ?_
                refine x_iconst (pc2 := 106) C dL_typists_105 rfl ic_0 ?_
                refine x_callVi (pc2 := 109) C [.int b1.2.2, .int 0] [] cl_L_56 (fun q hq => ctX8_hundredths hk1 q hq) hk1 rfl rfl rfl ⟨rfl, rfl, Nat.le_of_ble_eq_true rfl, Nat.le_of_ble_eq_true rfl⟩ (Nat.le_of_ble_eq_true rfl) ⟨Nat.zero_le _, Nat.zero_le _⟩ dL_typists_106 rfl (fun v72 M73 => ?_)
                refine x_aload_n (pc2 := 110) C dL_typists_109 rfl rfl ?_
                refine x_iload_n (pc2 := 111) C dL_typists_110 rfl rfl ?_
                refine x_iconst (pc2 := 112) C dL_typists_111 rfl ic_0 ?_
                refine x_callVf (pc2 := 115) C [.int b1.2.2, .int 0] [.int v72] cl_L_52 (fun q hq => ctX8_style hk1 q hq) hk1 rfl rfl rfl ⟨rfl, rfl, Nat.le_of_ble_eq_true rfl, Nat.le_of_ble_eq_true rfl⟩ (Nat.le_of_ble_eq_true rfl) ⟨Nat.zero_le _, Nat.zero_le _⟩ dL_typists_112 rfl (fun v74 M75 => ?_)
                refine x_ldcf (pc2 := 117) C wt3_66 dL_typists_115 rfl ?_
                refine x_fmul (pc2 := 118) C dL_typists_117 rfl ?_
                refine x_topf (fun v76 => ?_)
                refine x_f2i (pc2 := 119) C dL_typists_118 rfl ?_
                refine x_icmp_ne (tgt := 145) (pc2 := 122) C dL_typists_119 (by decide) rfl ?_ ?_
                · exact x_wk [some (rv G a1), some (.int (b1.1 + v21)), some (.int (b1.2.1 + v23)), some (.int b1.2.2), none, some (.int b16), some (.int v19), none, none, none, none] ⟨Or.inr rfl, Or.inr rfl, Or.inr rfl, Or.inr rfl, Or.inl rfl, Or.inr rfl, Or.inr rfl, Or.inl rfl, Or.inl rfl, Or.inl rfl, Or.inl rfl, trivial⟩ (hj68 () _)
                · refine x_aload_n (pc2 := 123) C dL_typists_122 rfl rfl ?_
                  refine x_iload_n (pc2 := 124) C dL_typists_123 rfl rfl ?_
                  refine x_iconst (pc2 := 125) C dL_typists_124 rfl ic_1 ?_
                  refine x_callVi (pc2 := 128) C [.int b1.2.2, .int 1] [] cl_L_56 (fun q hq => ctX8_hundredths hk1 q hq) hk1 rfl rfl rfl ⟨rfl, rfl, Nat.le_of_ble_eq_true rfl, Nat.le_of_ble_eq_true rfl⟩ (Nat.le_of_ble_eq_true rfl) ⟨Nat.zero_le _, Nat.zero_le _⟩ dL_typists_125 rfl (fun v77 M78 => ?_)
                  refine x_aload_n (pc2 := 129) C dL_typists_128 rfl rfl ?_
                  refine x_iload_n (pc2 := 130) C dL_typists_129 rfl rfl ?_
                  refine x_iconst (pc2 := 131) C dL_typists_130 rfl ic_1 ?_
                  refine x_callVf (pc2 := 134) C [.int b1.2.2, .int 1] [.int v77] cl_L_52 (fun q hq => ctX8_style hk1 q hq) hk1 rfl rfl rfl ⟨rfl, rfl, Nat.le_of_ble_eq_true rfl, Nat.le_of_ble_eq_true rfl⟩ (Nat.le_of_ble_eq_true rfl) ⟨Nat.zero_le _, Nat.zero_le _⟩ dL_typists_131 rfl (fun v79 M80 => ?_)
                  refine x_ldcf (pc2 := 136) C wt3_66 dL_typists_134 rfl ?_
                  refine x_fmul (pc2 := 137) C dL_typists_136 rfl ?_
                  refine x_topf (fun v81 => ?_)
                  refine x_f2i (pc2 := 138) C dL_typists_137 rfl ?_
                  refine x_icmp_ne (tgt := 145) (pc2 := 141) C dL_typists_138 (by decide) rfl ?_ ?_
                  · exact x_wk [some (rv G a1), some (.int (b1.1 + v21)), some (.int (b1.2.1 + v23)), some (.int b1.2.2), none, some (.int b16), some (.int v19), none, none, none, none] ⟨Or.inr rfl, Or.inr rfl, Or.inr rfl, Or.inr rfl, Or.inl rfl, Or.inr rfl, Or.inr rfl, Or.inl rfl, Or.inl rfl, Or.inl rfl, Or.inl rfl, trivial⟩ (hj68 () _)
                  · refine x_iconst (pc2 := 142) C dL_typists_141 rfl ic_1 ?_
                    refine x_goto (tgt := 146) C dL_typists_142 (by decide) ?_
                    exact x_wk [some (rv G a1), some (.int (b1.1 + v21)), some (.int (b1.2.1 + v23)), some (.int b1.2.2), none, some (.int b16), some (.int v19), none, none, none, none] ⟨Or.inr rfl, Or.inr rfl, Or.inr rfl, Or.inr rfl, Or.inl rfl, Or.inr rfl, Or.inr rfl, Or.inl rfl, Or.inl rfl, Or.inl rfl, Or.inl rfl, trivial⟩ (hj28 1 _)
      · intro j17 hj17
        refine x_jn 49 (fun (b82 : Unit) => [some (rv G a1), some (.int b1.1), some (.int b1.2.1), some (.int b1.2.2), none, none, none, none, none, none, none]) (fun (b82 : Unit) => []) ?_ ?_
        · intro b82 M84
          refine x_iconst (pc2 := 50) C dL_typists_49 rfl ic_0 ?_
          exact x_wk [some (rv G a1), some (.int b1.1), some (.int b1.2.1), some (.int b1.2.2), none, none, none, none, none, none, none] ⟨Or.inr rfl, Or.inr rfl, Or.inr rfl, Or.inr rfl, Or.inl rfl, Or.inl rfl, Or.inl rfl, Or.inl rfl, Or.inl rfl, Or.inl rfl, Or.inl rfl, trivial⟩ (hj17 0 _)
        · intro j83 hj83
          refine x_if_lt (tgt := 49) (pc2 := 24) C dL_typists_21 (by decide) rfl ?_ ?_
          · exact x_wk [some (rv G a1), some (.int b1.1), some (.int b1.2.1), some (.int b1.2.2), none, none, none, none, none, none, none] ⟨Or.inr rfl, Or.inr rfl, Or.inr rfl, Or.inr rfl, Or.inl rfl, Or.inl rfl, Or.inl rfl, Or.inl rfl, Or.inl rfl, Or.inl rfl, Or.inl rfl, trivial⟩ (hj83 () _)
          · refine x_aload_n (pc2 := 25) C dL_typists_24 rfl rfl ?_
            refine x_iload (pc2 := 27) C dL_typists_25 rfl rfl ?_
            refine x_iconst (pc2 := 28) C dL_typists_27 rfl ic_1 ?_
            refine x_callVi (pc2 := 31) C [.int v14, .int 1] [] cl_L_21 (fun q hq => ctX8_key hk1 q hq) hk1 rfl rfl rfl ⟨rfl, rfl, Nat.le_of_ble_eq_true rfl, Nat.le_of_ble_eq_true rfl⟩ (Nat.le_of_ble_eq_true rfl) ⟨Nat.zero_le _, Nat.zero_le _⟩ dL_typists_28 rfl (fun v85 M86 => ?_)
            refine x_iconst (pc2 := 32) C dL_typists_31 rfl ic_1 ?_
            refine x_icmp_ne (tgt := 49) (pc2 := 35) C dL_typists_32 (by decide) rfl ?_ ?_
            · exact x_wk [some (rv G a1), some (.int b1.1), some (.int b1.2.1), some (.int b1.2.2), none, none, none, none, none, none, none] ⟨Or.inr rfl, Or.inr rfl, Or.inr rfl, Or.inr rfl, Or.inl rfl, Or.inl rfl, Or.inl rfl, Or.inl rfl, Or.inl rfl, Or.inl rfl, Or.inl rfl, trivial⟩ (hj83 () _)
            · refine x_aload_n (pc2 := 36) C dL_typists_35 rfl rfl ?_
              refine x_iload (pc2 := 38) C dL_typists_36 rfl rfl ?_
              refine x_iconst (pc2 := 39) C dL_typists_38 rfl ic_3 ?_
              refine x_callVi (pc2 := 42) C [.int v14, .int 3] [] cl_L_21 (fun q hq => ctX8_key hk1 q hq) hk1 rfl rfl rfl ⟨rfl, rfl, Nat.le_of_ble_eq_true rfl, Nat.le_of_ble_eq_true rfl⟩ (Nat.le_of_ble_eq_true rfl) ⟨Nat.zero_le _, Nat.zero_le _⟩ dL_typists_39 rfl (fun v87 M88 => ?_)
              refine x_if_ne (tgt := 49) (pc2 := 45) C dL_typists_42 (by decide) rfl ?_ ?_
              · exact x_wk [some (rv G a1), some (.int b1.1), some (.int b1.2.1), some (.int b1.2.2), none, none, none, none, none, none, none] ⟨Or.inr rfl, Or.inr rfl, Or.inr rfl, Or.inr rfl, Or.inl rfl, Or.inl rfl, Or.inl rfl, Or.inl rfl, Or.inl rfl, Or.inl rfl, Or.inl rfl, trivial⟩ (hj83 () _)
              · refine x_iconst (pc2 := 46) C dL_typists_45 rfl ic_1 ?_
                refine x_goto (tgt := 50) C dL_typists_46 (by decide) ?_
                exact x_wk [some (rv G a1), some (.int b1.1), some (.int b1.2.1), some (.int b1.2.2), none, none, none, none, none, none, none] ⟨Or.inr rfl, Or.inr rfl, Or.inr rfl, Or.inr rfl, Or.inl rfl, Or.inl rfl, Or.inl rfl, Or.inl rfl, Or.inl rfl, Or.inl rfl, Or.inl rfl, trivial⟩ (hj17 1 _)
