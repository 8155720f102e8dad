set_option maxRecDepth 100000 in
set_option maxHeartbeats 4000000 in
theorem ctX8_count {l : Launch} {G : bkG} {M : Mem} {this : Nat} {a1 : Int32} (hk0 : kd this = 7) : ∀ r, fX8_count this a1 M = some r → Met l yX8_count (Cond.code yX8_count cX8_count 3 (some .int) :: TT) ({ frames := 3, cells := 0, slots := 0, locals := 65 } : Room) (va_Pc [rv G this, .int a1] (Wd G M)) (QQ G ((fun v => some (.int v)) r.1) r.2) 0 0 (An G) := by
  refine mkMet (vl := (fun v => some (.int v))) RX8 rfl (by decide +kernel) rfl (Nat.le_of_ble_eq_true rfl) [some (rv G this), some (.int a1), none] rfl ?_
  intro p e s m args below meth c C _
  refine x_aload_n (pc2 := 1) C dX8_count_0 rfl rfl ?_
  refine x_get (pc2 := 4) C fl_X8_12 hk0 (by decide) rfl dX8_count_1 rfl ?_
  refine x_get (pc2 := 7) C fl_X8_40 (kf_7_0 hk0) (by decide) rfl dX8_count_4 rfl ?_
  refine x_astore_n (pc2 := 8) C dX8_count_7 rfl [some (rv G this), some (.int a1), some (rv G ((this + 1) + 1))] rfl rfl ?_
  refine x_iload_n (pc2 := 9) C dX8_count_8 rfl rfl ?_
  refine x_ite (fun hs1 => ?_) (fun hs1 => ?_)
  · refine x_tin (tgt := 88) C hs1 dX8_count_9 (by decide) (by decide) rfl (by decide) ?_
    refine x_aload_n (pc2 := 89) C dX8_count_88 rfl rfl ?_
    refine x_get (pc2 := 92) C fl_X8_12 hk0 (by decide) rfl dX8_count_89 rfl ?_
    refine x_get (pc2 := 95) C fl_X8_197 (kf_7_0 hk0) (by decide) rfl dX8_count_92 rfl ?_
    exact x_iret C rfl rfl dX8_count_95
  · refine x_ite (fun hs2 => ?_) (fun hs2 => ?_)
    · refine x_tin (tgt := 96) C hs2 dX8_count_9 (by decide) (by decide) rfl (by decide) ?_
      refine x_aload_n (pc2 := 97) C dX8_count_96 rfl rfl ?_
      refine x_get (pc2 := 100) C fl_X8_53 (kf_4_0 (kf_7_0 hk0)) (by decide) rfl dX8_count_97 rfl ?_
      exact x_iret C rfl rfl dX8_count_100
    · refine x_ite (fun hs3 => ?_) (fun hs3 => ?_)
      · refine x_tin (tgt := 101) C hs3 dX8_count_9 (by decide) (by decide) rfl (by decide) ?_
        refine x_aload_n (pc2 := 102) C dX8_count_101 rfl rfl ?_
        refine x_get (pc2 := 105) C fl_X8_57 (kf_4_0 (kf_7_0 hk0)) (by decide) rfl dX8_count_102 rfl ?_
        exact x_iret C rfl rfl dX8_count_105
      · refine x_ite (fun hs4 => ?_) (fun hs4 => ?_)
        · refine x_tin (tgt := 106) C hs4 dX8_count_9 (by decide) (by decide) rfl (by decide) ?_
          refine x_aload_n (pc2 := 107) C dX8_count_106 rfl rfl ?_
          refine x_callVi (pc2 := 110) C [] [] cl_X8_44 (fun q hq => ctX0_downKeys (kf_4_0 (kf_7_0 hk0)) q hq) (kf_4_0 (kf_7_0 hk0)) rfl rfl rfl ⟨rfl, rfl, Nat.le_of_ble_eq_true rfl, Nat.le_of_ble_eq_true rfl⟩ (Nat.le_of_ble_eq_true rfl) ⟨Nat.zero_le _, Nat.zero_le _⟩ dX8_count_107 rfl (fun v5 M6 => ?_)
          exact x_iret C rfl rfl dX8_count_110
        · refine x_ite (fun hs7 => ?_) (fun hs7 => ?_)
          · refine x_tin (tgt := 111) C hs7 dX8_count_9 (by decide) (by decide) rfl (by decide) ?_
            refine x_aload_n (pc2 := 112) C dX8_count_111 rfl rfl ?_
            refine x_callVi (pc2 := 115) C [] [] cl_X8_50 (fun q hq => ctX0_seenKeys (kf_4_0 (kf_7_0 hk0)) q hq) (kf_4_0 (kf_7_0 hk0)) rfl rfl rfl ⟨rfl, rfl, Nat.le_of_ble_eq_true rfl, Nat.le_of_ble_eq_true rfl⟩ (Nat.le_of_ble_eq_true rfl) ⟨Nat.zero_le _, Nat.zero_le _⟩ dX8_count_112 rfl (fun v8 M9 => ?_)
            exact x_iret C rfl rfl dX8_count_115
          · refine x_ite (fun hs10 => ?_) (fun hs10 => ?_)
            · refine x_tin (tgt := 116) C hs10 dX8_count_9 (by decide) (by decide) rfl (by decide) ?_
              refine x_aload_n (pc2 := 117) C dX8_count_116 rfl rfl ?_
              refine x_callVi (pc2 := 120) C [] [] cl_X8_274 (fun q hq => ctX0_doubtfulKeys (kf_4_0 (kf_7_0 hk0)) q hq) (kf_4_0 (kf_7_0 hk0)) rfl rfl rfl ⟨rfl, rfl, Nat.le_of_ble_eq_true rfl, Nat.le_of_ble_eq_true rfl⟩ (Nat.le_of_ble_eq_true rfl) ⟨Nat.zero_le _, Nat.zero_le _⟩ dX8_count_117 rfl (fun v11 M12 => ?_)
              exact x_iret C rfl rfl dX8_count_120
            · refine x_ite (fun hs13 => ?_) (fun hs13 => ?_)
              · refine x_tin (tgt := 121) C hs13 dX8_count_9 (by decide) (by decide) rfl (by decide) ?_
                refine x_aload_n (pc2 := 122) C dX8_count_121 rfl rfl ?_
                refine x_get (pc2 := 125) C fl_X8_12 hk0 (by decide) rfl dX8_count_122 rfl ?_
                refine x_get (pc2 := 128) C fl_X8_251 (kf_7_0 hk0) (by decide) rfl dX8_count_125 rfl ?_
                refine x_get (pc2 := 131) C fl_X8_254 (kf_4_3 (kf_7_0 hk0)) (by decide) rfl dX8_count_128 rfl ?_
                exact x_iret C rfl rfl dX8_count_131
              · refine x_ite (fun hs14 => ?_) (fun hs14 => ?_)
                · refine x_tin (tgt := 132) C hs14 dX8_count_9 (by decide) (by decide) rfl (by decide) ?_
                  refine x_aload_n (pc2 := 133) C dX8_count_132 rfl rfl ?_
                  refine x_get (pc2 := 136) C fl_X8_12 hk0 (by decide) rfl dX8_count_133 rfl ?_
                  refine x_get (pc2 := 139) C fl_X8_104 (kf_7_0 hk0) (by decide) rfl dX8_count_136 rfl ?_
                  refine x_get (pc2 := 142) C fl_X8_227 (kf_4_1 (kf_7_0 hk0)) (by decide) rfl dX8_count_139 rfl ?_
                  refine x_aload_n (pc2 := 143) C dX8_count_142 rfl rfl ?_
                  refine x_get (pc2 := 146) C fl_X8_12 hk0 (by decide) rfl dX8_count_143 rfl ?_
                  refine x_get (pc2 := 149) C fl_X8_108 (kf_7_0 hk0) (by decide) rfl dX8_count_146 rfl ?_
                  refine x_get (pc2 := 152) C fl_X8_227 (kf_4_2 (kf_7_0 hk0)) (by decide) rfl dX8_count_149 rfl ?_
                  refine x_iadd (pc2 := 153) C dX8_count_152 rfl ?_
                  exact x_iret C rfl rfl dX8_count_153
                · refine x_ite (fun hs15 => ?_) (fun hs15 => ?_)
                  · refine x_tin (tgt := 154) C hs15 dX8_count_9 (by decide) (by decide) rfl (by decide) ?_
                    refine x_aload_n (pc2 := 155) C dX8_count_154 rfl rfl ?_
                    refine x_get (pc2 := 158) C fl_X8_12 hk0 (by decide) rfl dX8_count_155 rfl ?_
                    refine x_get (pc2 := 161) C fl_X8_277 (kf_7_0 hk0) (by decide) rfl dX8_count_158 rfl ?_
                    exact x_iret C rfl rfl dX8_count_161
                  · refine x_ite (fun hs16 => ?_) (fun hs16 => ?_)
                    · refine x_tin (tgt := 162) C hs16 dX8_count_9 (by decide) (by decide) rfl (by decide) ?_
                      refine x_aload_n (pc2 := 163) C dX8_count_162 rfl rfl ?_
                      refine x_get (pc2 := 166) C fl_X8_12 hk0 (by decide) rfl dX8_count_163 rfl ?_
                      refine x_get (pc2 := 169) C fl_X8_280 (kf_7_0 hk0) (by decide) rfl dX8_count_166 rfl ?_
                      exact x_iret C rfl rfl dX8_count_169
                    · refine x_ite (fun hs17 => ?_) (fun hs17 => ?_)
                      · refine x_tin (tgt := 170) C hs17 dX8_count_9 (by decide) (by decide) rfl (by decide) ?_
                        refine x_aload_n (pc2 := 171) C dX8_count_170 rfl rfl ?_
                        refine x_get (pc2 := 174) C fl_X8_12 hk0 (by decide) rfl dX8_count_171 rfl ?_
                        refine x_get (pc2 := 177) C fl_X8_150 (kf_7_0 hk0) (by decide) rfl dX8_count_174 rfl ?_
                        refine x_get (pc2 := 180) C fl_X8_254 (kf_4_4 (kf_7_0 hk0)) (by decide) rfl dX8_count_177 rfl ?_
                        exact x_iret C rfl rfl dX8_count_180
                      · refine x_ite (fun hs18 => ?_) (fun hs18 => ?_)
                        · refine x_tin (tgt := 181) C hs18 dX8_count_9 (by decide) (by decide) rfl (by decide) ?_
                          refine x_aload_n (pc2 := 182) C dX8_count_181 rfl rfl ?_
                          refine x_get (pc2 := 185) C fl_X8_12 hk0 (by decide) rfl dX8_count_182 rfl ?_
                          refine x_get (pc2 := 188) C fl_X8_104 (kf_7_0 hk0) (by decide) rfl dX8_count_185 rfl ?_
                          refine x_get (pc2 := 191) C fl_X8_230 (kf_4_1 (kf_7_0 hk0)) (by decide) rfl dX8_count_188 rfl ?_
                          refine x_aload_n (pc2 := 192) C dX8_count_191 rfl rfl ?_
                          refine x_get (pc2 := 195) C fl_X8_12 hk0 (by decide) rfl dX8_count_192 rfl ?_
                          refine x_get (pc2 := 198) C fl_X8_108 (kf_7_0 hk0) (by decide) rfl dX8_count_195 rfl ?_
                          refine x_get (pc2 := 201) C fl_X8_230 (kf_4_2 (kf_7_0 hk0)) (by decide) rfl dX8_count_198 rfl ?_
                          refine x_iadd (pc2 := 202) C dX8_count_201 rfl ?_
                          exact x_iret C rfl rfl dX8_count_202
                        · refine x_ite (fun hs19 => ?_) (fun hs19 => ?_)
                          · refine x_tin (tgt := 203) C hs19 dX8_count_9 (by decide) (by decide) rfl (by decide) ?_
                            refine x_aload_n (pc2 := 204) C dX8_count_203 rfl rfl ?_
                            refine x_get (pc2 := 207) C fl_X8_12 hk0 (by decide) rfl dX8_count_204 rfl ?_
                            refine x_get (pc2 := 210) C fl_X8_283 (kf_7_0 hk0) (by decide) rfl dX8_count_207 rfl ?_
                            exact x_iret C rfl rfl dX8_count_210
                          · refine x_ite (fun hs20 => ?_) (fun hs20 => ?_)
                            · refine x_tin (tgt := 211) C hs20 dX8_count_9 (by decide) (by decide) rfl (by decide) ?_
                              refine x_aload_n (pc2 := 212) C dX8_count_211 rfl rfl ?_
                              refine x_get (pc2 := 215) C fl_X8_12 hk0 (by decide) rfl dX8_count_212 rfl ?_
                              refine x_callVi (pc2 := 218) C [] [] cl_X8_286 (fun q hq => ctX5_drivenRow (kf_7_0 hk0) q hq) (kf_7_0 hk0) rfl rfl rfl ⟨rfl, rfl, Nat.le_of_ble_eq_true rfl, Nat.le_of_ble_eq_true rfl⟩ (Nat.le_of_ble_eq_true rfl) ⟨Nat.zero_le _, Nat.zero_le _⟩ dX8_count_215 rfl (fun v21 M22 => ?_)
                              exact x_iret C rfl rfl dX8_count_218
                            · refine x_ite (fun hs23 => ?_) (fun hs23 => ?_)
                              · refine x_tin (tgt := 219) C hs23 dX8_count_9 (by decide) (by decide) rfl (by decide) ?_
                                refine x_aload_n (pc2 := 220) C dX8_count_219 rfl rfl ?_
                                refine x_get (pc2 := 223) C fl_X8_25 hk0 (by decide) rfl dX8_count_220 rfl ?_
                                refine x_get (pc2 := 226) C fl_X8_191 (kf_7_3 hk0) (by decide) rfl dX8_count_223 rfl ?_
                                exact x_iret C rfl rfl dX8_count_226
                              · refine x_ite (fun hs24 => ?_) (fun hs24 => ?_)
                                · refine x_tin (tgt := 227) C hs24 dX8_count_9 (by decide) (by decide) rfl (by decide) ?_
                                  refine x_aload_n (pc2 := 228) C dX8_count_227 rfl rfl ?_
                                  refine x_get (pc2 := 231) C fl_X8_32 hk0 (by decide) rfl dX8_count_228 rfl ?_
                                  refine x_get (pc2 := 234) C fl_X8_169 (kf_7_4 hk0) (by decide) rfl dX8_count_231 rfl ?_
                                  exact x_iret C rfl rfl dX8_count_234
                                · refine x_tout (tgt := 235) C dX8_count_9 (by have t0 := lv_neT (a := 0) hs1 rfl; have t1 := lv_neT (a := 1) hs2 rfl; have t2 := lv_neT (a := 2) hs3 rfl; have t3 := lv_neT (a := 3) hs4 rfl; have t4 := lv_neT (a := 4) hs7 rfl; have t5 := lv_neT (a := 5) hs10 rfl; have t6 := lv_neT (a := 6) hs13 rfl; have t7 := lv_neT (a := 7) hs14 rfl; have t8 := lv_neT (a := 8) hs15 rfl; have t9 := lv_neT (a := 9) hs16 rfl; have t10 := lv_neT (a := 10) hs17 rfl; have t11 := lv_neT (a := 11) hs18 rfl; have t12 := lv_neT (a := 12) hs19 rfl; have t13 := lv_neT (a := 13) hs20 rfl; have t14 := lv_neT (a := 14) hs23 rfl; have t15 := lv_neT (a := 15) hs24 rfl; omega) (by decide) ?_
                                  refine x_bipush (pc2 := 237) C dX8_count_235 rfl bc_m2 ?_
                                  exact x_iret C rfl rfl dX8_count_237
set_option maxRecDepth 100000 in
set_option maxHeartbeats 4000000 in
theorem ctX8_orNone {l : Launch} {G : bkG} {M : Mem} {a1 : Int32}  : ∀ r, fX8_orNone a1 M = some r → Met l yX8_orNone (Cond.code yX8_orNone cX8_orNone 1 (some .int) :: TT) ({ frames := 0, cells := 0, slots := 0, locals := 0 } : Room) (va_Pc [.int a1] (Wd G M)) (QQ G ((fun v => some (.int v)) r.1) r.2) 0 0 (An G) := by
  refine mkMet (vl := (fun v => some (.int v))) RX8 rfl (by decide +kernel) rfl (Nat.le_of_ble_eq_true rfl) [some (.int a1)] rfl ?_
  intro p e s m args below meth c C _
  refine x_iload_n (pc2 := 1) C dX8_orNone_0 rfl rfl ?_
  refine x_iconst (pc2 := 2) C dX8_orNone_1 rfl ic_m1 ?_
  refine x_icmp_ne (tgt := 10) (pc2 := 5) C dX8_orNone_2 (by decide) rfl ?_ ?_
  · refine x_iload_n (pc2 := 11) C dX8_orNone_10 rfl rfl ?_
    exact x_iret C rfl rfl dX8_orNone_11
  · refine x_bipush (pc2 := 7) C dX8_orNone_5 rfl bc_m5 ?_
    refine x_goto (tgt := 11) C dX8_orNone_7 (by decide) ?_
    exact x_iret C rfl rfl dX8_orNone_11
set_option maxRecDepth 100000 in
set_option maxHeartbeats 4000000 in
theorem ctX8_typist {l : Launch} {G : bkG} {M : Mem} {this : Nat} {a1 : Int32} {a2 : Int32} (hk0 : kd this = 7) : ∀ r, fX8_typist this a1 a2 M = some r → Met l yX8_typist (Cond.code yX8_typist cX8_typist 4 (some .int) :: TT) ({ frames := 3, cells := 0, slots := 0, locals := 64 } : Room) (va_Pc [rv G this, .int a1, .int a2] (Wd G M)) (QQ G ((fun v => some (.int v)) r.1) r.2) 0 0 (An G) := by
  refine mkMet (vl := (fun v => some (.int v))) RX8 rfl (by decide +kernel) rfl (Nat.le_of_ble_eq_true rfl) [some (rv G this), some (.int a1), some (.int a2), none] rfl ?_
  intro p e s m args below meth c C _
  refine x_iload_n (pc2 := 1) C dX8_typist_0 rfl rfl ?_
  refine x_callSi (pc2 := 4) C [.int a1] [] cl_X8_86 (fun q hq => ctX5_isTypist  q hq) rfl rfl ⟨rfl, rfl, Nat.le_of_ble_eq_true rfl, Nat.le_of_ble_eq_true rfl⟩ (Nat.le_of_ble_eq_true rfl) ⟨Nat.zero_le _, Nat.zero_le _⟩ dX8_typist_1 rfl (fun v1 M2 => ?_)
  refine x_if_ne (tgt := 9) (pc2 := 7) C dX8_typist_4 (by decide) rfl ?_ ?_
  · refine x_aload_n (pc2 := 10) C dX8_typist_9 rfl rfl ?_
    refine x_get (pc2 := 13) C fl_X8_12 hk0 (by decide) rfl dX8_typist_10 rfl ?_
    refine x_iload_n (pc2 := 14) C dX8_typist_13 rfl rfl ?_
    refine x_callVr (pc2 := 17) C [.int a1] [] cl_X8_95 (fun q hq => ctX5_typistOf (kf_7_0 hk0) q hq) (kf_7_0 hk0) rfl rfl rfl ⟨rfl, rfl, Nat.le_of_ble_eq_true rfl, Nat.le_of_ble_eq_true rfl⟩ (Nat.le_of_ble_eq_true rfl) ⟨Nat.zero_le _, Nat.zero_le _⟩ dX8_typist_14 rfl (fun v3 M4 => ?_)
    refine x_asr (fun hq5 => ?_)
    refine x_astore_n (pc2 := 18) C dX8_typist_17 rfl [some (rv G this), some (.int a1), some (.int a2), some (rv G v3)] rfl rfl ?_
    refine x_iload_n (pc2 := 19) C dX8_typist_18 rfl rfl ?_
    refine x_ite (fun hs6 => ?_) (fun hs6 => ?_)
    · refine x_tin (tgt := 64) C hs6 dX8_typist_19 (by decide) (by decide) rfl (by decide) ?_
      refine x_aload_n (pc2 := 65) C dX8_typist_64 rfl rfl ?_
      refine x_get (pc2 := 68) C fl_X8_12 hk0 (by decide) rfl dX8_typist_65 rfl ?_
      refine x_get (pc2 := 71) C fl_X8_40 (kf_7_0 hk0) (by decide) rfl dX8_typist_68 rfl ?_
      refine x_iload_n (pc2 := 72) C dX8_typist_71 rfl rfl ?_
      refine x_callVi (pc2 := 75) C [.int a1] [] cl_X8_134 (fun q hq => ctX0_heldBy (kf_4_0 (kf_7_0 hk0)) q hq) (kf_4_0 (kf_7_0 hk0)) rfl rfl rfl ⟨rfl, rfl, Nat.le_of_ble_eq_true rfl, Nat.le_of_ble_eq_true rfl⟩ (Nat.le_of_ble_eq_true rfl) ⟨Nat.zero_le _, Nat.zero_le _⟩ dX8_typist_72 rfl (fun v7 M8 => ?_)
      exact x_iret C rfl rfl dX8_typist_75
    · refine x_ite (fun hs9 => ?_) (fun hs9 => ?_)
      · refine x_tin (tgt := 76) C hs9 dX8_typist_19 (by decide) (by decide) rfl (by decide) ?_
        refine x_aload_n (pc2 := 77) C dX8_typist_76 rfl rfl ?_
        refine x_get (pc2 := 80) C fl_X8_12 hk0 (by decide) rfl dX8_typist_77 rfl ?_
        refine x_get (pc2 := 83) C fl_X8_40 (kf_7_0 hk0) (by decide) rfl dX8_typist_80 rfl ?_
        refine x_iload_n (pc2 := 84) C dX8_typist_83 rfl rfl ?_
        refine x_callVi (pc2 := 87) C [.int a1] [] cl_X8_89 (fun q hq => ctX0_shiftOf (kf_4_0 (kf_7_0 hk0)) q hq) (kf_4_0 (kf_7_0 hk0)) rfl rfl rfl ⟨rfl, rfl, Nat.le_of_ble_eq_true rfl, Nat.le_of_ble_eq_true rfl⟩ (Nat.le_of_ble_eq_true rfl) ⟨Nat.zero_le _, Nat.zero_le _⟩ dX8_typist_84 rfl (fun v10 M11 => ?_)
        refine x_callSi (pc2 := 90) C [.int v10] [] cl_X8_203 (fun q hq => ctX8_orNone  q hq) rfl rfl ⟨rfl, rfl, Nat.le_of_ble_eq_true rfl, Nat.le_of_ble_eq_true rfl⟩ (Nat.le_of_ble_eq_true rfl) ⟨Nat.zero_le _, Nat.zero_le _⟩ dX8_typist_87 rfl (fun v12 M13 => ?_)
        exact x_iret C rfl rfl dX8_typist_90
      · refine x_ite (fun hs14 => ?_) (fun hs14 => ?_)
        · refine x_tin (tgt := 91) C hs14 dX8_typist_19 (by decide) (by decide) rfl (by decide) ?_
          refine x_aload_n (pc2 := 92) C dX8_typist_91 rfl rfl ?_
          refine x_get (pc2 := 95) C fl_X8_12 hk0 (by decide) rfl dX8_typist_92 rfl ?_
          refine x_get (pc2 := 98) C fl_X8_40 (kf_7_0 hk0) (by decide) rfl dX8_typist_95 rfl ?_
          refine x_iload_n (pc2 := 99) C dX8_typist_98 rfl rfl ?_
          refine x_callVi (pc2 := 102) C [.int a1] [] cl_X8_224 (fun q hq => ctX0_isShiftOn (kf_4_0 (kf_7_0 hk0)) q hq) (kf_4_0 (kf_7_0 hk0)) rfl rfl rfl ⟨rfl, rfl, Nat.le_of_ble_eq_true rfl, Nat.le_of_ble_eq_true rfl⟩ (Nat.le_of_ble_eq_true rfl) ⟨Nat.zero_le _, Nat.zero_le _⟩ dX8_typist_99 rfl (fun v15 M16 => ?_)
          refine x_if_eq (tgt := 109) (pc2 := 105) C dX8_typist_102 (by decide) rfl ?_ ?_
          · refine x_iconst (pc2 := 110) C dX8_typist_109 rfl ic_0 ?_
            exact x_iret C rfl rfl dX8_typist_110
          · refine x_iconst (pc2 := 106) C dX8_typist_105 rfl ic_1 ?_
            refine x_goto (tgt := 110) C dX8_typist_106 (by decide) ?_
            exact x_iret C rfl rfl dX8_typist_110
        · refine x_ite (fun hs17 => ?_) (fun hs17 => ?_)
          · refine x_tin (tgt := 111) C hs17 dX8_typist_19 (by decide) (by decide) rfl (by decide) ?_
            refine x_aload_n (pc2 := 112) C dX8_typist_111 rfl rfl ?_
            refine x_get (pc2 := 115) C fl_X8_99 (of_decide_eq_true hq5) (by decide) rfl dX8_typist_112 rfl ?_
            refine x_if_eq (tgt := 122) (pc2 := 118) C dX8_typist_115 (by decide) rfl ?_ ?_
            · refine x_iconst (pc2 := 123) C dX8_typist_122 rfl ic_0 ?_
              exact x_iret C rfl rfl dX8_typist_123
            · refine x_iconst (pc2 := 119) C dX8_typist_118 rfl ic_1 ?_
              refine x_goto (tgt := 123) C dX8_typist_119 (by decide) ?_
              exact x_iret C rfl rfl dX8_typist_123
          · refine x_ite (fun hs18 => ?_) (fun hs18 => ?_)
            · refine x_tin (tgt := 124) C hs18 dX8_typist_19 (by decide) (by decide) rfl (by decide) ?_
              refine x_aload_n (pc2 := 125) C dX8_typist_124 rfl rfl ?_
              refine x_get (pc2 := 128) C fl_X8_227 (of_decide_eq_true hq5) (by decide) rfl dX8_typist_125 rfl ?_
              exact x_iret C rfl rfl dX8_typist_128
            · refine x_ite (fun hs19 => ?_) (fun hs19 => ?_)
              · refine x_tin (tgt := 129) C hs19 dX8_typist_19 (by decide) (by decide) rfl (by decide) ?_
                refine x_aload_n (pc2 := 130) C dX8_typist_129 rfl rfl ?_
                refine x_get (pc2 := 133) C fl_X8_230 (of_decide_eq_true hq5) (by decide) rfl dX8_typist_130 rfl ?_
                exact x_iret C rfl rfl dX8_typist_133
              · refine x_ite (fun hs20 => ?_) (fun hs20 => ?_)
                · refine x_tin (tgt := 134) C hs20 dX8_typist_19 (by decide) (by decide) rfl (by decide) ?_
                  refine x_aload_n (pc2 := 135) C dX8_typist_134 rfl rfl ?_
                  refine x_get (pc2 := 138) C fl_X8_233 (of_decide_eq_true hq5) (by decide) rfl dX8_typist_135 rfl ?_
                  exact x_iret C rfl rfl dX8_typist_138
                · refine x_ite (fun hs21 => ?_) (fun hs21 => ?_)
                  · refine x_tin (tgt := 139) C hs21 dX8_typist_19 (by decide) (by decide) rfl (by decide) ?_
                    refine x_aload_n (pc2 := 140) C dX8_typist_139 rfl rfl ?_
                    refine x_get (pc2 := 143) C fl_X8_236 (of_decide_eq_true hq5) (by decide) rfl dX8_typist_140 rfl ?_
                    refine x_callSi (pc2 := 146) C [.int (M4.1 v3 2)] [] cl_X8_203 (fun q hq => ctX8_orNone  q hq) rfl rfl ⟨rfl, rfl, Nat.le_of_ble_eq_true rfl, Nat.le_of_ble_eq_true rfl⟩ (Nat.le_of_ble_eq_true rfl) ⟨Nat.zero_le _, Nat.zero_le _⟩ dX8_typist_143 rfl (fun v22 M23 => ?_)
                    exact x_iret C rfl rfl dX8_typist_146
                  · refine x_tout (tgt := 147) C dX8_typist_19 (by have t0 := lv_neT (a := 0) hs6 rfl; have t1 := lv_neT (a := 1) hs9 rfl; have t2 := lv_neT (a := 2) hs14 rfl; have t3 := lv_neT (a := 3) hs17 rfl; have t4 := lv_neT (a := 4) hs18 rfl; have t5 := lv_neT (a := 5) hs19 rfl; have t6 := lv_neT (a := 6) hs20 rfl; have t7 := lv_neT (a := 7) hs21 rfl; omega) (by decide) ?_
                    refine x_bipush (pc2 := 149) C dX8_typist_147 rfl bc_m2 ?_
                    exact x_iret C rfl rfl dX8_typist_149
  · refine x_iconst (pc2 := 8) C dX8_typist_7 rfl ic_m1 ?_
    exact x_iret C rfl rfl dX8_typist_8
set_option maxRecDepth 100000 in
set_option maxHeartbeats 4000000 in
theorem ctX8_key {l : Launch} {G : bkG} {M : Mem} {this : Nat} {a1 : Int32} {a2 : Int32} (hk0 : kd this = 7) : ∀ r, fX8_key this a1 a2 M = some r → Met l yX8_key (Cond.code yX8_key cX8_key 4 (some .int) :: TT) ({ frames := 3, cells := 0, slots := 0, locals := 71 } : Room) (va_Pc [rv G this, .int a1, .int a2] (Wd G M)) (QQ G ((fun v => some (.int v)) r.1) r.2) 0 0 (An G) := by
  refine mkMet (vl := (fun v => some (.int v))) RX8 rfl (by decide +kernel) rfl (Nat.le_of_ble_eq_true rfl) [some (rv G this), some (.int a1), some (.int a2), none] rfl ?_
  intro p e s m args below meth c C _
  refine x_aload_n (pc2 := 1) C dX8_key_0 rfl rfl ?_
  refine x_get (pc2 := 4) C fl_X8_12 hk0 (by decide) rfl dX8_key_1 rfl ?_
  refine x_get (pc2 := 7) C fl_X8_40 (kf_7_0 hk0) (by decide) rfl dX8_key_4 rfl ?_
  refine x_astore_n (pc2 := 8) C dX8_key_7 rfl [some (rv G this), some (.int a1), some (.int a2), some (rv G ((this + 1) + 1))] rfl rfl ?_
  refine x_aload_n (pc2 := 9) C dX8_key_8 rfl rfl ?_
  refine x_iload_n (pc2 := 10) C dX8_key_9 rfl rfl ?_
  refine x_callVi (pc2 := 13) C [.int a1] [] cl_X8_71 (fun q hq => ctX0_has (kf_4_0 (kf_7_0 hk0)) q hq) (kf_4_0 (kf_7_0 hk0)) rfl rfl rfl ⟨rfl, rfl, Nat.le_of_ble_eq_true rfl, Nat.le_of_ble_eq_true rfl⟩ (Nat.le_of_ble_eq_true rfl) ⟨Nat.zero_le _, Nat.zero_le _⟩ dX8_key_10 rfl (fun v1 M2 => ?_)
  refine x_if_ne (tgt := 18) (pc2 := 16) C dX8_key_13 (by decide) rfl ?_ ?_
  · refine x_iload_n (pc2 := 19) C dX8_key_18 rfl rfl ?_
    refine x_ite (fun hs3 => ?_) (fun hs3 => ?_)
    · refine x_tin (tgt := 60) C hs3 dX8_key_19 (by decide) (by decide) rfl (by decide) ?_
      refine x_aload_n (pc2 := 61) C dX8_key_60 rfl rfl ?_
      refine x_iload_n (pc2 := 62) C dX8_key_61 rfl rfl ?_
      refine x_callVi (pc2 := 65) C [.int a1] [] cl_X8_200 (fun q hq => ctX0_holderOf (kf_4_0 (kf_7_0 hk0)) q hq) (kf_4_0 (kf_7_0 hk0)) rfl rfl rfl ⟨rfl, rfl, Nat.le_of_ble_eq_true rfl, Nat.le_of_ble_eq_true rfl⟩ (Nat.le_of_ble_eq_true rfl) ⟨Nat.zero_le _, Nat.zero_le _⟩ dX8_key_62 rfl (fun v4 M5 => ?_)
      refine x_callSi (pc2 := 68) C [.int v4] [] cl_X8_203 (fun q hq => ctX8_orNone  q hq) rfl rfl ⟨rfl, rfl, Nat.le_of_ble_eq_true rfl, Nat.le_of_ble_eq_true rfl⟩ (Nat.le_of_ble_eq_true rfl) ⟨Nat.zero_le _, Nat.zero_le _⟩ dX8_key_65 rfl (fun v6 M7 => ?_)
      exact x_iret C rfl rfl dX8_key_68
    · refine x_ite (fun hs8 => ?_) (fun hs8 => ?_)
      · refine x_tin (tgt := 69) C hs8 dX8_key_19 (by decide) (by decide) rfl (by decide) ?_
        refine x_aload_n (pc2 := 70) C dX8_key_69 rfl rfl ?_
        refine x_iload_n (pc2 := 71) C dX8_key_70 rfl rfl ?_
        refine x_callVi (pc2 := 74) C [.int a1] [] cl_X8_206 (fun q hq => ctX0_isSeen (kf_4_0 (kf_7_0 hk0)) q hq) (kf_4_0 (kf_7_0 hk0)) rfl rfl rfl ⟨rfl, rfl, Nat.le_of_ble_eq_true rfl, Nat.le_of_ble_eq_true rfl⟩ (Nat.le_of_ble_eq_true rfl) ⟨Nat.zero_le _, Nat.zero_le _⟩ dX8_key_71 rfl (fun v9 M10 => ?_)
        refine x_if_eq (tgt := 81) (pc2 := 77) C dX8_key_74 (by decide) rfl ?_ ?_
        · refine x_iconst (pc2 := 82) C dX8_key_81 rfl ic_0 ?_
          exact x_iret C rfl rfl dX8_key_82
        · refine x_iconst (pc2 := 78) C dX8_key_77 rfl ic_1 ?_
          refine x_goto (tgt := 82) C dX8_key_78 (by decide) ?_
          exact x_iret C rfl rfl dX8_key_82
      · refine x_ite (fun hs11 => ?_) (fun hs11 => ?_)
        · refine x_tin (tgt := 83) C hs11 dX8_key_19 (by decide) (by decide) rfl (by decide) ?_
          refine x_aload_n (pc2 := 84) C dX8_key_83 rfl rfl ?_
          refine x_iload_n (pc2 := 85) C dX8_key_84 rfl rfl ?_
          refine x_callVi (pc2 := 88) C [.int a1] [] cl_X8_206 (fun q hq => ctX0_isSeen (kf_4_0 (kf_7_0 hk0)) q hq) (kf_4_0 (kf_7_0 hk0)) rfl rfl rfl ⟨rfl, rfl, Nat.le_of_ble_eq_true rfl, Nat.le_of_ble_eq_true rfl⟩ (Nat.le_of_ble_eq_true rfl) ⟨Nat.zero_le _, Nat.zero_le _⟩ dX8_key_85 rfl (fun v12 M13 => ?_)
          refine x_if_eq (tgt := 99) (pc2 := 91) C dX8_key_88 (by decide) rfl ?_ ?_
          · refine x_bipush (pc2 := 101) C dX8_key_99 rfl bc_m5 ?_
            exact x_iret C rfl rfl dX8_key_101
          · refine x_aload_n (pc2 := 92) C dX8_key_91 rfl rfl ?_
            refine x_iload_n (pc2 := 93) C dX8_key_92 rfl rfl ?_
            refine x_callVi (pc2 := 96) C [.int a1] [] cl_X8_209 (fun q hq => ctX0_sinceOf (kf_4_0 (kf_7_0 hk0)) q hq) (kf_4_0 (kf_7_0 hk0)) rfl rfl rfl ⟨rfl, rfl, Nat.le_of_ble_eq_true rfl, Nat.le_of_ble_eq_true rfl⟩ (Nat.le_of_ble_eq_true rfl) ⟨Nat.zero_le _, Nat.zero_le _⟩ dX8_key_93 rfl (fun v14 M15 => ?_)
            refine x_goto (tgt := 101) C dX8_key_96 (by decide) ?_
            exact x_iret C rfl rfl dX8_key_101
        · refine x_ite (fun hs16 => ?_) (fun hs16 => ?_)
          · refine x_tin (tgt := 102) C hs16 dX8_key_19 (by decide) (by decide) rfl (by decide) ?_
            refine x_aload_n (pc2 := 103) C dX8_key_102 rfl rfl ?_
            refine x_iload_n (pc2 := 104) C dX8_key_103 rfl rfl ?_
            refine x_callVi (pc2 := 107) C [.int a1] [] cl_X8_212 (fun q hq => ctX0_isDoubtful (kf_4_0 (kf_7_0 hk0)) q hq) (kf_4_0 (kf_7_0 hk0)) rfl rfl rfl ⟨rfl, rfl, Nat.le_of_ble_eq_true rfl, Nat.le_of_ble_eq_true rfl⟩ (Nat.le_of_ble_eq_true rfl) ⟨Nat.zero_le _, Nat.zero_le _⟩ dX8_key_104 rfl (fun v17 M18 => ?_)
            refine x_if_eq (tgt := 114) (pc2 := 110) C dX8_key_107 (by decide) rfl ?_ ?_
            · refine x_iconst (pc2 := 115) C dX8_key_114 rfl ic_0 ?_
              exact x_iret C rfl rfl dX8_key_115
            · refine x_iconst (pc2 := 111) C dX8_key_110 rfl ic_1 ?_
              refine x_goto (tgt := 115) C dX8_key_111 (by decide) ?_
              exact x_iret C rfl rfl dX8_key_115
          · refine x_ite (fun hs19 => ?_) (fun hs19 => ?_)
            · refine x_tin (tgt := 116) C hs19 dX8_key_19 (by decide) (by decide) rfl (by decide) ?_
              refine x_aload_n (pc2 := 117) C dX8_key_116 rfl rfl ?_
              refine x_iload_n (pc2 := 118) C dX8_key_117 rfl rfl ?_
              refine x_callVi (pc2 := 121) C [.int a1] [] cl_X8_75 (fun q hq => ctX0_signOf (kf_4_0 (kf_7_0 hk0)) q hq) (kf_4_0 (kf_7_0 hk0)) rfl rfl rfl ⟨rfl, rfl, Nat.le_of_ble_eq_true rfl, Nat.le_of_ble_eq_true rfl⟩ (Nat.le_of_ble_eq_true rfl) ⟨Nat.zero_le _, Nat.zero_le _⟩ dX8_key_118 rfl (fun v20 M21 => ?_)
              exact x_iret C rfl rfl dX8_key_121
            · refine x_ite (fun hs22 => ?_) (fun hs22 => ?_)
              · refine x_tin (tgt := 122) C hs22 dX8_key_19 (by decide) (by decide) rfl (by decide) ?_
                refine x_aload_n (pc2 := 123) C dX8_key_122 rfl rfl ?_
                refine x_iload_n (pc2 := 124) C dX8_key_123 rfl rfl ?_
                refine x_callVi (pc2 := 127) C [.int a1] [] cl_X8_79 (fun q hq => ctX0_shiftOwner (kf_4_0 (kf_7_0 hk0)) q hq) (kf_4_0 (kf_7_0 hk0)) rfl rfl rfl ⟨rfl, rfl, Nat.le_of_ble_eq_true rfl, Nat.le_of_ble_eq_true rfl⟩ (Nat.le_of_ble_eq_true rfl) ⟨Nat.zero_le _, Nat.zero_le _⟩ dX8_key_124 rfl (fun v23 M24 => ?_)
                refine x_callSi (pc2 := 130) C [.int v23] [] cl_X8_203 (fun q hq => ctX8_orNone  q hq) rfl rfl ⟨rfl, rfl, Nat.le_of_ble_eq_true rfl, Nat.le_of_ble_eq_true rfl⟩ (Nat.le_of_ble_eq_true rfl) ⟨Nat.zero_le _, Nat.zero_le _⟩ dX8_key_127 rfl (fun v25 M26 => ?_)
                exact x_iret C rfl rfl dX8_key_130
              · refine x_ite (fun hs27 => ?_) (fun hs27 => ?_)
                · refine x_tin (tgt := 131) C hs27 dX8_key_19 (by decide) (by decide) rfl (by decide) ?_
                  refine x_aload_n (pc2 := 132) C dX8_key_131 rfl rfl ?_
                  refine x_aload_n (pc2 := 133) C dX8_key_132 rfl rfl ?_
                  refine x_iload_n (pc2 := 134) C dX8_key_133 rfl rfl ?_
                  refine x_callVi (pc2 := 137) C [.int a1] [rv G ((this + 1) + 1)] cl_X8_215 (fun q hq => ctX0_rowOf (kf_4_0 (kf_7_0 hk0)) q hq) (kf_4_0 (kf_7_0 hk0)) rfl rfl rfl ⟨rfl, rfl, Nat.le_of_ble_eq_true rfl, Nat.le_of_ble_eq_true rfl⟩ (Nat.le_of_ble_eq_true rfl) ⟨Nat.zero_le _, Nat.zero_le _⟩ dX8_key_134 rfl (fun v28 M29 => ?_)
                  refine x_iconst (pc2 := 138) C dX8_key_137 rfl ic_m1 ?_
                  refine x_callVi (pc2 := 141) C [.int v28, .int (-1)] [] cl_X8_218 (fun q hq => ctX0_sensed (kf_4_0 (kf_7_0 hk0)) q hq) (kf_4_0 (kf_7_0 hk0)) rfl rfl rfl ⟨rfl, rfl, Nat.le_of_ble_eq_true rfl, Nat.le_of_ble_eq_true rfl⟩ (Nat.le_of_ble_eq_true rfl) ⟨Nat.zero_le _, Nat.zero_le _⟩ dX8_key_138 rfl (fun v30 M31 => ?_)
                  refine x_aload_n (pc2 := 142) C dX8_key_141 rfl rfl ?_
                  refine x_iload_n (pc2 := 143) C dX8_key_142 rfl rfl ?_
                  refine x_callVi (pc2 := 146) C [.int a1] [.int v30] cl_X8_221 (fun q hq => ctX0_bitOf (kf_4_0 (kf_7_0 hk0)) q hq) (kf_4_0 (kf_7_0 hk0)) rfl rfl rfl ⟨rfl, rfl, Nat.le_of_ble_eq_true rfl, Nat.le_of_ble_eq_true rfl⟩ (Nat.le_of_ble_eq_true rfl) ⟨Nat.zero_le _, Nat.zero_le _⟩ dX8_key_143 rfl (fun v32 M33 => ?_)
                  refine x_iand (pc2 := 147) C dX8_key_146 rfl ?_
                  refine x_if_eq (tgt := 154) (pc2 := 150) C dX8_key_147 (by decide) rfl ?_ ?_
                  · refine x_iconst (pc2 := 155) C dX8_key_154 rfl ic_0 ?_
                    exact x_iret C rfl rfl dX8_key_155
                  · refine x_iconst (pc2 := 151) C dX8_key_150 rfl ic_1 ?_
                    refine x_goto (tgt := 155) C dX8_key_151 (by decide) ?_
                    exact x_iret C rfl rfl dX8_key_155
                · refine x_tout (tgt := 156) C dX8_key_19 (by have t0 := lv_neT (a := 0) hs3 rfl; have t1 := lv_neT (a := 1) hs8 rfl; have t2 := lv_neT (a := 2) hs11 rfl; have t3 := lv_neT (a := 3) hs16 rfl; have t4 := lv_neT (a := 4) hs19 rfl; have t5 := lv_neT (a := 5) hs22 rfl; have t6 := lv_neT (a := 6) hs27 rfl; omega) (by decide) ?_
                  refine x_bipush (pc2 := 158) C dX8_key_156 rfl bc_m2 ?_
                  exact x_iret C rfl rfl dX8_key_158
  · refine x_iconst (pc2 := 17) C dX8_key_16 rfl ic_m1 ?_
    exact x_iret C rfl rfl dX8_key_17
set_option maxRecDepth 100000 in
set_option maxHeartbeats 4000000 in
theorem ctX8_press {l : Launch} {G : bkG} {M : Mem} {this : Nat} {a1 : Int32} {a2 : Int32} (hk0 : kd this = 7) : ∀ r, fX8_press this a1 a2 M = some r → Met l yX8_press (Cond.code yX8_press cX8_press 4 (some .int) :: TT) ({ frames := 5, cells := 0, slots := 0, locals := 112 } : Room) (va_Pc [rv G this, .int a1, .int a2] (Wd G M)) (QQ G ((fun v => some (.int v)) r.1) r.2) 0 0 (An G) := by
  refine mkMet (vl := (fun v => some (.int v))) RX8 rfl (by decide +kernel) rfl (Nat.le_of_ble_eq_true rfl) [some (rv G this), some (.int a1), some (.int a2), none] rfl ?_
  intro p e s m args below meth c C _
  refine x_aload_n (pc2 := 1) C dX8_press_0 rfl rfl ?_
  refine x_get (pc2 := 4) C fl_X8_12 hk0 (by decide) rfl dX8_press_1 rfl ?_
  refine x_iload_n (pc2 := 5) C dX8_press_4 rfl rfl ?_
  refine x_iload_n (pc2 := 6) C dX8_press_5 rfl rfl ?_
  refine x_callVi (pc2 := 9) C [.int a1, .int a2] [] cl_X8_127 (fun q hq => ctX5_pressError (kf_7_0 hk0) q hq) (kf_7_0 hk0) rfl rfl rfl ⟨rfl, rfl, Nat.le_of_ble_eq_true rfl, Nat.le_of_ble_eq_true rfl⟩ (Nat.le_of_ble_eq_true rfl) ⟨Nat.zero_le _, Nat.zero_le _⟩ dX8_press_6 rfl (fun v1 M2 => ?_)
  refine x_istore_n (pc2 := 10) C dX8_press_9 rfl [some (rv G this), some (.int a1), some (.int a2), some (.int v1)] rfl rfl ?_
  refine x_iload_n (pc2 := 11) C dX8_press_10 rfl rfl ?_
  refine x_if_eq (tgt := 16) (pc2 := 14) C dX8_press_11 (by decide) rfl ?_ ?_
  · refine x_aload_n (pc2 := 17) C dX8_press_16 rfl rfl ?_
    refine x_get (pc2 := 20) C fl_X8_25 hk0 (by decide) rfl dX8_press_17 rfl ?_
    refine x_aload_n (pc2 := 21) C dX8_press_20 rfl rfl ?_
    refine x_get (pc2 := 24) C fl_X8_12 hk0 (by decide) rfl dX8_press_21 rfl ?_
    refine x_callVv (pc2 := 27) C [rv G (this + 1)] [] cl_X8_60 (fun q hq => ctX2_remember (kf_7_3 hk0) (kf_7_0 hk0) q hq) (kf_7_3 hk0) rfl rfl rfl ⟨rfl, rfl, Nat.le_of_ble_eq_true rfl, Nat.le_of_ble_eq_true rfl⟩ (Nat.le_of_ble_eq_true rfl) ⟨Nat.zero_le _, Nat.zero_le _⟩ dX8_press_24 rfl (fun v3 M4 => ?_)
    refine x_aload_n (pc2 := 28) C dX8_press_27 rfl rfl ?_
    refine x_get (pc2 := 31) C fl_X8_12 hk0 (by decide) rfl dX8_press_28 rfl ?_
    refine x_get (pc2 := 34) C fl_X8_40 (kf_7_0 hk0) (by decide) rfl dX8_press_31 rfl ?_
    refine x_iload_n (pc2 := 35) C dX8_press_34 rfl rfl ?_
    refine x_iload_n (pc2 := 36) C dX8_press_35 rfl rfl ?_
    refine x_callVv (pc2 := 39) C [.int a1, .int a2] [] cl_X8_131 (fun q hq => ctX0_putDown (kf_4_0 (kf_7_0 hk0)) q hq) (kf_4_0 (kf_7_0 hk0)) rfl rfl rfl ⟨rfl, rfl, Nat.le_of_ble_eq_true rfl, Nat.le_of_ble_eq_true rfl⟩ (Nat.le_of_ble_eq_true rfl) ⟨Nat.zero_le _, Nat.zero_le _⟩ dX8_press_36 rfl (fun v5 M6 => ?_)
    refine x_aload_n (pc2 := 40) C dX8_press_39 rfl rfl ?_
    refine x_get (pc2 := 43) C fl_X8_12 hk0 (by decide) rfl dX8_press_40 rfl ?_
    refine x_get (pc2 := 46) C fl_X8_40 (kf_7_0 hk0) (by decide) rfl dX8_press_43 rfl ?_
    refine x_iload_n (pc2 := 47) C dX8_press_46 rfl rfl ?_
    refine x_callVi (pc2 := 50) C [.int a1] [] cl_X8_134 (fun q hq => ctX0_heldBy (kf_4_0 (kf_7_0 hk0)) q hq) (kf_4_0 (kf_7_0 hk0)) rfl rfl rfl ⟨rfl, rfl, Nat.le_of_ble_eq_true rfl, Nat.le_of_ble_eq_true rfl⟩ (Nat.le_of_ble_eq_true rfl) ⟨Nat.zero_le _, Nat.zero_le _⟩ dX8_press_47 rfl (fun v7 M8 => ?_)
    exact x_iret C rfl rfl dX8_press_50
  · refine x_iload_n (pc2 := 15) C dX8_press_14 rfl rfl ?_
    exact x_iret C rfl rfl dX8_press_15
set_option maxRecDepth 100000 in
set_option maxHeartbeats 4000000 in
theorem ctX8_release {l : Launch} {G : bkG} {M : Mem} {this : Nat} {a1 : Int32} {a2 : Int32} (hk0 : kd this = 7) : ∀ r, fX8_release this a1 a2 M = some r → Met l yX8_release (Cond.code yX8_release cX8_release 4 (some .int) :: TT) ({ frames := 5, cells := 0, slots := 0, locals := 112 } : Room) (va_Pc [rv G this, .int a1, .int a2] (Wd G M)) (QQ G ((fun v => some (.int v)) r.1) r.2) 0 0 (An G) := by
  refine mkMet (vl := (fun v => some (.int v))) RX8 rfl (by decide +kernel) rfl (Nat.le_of_ble_eq_true rfl) [some (rv G this), some (.int a1), some (.int a2), none] rfl ?_
  intro p e s m args below meth c C _
  refine x_aload_n (pc2 := 1) C dX8_release_0 rfl rfl ?_
  refine x_get (pc2 := 4) C fl_X8_12 hk0 (by decide) rfl dX8_release_1 rfl ?_
  refine x_iload_n (pc2 := 5) C dX8_release_4 rfl rfl ?_
  refine x_iload_n (pc2 := 6) C dX8_release_5 rfl rfl ?_
  refine x_callVi (pc2 := 9) C [.int a1, .int a2] [] cl_X8_137 (fun q hq => ctX5_releaseError (kf_7_0 hk0) q hq) (kf_7_0 hk0) rfl rfl rfl ⟨rfl, rfl, Nat.le_of_ble_eq_true rfl, Nat.le_of_ble_eq_true rfl⟩ (Nat.le_of_ble_eq_true rfl) ⟨Nat.zero_le _, Nat.zero_le _⟩ dX8_release_6 rfl (fun v1 M2 => ?_)
  refine x_istore_n (pc2 := 10) C dX8_release_9 rfl [some (rv G this), some (.int a1), some (.int a2), some (.int v1)] rfl rfl ?_
  refine x_iload_n (pc2 := 11) C dX8_release_10 rfl rfl ?_
  refine x_if_eq (tgt := 16) (pc2 := 14) C dX8_release_11 (by decide) rfl ?_ ?_
  · refine x_aload_n (pc2 := 17) C dX8_release_16 rfl rfl ?_
    refine x_get (pc2 := 20) C fl_X8_25 hk0 (by decide) rfl dX8_release_17 rfl ?_
    refine x_aload_n (pc2 := 21) C dX8_release_20 rfl rfl ?_
    refine x_get (pc2 := 24) C fl_X8_12 hk0 (by decide) rfl dX8_release_21 rfl ?_
    refine x_callVv (pc2 := 27) C [rv G (this + 1)] [] cl_X8_60 (fun q hq => ctX2_remember (kf_7_3 hk0) (kf_7_0 hk0) q hq) (kf_7_3 hk0) rfl rfl rfl ⟨rfl, rfl, Nat.le_of_ble_eq_true rfl, Nat.le_of_ble_eq_true rfl⟩ (Nat.le_of_ble_eq_true rfl) ⟨Nat.zero_le _, Nat.zero_le _⟩ dX8_release_24 rfl (fun v3 M4 => ?_)
    refine x_aload_n (pc2 := 28) C dX8_release_27 rfl rfl ?_
    refine x_get (pc2 := 31) C fl_X8_12 hk0 (by decide) rfl dX8_release_28 rfl ?_
    refine x_get (pc2 := 34) C fl_X8_40 (kf_7_0 hk0) (by decide) rfl dX8_release_31 rfl ?_
    refine x_iload_n (pc2 := 35) C dX8_release_34 rfl rfl ?_
    refine x_callVv (pc2 := 38) C [.int a2] [] cl_X8_140 (fun q hq => ctX0_liftUp (kf_4_0 (kf_7_0 hk0)) q hq) (kf_4_0 (kf_7_0 hk0)) rfl rfl rfl ⟨rfl, rfl, Nat.le_of_ble_eq_true rfl, Nat.le_of_ble_eq_true rfl⟩ (Nat.le_of_ble_eq_true rfl) ⟨Nat.zero_le _, Nat.zero_le _⟩ dX8_release_35 rfl (fun v5 M6 => ?_)
    refine x_aload_n (pc2 := 39) C dX8_release_38 rfl rfl ?_
    refine x_get (pc2 := 42) C fl_X8_12 hk0 (by decide) rfl dX8_release_39 rfl ?_
    refine x_get (pc2 := 45) C fl_X8_40 (kf_7_0 hk0) (by decide) rfl dX8_release_42 rfl ?_
    refine x_iload_n (pc2 := 46) C dX8_release_45 rfl rfl ?_
    refine x_callVi (pc2 := 49) C [.int a1] [] cl_X8_134 (fun q hq => ctX0_heldBy (kf_4_0 (kf_7_0 hk0)) q hq) (kf_4_0 (kf_7_0 hk0)) rfl rfl rfl ⟨rfl, rfl, Nat.le_of_ble_eq_true rfl, Nat.le_of_ble_eq_true rfl⟩ (Nat.le_of_ble_eq_true rfl) ⟨Nat.zero_le _, Nat.zero_le _⟩ dX8_release_46 rfl (fun v7 M8 => ?_)
    exact x_iret C rfl rfl dX8_release_49
  · refine x_iload_n (pc2 := 15) C dX8_release_14 rfl rfl ?_
    exact x_iret C rfl rfl dX8_release_15
set_option maxRecDepth 100000 in
set_option maxHeartbeats 4000000 in
theorem ctX8_tick {l : Launch} {G : bkG} {M : Mem} {this : Nat} {a1 : Int32} (hk0 : kd this = 7) : ∀ r, fX8_tick this a1 M = some r → Met l yX8_tick (Cond.code yX8_tick cX8_tick 2 (some .int) :: TT) ({ frames := 5, cells := 0, slots := 0, locals := 121 } : Room) (va_Pc [rv G this, .int a1] (Wd G M)) (QQ G ((fun v => some (.int v)) r.1) r.2) 0 0 (An G) := by
  refine mkMet (vl := (fun v => some (.int v))) RX8 rfl (by decide +kernel) rfl (Nat.le_of_ble_eq_true rfl) [some (rv G this), some (.int a1)] rfl ?_
  intro p e s m args below meth c C _
  refine x_iload_n (pc2 := 1) C dX8_tick_0 rfl rfl ?_
  refine x_iconst (pc2 := 2) C dX8_tick_1 rfl ic_1 ?_
  refine x_icmp_lt (tgt := 11) (pc2 := 5) C dX8_tick_2 (by decide) rfl ?_ ?_
  · refine x_bipush (pc2 := 13) C dX8_tick_11 rfl bc_m2 ?_
    exact x_iret C rfl rfl dX8_tick_13
  · refine x_iload_n (pc2 := 6) C dX8_tick_5 rfl rfl ?_
    refine x_bipush (pc2 := 8) C dX8_tick_6 rfl bc_99 ?_
    refine x_icmp_le (tgt := 14) (pc2 := 11) C dX8_tick_8 (by decide) rfl ?_ ?_
    · refine x_aload_n (pc2 := 15) C dX8_tick_14 rfl rfl ?_
      refine x_get (pc2 := 18) C fl_X8_25 hk0 (by decide) rfl dX8_tick_15 rfl ?_
      refine x_aload_n (pc2 := 19) C dX8_tick_18 rfl rfl ?_
      refine x_get (pc2 := 22) C fl_X8_12 hk0 (by decide) rfl dX8_tick_19 rfl ?_
      refine x_callVv (pc2 := 25) C [rv G (this + 1)] [] cl_X8_60 (fun q hq => ctX2_remember (kf_7_3 hk0) (kf_7_0 hk0) q hq) (kf_7_3 hk0) rfl rfl rfl ⟨rfl, rfl, Nat.le_of_ble_eq_true rfl, Nat.le_of_ble_eq_true rfl⟩ (Nat.le_of_ble_eq_true rfl) ⟨Nat.zero_le _, Nat.zero_le _⟩ dX8_tick_22 rfl (fun v1 M2 => ?_)
      refine x_aload_n (pc2 := 26) C dX8_tick_25 rfl rfl ?_
      refine x_get (pc2 := 29) C fl_X8_12 hk0 (by decide) rfl dX8_tick_26 rfl ?_
      refine x_iload_n (pc2 := 30) C dX8_tick_29 rfl rfl ?_
      refine x_callVi (pc2 := 33) C [.int a1] [] cl_X8_144 (fun q hq => ctX5_pass (kf_7_0 hk0) q hq) (kf_7_0 hk0) rfl rfl rfl ⟨rfl, rfl, Nat.le_of_ble_eq_true rfl, Nat.le_of_ble_eq_true rfl⟩ (Nat.le_of_ble_eq_true rfl) ⟨Nat.zero_le _, Nat.zero_le _⟩ dX8_tick_30 rfl (fun v3 M4 => ?_)
      exact x_iret C rfl rfl dX8_tick_33
    · refine x_bipush (pc2 := 13) C dX8_tick_11 rfl bc_m2 ?_
      exact x_iret C rfl rfl dX8_tick_13
set_option maxRecDepth 100000 in
set_option maxHeartbeats 4000000 in
theorem ctX8_setShift {l : Launch} {G : bkG} {M : Mem} {this : Nat} {a1 : Int32} {a2 : Int32} (hk0 : kd this = 7) : ∀ r, fX8_setShift this a1 a2 M = some r → Met l yX8_setShift (Cond.code yX8_setShift cX8_setShift 6 (some .int) :: TT) ({ frames := 5, cells := 0, slots := 0, locals := 112 } : Room) (va_Pc [rv G this, .int a1, .int a2] (Wd G M)) (QQ G ((fun v => some (.int v)) r.1) r.2) 0 0 (An G) := by
  refine mkMet (vl := (fun v => some (.int v))) RX8 rfl (by decide +kernel) rfl (Nat.le_of_ble_eq_true rfl) [some (rv G this), some (.int a1), some (.int a2), none, none, none] rfl ?_
  intro p e s m args below meth c C _
  refine x_aload_n (pc2 := 1) C dX8_setShift_0 rfl rfl ?_
  refine x_get (pc2 := 4) C fl_X8_12 hk0 (by decide) rfl dX8_setShift_1 rfl ?_
  refine x_get (pc2 := 7) C fl_X8_40 (kf_7_0 hk0) (by decide) rfl dX8_setShift_4 rfl ?_
  refine x_astore_n (pc2 := 8) C dX8_setShift_7 rfl [some (rv G this), some (.int a1), some (.int a2), some (rv G ((this + 1) + 1)), none, none] rfl rfl ?_
  refine x_iload_n (pc2 := 9) C dX8_setShift_8 rfl rfl ?_
  refine x_callSi (pc2 := 12) C [.int a1] [] cl_X8_86 (fun q hq => ctX5_isTypist  q hq) rfl rfl ⟨rfl, rfl, Nat.le_of_ble_eq_true rfl, Nat.le_of_ble_eq_true rfl⟩ (Nat.le_of_ble_eq_true rfl) ⟨Nat.zero_le _, Nat.zero_le _⟩ dX8_setShift_9 rfl (fun v1 M2 => ?_)
  refine x_if_eq (tgt := 23) (pc2 := 15) C dX8_setShift_12 (by decide) rfl ?_ ?_
  · refine x_iconst (pc2 := 24) C dX8_setShift_23 rfl ic_m1 ?_
    exact x_iret C rfl rfl dX8_setShift_24
  · refine x_aload_n (pc2 := 16) C dX8_setShift_15 rfl rfl ?_
    refine x_iload_n (pc2 := 17) C dX8_setShift_16 rfl rfl ?_
    refine x_callVi (pc2 := 20) C [.int a2] [] cl_X8_71 (fun q hq => ctX0_has (kf_4_0 (kf_7_0 hk0)) q hq) (kf_4_0 (kf_7_0 hk0)) rfl rfl rfl ⟨rfl, rfl, Nat.le_of_ble_eq_true rfl, Nat.le_of_ble_eq_true rfl⟩ (Nat.le_of_ble_eq_true rfl) ⟨Nat.zero_le _, Nat.zero_le _⟩ dX8_setShift_17 rfl (fun v3 M4 => ?_)
    refine x_if_ne (tgt := 25) (pc2 := 23) C dX8_setShift_20 (by decide) rfl ?_ ?_
    · refine x_aload_n (pc2 := 26) C dX8_setShift_25 rfl rfl ?_
      refine x_iload_n (pc2 := 27) C dX8_setShift_26 rfl rfl ?_
      refine x_callVi (pc2 := 30) C [.int a2] [] cl_X8_79 (fun q hq => ctX0_shiftOwner (kf_4_0 (kf_7_0 hk0)) q hq) (kf_4_0 (kf_7_0 hk0)) rfl rfl rfl ⟨rfl, rfl, Nat.le_of_ble_eq_true rfl, Nat.le_of_ble_eq_true rfl⟩ (Nat.le_of_ble_eq_true rfl) ⟨Nat.zero_le _, Nat.zero_le _⟩ dX8_setShift_27 rfl (fun v5 M6 => ?_)
      refine x_istore (pc2 := 32) C dX8_setShift_30 rfl [some (rv G this), some (.int a1), some (.int a2), some (rv G ((this + 1) + 1)), some (.int v5), none] rfl rfl ?_
      refine x_iload (pc2 := 34) C dX8_setShift_32 rfl rfl ?_
      refine x_iload_n (pc2 := 35) C dX8_setShift_34 rfl rfl ?_
      refine x_icmp_ne (tgt := 41) (pc2 := 38) C dX8_setShift_35 (by decide) rfl ?_ ?_
      · refine x_iload (pc2 := 43) C dX8_setShift_41 rfl rfl ?_
        refine x_iconst (pc2 := 44) C dX8_setShift_43 rfl ic_m1 ?_
        refine x_icmp_eq (tgt := 50) (pc2 := 47) C dX8_setShift_44 (by decide) rfl ?_ ?_
        · refine x_aload_n (pc2 := 51) C dX8_setShift_50 rfl rfl ?_
          refine x_get (pc2 := 54) C fl_X8_25 hk0 (by decide) rfl dX8_setShift_51 rfl ?_
          refine x_aload_n (pc2 := 55) C dX8_setShift_54 rfl rfl ?_
          refine x_get (pc2 := 58) C fl_X8_12 hk0 (by decide) rfl dX8_setShift_55 rfl ?_
          refine x_callVv (pc2 := 61) C [rv G (this + 1)] [] cl_X8_60 (fun q hq => ctX2_remember (kf_7_3 hk0) (kf_7_0 hk0) q hq) (kf_7_3 hk0) rfl rfl rfl ⟨rfl, rfl, Nat.le_of_ble_eq_true rfl, Nat.le_of_ble_eq_true rfl⟩ (Nat.le_of_ble_eq_true rfl) ⟨Nat.zero_le _, Nat.zero_le _⟩ dX8_setShift_58 rfl (fun v7 M8 => ?_)
          refine x_aload_n (pc2 := 62) C dX8_setShift_61 rfl rfl ?_
          refine x_iload_n (pc2 := 63) C dX8_setShift_62 rfl rfl ?_
          refine x_callVi (pc2 := 66) C [.int a1] [] cl_X8_89 (fun q hq => ctX0_shiftOf (kf_4_0 (kf_7_0 hk0)) q hq) (kf_4_0 (kf_7_0 hk0)) rfl rfl rfl ⟨rfl, rfl, Nat.le_of_ble_eq_true rfl, Nat.le_of_ble_eq_true rfl⟩ (Nat.le_of_ble_eq_true rfl) ⟨Nat.zero_le _, Nat.zero_le _⟩ dX8_setShift_63 rfl (fun v9 M10 => ?_)
          refine x_istore (pc2 := 68) C dX8_setShift_66 rfl [some (rv G this), some (.int a1), some (.int a2), some (rv G ((this + 1) + 1)), some (.int v5), some (.int v9)] rfl rfl ?_
          refine x_aload_n (pc2 := 69) C dX8_setShift_68 rfl rfl ?_
          refine x_iload_n (pc2 := 70) C dX8_setShift_69 rfl rfl ?_
          refine x_iload_n (pc2 := 71) C dX8_setShift_70 rfl rfl ?_
          refine x_callVv (pc2 := 74) C [.int a1, .int a2] [] cl_X8_92 (fun q hq => ctX0_giveShift (kf_4_0 (kf_7_0 hk0)) q hq) (kf_4_0 (kf_7_0 hk0)) rfl rfl rfl ⟨rfl, rfl, Nat.le_of_ble_eq_true rfl, Nat.le_of_ble_eq_true rfl⟩ (Nat.le_of_ble_eq_true rfl) ⟨Nat.zero_le _, Nat.zero_le _⟩ dX8_setShift_71 rfl (fun v11 M12 => ?_)
          refine x_iload (pc2 := 76) C dX8_setShift_74 rfl rfl ?_
          refine x_iconst (pc2 := 77) C dX8_setShift_76 rfl ic_m1 ?_
          refine x_icmp_ne (tgt := 84) (pc2 := 80) C dX8_setShift_77 (by decide) rfl ?_ ?_
          · refine x_iload (pc2 := 86) C dX8_setShift_84 rfl rfl ?_
            exact x_iret C rfl rfl dX8_setShift_86
          · refine x_iload_n (pc2 := 81) C dX8_setShift_80 rfl rfl ?_
            refine x_goto (tgt := 86) C dX8_setShift_81 (by decide) ?_
            exact x_iret C rfl rfl dX8_setShift_86
        · refine x_bipush (pc2 := 49) C dX8_setShift_47 rfl bc_m4 ?_
          exact x_iret C rfl rfl dX8_setShift_49
      · refine x_bipush (pc2 := 40) C dX8_setShift_38 rfl bc_m5 ?_
        exact x_iret C rfl rfl dX8_setShift_40
    · refine x_iconst (pc2 := 24) C dX8_setShift_23 rfl ic_m1 ?_
      exact x_iret C rfl rfl dX8_setShift_24
set_option maxRecDepth 100000 in
set_option maxHeartbeats 4000000 in
theorem ctX8_setSign {l : Launch} {G : bkG} {M : Mem} {this : Nat} {a1 : Int32} {a2 : Int32} (hk0 : kd this = 7) : ∀ r, fX8_setSign this a1 a2 M = some r → Met l yX8_setSign (Cond.code yX8_setSign cX8_setSign 5 (some .int) :: TT) ({ frames := 5, cells := 0, slots := 0, locals := 112 } : Room) (va_Pc [rv G this, .int a1, .int a2] (Wd G M)) (QQ G ((fun v => some (.int v)) r.1) r.2) 0 0 (An G) := by
  refine mkMet (vl := (fun v => some (.int v))) RX8 rfl (by decide +kernel) rfl (Nat.le_of_ble_eq_true rfl) [some (rv G this), some (.int a1), some (.int a2), none, none] rfl ?_
  intro p e s m args below meth c C _
  refine x_aload_n (pc2 := 1) C dX8_setSign_0 rfl rfl ?_
  refine x_get (pc2 := 4) C fl_X8_12 hk0 (by decide) rfl dX8_setSign_1 rfl ?_
  refine x_get (pc2 := 7) C fl_X8_40 (kf_7_0 hk0) (by decide) rfl dX8_setSign_4 rfl ?_
  refine x_astore_n (pc2 := 8) C dX8_setSign_7 rfl [some (rv G this), some (.int a1), some (.int a2), some (rv G ((this + 1) + 1)), none] rfl rfl ?_
  refine x_aload_n (pc2 := 9) C dX8_setSign_8 rfl rfl ?_
  refine x_iload_n (pc2 := 10) C dX8_setSign_9 rfl rfl ?_
  refine x_callVi (pc2 := 13) C [.int a1] [] cl_X8_71 (fun q hq => ctX0_has (kf_4_0 (kf_7_0 hk0)) q hq) (kf_4_0 (kf_7_0 hk0)) rfl rfl rfl ⟨rfl, rfl, Nat.le_of_ble_eq_true rfl, Nat.le_of_ble_eq_true rfl⟩ (Nat.le_of_ble_eq_true rfl) ⟨Nat.zero_le _, Nat.zero_le _⟩ dX8_setSign_10 rfl (fun v1 M2 => ?_)
  refine x_if_ne (tgt := 18) (pc2 := 16) C dX8_setSign_13 (by decide) rfl ?_ ?_
  · refine x_iload_n (pc2 := 19) C dX8_setSign_18 rfl rfl ?_
    refine x_bipush (pc2 := 21) C dX8_setSign_19 rfl bc_46 ?_
    refine x_jn 39 (fun (b3 : Unit) => [some (rv G this), some (.int a1), some (.int a2), some (rv G ((this + 1) + 1)), none]) (fun (b3 : Unit) => []) ?_ ?_
    · intro b3 M5
      refine x_aload_n (pc2 := 40) C dX8_setSign_39 rfl rfl ?_
      refine x_iload_n (pc2 := 41) C dX8_setSign_40 rfl rfl ?_
      refine x_callVi (pc2 := 44) C [.int a1] [] cl_X8_75 (fun q hq => ctX0_signOf (kf_4_0 (kf_7_0 hk0)) q hq) (kf_4_0 (kf_7_0 hk0)) rfl rfl rfl ⟨rfl, rfl, Nat.le_of_ble_eq_true rfl, Nat.le_of_ble_eq_true rfl⟩ (Nat.le_of_ble_eq_true rfl) ⟨Nat.zero_le _, Nat.zero_le _⟩ dX8_setSign_41 rfl (fun v6 M7 => ?_)
      refine x_istore (pc2 := 46) C dX8_setSign_44 rfl [some (rv G this), some (.int a1), some (.int a2), some (rv G ((this + 1) + 1)), some (.int v6)] rfl rfl ?_
      refine x_iload (pc2 := 48) C dX8_setSign_46 rfl rfl ?_
      refine x_iload_n (pc2 := 49) C dX8_setSign_48 rfl rfl ?_
      refine x_jn 64 (fun (b8 : Unit) => [some (rv G this), some (.int a1), some (.int a2), some (rv G ((this + 1) + 1)), some (.int v6)]) (fun (b8 : Unit) => []) ?_ ?_
      · intro b8 M10
        refine x_aload_n (pc2 := 65) C dX8_setSign_64 rfl rfl ?_
        refine x_get (pc2 := 68) C fl_X8_25 hk0 (by decide) rfl dX8_setSign_65 rfl ?_
        refine x_aload_n (pc2 := 69) C dX8_setSign_68 rfl rfl ?_
        refine x_get (pc2 := 72) C fl_X8_12 hk0 (by decide) rfl dX8_setSign_69 rfl ?_
        refine x_callVv (pc2 := 75) C [rv G (this + 1)] [] cl_X8_60 (fun q hq => ctX2_remember (kf_7_3 hk0) (kf_7_0 hk0) q hq) (kf_7_3 hk0) rfl rfl rfl ⟨rfl, rfl, Nat.le_of_ble_eq_true rfl, Nat.le_of_ble_eq_true rfl⟩ (Nat.le_of_ble_eq_true rfl) ⟨Nat.zero_le _, Nat.zero_le _⟩ dX8_setSign_72 rfl (fun v11 M12 => ?_)
        refine x_aload_n (pc2 := 76) C dX8_setSign_75 rfl rfl ?_
        refine x_iload_n (pc2 := 77) C dX8_setSign_76 rfl rfl ?_
        refine x_iload_n (pc2 := 78) C dX8_setSign_77 rfl rfl ?_
        refine x_callVv (pc2 := 81) C [.int a1, .int a2] [] cl_X8_82 (fun q hq => ctX0_giveSign (kf_4_0 (kf_7_0 hk0)) q hq) (kf_4_0 (kf_7_0 hk0)) rfl rfl rfl ⟨rfl, rfl, Nat.le_of_ble_eq_true rfl, Nat.le_of_ble_eq_true rfl⟩ (Nat.le_of_ble_eq_true rfl) ⟨Nat.zero_le _, Nat.zero_le _⟩ dX8_setSign_78 rfl (fun v13 M14 => ?_)
        refine x_iload (pc2 := 83) C dX8_setSign_81 rfl rfl ?_
        exact x_iret C rfl rfl dX8_setSign_83
      · intro j9 hj9
        refine x_icmp_ne (tgt := 64) (pc2 := 52) C dX8_setSign_49 (by decide) rfl ?_ ?_
        · exact x_wk [some (rv G this), some (.int a1), some (.int a2), some (rv G ((this + 1) + 1)), some (.int v6)] ⟨Or.inr rfl, Or.inr rfl, Or.inr rfl, Or.inr rfl, Or.inr rfl, trivial⟩ (hj9 () _)
        · refine x_aload_n (pc2 := 53) C dX8_setSign_52 rfl rfl ?_
          refine x_iload_n (pc2 := 54) C dX8_setSign_53 rfl rfl ?_
          refine x_callVi (pc2 := 57) C [.int a1] [] cl_X8_79 (fun q hq => ctX0_shiftOwner (kf_4_0 (kf_7_0 hk0)) q hq) (kf_4_0 (kf_7_0 hk0)) rfl rfl rfl ⟨rfl, rfl, Nat.le_of_ble_eq_true rfl, Nat.le_of_ble_eq_true rfl⟩ (Nat.le_of_ble_eq_true rfl) ⟨Nat.zero_le _, Nat.zero_le _⟩ dX8_setSign_54 rfl (fun v15 M16 => ?_)
          refine x_iconst (pc2 := 58) C dX8_setSign_57 rfl ic_m1 ?_
          refine x_icmp_ne (tgt := 64) (pc2 := 61) C dX8_setSign_58 (by decide) rfl ?_ ?_
          · exact x_wk [some (rv G this), some (.int a1), some (.int a2), some (rv G ((this + 1) + 1)), some (.int v6)] ⟨Or.inr rfl, Or.inr rfl, Or.inr rfl, Or.inr rfl, Or.inr rfl, trivial⟩ (hj9 () _)
          · refine x_bipush (pc2 := 63) C dX8_setSign_61 rfl bc_m5 ?_
            exact x_iret C rfl rfl dX8_setSign_63
    · intro j4 hj4
      refine x_icmp_eq (tgt := 39) (pc2 := 24) C dX8_setSign_21 (by decide) rfl ?_ ?_
      · exact x_wk [some (rv G this), some (.int a1), some (.int a2), some (rv G ((this + 1) + 1)), none] ⟨Or.inr rfl, Or.inr rfl, Or.inr rfl, Or.inr rfl, Or.inl rfl, trivial⟩ (hj4 () _)
      · refine x_iload_n (pc2 := 25) C dX8_setSign_24 rfl rfl ?_
        refine x_bipush (pc2 := 27) C dX8_setSign_25 rfl bc_97 ?_
        refine x_icmp_lt (tgt := 36) (pc2 := 30) C dX8_setSign_27 (by decide) rfl ?_ ?_
        · refine x_bipush (pc2 := 38) C dX8_setSign_36 rfl bc_m2 ?_
          exact x_iret C rfl rfl dX8_setSign_38
        · refine x_iload_n (pc2 := 31) C dX8_setSign_30 rfl rfl ?_
          refine x_bipush (pc2 := 33) C dX8_setSign_31 rfl bc_122 ?_
          refine x_icmp_le (tgt := 39) (pc2 := 36) C dX8_setSign_33 (by decide) rfl ?_ ?_
          · exact x_wk [some (rv G this), some (.int a1), some (.int a2), some (rv G ((this + 1) + 1)), none] ⟨Or.inr rfl, Or.inr rfl, Or.inr rfl, Or.inr rfl, Or.inl rfl, trivial⟩ (hj4 () _)
          · refine x_bipush (pc2 := 38) C dX8_setSign_36 rfl bc_m2 ?_
            exact x_iret C rfl rfl dX8_setSign_38
  · refine x_iconst (pc2 := 17) C dX8_setSign_16 rfl ic_m1 ?_
    exact x_iret C rfl rfl dX8_setSign_17
set_option maxRecDepth 100000 in
set_option maxHeartbeats 4000000 in
theorem ctX8_settle {l : Launch} {G : bkG} {M : Mem} {this : Nat} {a1 : Int32} {a2 : Int32} (hk0 : kd this = 7) : ∀ r, fX8_settle this a1 a2 M = some r → Met l yX8_settle (Cond.code yX8_settle cX8_settle 3 (some .int) :: TT) ({ frames := 5, cells := 0, slots := 0, locals := 112 } : Room) (va_Pc [rv G this, .int a1, .int a2] (Wd G M)) (QQ G ((fun v => some (.int v)) r.1) r.2) 0 0 (An G) := by
  refine mkMet (vl := (fun v => some (.int v))) RX8 rfl (by decide +kernel) rfl (Nat.le_of_ble_eq_true rfl) [some (rv G this), some (.int a1), some (.int a2)] rfl ?_
  intro p e s m args below meth c C _
  refine x_aload_n (pc2 := 1) C dX8_settle_0 rfl rfl ?_
  refine x_get (pc2 := 4) C fl_X8_12 hk0 (by decide) rfl dX8_settle_1 rfl ?_
  refine x_iload_n (pc2 := 5) C dX8_settle_4 rfl rfl ?_
  refine x_callVi (pc2 := 8) C [.int a1] [] cl_X8_147 (fun q hq => ctX5_hasDispute (kf_7_0 hk0) q hq) (kf_7_0 hk0) rfl rfl rfl ⟨rfl, rfl, Nat.le_of_ble_eq_true rfl, Nat.le_of_ble_eq_true rfl⟩ (Nat.le_of_ble_eq_true rfl) ⟨Nat.zero_le _, Nat.zero_le _⟩ dX8_settle_5 rfl (fun v1 M2 => ?_)
  refine x_if_ne (tgt := 13) (pc2 := 11) C dX8_settle_8 (by decide) rfl ?_ ?_
  · refine x_iload_n (pc2 := 14) C dX8_settle_13 rfl rfl ?_
    refine x_if_lt (tgt := 22) (pc2 := 17) C dX8_settle_14 (by decide) rfl ?_ ?_
    · refine x_bipush (pc2 := 24) C dX8_settle_22 rfl bc_m2 ?_
      exact x_iret C rfl rfl dX8_settle_24
    · refine x_iload_n (pc2 := 18) C dX8_settle_17 rfl rfl ?_
      refine x_iconst (pc2 := 19) C dX8_settle_18 rfl ic_2 ?_
      refine x_icmp_le (tgt := 25) (pc2 := 22) C dX8_settle_19 (by decide) rfl ?_ ?_
      · refine x_aload_n (pc2 := 26) C dX8_settle_25 rfl rfl ?_
        refine x_get (pc2 := 29) C fl_X8_12 hk0 (by decide) rfl dX8_settle_26 rfl ?_
        refine x_get (pc2 := 32) C fl_X8_150 (kf_7_0 hk0) (by decide) rfl dX8_settle_29 rfl ?_
        refine x_iload_n (pc2 := 33) C dX8_settle_32 rfl rfl ?_
        refine x_callVi (pc2 := 36) C [.int a1] [] cl_X8_154 (fun q hq => ctX6_fateOf (kf_4_4 (kf_7_0 hk0)) q hq) (kf_4_4 (kf_7_0 hk0)) rfl rfl rfl ⟨rfl, rfl, Nat.le_of_ble_eq_true rfl, Nat.le_of_ble_eq_true rfl⟩ (Nat.le_of_ble_eq_true rfl) ⟨Nat.zero_le _, Nat.zero_le _⟩ dX8_settle_33 rfl (fun v3 M4 => ?_)
        refine x_iconst (pc2 := 37) C dX8_settle_36 rfl ic_3 ?_
        refine x_icmp_eq (tgt := 43) (pc2 := 40) C dX8_settle_37 (by decide) rfl ?_ ?_
        · refine x_aload_n (pc2 := 44) C dX8_settle_43 rfl rfl ?_
          refine x_get (pc2 := 47) C fl_X8_25 hk0 (by decide) rfl dX8_settle_44 rfl ?_
          refine x_aload_n (pc2 := 48) C dX8_settle_47 rfl rfl ?_
          refine x_get (pc2 := 51) C fl_X8_12 hk0 (by decide) rfl dX8_settle_48 rfl ?_
          refine x_callVv (pc2 := 54) C [rv G (this + 1)] [] cl_X8_60 (fun q hq => ctX2_remember (kf_7_3 hk0) (kf_7_0 hk0) q hq) (kf_7_3 hk0) rfl rfl rfl ⟨rfl, rfl, Nat.le_of_ble_eq_true rfl, Nat.le_of_ble_eq_true rfl⟩ (Nat.le_of_ble_eq_true rfl) ⟨Nat.zero_le _, Nat.zero_le _⟩ dX8_settle_51 rfl (fun v5 M6 => ?_)
          refine x_aload_n (pc2 := 55) C dX8_settle_54 rfl rfl ?_
          refine x_get (pc2 := 58) C fl_X8_12 hk0 (by decide) rfl dX8_settle_55 rfl ?_
          refine x_iload_n (pc2 := 59) C dX8_settle_58 rfl rfl ?_
          refine x_iload_n (pc2 := 60) C dX8_settle_59 rfl rfl ?_
          refine x_callVv (pc2 := 63) C [.int a1, .int a2] [] cl_X8_159 (fun q hq => ctX5_settleByHand (kf_7_0 hk0) q hq) (kf_7_0 hk0) rfl rfl rfl ⟨rfl, rfl, Nat.le_of_ble_eq_true rfl, Nat.le_of_ble_eq_true rfl⟩ (Nat.le_of_ble_eq_true rfl) ⟨Nat.zero_le _, Nat.zero_le _⟩ dX8_settle_60 rfl (fun v7 M8 => ?_)
          refine x_aload_n (pc2 := 64) C dX8_settle_63 rfl rfl ?_
          refine x_get (pc2 := 67) C fl_X8_12 hk0 (by decide) rfl dX8_settle_64 rfl ?_
          refine x_get (pc2 := 70) C fl_X8_150 (kf_7_0 hk0) (by decide) rfl dX8_settle_67 rfl ?_
          refine x_iload_n (pc2 := 71) C dX8_settle_70 rfl rfl ?_
          refine x_callVi (pc2 := 74) C [.int a1] [] cl_X8_162 (fun q hq => ctX6_keyOf (kf_4_4 (kf_7_0 hk0)) q hq) (kf_4_4 (kf_7_0 hk0)) rfl rfl rfl ⟨rfl, rfl, Nat.le_of_ble_eq_true rfl, Nat.le_of_ble_eq_true rfl⟩ (Nat.le_of_ble_eq_true rfl) ⟨Nat.zero_le _, Nat.zero_le _⟩ dX8_settle_71 rfl (fun v9 M10 => ?_)
          exact x_iret C rfl rfl dX8_settle_74
        · refine x_bipush (pc2 := 42) C dX8_settle_40 rfl bc_m4 ?_
          exact x_iret C rfl rfl dX8_settle_42
      · refine x_bipush (pc2 := 24) C dX8_settle_22 rfl bc_m2 ?_
        exact x_iret C rfl rfl dX8_settle_24
  · refine x_iconst (pc2 := 12) C dX8_settle_11 rfl ic_m1 ?_
    exact x_iret C rfl rfl dX8_settle_12
set_option maxRecDepth 100000 in
set_option maxHeartbeats 4000000 in
theorem ctX8_dispute {l : Launch} {G : bkG} {M : Mem} {this : Nat} {a1 : Int32} {a2 : Int32} (hk0 : kd this = 7) : ∀ r, fX8_dispute this a1 a2 M = some r → Met l yX8_dispute (Cond.code yX8_dispute cX8_dispute 4 (some .int) :: TT) ({ frames := 2, cells := 0, slots := 0, locals := 42 } : Room) (va_Pc [rv G this, .int a1, .int a2] (Wd G M)) (QQ G ((fun v => some (.int v)) r.1) r.2) 0 0 (An G) := by
  refine mkMet (vl := (fun v => some (.int v))) RX8 rfl (by decide +kernel) rfl (Nat.le_of_ble_eq_true rfl) [some (rv G this), some (.int a1), some (.int a2), none] rfl ?_
  intro p e s m args below meth c C _
  refine x_aload_n (pc2 := 1) C dX8_dispute_0 rfl rfl ?_
  refine x_get (pc2 := 4) C fl_X8_12 hk0 (by decide) rfl dX8_dispute_1 rfl ?_
  refine x_iload_n (pc2 := 5) C dX8_dispute_4 rfl rfl ?_
  refine x_callVi (pc2 := 8) C [.int a1] [] cl_X8_147 (fun q hq => ctX5_hasDispute (kf_7_0 hk0) q hq) (kf_7_0 hk0) rfl rfl rfl ⟨rfl, rfl, Nat.le_of_ble_eq_true rfl, Nat.le_of_ble_eq_true rfl⟩ (Nat.le_of_ble_eq_true rfl) ⟨Nat.zero_le _, Nat.zero_le _⟩ dX8_dispute_5 rfl (fun v1 M2 => ?_)
  refine x_if_ne (tgt := 13) (pc2 := 11) C dX8_dispute_8 (by decide) rfl ?_ ?_
  · refine x_aload_n (pc2 := 14) C dX8_dispute_13 rfl rfl ?_
    refine x_get (pc2 := 17) C fl_X8_12 hk0 (by decide) rfl dX8_dispute_14 rfl ?_
    refine x_get (pc2 := 20) C fl_X8_150 (kf_7_0 hk0) (by decide) rfl dX8_dispute_17 rfl ?_
    refine x_astore_n (pc2 := 21) C dX8_dispute_20 rfl [some (rv G this), some (.int a1), some (.int a2), some (rv G ((this + 1) + 23))] rfl rfl ?_
    refine x_iload_n (pc2 := 22) C dX8_dispute_21 rfl rfl ?_
    refine x_ite (fun hs3 => ?_) (fun hs3 => ?_)
    · refine x_tin (tgt := 56) C hs3 dX8_dispute_22 (by decide) (by decide) rfl (by decide) ?_
      refine x_aload_n (pc2 := 57) C dX8_dispute_56 rfl rfl ?_
      refine x_iload_n (pc2 := 58) C dX8_dispute_57 rfl rfl ?_
      refine x_callVi (pc2 := 61) C [.int a1] [] cl_X8_162 (fun q hq => ctX6_keyOf (kf_4_4 (kf_7_0 hk0)) q hq) (kf_4_4 (kf_7_0 hk0)) rfl rfl rfl ⟨rfl, rfl, Nat.le_of_ble_eq_true rfl, Nat.le_of_ble_eq_true rfl⟩ (Nat.le_of_ble_eq_true rfl) ⟨Nat.zero_le _, Nat.zero_le _⟩ dX8_dispute_58 rfl (fun v4 M5 => ?_)
      exact x_iret C rfl rfl dX8_dispute_61
    · refine x_ite (fun hs6 => ?_) (fun hs6 => ?_)
      · refine x_tin (tgt := 62) C hs6 dX8_dispute_22 (by decide) (by decide) rfl (by decide) ?_
        refine x_aload_n (pc2 := 63) C dX8_dispute_62 rfl rfl ?_
        refine x_iload_n (pc2 := 64) C dX8_dispute_63 rfl rfl ?_
        refine x_callVi (pc2 := 67) C [.int a1] [] cl_X8_257 (fun q hq => ctX6_sinceOf (kf_4_4 (kf_7_0 hk0)) q hq) (kf_4_4 (kf_7_0 hk0)) rfl rfl rfl ⟨rfl, rfl, Nat.le_of_ble_eq_true rfl, Nat.le_of_ble_eq_true rfl⟩ (Nat.le_of_ble_eq_true rfl) ⟨Nat.zero_le _, Nat.zero_le _⟩ dX8_dispute_64 rfl (fun v7 M8 => ?_)
        exact x_iret C rfl rfl dX8_dispute_67
      · refine x_ite (fun hs9 => ?_) (fun hs9 => ?_)
        · refine x_tin (tgt := 68) C hs9 dX8_dispute_22 (by decide) (by decide) rfl (by decide) ?_
          refine x_aload_n (pc2 := 69) C dX8_dispute_68 rfl rfl ?_
          refine x_iload_n (pc2 := 70) C dX8_dispute_69 rfl rfl ?_
          refine x_callVi (pc2 := 73) C [.int a1] [] cl_X8_258 (fun q hq => ctX6_dwellOf (kf_4_4 (kf_7_0 hk0)) q hq) (kf_4_4 (kf_7_0 hk0)) rfl rfl rfl ⟨rfl, rfl, Nat.le_of_ble_eq_true rfl, Nat.le_of_ble_eq_true rfl⟩ (Nat.le_of_ble_eq_true rfl) ⟨Nat.zero_le _, Nat.zero_le _⟩ dX8_dispute_70 rfl (fun v10 M11 => ?_)
          exact x_iret C rfl rfl dX8_dispute_73
        · refine x_ite (fun hs12 => ?_) (fun hs12 => ?_)
          · refine x_tin (tgt := 74) C hs12 dX8_dispute_22 (by decide) (by decide) rfl (by decide) ?_
            refine x_aload_n (pc2 := 75) C dX8_dispute_74 rfl rfl ?_
            refine x_iload_n (pc2 := 76) C dX8_dispute_75 rfl rfl ?_
            refine x_callVi (pc2 := 79) C [.int a1] [] cl_X8_154 (fun q hq => ctX6_fateOf (kf_4_4 (kf_7_0 hk0)) q hq) (kf_4_4 (kf_7_0 hk0)) rfl rfl rfl ⟨rfl, rfl, Nat.le_of_ble_eq_true rfl, Nat.le_of_ble_eq_true rfl⟩ (Nat.le_of_ble_eq_true rfl) ⟨Nat.zero_le _, Nat.zero_le _⟩ dX8_dispute_76 rfl (fun v13 M14 => ?_)
            refine x_iconst (pc2 := 80) C dX8_dispute_79 rfl ic_3 ?_
            refine x_icmp_ne (tgt := 88) (pc2 := 83) C dX8_dispute_80 (by decide) rfl ?_ ?_
            · refine x_aload_n (pc2 := 89) C dX8_dispute_88 rfl rfl ?_
              refine x_iload_n (pc2 := 90) C dX8_dispute_89 rfl rfl ?_
              refine x_callVi (pc2 := 93) C [.int a1] [] cl_X8_154 (fun q hq => ctX6_fateOf (kf_4_4 (kf_7_0 hk0)) q hq) (kf_4_4 (kf_7_0 hk0)) rfl rfl rfl ⟨rfl, rfl, Nat.le_of_ble_eq_true rfl, Nat.le_of_ble_eq_true rfl⟩ (Nat.le_of_ble_eq_true rfl) ⟨Nat.zero_le _, Nat.zero_le _⟩ dX8_dispute_90 rfl (fun v15 M16 => ?_)
              exact x_iret C rfl rfl dX8_dispute_93
            · refine x_bipush (pc2 := 85) C dX8_dispute_83 rfl bc_m5 ?_
              refine x_goto (tgt := 93) C dX8_dispute_85 (by decide) ?_
              exact x_iret C rfl rfl dX8_dispute_93
          · refine x_ite (fun hs17 => ?_) (fun hs17 => ?_)
            · refine x_tin (tgt := 94) C hs17 dX8_dispute_22 (by decide) (by decide) rfl (by decide) ?_
              refine x_aload_n (pc2 := 95) C dX8_dispute_94 rfl rfl ?_
              refine x_iload_n (pc2 := 96) C dX8_dispute_95 rfl rfl ?_
              refine x_callVi (pc2 := 99) C [.int a1] [] cl_X8_261 (fun q hq => ctX6_holderOf (kf_4_4 (kf_7_0 hk0)) q hq) (kf_4_4 (kf_7_0 hk0)) rfl rfl rfl ⟨rfl, rfl, Nat.le_of_ble_eq_true rfl, Nat.le_of_ble_eq_true rfl⟩ (Nat.le_of_ble_eq_true rfl) ⟨Nat.zero_le _, Nat.zero_le _⟩ dX8_dispute_96 rfl (fun v18 M19 => ?_)
              refine x_callSi (pc2 := 102) C [.int v18] [] cl_X8_203 (fun q hq => ctX8_orNone  q hq) rfl rfl ⟨rfl, rfl, Nat.le_of_ble_eq_true rfl, Nat.le_of_ble_eq_true rfl⟩ (Nat.le_of_ble_eq_true rfl) ⟨Nat.zero_le _, Nat.zero_le _⟩ dX8_dispute_99 rfl (fun v20 M21 => ?_)
              exact x_iret C rfl rfl dX8_dispute_102
            · refine x_tout (tgt := 103) C dX8_dispute_22 (by have t0 := lv_neT (a := 0) hs3 rfl; have t1 := lv_neT (a := 1) hs6 rfl; have t2 := lv_neT (a := 2) hs9 rfl; have t3 := lv_neT (a := 3) hs12 rfl; have t4 := lv_neT (a := 4) hs17 rfl; omega) (by decide) ?_
              refine x_bipush (pc2 := 105) C dX8_dispute_103 rfl bc_m2 ?_
              exact x_iret C rfl rfl dX8_dispute_105
  · refine x_iconst (pc2 := 12) C dX8_dispute_11 rfl ic_m1 ?_
    exact x_iret C rfl rfl dX8_dispute_12
set_option maxRecDepth 100000 in
set_option maxHeartbeats 4000000 in
theorem ctX8_isMean {l : Launch} {G : bkG} {M : Mem} {a1 : Int32}  : ∀ r, fX8_isMean a1 M = some r → Met l yX8_isMean (Cond.code yX8_isMean cX8_isMean 1 (some .boolean) :: TT) ({ frames := 0, cells := 0, slots := 0, locals := 0 } : Room) (va_Pc [.int a1] (Wd G M)) (QQ G ((fun v => some (.int v)) r.1) r.2) 0 0 (An G) := by
  refine mkMet (vl := (fun v => some (.int v))) RX8 rfl (by decide +kernel) rfl (Nat.le_of_ble_eq_true rfl) [some (.int a1)] rfl ?_
  intro p e s m args below meth c C _
  refine x_iload_n (pc2 := 1) C dX8_isMean_0 rfl rfl ?_
  refine x_jn 9 (fun (b1 : Unit) => [none]) (fun (b1 : Unit) => []) ?_ ?_
  · intro b1 M3
    refine x_iconst (pc2 := 10) C dX8_isMean_9 rfl ic_1 ?_
    refine x_goto (tgt := 14) C dX8_isMean_10 (by decide) ?_
    exact x_zret C rfl rfl rfl dX8_isMean_14
  · intro j2 hj2
    refine x_if_eq (tgt := 9) (pc2 := 4) C dX8_isMean_1 (by decide) rfl ?_ ?_
    · exact x_wk [none] ⟨Or.inl rfl, trivial⟩ (hj2 () _)
    · refine x_iload_n (pc2 := 5) C dX8_isMean_4 rfl rfl ?_
      refine x_iconst (pc2 := 6) C dX8_isMean_5 rfl ic_1 ?_
      refine x_icmp_ne (tgt := 13) (pc2 := 9) C dX8_isMean_6 (by decide) rfl ?_ ?_
      · refine x_iconst (pc2 := 14) C dX8_isMean_13 rfl ic_0 ?_
        exact x_zret C rfl rfl rfl dX8_isMean_14
      · exact x_wk [none] ⟨Or.inl rfl, trivial⟩ (hj2 () _)
set_option maxRecDepth 100000 in
set_option maxHeartbeats 4000000 in
theorem ctX8_meanOf {l : Launch} {G : bkG} {M : Mem} {this : Nat} {a1 : Int32} {a2 : Int32} (hk0 : kd this = 7) : ∀ r, fX8_meanOf this a1 a2 M = some r → Met l yX8_meanOf (Cond.code yX8_meanOf cX8_meanOf 4 (some .float) :: TT) ({ frames := 1, cells := 0, slots := 0, locals := 21 } : Room) (va_Pc [rv G this, .int a1, .int a2] (Wd G M)) (QQ G ((fun v => some (.float v)) r.1) r.2) 0 0 (An G) := by
  refine mkMet (vl := (fun v => some (.float v))) RX8 rfl (by decide +kernel) rfl (Nat.le_of_ble_eq_true rfl) [some (rv G this), some (.int a1), some (.int a2), none] rfl ?_
  intro p e s m args below meth c C _
  refine x_aload_n (pc2 := 1) C dX8_meanOf_0 rfl rfl ?_
  refine x_get (pc2 := 4) C fl_X8_12 hk0 (by decide) rfl dX8_meanOf_1 rfl ?_
  refine x_iload_n (pc2 := 5) C dX8_meanOf_4 rfl rfl ?_
  refine x_callVr (pc2 := 8) C [.int a1] [] cl_X8_95 (fun q hq => ctX5_typistOf (kf_7_0 hk0) q hq) (kf_7_0 hk0) rfl rfl rfl ⟨rfl, rfl, Nat.le_of_ble_eq_true rfl, Nat.le_of_ble_eq_true rfl⟩ (Nat.le_of_ble_eq_true rfl) ⟨Nat.zero_le _, Nat.zero_le _⟩ dX8_meanOf_5 rfl (fun v1 M2 => ?_)
  refine x_asr (fun hq3 => ?_)
  refine x_astore_n (pc2 := 9) C dX8_meanOf_8 rfl [some (rv G this), some (.int a1), some (.int a2), some (rv G v1)] rfl rfl ?_
  refine x_iload_n (pc2 := 10) C dX8_meanOf_9 rfl rfl ?_
  refine x_if_ne (tgt := 20) (pc2 := 13) C dX8_meanOf_10 (by decide) rfl ?_ ?_
  · refine x_aload_n (pc2 := 21) C dX8_meanOf_20 rfl rfl ?_
    refine x_get (pc2 := 24) C fl_X8_293 (of_decide_eq_true hq3) (by decide) rfl dX8_meanOf_21 rfl ?_
    exact x_fret C rfl rfl dX8_meanOf_24
  · refine x_aload_n (pc2 := 14) C dX8_meanOf_13 rfl rfl ?_
    refine x_get (pc2 := 17) C fl_X8_289 (of_decide_eq_true hq3) (by decide) rfl dX8_meanOf_14 rfl ?_
    refine x_goto (tgt := 24) C dX8_meanOf_17 (by decide) ?_
    exact x_fret C rfl rfl dX8_meanOf_24
set_option maxRecDepth 100000 in
set_option maxHeartbeats 4000000 in
theorem ctX8_style {l : Launch} {G : bkG} {M : Mem} {this : Nat} {a1 : Int32} {a2 : Int32} (hk0 : kd this = 7) : ∀ r, fX8_style this a1 a2 M = some r → Met l yX8_style (Cond.code yX8_style cX8_style 3 (some .float) :: TT) ({ frames := 2, cells := 0, slots := 0, locals := 44 } : Room) (va_Pc [rv G this, .int a1, .int a2] (Wd G M)) (QQ G ((fun v => some (.float v)) r.1) r.2) 0 0 (An G) := by
  refine mkMet (vl := (fun v => some (.float v))) RX8 rfl (by decide +kernel) rfl (Nat.le_of_ble_eq_true rfl) [some (rv G this), some (.int a1), some (.int a2)] rfl ?_
  intro p e s m args below meth c C _
  refine x_iload_n (pc2 := 1) C dX8_style_0 rfl rfl ?_
  refine x_callSi (pc2 := 4) C [.int a1] [] cl_X8_86 (fun q hq => ctX5_isTypist  q hq) rfl rfl ⟨rfl, rfl, Nat.le_of_ble_eq_true rfl, Nat.le_of_ble_eq_true rfl⟩ (Nat.le_of_ble_eq_true rfl) ⟨Nat.zero_le _, Nat.zero_le _⟩ dX8_style_1 rfl (fun v1 M2 => ?_)
  refine x_if_eq (tgt := 14) (pc2 := 7) C dX8_style_4 (by decide) rfl ?_ ?_
  · refine x_ldcf (pc2 := 16) C wt3_43 dX8_style_14 rfl ?_
    exact x_fret C rfl rfl dX8_style_16
  · refine x_iload_n (pc2 := 8) C dX8_style_7 rfl rfl ?_
    refine x_callSi (pc2 := 11) C [.int a2] [] cl_X8_239 (fun q hq => ctX8_isMean  q hq) rfl rfl ⟨rfl, rfl, Nat.le_of_ble_eq_true rfl, Nat.le_of_ble_eq_true rfl⟩ (Nat.le_of_ble_eq_true rfl) ⟨Nat.zero_le _, Nat.zero_le _⟩ dX8_style_8 rfl (fun v3 M4 => ?_)
    refine x_if_ne (tgt := 17) (pc2 := 14) C dX8_style_11 (by decide) rfl ?_ ?_
    · refine x_aload_n (pc2 := 18) C dX8_style_17 rfl rfl ?_
      refine x_iload_n (pc2 := 19) C dX8_style_18 rfl rfl ?_
      refine x_iload_n (pc2 := 20) C dX8_style_19 rfl rfl ?_
      refine x_callVf (pc2 := 23) C [.int a1, .int a2] [] cl_X8_243 (fun q hq => ctX8_meanOf hk0 q hq) hk0 rfl rfl rfl ⟨rfl, rfl, Nat.le_of_ble_eq_true rfl, Nat.le_of_ble_eq_true rfl⟩ (Nat.le_of_ble_eq_true rfl) ⟨Nat.zero_le _, Nat.zero_le _⟩ dX8_style_20 rfl (fun v5 M6 => ?_)
      exact x_fret C rfl rfl dX8_style_23
    · refine x_ldcf (pc2 := 16) C wt3_43 dX8_style_14 rfl ?_
      exact x_fret C rfl rfl dX8_style_16
set_option maxRecDepth 100000 in
set_option maxHeartbeats 4000000 in
theorem ctX8_build {l : Launch} {G : bkG} {M : Mem} {this : Nat} {a1 : Int32} {a2 : Int32} (hk0 : kd this = 7) : ∀ r, fX8_build this a1 a2 M = some r → Met l yX8_build (Cond.code yX8_build cX8_build 4 (some .int) :: TT) ({ frames := 5, cells := 0, slots := 0, locals := 112 } : Room) (va_Pc [rv G this, .int a1, .int a2] (Wd G M)) (QQ G ((fun v => some (.int v)) r.1) r.2) 0 0 (An G) := by
  refine mkMet (vl := (fun v => some (.int v))) RX8 rfl (by decide +kernel) rfl (Nat.le_of_ble_eq_true rfl) [some (rv G this), some (.int a1), some (.int a2), none] rfl ?_
  intro p e s m args below meth c C _
  refine x_iload_n (pc2 := 1) C dX8_build_0 rfl rfl ?_
  refine x_iconst (pc2 := 2) C dX8_build_1 rfl ic_2 ?_
  refine x_icmp_lt (tgt := 22) (pc2 := 5) C dX8_build_2 (by decide) rfl ?_ ?_
  · refine x_bipush (pc2 := 24) C dX8_build_22 rfl bc_m2 ?_
    exact x_iret C rfl rfl dX8_build_24
  · refine x_iload_n (pc2 := 6) C dX8_build_5 rfl rfl ?_
    refine x_bipush (pc2 := 8) C dX8_build_6 rfl bc_6 ?_
    refine x_icmp_gt (tgt := 22) (pc2 := 11) C dX8_build_8 (by decide) rfl ?_ ?_
    · refine x_bipush (pc2 := 24) C dX8_build_22 rfl bc_m2 ?_
      exact x_iret C rfl rfl dX8_build_24
    · refine x_iload_n (pc2 := 12) C dX8_build_11 rfl rfl ?_
      refine x_iconst (pc2 := 13) C dX8_build_12 rfl ic_2 ?_
      refine x_icmp_lt (tgt := 22) (pc2 := 16) C dX8_build_13 (by decide) rfl ?_ ?_
      · refine x_bipush (pc2 := 24) C dX8_build_22 rfl bc_m2 ?_
        exact x_iret C rfl rfl dX8_build_24
      · refine x_iload_n (pc2 := 17) C dX8_build_16 rfl rfl ?_
        refine x_bipush (pc2 := 19) C dX8_build_17 rfl bc_8 ?_
        refine x_icmp_le (tgt := 25) (pc2 := 22) C dX8_build_19 (by decide) rfl ?_ ?_
        · refine x_aload_n (pc2 := 26) C dX8_build_25 rfl rfl ?_
          refine x_get (pc2 := 29) C fl_X8_12 hk0 (by decide) rfl dX8_build_26 rfl ?_
          refine x_get (pc2 := 32) C fl_X8_40 (kf_7_0 hk0) (by decide) rfl dX8_build_29 rfl ?_
          refine x_astore_n (pc2 := 33) C dX8_build_32 rfl [some (rv G this), some (.int a1), some (.int a2), some (rv G ((this + 1) + 1))] rfl rfl ?_
          refine x_aload_n (pc2 := 34) C dX8_build_33 rfl rfl ?_
          refine x_callVi (pc2 := 37) C [] [] cl_X8_44 (fun q hq => ctX0_downKeys (kf_4_0 (kf_7_0 hk0)) q hq) (kf_4_0 (kf_7_0 hk0)) rfl rfl rfl ⟨rfl, rfl, Nat.le_of_ble_eq_true rfl, Nat.le_of_ble_eq_true rfl⟩ (Nat.le_of_ble_eq_true rfl) ⟨Nat.zero_le _, Nat.zero_le _⟩ dX8_build_34 rfl (fun v1 M2 => ?_)
          refine x_if_gt (tgt := 47) (pc2 := 40) C dX8_build_37 (by decide) rfl ?_ ?_
          · refine x_bipush (pc2 := 49) C dX8_build_47 rfl bc_m4 ?_
            exact x_iret C rfl rfl dX8_build_49
          · refine x_aload_n (pc2 := 41) C dX8_build_40 rfl rfl ?_
            refine x_callVi (pc2 := 44) C [] [] cl_X8_50 (fun q hq => ctX0_seenKeys (kf_4_0 (kf_7_0 hk0)) q hq) (kf_4_0 (kf_7_0 hk0)) rfl rfl rfl ⟨rfl, rfl, Nat.le_of_ble_eq_true rfl, Nat.le_of_ble_eq_true rfl⟩ (Nat.le_of_ble_eq_true rfl) ⟨Nat.zero_le _, Nat.zero_le _⟩ dX8_build_41 rfl (fun v3 M4 => ?_)
            refine x_if_le (tgt := 50) (pc2 := 47) C dX8_build_44 (by decide) rfl ?_ ?_
            · refine x_aload_n (pc2 := 51) C dX8_build_50 rfl rfl ?_
              refine x_get (pc2 := 54) C fl_X8_53 (kf_4_0 (kf_7_0 hk0)) (by decide) rfl dX8_build_51 rfl ?_
              refine x_iload_n (pc2 := 55) C dX8_build_54 rfl rfl ?_
              refine x_jn 69 (fun (b5 : Unit) => [some (rv G this), some (.int a1), some (.int a2), some (rv G ((this + 1) + 1))]) (fun (b5 : Unit) => []) ?_ ?_
              · intro b5 M7
                refine x_aload_n (pc2 := 70) C dX8_build_69 rfl rfl ?_
                refine x_get (pc2 := 73) C fl_X8_25 hk0 (by decide) rfl dX8_build_70 rfl ?_
                refine x_aload_n (pc2 := 74) C dX8_build_73 rfl rfl ?_
                refine x_get (pc2 := 77) C fl_X8_12 hk0 (by decide) rfl dX8_build_74 rfl ?_
                refine x_callVv (pc2 := 80) C [rv G (this + 1)] [] cl_X8_60 (fun q hq => ctX2_remember (kf_7_3 hk0) (kf_7_0 hk0) q hq) (kf_7_3 hk0) rfl rfl rfl ⟨rfl, rfl, Nat.le_of_ble_eq_true rfl, Nat.le_of_ble_eq_true rfl⟩ (Nat.le_of_ble_eq_true rfl) ⟨Nat.zero_le _, Nat.zero_le _⟩ dX8_build_77 rfl (fun v8 M9 => ?_)
                refine x_aload_n (pc2 := 81) C dX8_build_80 rfl rfl ?_
                refine x_iload_n (pc2 := 82) C dX8_build_81 rfl rfl ?_
                refine x_iload_n (pc2 := 83) C dX8_build_82 rfl rfl ?_
                refine x_callVv (pc2 := 86) C [.int a1, .int a2] [] cl_X8_64 (fun q hq => ctX0_rebuild (kf_4_0 (kf_7_0 hk0)) q hq) (kf_4_0 (kf_7_0 hk0)) rfl rfl rfl ⟨rfl, rfl, Nat.le_of_ble_eq_true rfl, Nat.le_of_ble_eq_true rfl⟩ (Nat.le_of_ble_eq_true rfl) ⟨Nat.zero_le _, Nat.zero_le _⟩ dX8_build_83 rfl (fun v10 M11 => ?_)
                refine x_aload_n (pc2 := 87) C dX8_build_86 rfl rfl ?_
                refine x_callVi (pc2 := 90) C [] [] cl_X8_68 (fun q hq => ctX0_size (kf_4_0 (kf_7_0 hk0)) q hq) (kf_4_0 (kf_7_0 hk0)) rfl rfl rfl ⟨rfl, rfl, Nat.le_of_ble_eq_true rfl, Nat.le_of_ble_eq_true rfl⟩ (Nat.le_of_ble_eq_true rfl) ⟨Nat.zero_le _, Nat.zero_le _⟩ dX8_build_87 rfl (fun v12 M13 => ?_)
                exact x_iret C rfl rfl dX8_build_90
              · intro j6 hj6
                refine x_icmp_ne (tgt := 69) (pc2 := 58) C dX8_build_55 (by decide) rfl ?_ ?_
                · exact x_wk [some (rv G this), some (.int a1), some (.int a2), some (rv G ((this + 1) + 1))] ⟨Or.inr rfl, Or.inr rfl, Or.inr rfl, Or.inr rfl, trivial⟩ (hj6 () _)
                · refine x_aload_n (pc2 := 59) C dX8_build_58 rfl rfl ?_
                  refine x_get (pc2 := 62) C fl_X8_57 (kf_4_0 (kf_7_0 hk0)) (by decide) rfl dX8_build_59 rfl ?_
                  refine x_iload_n (pc2 := 63) C dX8_build_62 rfl rfl ?_
                  refine x_icmp_ne (tgt := 69) (pc2 := 66) C dX8_build_63 (by decide) rfl ?_ ?_
                  · exact x_wk [some (rv G this), some (.int a1), some (.int a2), some (rv G ((this + 1) + 1))] ⟨Or.inr rfl, Or.inr rfl, Or.inr rfl, Or.inr rfl, trivial⟩ (hj6 () _)
                  · refine x_bipush (pc2 := 68) C dX8_build_66 rfl bc_m5 ?_
                    exact x_iret C rfl rfl dX8_build_68
            · refine x_bipush (pc2 := 49) C dX8_build_47 rfl bc_m4 ?_
              exact x_iret C rfl rfl dX8_build_49
        · refine x_bipush (pc2 := 24) C dX8_build_22 rfl bc_m2 ?_
          exact x_iret C rfl rfl dX8_build_24
set_option maxRecDepth 100000 in
set_option maxHeartbeats 4000000 in
theorem ctX8_hundredths {l : Launch} {G : bkG} {M : Mem} {this : Nat} {a1 : Int32} {a2 : Int32} (hk0 : kd this = 7) : ∀ r, fX8_hundredths this a1 a2 M = some r → Met l yX8_hundredths (Cond.code yX8_hundredths cX8_hundredths 3 (some .int) :: TT) ({ frames := 2, cells := 0, slots := 0, locals := 44 } : Room) (va_Pc [rv G this, .int a1, .int a2] (Wd G M)) (QQ G ((fun v => some (.int v)) r.1) r.2) 0 0 (An G) := by
  refine mkMet (vl := (fun v => some (.int v))) RX8 rfl (by decide +kernel) rfl (Nat.le_of_ble_eq_true rfl) [some (rv G this), some (.int a1), some (.int a2)] rfl ?_
  intro p e s m args below meth c C _
  refine x_iload_n (pc2 := 1) C dX8_hundredths_0 rfl rfl ?_
  refine x_callSi (pc2 := 4) C [.int a1] [] cl_X8_86 (fun q hq => ctX5_isTypist  q hq) rfl rfl ⟨rfl, rfl, Nat.le_of_ble_eq_true rfl, Nat.le_of_ble_eq_true rfl⟩ (Nat.le_of_ble_eq_true rfl) ⟨Nat.zero_le _, Nat.zero_le _⟩ dX8_hundredths_1 rfl (fun v1 M2 => ?_)
  refine x_if_ne (tgt := 9) (pc2 := 7) C dX8_hundredths_4 (by decide) rfl ?_ ?_
  · refine x_iload_n (pc2 := 10) C dX8_hundredths_9 rfl rfl ?_
    refine x_callSi (pc2 := 13) C [.int a2] [] cl_X8_239 (fun q hq => ctX8_isMean  q hq) rfl rfl ⟨rfl, rfl, Nat.le_of_ble_eq_true rfl, Nat.le_of_ble_eq_true rfl⟩ (Nat.le_of_ble_eq_true rfl) ⟨Nat.zero_le _, Nat.zero_le _⟩ dX8_hundredths_10 rfl (fun v3 M4 => ?_)
    refine x_if_ne (tgt := 19) (pc2 := 16) C dX8_hundredths_13 (by decide) rfl ?_ ?_
    · refine x_aload_n (pc2 := 20) C dX8_hundredths_19 rfl rfl ?_
      refine x_iload_n (pc2 := 21) C dX8_hundredths_20 rfl rfl ?_
      refine x_iload_n (pc2 := 22) C dX8_hundredths_21 rfl rfl ?_
      refine x_callVf (pc2 := 25) C [.int a1, .int a2] [] cl_X8_243 (fun q hq => ctX8_meanOf hk0 q hq) hk0 rfl rfl rfl ⟨rfl, rfl, Nat.le_of_ble_eq_true rfl, Nat.le_of_ble_eq_true rfl⟩ (Nat.le_of_ble_eq_true rfl) ⟨Nat.zero_le _, Nat.zero_le _⟩ dX8_hundredths_22 rfl (fun v5 M6 => ?_)
      refine x_ldcf (pc2 := 27) C wt3_65 dX8_hundredths_25 rfl ?_
      refine x_fmul (pc2 := 28) C dX8_hundredths_27 rfl ?_
      refine x_topf (fun v7 => ?_)
      refine x_f2i (pc2 := 29) C dX8_hundredths_28 rfl ?_
      exact x_iret C rfl rfl dX8_hundredths_29
    · refine x_bipush (pc2 := 18) C dX8_hundredths_16 rfl bc_m2 ?_
      exact x_iret C rfl rfl dX8_hundredths_18
  · refine x_iconst (pc2 := 8) C dX8_hundredths_7 rfl ic_m1 ?_
    exact x_iret C rfl rfl dX8_hundredths_8
set_option maxRecDepth 100000 in
set_option maxHeartbeats 4000000 in
theorem ctX8_distance {l : Launch} {G : bkG} {M : Mem} {this : Nat} {a1 : Int32} {a2 : Int32} {a3 : Int32} (hk0 : kd this = 7) : ∀ r, fX8_distance this a1 a2 a3 M = some r → Met l yX8_distance (Cond.code yX8_distance cX8_distance 4 (some .float) :: TT) ({ frames := 2, cells := 0, slots := 0, locals := 43 } : Room) (va_Pc [rv G this, .int a1, .int a2, .int a3] (Wd G M)) (QQ G ((fun v => some (.float v)) r.1) r.2) 0 0 (An G) := by
  refine mkMet (vl := (fun v => some (.float v))) RX8 rfl (by decide +kernel) rfl (Nat.le_of_ble_eq_true rfl) [some (rv G this), some (.int a1), some (.int a2), some (.int a3)] rfl ?_
  intro p e s m args below meth c C _
  refine x_iload_n (pc2 := 1) C dX8_distance_0 rfl rfl ?_
  refine x_callSi (pc2 := 4) C [.int a1] [] cl_X8_86 (fun q hq => ctX5_isTypist  q hq) rfl rfl ⟨rfl, rfl, Nat.le_of_ble_eq_true rfl, Nat.le_of_ble_eq_true rfl⟩ (Nat.le_of_ble_eq_true rfl) ⟨Nat.zero_le _, Nat.zero_le _⟩ dX8_distance_1 rfl (fun v1 M2 => ?_)
  refine x_if_eq (tgt := 22) (pc2 := 7) C dX8_distance_4 (by decide) rfl ?_ ?_
  · refine x_ldcf (pc2 := 24) C wt3_43 dX8_distance_22 rfl ?_
    exact x_fret C rfl rfl dX8_distance_24
  · refine x_iload_n (pc2 := 8) C dX8_distance_7 rfl rfl ?_
    refine x_if_lt (tgt := 22) (pc2 := 11) C dX8_distance_8 (by decide) rfl ?_ ?_
    · refine x_ldcf (pc2 := 24) C wt3_43 dX8_distance_22 rfl ?_
      exact x_fret C rfl rfl dX8_distance_24
    · refine x_iload_n (pc2 := 12) C dX8_distance_11 rfl rfl ?_
      refine x_if_lt (tgt := 22) (pc2 := 15) C dX8_distance_12 (by decide) rfl ?_ ?_
      · refine x_ldcf (pc2 := 24) C wt3_43 dX8_distance_22 rfl ?_
        exact x_fret C rfl rfl dX8_distance_24
      · refine x_iload_n (pc2 := 16) C dX8_distance_15 rfl rfl ?_
        refine x_sipush (pc2 := 19) C dX8_distance_16 rfl sc_9999 ?_
        refine x_icmp_le (tgt := 25) (pc2 := 22) C dX8_distance_19 (by decide) rfl ?_ ?_
        · refine x_aload_n (pc2 := 26) C dX8_distance_25 rfl rfl ?_
          refine x_get (pc2 := 29) C fl_X8_12 hk0 (by decide) rfl dX8_distance_26 rfl ?_
          refine x_iload_n (pc2 := 30) C dX8_distance_29 rfl rfl ?_
          refine x_callVr (pc2 := 33) C [.int a1] [] cl_X8_95 (fun q hq => ctX5_typistOf (kf_7_0 hk0) q hq) (kf_7_0 hk0) rfl rfl rfl ⟨rfl, rfl, Nat.le_of_ble_eq_true rfl, Nat.le_of_ble_eq_true rfl⟩ (Nat.le_of_ble_eq_true rfl) ⟨Nat.zero_le _, Nat.zero_le _⟩ dX8_distance_30 rfl (fun v3 M4 => ?_)
          refine x_asr (fun hq5 => ?_)
          refine x_iload_n (pc2 := 34) C dX8_distance_33 rfl rfl ?_
          refine x_iload_n (pc2 := 35) C dX8_distance_34 rfl rfl ?_
          refine x_callVf (pc2 := 38) C [.int a2, .int a3] [] cl_X8_265 (fun q hq => ctX7_distanceOf (of_decide_eq_true hq5) q hq) (of_decide_eq_true hq5) rfl rfl rfl ⟨rfl, rfl, Nat.le_of_ble_eq_true rfl, Nat.le_of_ble_eq_true rfl⟩ (Nat.le_of_ble_eq_true rfl) ⟨Nat.zero_le _, Nat.zero_le _⟩ dX8_distance_35 rfl (fun v6 M7 => ?_)
          exact x_fret C rfl rfl dX8_distance_38
        · refine x_ldcf (pc2 := 24) C wt3_43 dX8_distance_22 rfl ?_
          exact x_fret C rfl rfl dX8_distance_24
set_option maxRecDepth 100000 in
set_option maxHeartbeats 4000000 in
theorem ctX8_set {l : Launch} {G : bkG} {M : Mem} {this : Nat} {a1 : Int32} {a2 : Int32} (hk0 : kd this = 7) : ∀ r, fX8_set this a1 a2 M = some r → Met l yX8_set (Cond.code yX8_set cX8_set 4 (some .int) :: TT) ({ frames := 5, cells := 0, slots := 0, locals := 112 } : Room) (va_Pc [rv G this, .int a1, .int a2] (Wd G M)) (QQ G ((fun v => some (.int v)) r.1) r.2) 0 0 (An G) := by
  refine mkMet (vl := (fun v => some (.int v))) RX8 rfl (by decide +kernel) rfl (Nat.le_of_ble_eq_true rfl) [some (rv G this), some (.int a1), some (.int a2), none] rfl ?_
  intro p e s m args below meth c C _
  refine x_iload_n (pc2 := 1) C dX8_set_0 rfl rfl ?_
  refine x_iload_n (pc2 := 2) C dX8_set_1 rfl rfl ?_
  refine x_callSi (pc2 := 5) C [.int a1, .int a2] [] cl_X8_111 (fun q hq => ctX4_accepts  q hq) rfl rfl ⟨rfl, rfl, Nat.le_of_ble_eq_true rfl, Nat.le_of_ble_eq_true rfl⟩ (Nat.le_of_ble_eq_true rfl) ⟨Nat.zero_le _, Nat.zero_le _⟩ dX8_set_2 rfl (fun v1 M2 => ?_)
  refine x_if_ne (tgt := 11) (pc2 := 8) C dX8_set_5 (by decide) rfl ?_ ?_
  · refine x_aload_n (pc2 := 12) C dX8_set_11 rfl rfl ?_
    refine x_get (pc2 := 15) C fl_X8_12 hk0 (by decide) rfl dX8_set_12 rfl ?_
    refine x_get (pc2 := 18) C fl_X8_117 (kf_7_0 hk0) (by decide) rfl dX8_set_15 rfl ?_
    refine x_iload_n (pc2 := 19) C dX8_set_18 rfl rfl ?_
    refine x_callVi (pc2 := 22) C [.int a1] [] cl_X8_121 (fun q hq => ctX4_bitsOf (kf_4_5 (kf_7_0 hk0)) q hq) (kf_4_5 (kf_7_0 hk0)) rfl rfl rfl ⟨rfl, rfl, Nat.le_of_ble_eq_true rfl, Nat.le_of_ble_eq_true rfl⟩ (Nat.le_of_ble_eq_true rfl) ⟨Nat.zero_le _, Nat.zero_le _⟩ dX8_set_19 rfl (fun v3 M4 => ?_)
    refine x_istore_n (pc2 := 23) C dX8_set_22 rfl [some (rv G this), some (.int a1), some (.int a2), some (.int v3)] rfl rfl ?_
    refine x_iload_n (pc2 := 24) C dX8_set_23 rfl rfl ?_
    refine x_iload_n (pc2 := 25) C dX8_set_24 rfl rfl ?_
    refine x_icmp_ne (tgt := 31) (pc2 := 28) C dX8_set_25 (by decide) rfl ?_ ?_
    · refine x_aload_n (pc2 := 32) C dX8_set_31 rfl rfl ?_
      refine x_get (pc2 := 35) C fl_X8_25 hk0 (by decide) rfl dX8_set_32 rfl ?_
      refine x_aload_n (pc2 := 36) C dX8_set_35 rfl rfl ?_
      refine x_get (pc2 := 39) C fl_X8_12 hk0 (by decide) rfl dX8_set_36 rfl ?_
      refine x_callVv (pc2 := 42) C [rv G (this + 1)] [] cl_X8_60 (fun q hq => ctX2_remember (kf_7_3 hk0) (kf_7_0 hk0) q hq) (kf_7_3 hk0) rfl rfl rfl ⟨rfl, rfl, Nat.le_of_ble_eq_true rfl, Nat.le_of_ble_eq_true rfl⟩ (Nat.le_of_ble_eq_true rfl) ⟨Nat.zero_le _, Nat.zero_le _⟩ dX8_set_39 rfl (fun v5 M6 => ?_)
      refine x_aload_n (pc2 := 43) C dX8_set_42 rfl rfl ?_
      refine x_get (pc2 := 46) C fl_X8_12 hk0 (by decide) rfl dX8_set_43 rfl ?_
      refine x_get (pc2 := 49) C fl_X8_117 (kf_7_0 hk0) (by decide) rfl dX8_set_46 rfl ?_
      refine x_iload_n (pc2 := 50) C dX8_set_49 rfl rfl ?_
      refine x_iload_n (pc2 := 51) C dX8_set_50 rfl rfl ?_
      refine x_callVv (pc2 := 54) C [.int a1, .int a2] [] cl_X8_124 (fun q hq => ctX4_change (kf_4_5 (kf_7_0 hk0)) q hq) (kf_4_5 (kf_7_0 hk0)) rfl rfl rfl ⟨rfl, rfl, Nat.le_of_ble_eq_true rfl, Nat.le_of_ble_eq_true rfl⟩ (Nat.le_of_ble_eq_true rfl) ⟨Nat.zero_le _, Nat.zero_le _⟩ dX8_set_51 rfl (fun v7 M8 => ?_)
      refine x_iload_n (pc2 := 55) C dX8_set_54 rfl rfl ?_
      exact x_iret C rfl rfl dX8_set_55
    · refine x_bipush (pc2 := 30) C dX8_set_28 rfl bc_m5 ?_
      exact x_iret C rfl rfl dX8_set_30
  · refine x_bipush (pc2 := 10) C dX8_set_8 rfl bc_m2 ?_
    exact x_iret C rfl rfl dX8_set_10
set_option maxRecDepth 100000 in
set_option maxHeartbeats 4000000 in
theorem ctX8_clearText {l : Launch} {G : bkG} {M : Mem} {this : Nat} (hk0 : kd this = 7) : ∀ r, fX8_clearText this M = some r → Met l yX8_clearText (Cond.code yX8_clearText cX8_clearText 2 (some .int) :: TT) ({ frames := 0, cells := 0, slots := 0, locals := 0 } : Room) (va_Pc [rv G this] (Wd G M)) (QQ G ((fun v => some (.int v)) r.1) r.2) 0 0 (An G) := by
  refine mkMet (vl := (fun v => some (.int v))) RX8 rfl (by decide +kernel) rfl (Nat.le_of_ble_eq_true rfl) [some (rv G this), none] rfl ?_
  intro p e s m args below meth c C _
  refine x_aload_n (pc2 := 1) C dX8_clearText_0 rfl rfl ?_
  refine x_get (pc2 := 4) C fl_X8_32 hk0 (by decide) rfl dX8_clearText_1 rfl ?_
  refine x_get (pc2 := 7) C fl_X8_169 (kf_7_4 hk0) (by decide) rfl dX8_clearText_4 rfl ?_
  refine x_istore_n (pc2 := 8) C dX8_clearText_7 rfl [some (rv G this), some (.int (M.1 (this + 233) 0))] rfl rfl ?_
  refine x_aload_n (pc2 := 9) C dX8_clearText_8 rfl rfl ?_
  refine x_get (pc2 := 12) C fl_X8_32 hk0 (by decide) rfl dX8_clearText_9 rfl ?_
  refine x_iconst (pc2 := 13) C dX8_clearText_12 rfl ic_0 ?_
  refine x_puti (pc2 := 16) C ft_X8_169 (kf_7_4 hk0) (by decide) hs_2_0 (Nat.le_of_ble_eq_true rfl) dX8_clearText_13 rfl (fun M1 => ?_)
  refine x_iload_n (pc2 := 17) C dX8_clearText_16 rfl rfl ?_
  exact x_iret C rfl rfl dX8_clearText_17
set_option maxRecDepth 100000 in
set_option maxHeartbeats 4000000 in
theorem ctX8_move {l : Launch} {G : bkG} {M : Mem} {this : Nat} {a1 : Int32} {a2 : Int32} (hk0 : kd this = 7) : ∀ r, fX8_move this a1 a2 M = some r → Met l yX8_move (Cond.code yX8_move cX8_move 8 (some .int) :: TT) ({ frames := 5, cells := 0, slots := 0, locals := 121 } : Room) (va_Pc [rv G this, .int a1, .int a2] (Wd G M)) (QQ G ((fun v => some (.int v)) r.1) r.2) 0 0 (An G) := by
  refine mkMet (vl := (fun v => some (.int v))) RX8 rfl (by decide +kernel) rfl (Nat.le_of_ble_eq_true rfl) [some (rv G this), some (.int a1), some (.int a2), none, none, none, none, none] rfl ?_
  intro p e s m args below meth c C _
  refine x_aload_n (pc2 := 1) C dX8_move_0 rfl rfl ?_
  refine x_get (pc2 := 4) C fl_X8_32 hk0 (by decide) rfl dX8_move_1 rfl ?_
  refine x_iload_n (pc2 := 5) C dX8_move_4 rfl rfl ?_
  refine x_callVi (pc2 := 8) C [.int a1] [] cl_X8_184 (fun q hq => ctX3_characterAt (kf_7_4 hk0) q hq) (kf_7_4 hk0) rfl rfl rfl ⟨rfl, rfl, Nat.le_of_ble_eq_true rfl, Nat.le_of_ble_eq_true rfl⟩ (Nat.le_of_ble_eq_true rfl) ⟨Nat.zero_le _, Nat.zero_le _⟩ dX8_move_5 rfl (fun v1 M2 => ?_)
  refine x_istore_n (pc2 := 9) C dX8_move_8 rfl [some (rv G this), some (.int a1), some (.int a2), some (.int v1), none, none, none, none] rfl rfl ?_
  refine x_iload_n (pc2 := 10) C dX8_move_9 rfl rfl ?_
  refine x_bipush (pc2 := 12) C dX8_move_10 rfl bc_116 ?_
  refine x_icmp_ne (tgt := 34) (pc2 := 15) C dX8_move_12 (by decide) rfl ?_ ?_
  · refine x_iload_n (pc2 := 35) C dX8_move_34 rfl rfl ?_
    refine x_bipush (pc2 := 37) C dX8_move_35 rfl bc_48 ?_
    refine x_isub (pc2 := 38) C dX8_move_37 rfl ?_
    refine x_istore (pc2 := 40) C dX8_move_38 rfl [some (rv G this), some (.int a1), some (.int a2), some (.int v1), some (.int (v1 - 48)), none, none, none] rfl rfl ?_
    refine x_aload_n (pc2 := 41) C dX8_move_40 rfl rfl ?_
    refine x_get (pc2 := 44) C fl_X8_32 hk0 (by decide) rfl dX8_move_41 rfl ?_
    refine x_iload_n (pc2 := 45) C dX8_move_44 rfl rfl ?_
    refine x_iconst (pc2 := 46) C dX8_move_45 rfl ic_2 ?_
    refine x_iadd (pc2 := 47) C dX8_move_46 rfl ?_
    refine x_iload_n (pc2 := 48) C dX8_move_47 rfl rfl ?_
    refine x_callVi (pc2 := 51) C [.int (a1 + 2), .int a2] [] cl_X8_188 (fun q hq => ctX3_number (kf_7_4 hk0) q hq) (kf_7_4 hk0) rfl rfl rfl ⟨rfl, rfl, Nat.le_of_ble_eq_true rfl, Nat.le_of_ble_eq_true rfl⟩ (Nat.le_of_ble_eq_true rfl) ⟨Nat.zero_le _, Nat.zero_le _⟩ dX8_move_48 rfl (fun v3 M4 => ?_)
    refine x_istore (pc2 := 53) C dX8_move_51 rfl [some (rv G this), some (.int a1), some (.int a2), some (.int v1), some (.int (v1 - 48)), some (.int v3), none, none] rfl rfl ?_
    refine x_aload_n (pc2 := 54) C dX8_move_53 rfl rfl ?_
    refine x_get (pc2 := 57) C fl_X8_32 hk0 (by decide) rfl dX8_move_54 rfl ?_
    refine x_iload_n (pc2 := 58) C dX8_move_57 rfl rfl ?_
    refine x_iconst (pc2 := 59) C dX8_move_58 rfl ic_1 ?_
    refine x_iadd (pc2 := 60) C dX8_move_59 rfl ?_
    refine x_callVi (pc2 := 63) C [.int (a1 + 1)] [] cl_X8_184 (fun q hq => ctX3_characterAt (kf_7_4 hk0) q hq) (kf_7_4 hk0) rfl rfl rfl ⟨rfl, rfl, Nat.le_of_ble_eq_true rfl, Nat.le_of_ble_eq_true rfl⟩ (Nat.le_of_ble_eq_true rfl) ⟨Nat.zero_le _, Nat.zero_le _⟩ dX8_move_60 rfl (fun v5 M6 => ?_)
    refine x_bipush (pc2 := 65) C dX8_move_63 rfl bc_100 ?_
    refine x_jn 73 (fun (b7 : Int32) => [some (rv G this), none, none, none, some (.int (v1 - 48)), some (.int v3), none, none]) (fun (b7 : Int32) => [.int b7]) ?_ ?_
    · intro b7 M9
      refine x_istore (pc2 := 75) C dX8_move_73 rfl [some (rv G this), none, none, none, some (.int (v1 - 48)), some (.int v3), some (.int b7), none] rfl rfl ?_
      refine x_iload (pc2 := 77) C dX8_move_75 rfl rfl ?_
      refine x_jn 105 (fun (b10 : Int32) => [some (rv G this), none, none, none, some (.int (v1 - 48)), some (.int v3), some (.int b7), none]) (fun (b10 : Int32) => [.int b10]) ?_ ?_
      · intro b10 M12
        refine x_istore (pc2 := 107) C dX8_move_105 rfl [some (rv G this), none, none, none, some (.int (v1 - 48)), some (.int v3), some (.int b7), some (.int b10)] rfl rfl ?_
        refine x_iload (pc2 := 109) C dX8_move_107 rfl rfl ?_
        refine x_if_eq (tgt := 115) (pc2 := 112) C dX8_move_109 (by decide) rfl ?_ ?_
        · refine x_iload (pc2 := 117) C dX8_move_115 rfl rfl ?_
          refine x_if_eq (tgt := 137) (pc2 := 120) C dX8_move_117 (by decide) rfl ?_ ?_
          · refine x_aload_n (pc2 := 138) C dX8_move_137 rfl rfl ?_
            refine x_get (pc2 := 141) C fl_X8_12 hk0 (by decide) rfl dX8_move_138 rfl ?_
            refine x_get (pc2 := 144) C fl_X8_40 (kf_7_0 hk0) (by decide) rfl dX8_move_141 rfl ?_
            refine x_iload (pc2 := 146) C dX8_move_144 rfl rfl ?_
            refine x_callVv (pc2 := 149) C [.int v3] [] cl_X8_140 (fun q hq => ctX0_liftUp (kf_4_0 (kf_7_0 hk0)) q hq) (kf_4_0 (kf_7_0 hk0)) rfl rfl rfl ⟨rfl, rfl, Nat.le_of_ble_eq_true rfl, Nat.le_of_ble_eq_true rfl⟩ (Nat.le_of_ble_eq_true rfl) ⟨Nat.zero_le _, Nat.zero_le _⟩ dX8_move_146 rfl (fun v13 M14 => ?_)
            refine x_iconst (pc2 := 150) C dX8_move_149 rfl ic_0 ?_
            exact x_iret C rfl rfl dX8_move_150
          · refine x_aload_n (pc2 := 121) C dX8_move_120 rfl rfl ?_
            refine x_get (pc2 := 124) C fl_X8_12 hk0 (by decide) rfl dX8_move_121 rfl ?_
            refine x_get (pc2 := 127) C fl_X8_40 (kf_7_0 hk0) (by decide) rfl dX8_move_124 rfl ?_
            refine x_iload (pc2 := 129) C dX8_move_127 rfl rfl ?_
            refine x_iload (pc2 := 131) C dX8_move_129 rfl rfl ?_
            refine x_callVv (pc2 := 134) C [.int (v1 - 48), .int v3] [] cl_X8_131 (fun q hq => ctX0_putDown (kf_4_0 (kf_7_0 hk0)) q hq) (kf_4_0 (kf_7_0 hk0)) rfl rfl rfl ⟨rfl, rfl, Nat.le_of_ble_eq_true rfl, Nat.le_of_ble_eq_true rfl⟩ (Nat.le_of_ble_eq_true rfl) ⟨Nat.zero_le _, Nat.zero_le _⟩ dX8_move_131 rfl (fun v15 M16 => ?_)
            refine x_goto (tgt := 149) C dX8_move_134 (by decide) ?_
            refine x_iconst (pc2 := 150) C dX8_move_149 rfl ic_0 ?_
            exact x_iret C rfl rfl dX8_move_150
        · refine x_iload (pc2 := 114) C dX8_move_112 rfl rfl ?_
          exact x_iret C rfl rfl dX8_move_114
      · intro j11 hj11
        refine x_if_eq (tgt := 94) (pc2 := 80) C dX8_move_77 (by decide) rfl ?_ ?_
        · refine x_aload_n (pc2 := 95) C dX8_move_94 rfl rfl ?_
          refine x_get (pc2 := 98) C fl_X8_12 hk0 (by decide) rfl dX8_move_95 rfl ?_
          refine x_iload (pc2 := 100) C dX8_move_98 rfl rfl ?_
          refine x_iload (pc2 := 102) C dX8_move_100 rfl rfl ?_
          refine x_callVi (pc2 := 105) C [.int (v1 - 48), .int v3] [] cl_X8_137 (fun q hq => ctX5_releaseError (kf_7_0 hk0) q hq) (kf_7_0 hk0) rfl rfl rfl ⟨rfl, rfl, Nat.le_of_ble_eq_true rfl, Nat.le_of_ble_eq_true rfl⟩ (Nat.le_of_ble_eq_true rfl) ⟨Nat.zero_le _, Nat.zero_le _⟩ dX8_move_102 rfl (fun v17 M18 => ?_)
          exact x_wk [some (rv G this), none, none, none, some (.int (v1 - 48)), some (.int v3), some (.int b7), none] ⟨Or.inr rfl, Or.inl rfl, Or.inl rfl, Or.inl rfl, Or.inr rfl, Or.inr rfl, Or.inr rfl, Or.inl rfl, trivial⟩ (hj11 v17 _)
        · refine x_aload_n (pc2 := 81) C dX8_move_80 rfl rfl ?_
          refine x_get (pc2 := 84) C fl_X8_12 hk0 (by decide) rfl dX8_move_81 rfl ?_
          refine x_iload (pc2 := 86) C dX8_move_84 rfl rfl ?_
          refine x_iload (pc2 := 88) C dX8_move_86 rfl rfl ?_
          refine x_callVi (pc2 := 91) C [.int (v1 - 48), .int v3] [] cl_X8_127 (fun q hq => ctX5_pressError (kf_7_0 hk0) q hq) (kf_7_0 hk0) rfl rfl rfl ⟨rfl, rfl, Nat.le_of_ble_eq_true rfl, Nat.le_of_ble_eq_true rfl⟩ (Nat.le_of_ble_eq_true rfl) ⟨Nat.zero_le _, Nat.zero_le _⟩ dX8_move_88 rfl (fun v19 M20 => ?_)
          refine x_goto (tgt := 105) C dX8_move_91 (by decide) ?_
          exact x_wk [some (rv G this), none, none, none, some (.int (v1 - 48)), some (.int v3), some (.int b7), none] ⟨Or.inr rfl, Or.inl rfl, Or.inl rfl, Or.inl rfl, Or.inr rfl, Or.inr rfl, Or.inr rfl, Or.inl rfl, trivial⟩ (hj11 v19 _)
    · intro j8 hj8
      refine x_icmp_ne (tgt := 72) (pc2 := 68) C dX8_move_65 (by decide) rfl ?_ ?_
      · refine x_iconst (pc2 := 73) C dX8_move_72 rfl ic_0 ?_
        exact x_wk [some (rv G this), none, none, none, some (.int (v1 - 48)), some (.int v3), none, none] ⟨Or.inr rfl, Or.inl rfl, Or.inl rfl, Or.inl rfl, Or.inr rfl, Or.inr rfl, Or.inl rfl, Or.inl rfl, trivial⟩ (hj8 0 _)
      · refine x_iconst (pc2 := 69) C dX8_move_68 rfl ic_1 ?_
        refine x_goto (tgt := 73) C dX8_move_69 (by decide) ?_
        exact x_wk [some (rv G this), none, none, none, some (.int (v1 - 48)), some (.int v3), none, none] ⟨Or.inr rfl, Or.inl rfl, Or.inl rfl, Or.inl rfl, Or.inr rfl, Or.inr rfl, Or.inl rfl, Or.inl rfl, trivial⟩ (hj8 1 _)
  · refine x_aload_n (pc2 := 16) C dX8_move_15 rfl rfl ?_
    refine x_get (pc2 := 19) C fl_X8_12 hk0 (by decide) rfl dX8_move_16 rfl ?_
    refine x_aload_n (pc2 := 20) C dX8_move_19 rfl rfl ?_
    refine x_get (pc2 := 23) C fl_X8_32 hk0 (by decide) rfl dX8_move_20 rfl ?_
    refine x_iload_n (pc2 := 24) C dX8_move_23 rfl rfl ?_
    refine x_iconst (pc2 := 25) C dX8_move_24 rfl ic_1 ?_
    refine x_iadd (pc2 := 26) C dX8_move_25 rfl ?_
    refine x_iload_n (pc2 := 27) C dX8_move_26 rfl rfl ?_
    refine x_callVi (pc2 := 30) C [.int (a1 + 1), .int a2] [rv G (this + 1)] cl_X8_188 (fun q hq => ctX3_number (kf_7_4 hk0) q hq) (kf_7_4 hk0) rfl rfl rfl ⟨rfl, rfl, Nat.le_of_ble_eq_true rfl, Nat.le_of_ble_eq_true rfl⟩ (Nat.le_of_ble_eq_true rfl) ⟨Nat.zero_le _, Nat.zero_le _⟩ dX8_move_27 rfl (fun v21 M22 => ?_)
    refine x_callVi (pc2 := 33) C [.int v21] [] cl_X8_144 (fun q hq => ctX5_pass (kf_7_0 hk0) q hq) (kf_7_0 hk0) rfl rfl rfl ⟨rfl, rfl, Nat.le_of_ble_eq_true rfl, Nat.le_of_ble_eq_true rfl⟩ (Nat.le_of_ble_eq_true rfl) ⟨Nat.zero_le _, Nat.zero_le _⟩ dX8_move_30 rfl (fun v23 M24 => ?_)
    exact x_iret C rfl rfl dX8_move_33
set_option maxRecDepth 100000 in
set_option maxHeartbeats 4000000 in
theorem ctX8_perform {l : Launch} {G : bkG} {M : Mem} {this : Nat} (hk0 : kd this = 7) : ∀ r, fX8_perform this M = some r → Met l yX8_perform (Cond.code yX8_perform cX8_perform 6 (some .int) :: TT) ({ frames := 6, cells := 0, slots := 0, locals := 148 } : Room) (va_Pc [rv G this] (Wd G M)) (QQ G ((fun v => some (.int v)) r.1) r.2) 0 0 (An G) := by
  refine mkMet (vl := (fun v => some (.int v))) RX8 rfl (by decide +kernel) rfl (Nat.le_of_ble_eq_true rfl) [some (rv G this), none, none, none, none, none] rfl ?_
  intro p e s m args below meth c C _
  refine x_aload_n (pc2 := 1) C dX8_perform_0 rfl rfl ?_
  refine x_get (pc2 := 4) C fl_X8_32 hk0 (by decide) rfl dX8_perform_1 rfl ?_
  refine x_callVi (pc2 := 7) C [] [] cl_X8_172 (fun q hq => ctX3_fault (kf_7_4 hk0) q hq) (kf_7_4 hk0) rfl rfl rfl ⟨rfl, rfl, Nat.le_of_ble_eq_true rfl, Nat.le_of_ble_eq_true rfl⟩ (Nat.le_of_ble_eq_true rfl) ⟨Nat.zero_le _, Nat.zero_le _⟩ dX8_perform_4 rfl (fun v1 M2 => ?_)
  refine x_istore_n (pc2 := 8) C dX8_perform_7 rfl [some (rv G this), some (.int v1), none, none, none, none] rfl rfl ?_
  refine x_iload_n (pc2 := 9) C dX8_perform_8 rfl rfl ?_
  refine x_iconst (pc2 := 10) C dX8_perform_9 rfl ic_m1 ?_
  refine x_icmp_eq (tgt := 18) (pc2 := 13) C dX8_perform_10 (by decide) rfl ?_ ?_
  · refine x_aload_n (pc2 := 19) C dX8_perform_18 rfl rfl ?_
    refine x_get (pc2 := 22) C fl_X8_16 hk0 (by decide) rfl dX8_perform_19 rfl ?_
    refine x_aload_n (pc2 := 23) C dX8_perform_22 rfl rfl ?_
    refine x_get (pc2 := 26) C fl_X8_12 hk0 (by decide) rfl dX8_perform_23 rfl ?_
    refine x_callVv (pc2 := 29) C [rv G (this + 1)] [] cl_X8_175 (fun q hq => ctX5_copyFrom (kf_7_1 hk0) (kf_7_0 hk0) q hq) (kf_7_1 hk0) rfl rfl rfl ⟨rfl, rfl, Nat.le_of_ble_eq_true rfl, Nat.le_of_ble_eq_true rfl⟩ (Nat.le_of_ble_eq_true rfl) ⟨Nat.zero_le _, Nat.zero_le _⟩ dX8_perform_26 rfl (fun v3 M4 => ?_)
    refine x_iconst (pc2 := 30) C dX8_perform_29 rfl ic_0 ?_
    refine x_istore_n (pc2 := 31) C dX8_perform_30 rfl [some (rv G this), some (.int v1), some (.int 0), none, none, none] rfl rfl ?_
    refine x_iconst (pc2 := 32) C dX8_perform_31 rfl ic_0 ?_
    refine x_istore_n (pc2 := 33) C dX8_perform_32 rfl [some (rv G this), some (.int v1), some (.int 0), some (.int 0), none, none] rfl rfl ?_
    refine x_iconst (pc2 := 34) C dX8_perform_33 rfl ic_0 ?_
    refine x_istore (pc2 := 36) C dX8_perform_34 rfl [some (rv G this), some (.int v1), some (.int 0), some (.int 0), some (.int 0), none] rfl rfl ?_
    refine x_wk [some (rv G this), none, some (.int 0), some (.int 0), some (.int 0), none] ⟨Or.inr rfl, Or.inl rfl, Or.inr rfl, Or.inr rfl, Or.inr rfl, Or.inl rfl, trivial⟩ ?_
    refine x_lp2 (fun (b5 : Int32 × Int32 × Int32) => [some (rv G this), none, some (.int b5.1), some (.int b5.2.1), some (.int b5.2.2), none]) 104 (fun (b8 : Int32) => [some (rv G this), none, some (.int b8), none, none, none]) 74 (fun (b12 : Int32) => [some (rv G this), none, none, none, none, some (.int b12)]) ?_ ?_ ?_
    · intro b8 M9
      refine x_aload_n (pc2 := 105) C dX8_perform_104 rfl rfl ?_
      refine x_get (pc2 := 108) C fl_X8_25 hk0 (by decide) rfl dX8_perform_105 rfl ?_
      refine x_aload_n (pc2 := 109) C dX8_perform_108 rfl rfl ?_
      refine x_get (pc2 := 112) C fl_X8_16 hk0 (by decide) rfl dX8_perform_109 rfl ?_
      refine x_callVv (pc2 := 115) C [rv G (this + 34)] [] cl_X8_60 (fun q hq => ctX2_remember (kf_7_3 hk0) (kf_7_1 hk0) q hq) (kf_7_3 hk0) rfl rfl rfl ⟨rfl, rfl, Nat.le_of_ble_eq_true rfl, Nat.le_of_ble_eq_true rfl⟩ (Nat.le_of_ble_eq_true rfl) ⟨Nat.zero_le _, Nat.zero_le _⟩ dX8_perform_112 rfl (fun v10 M11 => ?_)
      refine x_iload_n (pc2 := 116) C dX8_perform_115 rfl rfl ?_
      exact x_iret C rfl rfl dX8_perform_116
    · intro b12 M13
      refine x_aload_n (pc2 := 75) C dX8_perform_74 rfl rfl ?_
      refine x_get (pc2 := 78) C fl_X8_12 hk0 (by decide) rfl dX8_perform_75 rfl ?_
      refine x_aload_n (pc2 := 79) C dX8_perform_78 rfl rfl ?_
      refine x_get (pc2 := 82) C fl_X8_16 hk0 (by decide) rfl dX8_perform_79 rfl ?_
      refine x_callVv (pc2 := 85) C [rv G (this + 34)] [] cl_X8_175 (fun q hq => ctX5_copyFrom (kf_7_0 hk0) (kf_7_1 hk0) q hq) (kf_7_0 hk0) rfl rfl rfl ⟨rfl, rfl, Nat.le_of_ble_eq_true rfl, Nat.le_of_ble_eq_true rfl⟩ (Nat.le_of_ble_eq_true rfl) ⟨Nat.zero_le _, Nat.zero_le _⟩ dX8_perform_82 rfl (fun v14 M15 => ?_)
      refine x_iload (pc2 := 87) C dX8_perform_85 rfl rfl ?_
      exact x_iret C rfl rfl dX8_perform_87
    · intro k16 k17 hk16 hk17 rec7 hrec7 b5 M6
      refine x_iload (pc2 := 38) C dX8_perform_36 rfl rfl ?_
      refine x_aload_n (pc2 := 39) C dX8_perform_38 rfl rfl ?_
      refine x_get (pc2 := 42) C fl_X8_32 hk0 (by decide) rfl dX8_perform_39 rfl ?_
      refine x_get (pc2 := 45) C fl_X8_169 (kf_7_4 hk0) (by decide) rfl dX8_perform_42 rfl ?_
      refine x_icmp_gt (tgt := 104) (pc2 := 48) C dX8_perform_45 (by decide) rfl ?_ ?_
      · exact x_wk [some (rv G this), none, some (.int b5.1), none, none, none] ⟨Or.inr rfl, Or.inl rfl, Or.inr rfl, Or.inl rfl, Or.inl rfl, Or.inl rfl, trivial⟩ (hk16 b5.1 _)
      · refine x_aload_n (pc2 := 49) C dX8_perform_48 rfl rfl ?_
        refine x_get (pc2 := 52) C fl_X8_32 hk0 (by decide) rfl dX8_perform_49 rfl ?_
        refine x_iload (pc2 := 54) C dX8_perform_52 rfl rfl ?_
        refine x_callVi (pc2 := 57) C [.int b5.2.2] [] cl_X8_178 (fun q hq => ctX3_isMoveEnd (kf_7_4 hk0) q hq) (kf_7_4 hk0) rfl rfl rfl ⟨rfl, rfl, Nat.le_of_ble_eq_true rfl, Nat.le_of_ble_eq_true rfl⟩ (Nat.le_of_ble_eq_true rfl) ⟨Nat.zero_le _, Nat.zero_le _⟩ dX8_perform_54 rfl (fun v18 M19 => ?_)
        refine x_jn 98 (fun (b20 : Int32 × Int32) => [some (rv G this), none, some (.int b20.1), some (.int b20.2), some (.int b5.2.2), none]) (fun (b20 : Int32 × Int32) => []) ?_ ?_
        · intro b20 M22
          refine x_iinc (pc2 := 101) (v := b5.2.2 + 1) C dX8_perform_98 rfl rfl 1 ic_1 rfl [some (rv G this), none, some (.int b20.1), some (.int b20.2), some (.int (b5.2.2 + 1)), none] rfl rfl ?_
          refine x_goto (tgt := 36) C dX8_perform_101 (by decide) ?_
          exact x_wk [some (rv G this), none, some (.int b20.1), some (.int b20.2), some (.int (b5.2.2 + 1)), none] ⟨Or.inr rfl, Or.inl rfl, Or.inr rfl, Or.inr rfl, Or.inr rfl, Or.inl rfl, trivial⟩ (hrec7 (b20.1, b20.2, b5.2.2 + 1) _)
        · intro j21 hj21
          refine x_if_eq (tgt := 98) (pc2 := 60) C dX8_perform_57 (by decide) rfl ?_ ?_
          · exact x_wk [some (rv G this), none, some (.int b5.1), some (.int b5.2.1), some (.int b5.2.2), none] ⟨Or.inr rfl, Or.inl rfl, Or.inr rfl, Or.inr rfl, Or.inr rfl, Or.inl rfl, trivial⟩ (hj21 (b5.1, b5.2.1) _)
          · refine x_aload_n (pc2 := 61) C dX8_perform_60 rfl rfl ?_
            refine x_iload_n (pc2 := 62) C dX8_perform_61 rfl rfl ?_
            refine x_iload (pc2 := 64) C dX8_perform_62 rfl rfl ?_
            refine x_callVi (pc2 := 67) C [.int b5.2.1, .int b5.2.2] [] cl_X8_181 (fun q hq => ctX8_move hk0 q hq) hk0 rfl rfl rfl ⟨rfl, rfl, Nat.le_of_ble_eq_true rfl, Nat.le_of_ble_eq_true rfl⟩ (Nat.le_of_ble_eq_true rfl) ⟨Nat.zero_le _, Nat.zero_le _⟩ dX8_perform_64 rfl (fun v23 M24 => ?_)
            refine x_istore (pc2 := 69) C dX8_perform_67 rfl [some (rv G this), none, some (.int b5.1), some (.int b5.2.1), some (.int b5.2.2), some (.int v23)] rfl rfl ?_
            refine x_iload (pc2 := 71) C dX8_perform_69 rfl rfl ?_
            refine x_if_ge (tgt := 88) (pc2 := 74) C dX8_perform_71 (by decide) rfl ?_ ?_
            · refine x_iload_n (pc2 := 89) C dX8_perform_88 rfl rfl ?_
              refine x_iload (pc2 := 91) C dX8_perform_89 rfl rfl ?_
              refine x_iadd (pc2 := 92) C dX8_perform_91 rfl ?_
              refine x_istore_n (pc2 := 93) C dX8_perform_92 rfl [some (rv G this), none, some (.int (b5.1 + v23)), some (.int b5.2.1), some (.int b5.2.2), some (.int v23)] rfl rfl ?_
              refine x_iload (pc2 := 95) C dX8_perform_93 rfl rfl ?_
              refine x_iconst (pc2 := 96) C dX8_perform_95 rfl ic_1 ?_
              refine x_iadd (pc2 := 97) C dX8_perform_96 rfl ?_
              refine x_istore_n (pc2 := 98) C dX8_perform_97 rfl [some (rv G this), none, some (.int (b5.1 + v23)), some (.int (b5.2.2 + 1)), some (.int b5.2.2), some (.int v23)] rfl rfl ?_
              exact x_wk [some (rv G this), none, some (.int (b5.1 + v23)), some (.int (b5.2.2 + 1)), some (.int b5.2.2), none] ⟨Or.inr rfl, Or.inl rfl, Or.inr rfl, Or.inr rfl, Or.inr rfl, Or.inl rfl, trivial⟩ (hj21 (b5.1 + v23, b5.2.2 + 1) _)
            · exact x_wk [some (rv G this), none, none, none, none, some (.int v23)] ⟨Or.inr rfl, Or.inl rfl, Or.inl rfl, Or.inl rfl, Or.inl rfl, Or.inr rfl, trivial⟩ (hk17 v23 _)
  · refine x_bipush (pc2 := 15) C dX8_perform_13 rfl bc_m100 ?_
    refine x_iload_n (pc2 := 16) C dX8_perform_15 rfl rfl ?_
    refine x_isub (pc2 := 17) C dX8_perform_16 rfl ?_
    exact x_iret C rfl rfl dX8_perform_17
set_option maxRecDepth 100000 in
set_option maxHeartbeats 4000000 in
theorem ctX8_type {l : Launch} {G : bkG} {M : Mem} {this : Nat} {a1 : Int32} (hk0 : kd this = 7) : ∀ r, fX8_type this a1 M = some r → Met l yX8_type (Cond.code yX8_type cX8_type 2 (some .int) :: TT) ({ frames := 1, cells := 0, slots := 0, locals := 21 } : Room) (va_Pc [rv G this, .int a1] (Wd G M)) (QQ G ((fun v => some (.int v)) r.1) r.2) 0 0 (An G) := by
  refine mkMet (vl := (fun v => some (.int v))) RX8 rfl (by decide +kernel) rfl (Nat.le_of_ble_eq_true rfl) [some (rv G this), some (.int a1)] rfl ?_
  intro p e s m args below meth c C _
  refine x_aload_n (pc2 := 1) C dX8_type_0 rfl rfl ?_
  refine x_get (pc2 := 4) C fl_X8_32 hk0 (by decide) rfl dX8_type_1 rfl ?_
  refine x_iload_n (pc2 := 5) C dX8_type_4 rfl rfl ?_
  refine x_callVi (pc2 := 8) C [.int a1] [] cl_X8_165 (fun q hq => ctX3_append (kf_7_4 hk0) q hq) (kf_7_4 hk0) rfl rfl rfl ⟨rfl, rfl, Nat.le_of_ble_eq_true rfl, Nat.le_of_ble_eq_true rfl⟩ (Nat.le_of_ble_eq_true rfl) ⟨Nat.zero_le _, Nat.zero_le _⟩ dX8_type_5 rfl (fun v1 M2 => ?_)
  refine x_if_eq (tgt := 21) (pc2 := 11) C dX8_type_8 (by decide) rfl ?_ ?_
  · refine x_bipush (pc2 := 23) C dX8_type_21 rfl bc_m3 ?_
    exact x_iret C rfl rfl dX8_type_23
  · refine x_aload_n (pc2 := 12) C dX8_type_11 rfl rfl ?_
    refine x_get (pc2 := 15) C fl_X8_32 hk0 (by decide) rfl dX8_type_12 rfl ?_
    refine x_get (pc2 := 18) C fl_X8_169 (kf_7_4 hk0) (by decide) rfl dX8_type_15 rfl ?_
    refine x_goto (tgt := 23) C dX8_type_18 (by decide) ?_
    exact x_iret C rfl rfl dX8_type_23
set_option maxRecDepth 100000 in
set_option maxHeartbeats 4000000 in
theorem ctX8_undo {l : Launch} {G : bkG} {M : Mem} {this : Nat} (hk0 : kd this = 7) : ∀ r, fX8_undo this M = some r → Met l yX8_undo (Cond.code yX8_undo cX8_undo 1 (some .int) :: TT) ({ frames := 5, cells := 0, slots := 0, locals := 112 } : Room) (va_Pc [rv G this] (Wd G M)) (QQ G ((fun v => some (.int v)) r.1) r.2) 0 0 (An G) := by
  refine mkMet (vl := (fun v => some (.int v))) RX8 rfl (by decide +kernel) rfl (Nat.le_of_ble_eq_true rfl) [some (rv G this)] rfl ?_
  intro p e s m args below meth c C _
  refine x_aload_n (pc2 := 1) C dX8_undo_0 rfl rfl ?_
  refine x_get (pc2 := 4) C fl_X8_25 hk0 (by decide) rfl dX8_undo_1 rfl ?_
  refine x_get (pc2 := 7) C fl_X8_191 (kf_7_3 hk0) (by decide) rfl dX8_undo_4 rfl ?_
  refine x_if_ne (tgt := 13) (pc2 := 10) C dX8_undo_7 (by decide) rfl ?_ ?_
  · refine x_aload_n (pc2 := 14) C dX8_undo_13 rfl rfl ?_
    refine x_get (pc2 := 17) C fl_X8_25 hk0 (by decide) rfl dX8_undo_14 rfl ?_
    refine x_aload_n (pc2 := 18) C dX8_undo_17 rfl rfl ?_
    refine x_get (pc2 := 21) C fl_X8_12 hk0 (by decide) rfl dX8_undo_18 rfl ?_
    refine x_callVv (pc2 := 24) C [rv G (this + 1)] [] cl_X8_194 (fun q hq => ctX2_takeBack (kf_7_3 hk0) (kf_7_0 hk0) q hq) (kf_7_3 hk0) rfl rfl rfl ⟨rfl, rfl, Nat.le_of_ble_eq_true rfl, Nat.le_of_ble_eq_true rfl⟩ (Nat.le_of_ble_eq_true rfl) ⟨Nat.zero_le _, Nat.zero_le _⟩ dX8_undo_21 rfl (fun v1 M2 => ?_)
    refine x_aload_n (pc2 := 25) C dX8_undo_24 rfl rfl ?_
    refine x_get (pc2 := 28) C fl_X8_25 hk0 (by decide) rfl dX8_undo_25 rfl ?_
    refine x_get (pc2 := 31) C fl_X8_191 (kf_7_3 hk0) (by decide) rfl dX8_undo_28 rfl ?_
    exact x_iret C rfl rfl dX8_undo_31
  · refine x_bipush (pc2 := 12) C dX8_undo_10 rfl bc_m5 ?_
    exact x_iret C rfl rfl dX8_undo_12
set_option maxRecDepth 100000 in
set_option maxHeartbeats 4000000 in
theorem ctX8_ghostsBy {l : Launch} {G : bkG} {M : Mem} {this : Nat} {a1 : Int32} (hk0 : kd this = 7) : ∀ r, fX8_ghostsBy this a1 M = some r → Met l yX8_ghostsBy (Cond.code yX8_ghostsBy cX8_ghostsBy 3 (some .int) :: TT) ({ frames := 4, cells := 0, slots := 0, locals := 96 } : Room) (va_Pc [rv G this, .int a1] (Wd G M)) (QQ G ((fun v => some (.int v)) r.1) r.2) 0 0 (An G) := by
  refine mkMet (vl := (fun v => some (.int v))) RX8 rfl (by decide +kernel) rfl (Nat.le_of_ble_eq_true rfl) [some (rv G this), some (.int a1), none] rfl ?_
  intro p e s m args below meth c C _
  refine x_aload_n (pc2 := 1) C dX8_ghostsBy_0 rfl rfl ?_
  refine x_get (pc2 := 4) C fl_X8_12 hk0 (by decide) rfl dX8_ghostsBy_1 rfl ?_
  refine x_get (pc2 := 7) C fl_X8_40 (kf_7_0 hk0) (by decide) rfl dX8_ghostsBy_4 rfl ?_
  refine x_astore_n (pc2 := 8) C dX8_ghostsBy_7 rfl [some (rv G this), some (.int a1), some (rv G ((this + 1) + 1))] rfl rfl ?_
  refine x_aload_n (pc2 := 9) C dX8_ghostsBy_8 rfl rfl ?_
  refine x_iload_n (pc2 := 10) C dX8_ghostsBy_9 rfl rfl ?_
  refine x_callVi (pc2 := 13) C [.int a1] [] cl_X8_71 (fun q hq => ctX0_has (kf_4_0 (kf_7_0 hk0)) q hq) (kf_4_0 (kf_7_0 hk0)) rfl rfl rfl ⟨rfl, rfl, Nat.le_of_ble_eq_true rfl, Nat.le_of_ble_eq_true rfl⟩ (Nat.le_of_ble_eq_true rfl) ⟨Nat.zero_le _, Nat.zero_le _⟩ dX8_ghostsBy_10 rfl (fun v1 M2 => ?_)
  refine x_if_ne (tgt := 18) (pc2 := 16) C dX8_ghostsBy_13 (by decide) rfl ?_ ?_
  · refine x_bipush (pc2 := 20) C dX8_ghostsBy_18 rfl bc_100 ?_
    refine x_aload_n (pc2 := 21) C dX8_ghostsBy_20 rfl rfl ?_
    refine x_iload_n (pc2 := 22) C dX8_ghostsBy_21 rfl rfl ?_
    refine x_iconst (pc2 := 23) C dX8_ghostsBy_22 rfl ic_m1 ?_
    refine x_callVi (pc2 := 26) C [.int a1, .int (-1)] [.int 100] cl_X8_271 (fun q hq => ctX0_ghostsBeside (kf_4_0 (kf_7_0 hk0)) q hq) (kf_4_0 (kf_7_0 hk0)) rfl rfl rfl ⟨rfl, rfl, Nat.le_of_ble_eq_true rfl, Nat.le_of_ble_eq_true rfl⟩ (Nat.le_of_ble_eq_true rfl) ⟨Nat.zero_le _, Nat.zero_le _⟩ dX8_ghostsBy_23 rfl (fun v3 M4 => ?_)
    refine x_iadd (pc2 := 27) C dX8_ghostsBy_26 rfl ?_
    refine x_aload_n (pc2 := 28) C dX8_ghostsBy_27 rfl rfl ?_
    refine x_iload_n (pc2 := 29) C dX8_ghostsBy_28 rfl rfl ?_
    refine x_iload_n (pc2 := 30) C dX8_ghostsBy_29 rfl rfl ?_
    refine x_callVi (pc2 := 33) C [.int a1, .int a1] [.int (100 + v3)] cl_X8_271 (fun q hq => ctX0_ghostsBeside (kf_4_0 (kf_7_0 hk0)) q hq) (kf_4_0 (kf_7_0 hk0)) rfl rfl rfl ⟨rfl, rfl, Nat.le_of_ble_eq_true rfl, Nat.le_of_ble_eq_true rfl⟩ (Nat.le_of_ble_eq_true rfl) ⟨Nat.zero_le _, Nat.zero_le _⟩ dX8_ghostsBy_30 rfl (fun v5 M6 => ?_)
    refine x_isub (pc2 := 34) C dX8_ghostsBy_33 rfl ?_
    exact x_iret C rfl rfl dX8_ghostsBy_34
  · refine x_iconst (pc2 := 17) C dX8_ghostsBy_16 rfl ic_m1 ?_
    exact x_iret C rfl rfl dX8_ghostsBy_17
set_option maxRecDepth 100000 in
set_option maxHeartbeats 4000000 in
theorem ctX8_verdict {l : Launch} {G : bkG} {M : Mem} {this : Nat} {a1 : Int32} (hk0 : kd this = 7) : ∀ r, fX8_verdict this a1 M = some r → Met l yX8_verdict (Cond.code yX8_verdict cX8_verdict 2 (some .int) :: TT) ({ frames := 3, cells := 0, slots := 0, locals := 71 } : Room) (va_Pc [rv G this, .int a1] (Wd G M)) (QQ G ((fun v => some (.int v)) r.1) r.2) 0 0 (An G) := by
  refine mkMet (vl := (fun v => some (.int v))) RX8 rfl (by decide +kernel) rfl (Nat.le_of_ble_eq_true rfl) [some (rv G this), some (.int a1)] rfl ?_
  intro p e s m args below meth c C _
  refine x_aload_n (pc2 := 1) C dX8_verdict_0 rfl rfl ?_
  refine x_get (pc2 := 4) C fl_X8_12 hk0 (by decide) rfl dX8_verdict_1 rfl ?_
  refine x_get (pc2 := 7) C fl_X8_40 (kf_7_0 hk0) (by decide) rfl dX8_verdict_4 rfl ?_
  refine x_iload_n (pc2 := 8) C dX8_verdict_7 rfl rfl ?_
  refine x_callVi (pc2 := 11) C [.int a1] [] cl_X8_71 (fun q hq => ctX0_has (kf_4_0 (kf_7_0 hk0)) q hq) (kf_4_0 (kf_7_0 hk0)) rfl rfl rfl ⟨rfl, rfl, Nat.le_of_ble_eq_true rfl, Nat.le_of_ble_eq_true rfl⟩ (Nat.le_of_ble_eq_true rfl) ⟨Nat.zero_le _, Nat.zero_le _⟩ dX8_verdict_8 rfl (fun v1 M2 => ?_)
  refine x_if_ne (tgt := 16) (pc2 := 14) C dX8_verdict_11 (by decide) rfl ?_ ?_
  · refine x_aload_n (pc2 := 17) C dX8_verdict_16 rfl rfl ?_
    refine x_get (pc2 := 20) C fl_X8_12 hk0 (by decide) rfl dX8_verdict_17 rfl ?_
    refine x_get (pc2 := 23) C fl_X8_40 (kf_7_0 hk0) (by decide) rfl dX8_verdict_20 rfl ?_
    refine x_iload_n (pc2 := 24) C dX8_verdict_23 rfl rfl ?_
    refine x_callVi (pc2 := 27) C [.int a1] [] cl_X8_206 (fun q hq => ctX0_isSeen (kf_4_0 (kf_7_0 hk0)) q hq) (kf_4_0 (kf_7_0 hk0)) rfl rfl rfl ⟨rfl, rfl, Nat.le_of_ble_eq_true rfl, Nat.le_of_ble_eq_true rfl⟩ (Nat.le_of_ble_eq_true rfl) ⟨Nat.zero_le _, Nat.zero_le _⟩ dX8_verdict_24 rfl (fun v3 M4 => ?_)
    refine x_if_eq (tgt := 41) (pc2 := 30) C dX8_verdict_27 (by decide) rfl ?_ ?_
    · refine x_bipush (pc2 := 43) C dX8_verdict_41 rfl bc_m5 ?_
      exact x_iret C rfl rfl dX8_verdict_43
    · refine x_aload_n (pc2 := 31) C dX8_verdict_30 rfl rfl ?_
      refine x_get (pc2 := 34) C fl_X8_12 hk0 (by decide) rfl dX8_verdict_31 rfl ?_
      refine x_iload_n (pc2 := 35) C dX8_verdict_34 rfl rfl ?_
      refine x_callVi (pc2 := 38) C [.int a1] [] cl_X8_268 (fun q hq => ctX5_fateNow (kf_7_0 hk0) q hq) (kf_7_0 hk0) rfl rfl rfl ⟨rfl, rfl, Nat.le_of_ble_eq_true rfl, Nat.le_of_ble_eq_true rfl⟩ (Nat.le_of_ble_eq_true rfl) ⟨Nat.zero_le _, Nat.zero_le _⟩ dX8_verdict_35 rfl (fun v5 M6 => ?_)
      refine x_goto (tgt := 43) C dX8_verdict_38 (by decide) ?_
      exact x_iret C rfl rfl dX8_verdict_43
  · refine x_iconst (pc2 := 15) C dX8_verdict_14 rfl ic_m1 ?_
    exact x_iret C rfl rfl dX8_verdict_15
set_option maxRecDepth 100000 in
set_option maxHeartbeats 4000000 in
theorem ctX8_stroke {l : Launch} {G : bkG} {M : Mem} {this : Nat} {a1 : Int32} {a2 : Int32} (hk0 : kd this = 7) : ∀ r, fX8_stroke this a1 a2 M = some r → Met l yX8_stroke (Cond.code yX8_stroke cX8_stroke 5 (some .int) :: TT) ({ frames := 2, cells := 0, slots := 0, locals := 42 } : Room) (va_Pc [rv G this, .int a1, .int a2] (Wd G M)) (QQ G ((fun v => some (.int v)) r.1) r.2) 0 0 (An G) := by
  refine mkMet (vl := (fun v => some (.int v))) RX8 rfl (by decide +kernel) rfl (Nat.le_of_ble_eq_true rfl) [some (rv G this), some (.int a1), some (.int a2), none, none] rfl ?_
  intro p e s m args below meth c C _
  refine x_iload_n (pc2 := 1) C dX8_stroke_0 rfl rfl ?_
  refine x_if_lt (tgt := 13) (pc2 := 4) C dX8_stroke_1 (by decide) rfl ?_ ?_
  · refine x_bipush (pc2 := 15) C dX8_stroke_13 rfl bc_m2 ?_
    exact x_iret C rfl rfl dX8_stroke_15
  · refine x_iload_n (pc2 := 5) C dX8_stroke_4 rfl rfl ?_
    refine x_if_lt (tgt := 13) (pc2 := 8) C dX8_stroke_5 (by decide) rfl ?_ ?_
    · refine x_bipush (pc2 := 15) C dX8_stroke_13 rfl bc_m2 ?_
      exact x_iret C rfl rfl dX8_stroke_15
    · refine x_iload_n (pc2 := 9) C dX8_stroke_8 rfl rfl ?_
      refine x_iconst (pc2 := 10) C dX8_stroke_9 rfl ic_5 ?_
      refine x_icmp_le (tgt := 16) (pc2 := 13) C dX8_stroke_10 (by decide) rfl ?_ ?_
      · refine x_aload_n (pc2 := 17) C dX8_stroke_16 rfl rfl ?_
        refine x_get (pc2 := 20) C fl_X8_12 hk0 (by decide) rfl dX8_stroke_17 rfl ?_
        refine x_get (pc2 := 23) C fl_X8_251 (kf_7_0 hk0) (by decide) rfl dX8_stroke_20 rfl ?_
        refine x_astore_n (pc2 := 24) C dX8_stroke_23 rfl [some (rv G this), some (.int a1), some (.int a2), some (rv G ((this + 1) + 15)), none] rfl rfl ?_
        refine x_iload_n (pc2 := 25) C dX8_stroke_24 rfl rfl ?_
        refine x_aload_n (pc2 := 26) C dX8_stroke_25 rfl rfl ?_
        refine x_get (pc2 := 29) C fl_X8_254 (kf_4_3 (kf_7_0 hk0)) (by decide) rfl dX8_stroke_26 rfl ?_
        refine x_icmp_ge (tgt := 38) (pc2 := 32) C dX8_stroke_29 (by decide) rfl ?_ ?_
        · refine x_bipush (pc2 := 40) C dX8_stroke_38 rfl bc_m5 ?_
          exact x_iret C rfl rfl dX8_stroke_40
        · refine x_iload_n (pc2 := 33) C dX8_stroke_32 rfl rfl ?_
          refine x_bipush (pc2 := 35) C dX8_stroke_33 rfl bc_16 ?_
          refine x_icmp_lt (tgt := 41) (pc2 := 38) C dX8_stroke_35 (by decide) rfl ?_ ?_
          · refine x_aload_n (pc2 := 42) C dX8_stroke_41 rfl rfl ?_
            refine x_get (pc2 := 45) C fl_X8_254 (kf_4_3 (kf_7_0 hk0)) (by decide) rfl dX8_stroke_42 rfl ?_
            refine x_iconst (pc2 := 46) C dX8_stroke_45 rfl ic_1 ?_
            refine x_isub (pc2 := 47) C dX8_stroke_46 rfl ?_
            refine x_iload_n (pc2 := 48) C dX8_stroke_47 rfl rfl ?_
            refine x_isub (pc2 := 49) C dX8_stroke_48 rfl ?_
            refine x_topi (fun v1 => ?_)
            refine x_istore (pc2 := 51) C dX8_stroke_49 rfl [some (rv G this), some (.int a1), some (.int a2), some (rv G ((this + 1) + 15)), some (.int v1)] rfl rfl ?_
            refine x_iload_n (pc2 := 52) C dX8_stroke_51 rfl rfl ?_
            refine x_ite (fun hs2 => ?_) (fun hs2 => ?_)
            · refine x_tin (tgt := 88) C hs2 dX8_stroke_52 (by decide) (by decide) rfl (by decide) ?_
              refine x_aload_n (pc2 := 89) C dX8_stroke_88 rfl rfl ?_
              refine x_iload (pc2 := 91) C dX8_stroke_89 rfl rfl ?_
              refine x_callVi (pc2 := 94) C [.int v1] [] cl_X8_162 (fun q hq => ctX6_keyOf (kf_4_3 (kf_7_0 hk0)) q hq) (kf_4_3 (kf_7_0 hk0)) rfl rfl rfl ⟨rfl, rfl, Nat.le_of_ble_eq_true rfl, Nat.le_of_ble_eq_true rfl⟩ (Nat.le_of_ble_eq_true rfl) ⟨Nat.zero_le _, Nat.zero_le _⟩ dX8_stroke_91 rfl (fun v3 M4 => ?_)
              exact x_iret C rfl rfl dX8_stroke_94
            · refine x_ite (fun hs5 => ?_) (fun hs5 => ?_)
              · refine x_tin (tgt := 95) C hs5 dX8_stroke_52 (by decide) (by decide) rfl (by decide) ?_
                refine x_aload_n (pc2 := 96) C dX8_stroke_95 rfl rfl ?_
                refine x_iload (pc2 := 98) C dX8_stroke_96 rfl rfl ?_
                refine x_callVi (pc2 := 101) C [.int v1] [] cl_X8_257 (fun q hq => ctX6_sinceOf (kf_4_3 (kf_7_0 hk0)) q hq) (kf_4_3 (kf_7_0 hk0)) rfl rfl rfl ⟨rfl, rfl, Nat.le_of_ble_eq_true rfl, Nat.le_of_ble_eq_true rfl⟩ (Nat.le_of_ble_eq_true rfl) ⟨Nat.zero_le _, Nat.zero_le _⟩ dX8_stroke_98 rfl (fun v6 M7 => ?_)
                exact x_iret C rfl rfl dX8_stroke_101
              · refine x_ite (fun hs8 => ?_) (fun hs8 => ?_)
                · refine x_tin (tgt := 102) C hs8 dX8_stroke_52 (by decide) (by decide) rfl (by decide) ?_
                  refine x_aload_n (pc2 := 103) C dX8_stroke_102 rfl rfl ?_
                  refine x_iload (pc2 := 105) C dX8_stroke_103 rfl rfl ?_
                  refine x_callVi (pc2 := 108) C [.int v1] [] cl_X8_258 (fun q hq => ctX6_dwellOf (kf_4_3 (kf_7_0 hk0)) q hq) (kf_4_3 (kf_7_0 hk0)) rfl rfl rfl ⟨rfl, rfl, Nat.le_of_ble_eq_true rfl, Nat.le_of_ble_eq_true rfl⟩ (Nat.le_of_ble_eq_true rfl) ⟨Nat.zero_le _, Nat.zero_le _⟩ dX8_stroke_105 rfl (fun v9 M10 => ?_)
                  exact x_iret C rfl rfl dX8_stroke_108
                · refine x_ite (fun hs11 => ?_) (fun hs11 => ?_)
                  · refine x_tin (tgt := 109) C hs11 dX8_stroke_52 (by decide) (by decide) rfl (by decide) ?_
                    refine x_aload_n (pc2 := 110) C dX8_stroke_109 rfl rfl ?_
                    refine x_iload (pc2 := 112) C dX8_stroke_110 rfl rfl ?_
                    refine x_callVi (pc2 := 115) C [.int v1] [] cl_X8_154 (fun q hq => ctX6_fateOf (kf_4_3 (kf_7_0 hk0)) q hq) (kf_4_3 (kf_7_0 hk0)) rfl rfl rfl ⟨rfl, rfl, Nat.le_of_ble_eq_true rfl, Nat.le_of_ble_eq_true rfl⟩ (Nat.le_of_ble_eq_true rfl) ⟨Nat.zero_le _, Nat.zero_le _⟩ dX8_stroke_112 rfl (fun v12 M13 => ?_)
                    exact x_iret C rfl rfl dX8_stroke_115
                  · refine x_ite (fun hs14 => ?_) (fun hs14 => ?_)
                    · refine x_tin (tgt := 116) C hs14 dX8_stroke_52 (by decide) (by decide) rfl (by decide) ?_
                      refine x_aload_n (pc2 := 117) C dX8_stroke_116 rfl rfl ?_
                      refine x_iload (pc2 := 119) C dX8_stroke_117 rfl rfl ?_
                      refine x_callVi (pc2 := 122) C [.int v1] [] cl_X8_261 (fun q hq => ctX6_holderOf (kf_4_3 (kf_7_0 hk0)) q hq) (kf_4_3 (kf_7_0 hk0)) rfl rfl rfl ⟨rfl, rfl, Nat.le_of_ble_eq_true rfl, Nat.le_of_ble_eq_true rfl⟩ (Nat.le_of_ble_eq_true rfl) ⟨Nat.zero_le _, Nat.zero_le _⟩ dX8_stroke_119 rfl (fun v15 M16 => ?_)
                      refine x_callSi (pc2 := 125) C [.int v15] [] cl_X8_203 (fun q hq => ctX8_orNone  q hq) rfl rfl ⟨rfl, rfl, Nat.le_of_ble_eq_true rfl, Nat.le_of_ble_eq_true rfl⟩ (Nat.le_of_ble_eq_true rfl) ⟨Nat.zero_le _, Nat.zero_le _⟩ dX8_stroke_122 rfl (fun v17 M18 => ?_)
                      exact x_iret C rfl rfl dX8_stroke_125
                    · refine x_tout (tgt := 126) C dX8_stroke_52 (by have t0 := lv_neT (a := 0) hs2 rfl; have t1 := lv_neT (a := 1) hs5 rfl; have t2 := lv_neT (a := 2) hs8 rfl; have t3 := lv_neT (a := 3) hs11 rfl; have t4 := lv_neT (a := 4) hs14 rfl; omega) (by decide) ?_
                      refine x_aload_n (pc2 := 127) C dX8_stroke_126 rfl rfl ?_
                      refine x_iload (pc2 := 129) C dX8_stroke_127 rfl rfl ?_
                      refine x_callVi (pc2 := 132) C [.int v1] [] cl_X8_262 (fun q hq => ctX6_notedOf (kf_4_3 (kf_7_0 hk0)) q hq) (kf_4_3 (kf_7_0 hk0)) rfl rfl rfl ⟨rfl, rfl, Nat.le_of_ble_eq_true rfl, Nat.le_of_ble_eq_true rfl⟩ (Nat.le_of_ble_eq_true rfl) ⟨Nat.zero_le _, Nat.zero_le _⟩ dX8_stroke_129 rfl (fun v19 M20 => ?_)
                      exact x_iret C rfl rfl dX8_stroke_132
          · refine x_bipush (pc2 := 40) C dX8_stroke_38 rfl bc_m5 ?_
            exact x_iret C rfl rfl dX8_stroke_40
      · refine x_bipush (pc2 := 15) C dX8_stroke_13 rfl bc_m2 ?_
        exact x_iret C rfl rfl dX8_stroke_15
set_option maxRecDepth 100000 in
set_option maxHeartbeats 4000000 in
theorem ctX8_typed {l : Launch} {G : bkG} {M : Mem} {this : Nat} {a1 : Int32} {a2 : Int32} (hk0 : kd this = 7) : ∀ r, fX8_typed this a1 a2 M = some r → Met l yX8_typed (Cond.code yX8_typed cX8_typed 4 (some .int) :: TT) ({ frames := 2, cells := 0, slots := 0, locals := 43 } : Room) (va_Pc [rv G this, .int a1, .int a2] (Wd G M)) (QQ G ((fun v => some (.int v)) r.1) r.2) 0 0 (An G) := by
  refine mkMet (vl := (fun v => some (.int v))) RX8 rfl (by decide +kernel) rfl (Nat.le_of_ble_eq_true rfl) [some (rv G this), some (.int a1), some (.int a2), none] rfl ?_
  intro p e s m args below meth c C _
  refine x_iload_n (pc2 := 1) C dX8_typed_0 rfl rfl ?_
  refine x_callSi (pc2 := 4) C [.int a1] [] cl_X8_86 (fun q hq => ctX5_isTypist  q hq) rfl rfl ⟨rfl, rfl, Nat.le_of_ble_eq_true rfl, Nat.le_of_ble_eq_true rfl⟩ (Nat.le_of_ble_eq_true rfl) ⟨Nat.zero_le _, Nat.zero_le _⟩ dX8_typed_1 rfl (fun v1 M2 => ?_)
  refine x_if_ne (tgt := 9) (pc2 := 7) C dX8_typed_4 (by decide) rfl ?_ ?_
  · refine x_iload_n (pc2 := 10) C dX8_typed_9 rfl rfl ?_
    refine x_if_ge (tgt := 16) (pc2 := 13) C dX8_typed_10 (by decide) rfl ?_ ?_
    · refine x_aload_n (pc2 := 17) C dX8_typed_16 rfl rfl ?_
      refine x_get (pc2 := 20) C fl_X8_12 hk0 (by decide) rfl dX8_typed_17 rfl ?_
      refine x_iload_n (pc2 := 21) C dX8_typed_20 rfl rfl ?_
      refine x_callVr (pc2 := 24) C [.int a1] [] cl_X8_95 (fun q hq => ctX5_typistOf (kf_7_0 hk0) q hq) (kf_7_0 hk0) rfl rfl rfl ⟨rfl, rfl, Nat.le_of_ble_eq_true rfl, Nat.le_of_ble_eq_true rfl⟩ (Nat.le_of_ble_eq_true rfl) ⟨Nat.zero_le _, Nat.zero_le _⟩ dX8_typed_21 rfl (fun v3 M4 => ?_)
      refine x_asr (fun hq5 => ?_)
      refine x_astore_n (pc2 := 25) C dX8_typed_24 rfl [some (rv G this), some (.int a1), some (.int a2), some (rv G v3)] rfl rfl ?_
      refine x_iload_n (pc2 := 26) C dX8_typed_25 rfl rfl ?_
      refine x_aload_n (pc2 := 27) C dX8_typed_26 rfl rfl ?_
      refine x_get (pc2 := 30) C fl_X8_233 (of_decide_eq_true hq5) (by decide) rfl dX8_typed_27 rfl ?_
      refine x_icmp_ge (tgt := 39) (pc2 := 33) C dX8_typed_30 (by decide) rfl ?_ ?_
      · refine x_bipush (pc2 := 41) C dX8_typed_39 rfl bc_m5 ?_
        exact x_iret C rfl rfl dX8_typed_41
      · refine x_iload_n (pc2 := 34) C dX8_typed_33 rfl rfl ?_
        refine x_bipush (pc2 := 36) C dX8_typed_34 rfl bc_24 ?_
        refine x_icmp_lt (tgt := 42) (pc2 := 39) C dX8_typed_36 (by decide) rfl ?_ ?_
        · refine x_aload_n (pc2 := 43) C dX8_typed_42 rfl rfl ?_
          refine x_iload_n (pc2 := 44) C dX8_typed_43 rfl rfl ?_
          refine x_callVi (pc2 := 47) C [.int a2] [] cl_X8_248 (fun q hq => ctX7_signBack (of_decide_eq_true hq5) q hq) (of_decide_eq_true hq5) rfl rfl rfl ⟨rfl, rfl, Nat.le_of_ble_eq_true rfl, Nat.le_of_ble_eq_true rfl⟩ (Nat.le_of_ble_eq_true rfl) ⟨Nat.zero_le _, Nat.zero_le _⟩ dX8_typed_44 rfl (fun v6 M7 => ?_)
          exact x_iret C rfl rfl dX8_typed_47
        · refine x_bipush (pc2 := 41) C dX8_typed_39 rfl bc_m5 ?_
          exact x_iret C rfl rfl dX8_typed_41
    · refine x_bipush (pc2 := 15) C dX8_typed_13 rfl bc_m2 ?_
      exact x_iret C rfl rfl dX8_typed_15
  · refine x_iconst (pc2 := 8) C dX8_typed_7 rfl ic_m1 ?_
    exact x_iret C rfl rfl dX8_typed_8
set_option maxRecDepth 100000 in
set_option maxHeartbeats 4000000 in
theorem ctX8_restore {l : Launch} {G : bkG} {M : Mem} {this : Nat} (hk0 : kd this = 7) : ∀ r, fX8_restore this M = some r → Met l yX8_restore (Cond.code yX8_restore cX8_restore 1 (some .int) :: TT) ({ frames := 5, cells := 0, slots := 0, locals := 112 } : Room) (va_Pc [rv G this] (Wd G M)) (QQ G ((fun v => some (.int v)) r.1) r.2) 0 0 (An G) := by
  refine mkMet (vl := (fun v => some (.int v))) RX8 rfl (by decide +kernel) rfl (Nat.le_of_ble_eq_true rfl) [some (rv G this)] rfl ?_
  intro p e s m args below meth c C _
  refine x_aload_n (pc2 := 1) C dX8_restore_0 rfl rfl ?_
  refine x_get (pc2 := 4) C fl_X8_36 hk0 (by decide) rfl dX8_restore_1 rfl ?_
  refine x_if_ne (tgt := 10) (pc2 := 7) C dX8_restore_4 (by decide) rfl ?_ ?_
  · refine x_aload_n (pc2 := 11) C dX8_restore_10 rfl rfl ?_
    refine x_get (pc2 := 14) C fl_X8_25 hk0 (by decide) rfl dX8_restore_11 rfl ?_
    refine x_aload_n (pc2 := 15) C dX8_restore_14 rfl rfl ?_
    refine x_get (pc2 := 18) C fl_X8_12 hk0 (by decide) rfl dX8_restore_15 rfl ?_
    refine x_callVv (pc2 := 21) C [rv G (this + 1)] [] cl_X8_60 (fun q hq => ctX2_remember (kf_7_3 hk0) (kf_7_0 hk0) q hq) (kf_7_3 hk0) rfl rfl rfl ⟨rfl, rfl, Nat.le_of_ble_eq_true rfl, Nat.le_of_ble_eq_true rfl⟩ (Nat.le_of_ble_eq_true rfl) ⟨Nat.zero_le _, Nat.zero_le _⟩ dX8_restore_18 rfl (fun v1 M2 => ?_)
    refine x_aload_n (pc2 := 22) C dX8_restore_21 rfl rfl ?_
    refine x_get (pc2 := 25) C fl_X8_12 hk0 (by decide) rfl dX8_restore_22 rfl ?_
    refine x_aload_n (pc2 := 26) C dX8_restore_25 rfl rfl ?_
    refine x_get (pc2 := 29) C fl_X8_19 hk0 (by decide) rfl dX8_restore_26 rfl ?_
    refine x_callVv (pc2 := 32) C [rv G (this + 67)] [] cl_X8_175 (fun q hq => ctX5_copyFrom (kf_7_0 hk0) (kf_7_2 hk0) q hq) (kf_7_0 hk0) rfl rfl rfl ⟨rfl, rfl, Nat.le_of_ble_eq_true rfl, Nat.le_of_ble_eq_true rfl⟩ (Nat.le_of_ble_eq_true rfl) ⟨Nat.zero_le _, Nat.zero_le _⟩ dX8_restore_29 rfl (fun v3 M4 => ?_)
    refine x_aload_n (pc2 := 33) C dX8_restore_32 rfl rfl ?_
    refine x_get (pc2 := 36) C fl_X8_12 hk0 (by decide) rfl dX8_restore_33 rfl ?_
    refine x_get (pc2 := 39) C fl_X8_197 (kf_7_0 hk0) (by decide) rfl dX8_restore_36 rfl ?_
    exact x_iret C rfl rfl dX8_restore_39
  · refine x_bipush (pc2 := 9) C dX8_restore_7 rfl bc_m5 ?_
    exact x_iret C rfl rfl dX8_restore_9
