/-- the words of the tables that a callee may be handed -/
def TT : List Cond := lw_tbl.filter goodWord
theorem TTm {w : Cond} (h : w ∈ lw_tbl) (g : goodWord w = true) : w ∈ TT := List.mem_filter.mpr ⟨h, g⟩
theorem TTs {w : Cond} (h : w ∈ TT) : w ∈ lw_tbl := (List.mem_filter.mp h).1
theorem TTg : GoodIn TT TT := fun w h => ⟨h, good_of_word (List.mem_filter.mp h).2⟩
theorem t0_in {w : Cond} (h : w ∈ k2_sels lw_privs) (g : goodWord w = true) : w ∈ TT := TTm (List.mem_append_left _ h) g
theorem t1_in {w : Cond} (h : w ∈ tables_1_1) (g : goodWord w = true) : w ∈ TT := TTm (List.mem_append_right _ (List.mem_append_left _ h)) g
theorem t2_in {w : Cond} (h : w ∈ tables_1_2) (g : goodWord w = true) : w ∈ TT := TTm (List.mem_append_right _ (List.mem_append_right _ (List.mem_append_left _ h))) g
theorem t3_in {w : Cond} (h : w ∈ tables_1_3) (g : goodWord w = true) : w ∈ TT := TTm (List.mem_append_right _ (List.mem_append_right _ (List.mem_append_right _ (List.mem_append_left _ h)))) g
theorem t4_in {w : Cond} (h : w ∈ tables_1_4) (g : goodWord w = true) : w ∈ TT := TTm (List.mem_append_right _ (List.mem_append_right _ (List.mem_append_right _ (List.mem_append_right _ (List.mem_append_left _ h))))) g
theorem t5_in {w : Cond} (h : w ∈ tables_1_5) (g : goodWord w = true) : w ∈ TT := TTm (List.mem_append_right _ (List.mem_append_right _ (List.mem_append_right _ (List.mem_append_right _ (List.mem_append_right _ h))))) g
theorem wt1_0 : Cond.initialized RL ∈ TT := t1_in (List.mem_of_getElem? (i := 0) rfl) rfl
theorem wt1_1 : Cond.initialized RX8 ∈ TT := t1_in (List.mem_of_getElem? (i := 1) rfl) rfl
theorem wt1_2 : Cond.initialized RX5 ∈ TT := t1_in (List.mem_of_getElem? (i := 2) rfl) rfl
theorem wt1_3 : Cond.initialized RX0 ∈ TT := t1_in (List.mem_of_getElem? (i := 3) rfl) rfl
theorem wt1_4 : Cond.initialized RJ7 ∈ TT := t1_in (List.mem_of_getElem? (i := 4) rfl) rfl
theorem wt1_5 : Cond.initialized RX7 ∈ TT := t1_in (List.mem_of_getElem? (i := 5) rfl) rfl
theorem wt1_6 : Cond.initialized RX6 ∈ TT := t1_in (List.mem_of_getElem? (i := 6) rfl) rfl
theorem wt1_7 : Cond.initialized RX4 ∈ TT := t1_in (List.mem_of_getElem? (i := 7) rfl) rfl
theorem wt1_8 : Cond.initialized RX2 ∈ TT := t1_in (List.mem_of_getElem? (i := 8) rfl) rfl
theorem wt1_9 : Cond.initialized RX3 ∈ TT := t1_in (List.mem_of_getElem? (i := 9) rfl) rfl
theorem wt1_10 : Cond.initialized RX9 ∈ TT := t1_in (List.mem_of_getElem? (i := 10) rfl) rfl
theorem wt1_11 : Cond.initialized RX1 ∈ TT := t1_in (List.mem_of_getElem? (i := 11) rfl) rfl
theorem wt1_12 : Cond.initialized RJxd2413 ∈ TT := t1_in (List.mem_of_getElem? (i := 12) rfl) rfl
theorem wt1_13 : Cond.initialized RJ6 ∈ TT := t1_in (List.mem_of_getElem? (i := 13) rfl) rfl
theorem wt1_14 : Cond.initialized RJ9 ∈ TT := t1_in (List.mem_of_getElem? (i := 14) rfl) rfl
theorem wt1_15 : Cond.initialized RJ10 ∈ TT := t1_in (List.mem_of_getElem? (i := 15) rfl) rfl
theorem wt1_16 : Cond.initialized RJxf58ca ∈ TT := t1_in (List.mem_of_getElem? (i := 16) rfl) rfl
theorem wt1_17 : Cond.classLink RL 7 RX8 ∈ TT := t1_in (List.mem_of_getElem? (i := 17) rfl) rfl
theorem wt1_18 : Cond.instantiable RX8 6 ∈ TT := t1_in (List.mem_of_getElem? (i := 18) rfl) rfl
theorem wt1_19 : Cond.methodLink RL 9 yX8_init ∈ TT := t1_in (List.mem_of_getElem? (i := 19) rfl) rfl
theorem wt1_20 : Cond.instanceMethod yX8_init ∈ TT := t1_in (List.mem_of_getElem? (i := 20) rfl) rfl
theorem wt1_21 : Cond.code yX8_init cX8_init 1 none ∈ TT := t1_in (List.mem_of_getElem? (i := 21) rfl) rfl
theorem wt1_22 : Cond.methodLink RX8 3 ⟨"java/lang/Object", "<init>", "()V"⟩ ∈ TT := t1_in (List.mem_of_getElem? (i := 22) rfl) rfl
theorem wt1_23 : Cond.instanceMethod ⟨"java/lang/Object", "<init>", "()V"⟩ ∈ TT := t1_in (List.mem_of_getElem? (i := 23) rfl) rfl
theorem wt1_24 : Cond.code ⟨"java/lang/Object", "<init>", "()V"⟩ object_method_1_code 1 none ∈ TT := t1_in (List.mem_of_getElem? (i := 24) rfl) rfl
theorem wt1_25 : Cond.classLink RX8 9 RX5 ∈ TT := t1_in (List.mem_of_getElem? (i := 25) rfl) rfl
theorem wt1_26 : Cond.instantiable RX5 10 ∈ TT := t1_in (List.mem_of_getElem? (i := 26) rfl) rfl
theorem wn1_27 : Cond.methodLinkNest RX8 11 yX5_init RX8 ∈ lw_tbl := (fun h => List.mem_append_right _ (List.mem_append_left _ h)) (List.mem_of_getElem? (l := tables_1_1) (i := 27) rfl)
theorem wt1_28 : Cond.instanceMethod yX5_init ∈ TT := t1_in (List.mem_of_getElem? (i := 28) rfl) rfl
theorem wt1_29 : Cond.code yX5_init cX5_init 1 none ∈ TT := t1_in (List.mem_of_getElem? (i := 29) rfl) rfl
theorem wt1_30 : Cond.methodLink RX5 3 ⟨"java/lang/Object", "<init>", "()V"⟩ ∈ TT := t1_in (List.mem_of_getElem? (i := 30) rfl) rfl
theorem wt1_31 : Cond.classLink RX5 9 RX0 ∈ TT := t1_in (List.mem_of_getElem? (i := 31) rfl) rfl
theorem wt1_32 : Cond.instantiable RX0 11 ∈ TT := t1_in (List.mem_of_getElem? (i := 32) rfl) rfl
theorem wt1_33 : Cond.methodLink RX5 11 yX0_init ∈ TT := t1_in (List.mem_of_getElem? (i := 33) rfl) rfl
theorem wt1_34 : Cond.instanceMethod yX0_init ∈ TT := t1_in (List.mem_of_getElem? (i := 34) rfl) rfl
theorem wt1_35 : Cond.code yX0_init cX0_init 1 none ∈ TT := t1_in (List.mem_of_getElem? (i := 35) rfl) rfl
theorem wt1_36 : Cond.methodLink RX0 3 ⟨"java/lang/Object", "<init>", "()V"⟩ ∈ TT := t1_in (List.mem_of_getElem? (i := 36) rfl) rfl
theorem wt1_37 : Cond.methodLink RX0 46 yJ7_fill_53178 ∈ TT := t1_in (List.mem_of_getElem? (i := 37) rfl) rfl
theorem wt1_38 : Cond.static yJ7_fill_53178 ∈ TT := t1_in (List.mem_of_getElem? (i := 38) rfl) rfl
theorem wt1_39 : Cond.code yJ7_fill_53178 cJ7_fill_53178 4 none ∈ TT := t1_in (List.mem_of_getElem? (i := 39) rfl) rfl
theorem wt1_40 : Cond.fieldLink RX0 9 "BlanketKeys$Board" "rows" "I" ∈ TT := t1_in (List.mem_of_getElem? (i := 40) rfl) rfl
theorem wt1_41 : Cond.fieldLink RX8 53 "BlanketKeys$Board" "rows" "I" ∈ TT := t1_in (List.mem_of_getElem? (i := 41) rfl) rfl
theorem wt1_42 : Cond.fieldLink RX5 97 "BlanketKeys$Board" "rows" "I" ∈ TT := t1_in (List.mem_of_getElem? (i := 42) rfl) rfl
theorem wt1_43 : Cond.fieldLink RX0 15 "BlanketKeys$Board" "columns" "I" ∈ TT := t1_in (List.mem_of_getElem? (i := 43) rfl) rfl
theorem wt1_44 : Cond.fieldLink RX8 57 "BlanketKeys$Board" "columns" "I" ∈ TT := t1_in (List.mem_of_getElem? (i := 44) rfl) rfl
theorem wt1_45 : Cond.fieldLink RX5 123 "BlanketKeys$Board" "columns" "I" ∈ TT := t1_in (List.mem_of_getElem? (i := 45) rfl) rfl
theorem wt1_46 : Cond.fieldLink RX0 18 "BlanketKeys$Board" "holders" "[I" ∈ TT := t1_in (List.mem_of_getElem? (i := 46) rfl) rfl
theorem wt1_47 : Cond.fieldLink RX0 22 "BlanketKeys$Board" "signs" "[I" ∈ TT := t1_in (List.mem_of_getElem? (i := 47) rfl) rfl
theorem wt1_48 : Cond.fieldLink RX0 25 "BlanketKeys$Board" "sinces" "[I" ∈ TT := t1_in (List.mem_of_getElem? (i := 48) rfl) rfl
theorem wt1_49 : Cond.fieldLink RX0 28 "BlanketKeys$Board" "notedShifts" "[I" ∈ TT := t1_in (List.mem_of_getElem? (i := 49) rfl) rfl
theorem wt1_50 : Cond.fieldLink RX0 31 "BlanketKeys$Board" "trueHolders" "[I" ∈ TT := t1_in (List.mem_of_getElem? (i := 50) rfl) rfl
theorem wt1_51 : Cond.fieldLink RX0 34 "BlanketKeys$Board" "down" "[I" ∈ TT := t1_in (List.mem_of_getElem? (i := 51) rfl) rfl
theorem wt1_52 : Cond.fieldLink RX0 37 "BlanketKeys$Board" "seen" "[I" ∈ TT := t1_in (List.mem_of_getElem? (i := 52) rfl) rfl
theorem wt1_53 : Cond.fieldLink RX5 110 "BlanketKeys$Board" "seen" "[I" ∈ TT := t1_in (List.mem_of_getElem? (i := 53) rfl) rfl
theorem wt1_54 : Cond.fieldLink RX0 40 "BlanketKeys$Board" "doubtful" "[I" ∈ TT := t1_in (List.mem_of_getElem? (i := 54) rfl) rfl
theorem wt1_55 : Cond.fieldLink RX0 43 "BlanketKeys$Board" "shifts" "[I" ∈ TT := t1_in (List.mem_of_getElem? (i := 55) rfl) rfl
theorem wt1_56 : Cond.lays RX0 "BlanketKeys$Board" "rows" "I" ∈ TT := t1_in (List.mem_of_getElem? (i := 56) rfl) rfl
theorem wt1_58 : Cond.lays RX0 "BlanketKeys$Board" "columns" "I" ∈ TT := t1_in (List.mem_of_getElem? (i := 58) rfl) rfl
theorem wt1_60 : Cond.laysFinal RX0 "BlanketKeys$Board" "holders" "[I" ∈ TT := t1_in (List.mem_of_getElem? (i := 60) rfl) rfl
theorem wt1_62 : Cond.laysFinal RX0 "BlanketKeys$Board" "signs" "[I" ∈ TT := t1_in (List.mem_of_getElem? (i := 62) rfl) rfl
theorem wt1_64 : Cond.laysFinal RX0 "BlanketKeys$Board" "sinces" "[I" ∈ TT := t1_in (List.mem_of_getElem? (i := 64) rfl) rfl
theorem wt1_66 : Cond.laysFinal RX0 "BlanketKeys$Board" "notedShifts" "[I" ∈ TT := t1_in (List.mem_of_getElem? (i := 66) rfl) rfl
theorem wt1_68 : Cond.laysFinal RX0 "BlanketKeys$Board" "trueHolders" "[I" ∈ TT := t1_in (List.mem_of_getElem? (i := 68) rfl) rfl
theorem wt1_70 : Cond.laysFinal RX0 "BlanketKeys$Board" "down" "[I" ∈ TT := t1_in (List.mem_of_getElem? (i := 70) rfl) rfl
theorem wt1_72 : Cond.laysFinal RX0 "BlanketKeys$Board" "seen" "[I" ∈ TT := t1_in (List.mem_of_getElem? (i := 72) rfl) rfl
theorem wt1_74 : Cond.laysFinal RX0 "BlanketKeys$Board" "doubtful" "[I" ∈ TT := t1_in (List.mem_of_getElem? (i := 74) rfl) rfl
theorem wt1_76 : Cond.laysFinal RX0 "BlanketKeys$Board" "shifts" "[I" ∈ TT := t1_in (List.mem_of_getElem? (i := 76) rfl) rfl
theorem wt1_79 : Cond.arrayClass .int ∈ TT := t1_in (List.mem_of_getElem? (i := 79) rfl) rfl
theorem wt1_80 : Cond.classLink RX5 18 RX7 ∈ TT := t1_in (List.mem_of_getElem? (i := 80) rfl) rfl
theorem wt1_81 : Cond.instantiable RX7 8 ∈ TT := t1_in (List.mem_of_getElem? (i := 81) rfl) rfl
theorem wt1_82 : Cond.constantFloat RX5 20 (1082130432) ∈ TT := t1_in (List.mem_of_getElem? (i := 82) rfl) rfl
theorem wt1_83 : Cond.constantFloat RX5 21 (1086324736) ∈ TT := t1_in (List.mem_of_getElem? (i := 83) rfl) rfl
theorem wt1_84 : Cond.methodLink RX5 22 yX7_init ∈ TT := t1_in (List.mem_of_getElem? (i := 84) rfl) rfl
theorem wt1_85 : Cond.instanceMethod yX7_init ∈ TT := t1_in (List.mem_of_getElem? (i := 85) rfl) rfl
theorem wt1_86 : Cond.code yX7_init cX7_init 3 none ∈ TT := t1_in (List.mem_of_getElem? (i := 86) rfl) rfl
theorem wt1_87 : Cond.methodLink RX7 3 ⟨"java/lang/Object", "<init>", "()V"⟩ ∈ TT := t1_in (List.mem_of_getElem? (i := 87) rfl) rfl
theorem wt1_88 : Cond.fieldLink RX7 19 "BlanketKeys$Typist" "meanDwell" "F" ∈ TT := t1_in (List.mem_of_getElem? (i := 88) rfl) rfl
theorem wt1_89 : Cond.fieldLink RX8 289 "BlanketKeys$Typist" "meanDwell" "F" ∈ TT := t1_in (List.mem_of_getElem? (i := 89) rfl) rfl
theorem wt1_90 : Cond.fieldLink RX7 23 "BlanketKeys$Typist" "meanGap" "F" ∈ TT := t1_in (List.mem_of_getElem? (i := 90) rfl) rfl
theorem wt1_91 : Cond.fieldLink RX8 293 "BlanketKeys$Typist" "meanGap" "F" ∈ TT := t1_in (List.mem_of_getElem? (i := 91) rfl) rfl
theorem wt1_92 : Cond.fieldLink RX7 9 "BlanketKeys$Typist" "last" "I" ∈ TT := t1_in (List.mem_of_getElem? (i := 92) rfl) rfl
theorem wt1_93 : Cond.fieldLink RX8 236 "BlanketKeys$Typist" "last" "I" ∈ TT := t1_in (List.mem_of_getElem? (i := 93) rfl) rfl
theorem wt1_94 : Cond.fieldLink RX7 26 "BlanketKeys$Typist" "borrows" "Z" ∈ TT := t1_in (List.mem_of_getElem? (i := 94) rfl) rfl
theorem wt1_95 : Cond.fieldLink RX8 99 "BlanketKeys$Typist" "borrows" "Z" ∈ TT := t1_in (List.mem_of_getElem? (i := 95) rfl) rfl
theorem wt1_96 : Cond.fieldLink RX5 210 "BlanketKeys$Typist" "borrows" "Z" ∈ TT := t1_in (List.mem_of_getElem? (i := 96) rfl) rfl
theorem wt1_97 : Cond.fieldLink RX7 30 "BlanketKeys$Typist" "credited" "I" ∈ TT := t1_in (List.mem_of_getElem? (i := 97) rfl) rfl
theorem wt1_98 : Cond.fieldLink RX5 187 "BlanketKeys$Typist" "credited" "I" ∈ TT := t1_in (List.mem_of_getElem? (i := 98) rfl) rfl
theorem wt1_99 : Cond.fieldLink RX8 227 "BlanketKeys$Typist" "credited" "I" ∈ TT := t1_in (List.mem_of_getElem? (i := 99) rfl) rfl
theorem wt1_100 : Cond.fieldLink RX7 33 "BlanketKeys$Typist" "creditedRightly" "I" ∈ TT := t1_in (List.mem_of_getElem? (i := 100) rfl) rfl
theorem wt1_101 : Cond.fieldLink RX5 190 "BlanketKeys$Typist" "creditedRightly" "I" ∈ TT := t1_in (List.mem_of_getElem? (i := 101) rfl) rfl
theorem wt1_102 : Cond.fieldLink RX8 230 "BlanketKeys$Typist" "creditedRightly" "I" ∈ TT := t1_in (List.mem_of_getElem? (i := 102) rfl) rfl
theorem wt1_103 : Cond.fieldLink RX7 36 "BlanketKeys$Typist" "signCount" "I" ∈ TT := t1_in (List.mem_of_getElem? (i := 103) rfl) rfl
theorem wt1_104 : Cond.fieldLink RX8 233 "BlanketKeys$Typist" "signCount" "I" ∈ TT := t1_in (List.mem_of_getElem? (i := 104) rfl) rfl
theorem wt1_105 : Cond.fieldLink RX7 15 "BlanketKeys$Typist" "signs" "[I" ∈ TT := t1_in (List.mem_of_getElem? (i := 105) rfl) rfl
theorem wt1_106 : Cond.lays RX7 "BlanketKeys$Typist" "meanDwell" "F" ∈ TT := t1_in (List.mem_of_getElem? (i := 106) rfl) rfl
theorem wt1_108 : Cond.lays RX7 "BlanketKeys$Typist" "meanGap" "F" ∈ TT := t1_in (List.mem_of_getElem? (i := 108) rfl) rfl
theorem wt1_110 : Cond.lays RX7 "BlanketKeys$Typist" "last" "I" ∈ TT := t1_in (List.mem_of_getElem? (i := 110) rfl) rfl
theorem wt1_112 : Cond.lays RX7 "BlanketKeys$Typist" "borrows" "Z" ∈ TT := t1_in (List.mem_of_getElem? (i := 112) rfl) rfl
theorem wt1_114 : Cond.lays RX7 "BlanketKeys$Typist" "credited" "I" ∈ TT := t1_in (List.mem_of_getElem? (i := 114) rfl) rfl
theorem wt1_116 : Cond.lays RX7 "BlanketKeys$Typist" "creditedRightly" "I" ∈ TT := t1_in (List.mem_of_getElem? (i := 116) rfl) rfl
theorem wt1_118 : Cond.lays RX7 "BlanketKeys$Typist" "signCount" "I" ∈ TT := t1_in (List.mem_of_getElem? (i := 118) rfl) rfl
theorem wt1_120 : Cond.laysFinal RX7 "BlanketKeys$Typist" "signs" "[I" ∈ TT := t1_in (List.mem_of_getElem? (i := 120) rfl) rfl
theorem wt1_123 : Cond.constantFloat RX5 29 (1090519040) ∈ TT := t1_in (List.mem_of_getElem? (i := 123) rfl) rfl
theorem wt1_124 : Cond.constantFloat RX5 30 (1092616192) ∈ TT := t1_in (List.mem_of_getElem? (i := 124) rfl) rfl
theorem wt1_125 : Cond.classLink RX5 34 RX6 ∈ TT := t1_in (List.mem_of_getElem? (i := 125) rfl) rfl
theorem wt1_126 : Cond.instantiable RX6 8 ∈ TT := t1_in (List.mem_of_getElem? (i := 126) rfl) rfl
theorem wn1_127 : Cond.methodLinkNest RX5 36 yX6_init RX8 ∈ lw_tbl := (fun h => List.mem_append_right _ (List.mem_append_left _ h)) (List.mem_of_getElem? (l := tables_1_1) (i := 127) rfl)
theorem wt1_128 : Cond.instanceMethod yX6_init ∈ TT := t1_in (List.mem_of_getElem? (i := 128) rfl) rfl
theorem wt1_129 : Cond.code yX6_init cX6_init 1 none ∈ TT := t1_in (List.mem_of_getElem? (i := 129) rfl) rfl
theorem wt1_130 : Cond.methodLink RX6 3 ⟨"java/lang/Object", "<init>", "()V"⟩ ∈ TT := t1_in (List.mem_of_getElem? (i := 130) rfl) rfl
theorem wt1_131 : Cond.fieldLink RX6 33 "BlanketKeys$Strokes" "total" "I" ∈ TT := t1_in (List.mem_of_getElem? (i := 131) rfl) rfl
theorem wt1_132 : Cond.fieldLink RX5 77 "BlanketKeys$Strokes" "total" "I" ∈ TT := t1_in (List.mem_of_getElem? (i := 132) rfl) rfl
theorem wt1_133 : Cond.fieldLink RX8 254 "BlanketKeys$Strokes" "total" "I" ∈ TT := t1_in (List.mem_of_getElem? (i := 133) rfl) rfl
theorem wt1_134 : Cond.fieldLink RX6 11 "BlanketKeys$Strokes" "keys" "[I" ∈ TT := t1_in (List.mem_of_getElem? (i := 134) rfl) rfl
theorem wt1_135 : Cond.fieldLink RX6 15 "BlanketKeys$Strokes" "sinces" "[I" ∈ TT := t1_in (List.mem_of_getElem? (i := 135) rfl) rfl
theorem wt1_136 : Cond.fieldLink RX6 18 "BlanketKeys$Strokes" "dwells" "[I" ∈ TT := t1_in (List.mem_of_getElem? (i := 136) rfl) rfl
theorem wt1_137 : Cond.fieldLink RX6 21 "BlanketKeys$Strokes" "fates" "[I" ∈ TT := t1_in (List.mem_of_getElem? (i := 137) rfl) rfl
theorem wt1_138 : Cond.fieldLink RX6 24 "BlanketKeys$Strokes" "holders" "[I" ∈ TT := t1_in (List.mem_of_getElem? (i := 138) rfl) rfl
theorem wt1_139 : Cond.fieldLink RX6 27 "BlanketKeys$Strokes" "notedShifts" "[I" ∈ TT := t1_in (List.mem_of_getElem? (i := 139) rfl) rfl
theorem wt1_140 : Cond.fieldLink RX6 30 "BlanketKeys$Strokes" "origins" "[I" ∈ TT := t1_in (List.mem_of_getElem? (i := 140) rfl) rfl
theorem wt1_141 : Cond.lays RX6 "BlanketKeys$Strokes" "total" "I" ∈ TT := t1_in (List.mem_of_getElem? (i := 141) rfl) rfl
theorem wt1_143 : Cond.laysFinal RX6 "BlanketKeys$Strokes" "keys" "[I" ∈ TT := t1_in (List.mem_of_getElem? (i := 143) rfl) rfl
theorem wt1_145 : Cond.laysFinal RX6 "BlanketKeys$Strokes" "sinces" "[I" ∈ TT := t1_in (List.mem_of_getElem? (i := 145) rfl) rfl
theorem wt1_147 : Cond.laysFinal RX6 "BlanketKeys$Strokes" "dwells" "[I" ∈ TT := t1_in (List.mem_of_getElem? (i := 147) rfl) rfl
theorem wt1_149 : Cond.laysFinal RX6 "BlanketKeys$Strokes" "fates" "[I" ∈ TT := t1_in (List.mem_of_getElem? (i := 149) rfl) rfl
theorem wt1_151 : Cond.laysFinal RX6 "BlanketKeys$Strokes" "holders" "[I" ∈ TT := t1_in (List.mem_of_getElem? (i := 151) rfl) rfl
theorem wt1_153 : Cond.laysFinal RX6 "BlanketKeys$Strokes" "notedShifts" "[I" ∈ TT := t1_in (List.mem_of_getElem? (i := 153) rfl) rfl
theorem wt1_155 : Cond.laysFinal RX6 "BlanketKeys$Strokes" "origins" "[I" ∈ TT := t1_in (List.mem_of_getElem? (i := 155) rfl) rfl
theorem wt1_158 : Cond.classLink RX5 44 RX4 ∈ TT := t1_in (List.mem_of_getElem? (i := 158) rfl) rfl
theorem wt1_159 : Cond.instantiable RX4 4 ∈ TT := t1_in (List.mem_of_getElem? (i := 159) rfl) rfl
theorem wn1_160 : Cond.methodLinkNest RX5 46 yX4_init RX8 ∈ lw_tbl := (fun h => List.mem_append_right _ (List.mem_append_left _ h)) (List.mem_of_getElem? (l := tables_1_1) (i := 160) rfl)
theorem wt1_161 : Cond.instanceMethod yX4_init ∈ TT := t1_in (List.mem_of_getElem? (i := 161) rfl) rfl
theorem wt1_162 : Cond.code yX4_init cX4_init 1 none ∈ TT := t1_in (List.mem_of_getElem? (i := 162) rfl) rfl
theorem wt1_163 : Cond.methodLink RX4 3 ⟨"java/lang/Object", "<init>", "()V"⟩ ∈ TT := t1_in (List.mem_of_getElem? (i := 163) rfl) rfl
theorem wt1_164 : Cond.constant RX4 9 (1040187392) ∈ TT := t1_in (List.mem_of_getElem? (i := 164) rfl) rfl
theorem wt1_165 : Cond.constant RX4 10 (1056964608) ∈ TT := t1_in (List.mem_of_getElem? (i := 165) rfl) rfl
theorem wt1_166 : Cond.constant RX4 11 (1048576000) ∈ TT := t1_in (List.mem_of_getElem? (i := 166) rfl) rfl
theorem wt1_167 : Cond.constantFloat RX4 16 (1040187392) ∈ TT := t1_in (List.mem_of_getElem? (i := 167) rfl) rfl
theorem wt1_168 : Cond.constantFloat RX4 21 (1056964608) ∈ TT := t1_in (List.mem_of_getElem? (i := 168) rfl) rfl
theorem wt1_169 : Cond.constantFloat RX4 25 (1048576000) ∈ TT := t1_in (List.mem_of_getElem? (i := 169) rfl) rfl
theorem wt1_170 : Cond.fieldLink RX4 12 "BlanketKeys$Settings" "bits" "[I" ∈ TT := t1_in (List.mem_of_getElem? (i := 170) rfl) rfl
theorem wt1_171 : Cond.fieldLink RX4 17 "BlanketKeys$Settings" "margin" "F" ∈ TT := t1_in (List.mem_of_getElem? (i := 171) rfl) rfl
theorem wt1_172 : Cond.fieldLink RX5 155 "BlanketKeys$Settings" "margin" "F" ∈ TT := t1_in (List.mem_of_getElem? (i := 172) rfl) rfl
theorem wt1_173 : Cond.fieldLink RX4 22 "BlanketKeys$Settings" "trust" "F" ∈ TT := t1_in (List.mem_of_getElem? (i := 173) rfl) rfl
theorem wt1_174 : Cond.fieldLink RX5 147 "BlanketKeys$Settings" "trust" "F" ∈ TT := t1_in (List.mem_of_getElem? (i := 174) rfl) rfl
theorem wt1_175 : Cond.fieldLink RX4 26 "BlanketKeys$Settings" "rate" "F" ∈ TT := t1_in (List.mem_of_getElem? (i := 175) rfl) rfl
theorem wt1_176 : Cond.fieldLink RX5 197 "BlanketKeys$Settings" "rate" "F" ∈ TT := t1_in (List.mem_of_getElem? (i := 176) rfl) rfl
theorem wt1_177 : Cond.laysFinal RX4 "BlanketKeys$Settings" "bits" "[I" ∈ TT := t1_in (List.mem_of_getElem? (i := 177) rfl) rfl
theorem wt1_179 : Cond.lays RX4 "BlanketKeys$Settings" "margin" "F" ∈ TT := t1_in (List.mem_of_getElem? (i := 179) rfl) rfl
theorem wt1_181 : Cond.lays RX4 "BlanketKeys$Settings" "trust" "F" ∈ TT := t1_in (List.mem_of_getElem? (i := 181) rfl) rfl
theorem wt1_183 : Cond.lays RX4 "BlanketKeys$Settings" "rate" "F" ∈ TT := t1_in (List.mem_of_getElem? (i := 183) rfl) rfl
theorem wt1_186 : Cond.fieldLink RX5 12 "BlanketKeys$State" "board" "LBlanketKeys$Board;" ∈ TT := t1_in (List.mem_of_getElem? (i := 186) rfl) rfl
theorem wt1_187 : Cond.fieldLink RX8 40 "BlanketKeys$State" "board" "LBlanketKeys$Board;" ∈ TT := t1_in (List.mem_of_getElem? (i := 187) rfl) rfl
theorem wt1_188 : Cond.fieldLink RX5 25 "BlanketKeys$State" "first" "LBlanketKeys$Typist;" ∈ TT := t1_in (List.mem_of_getElem? (i := 188) rfl) rfl
theorem wt1_189 : Cond.fieldLink RX8 104 "BlanketKeys$State" "first" "LBlanketKeys$Typist;" ∈ TT := t1_in (List.mem_of_getElem? (i := 189) rfl) rfl
theorem wt1_190 : Cond.fieldLink RX5 31 "BlanketKeys$State" "second" "LBlanketKeys$Typist;" ∈ TT := t1_in (List.mem_of_getElem? (i := 190) rfl) rfl
theorem wt1_191 : Cond.fieldLink RX8 108 "BlanketKeys$State" "second" "LBlanketKeys$Typist;" ∈ TT := t1_in (List.mem_of_getElem? (i := 191) rfl) rfl
theorem wt1_192 : Cond.fieldLink RX5 37 "BlanketKeys$State" "ended" "LBlanketKeys$Strokes;" ∈ TT := t1_in (List.mem_of_getElem? (i := 192) rfl) rfl
theorem wt1_193 : Cond.fieldLink RX8 251 "BlanketKeys$State" "ended" "LBlanketKeys$Strokes;" ∈ TT := t1_in (List.mem_of_getElem? (i := 193) rfl) rfl
theorem wt1_194 : Cond.fieldLink RX5 41 "BlanketKeys$State" "disputes" "LBlanketKeys$Strokes;" ∈ TT := t1_in (List.mem_of_getElem? (i := 194) rfl) rfl
theorem wt1_195 : Cond.fieldLink RX8 150 "BlanketKeys$State" "disputes" "LBlanketKeys$Strokes;" ∈ TT := t1_in (List.mem_of_getElem? (i := 195) rfl) rfl
theorem wt1_196 : Cond.fieldLink RX5 47 "BlanketKeys$State" "settings" "LBlanketKeys$Settings;" ∈ TT := t1_in (List.mem_of_getElem? (i := 196) rfl) rfl
theorem wt1_197 : Cond.fieldLink RX8 117 "BlanketKeys$State" "settings" "LBlanketKeys$Settings;" ∈ TT := t1_in (List.mem_of_getElem? (i := 197) rfl) rfl
theorem wt1_198 : Cond.fieldLink RX5 64 "BlanketKeys$State" "time" "I" ∈ TT := t1_in (List.mem_of_getElem? (i := 198) rfl) rfl
theorem wt1_199 : Cond.fieldLink RX8 197 "BlanketKeys$State" "time" "I" ∈ TT := t1_in (List.mem_of_getElem? (i := 199) rfl) rfl
theorem wt1_200 : Cond.fieldLink RX5 68 "BlanketKeys$State" "ghosts" "I" ∈ TT := t1_in (List.mem_of_getElem? (i := 200) rfl) rfl
theorem wt1_201 : Cond.fieldLink RX8 277 "BlanketKeys$State" "ghosts" "I" ∈ TT := t1_in (List.mem_of_getElem? (i := 201) rfl) rfl
theorem wt1_202 : Cond.fieldLink RX5 71 "BlanketKeys$State" "ghostsOfNobody" "I" ∈ TT := t1_in (List.mem_of_getElem? (i := 202) rfl) rfl
theorem wt1_203 : Cond.fieldLink RX8 283 "BlanketKeys$State" "ghostsOfNobody" "I" ∈ TT := t1_in (List.mem_of_getElem? (i := 203) rfl) rfl
theorem wt1_204 : Cond.fieldLink RX5 74 "BlanketKeys$State" "openDisputes" "I" ∈ TT := t1_in (List.mem_of_getElem? (i := 204) rfl) rfl
theorem wt1_205 : Cond.fieldLink RX8 280 "BlanketKeys$State" "openDisputes" "I" ∈ TT := t1_in (List.mem_of_getElem? (i := 205) rfl) rfl
theorem wt1_206 : Cond.laysFinal RX5 "BlanketKeys$State" "board" "LBlanketKeys$Board;" ∈ TT := t1_in (List.mem_of_getElem? (i := 206) rfl) rfl
theorem wt1_208 : Cond.laysFinal RX5 "BlanketKeys$State" "first" "LBlanketKeys$Typist;" ∈ TT := t1_in (List.mem_of_getElem? (i := 208) rfl) rfl
theorem wt1_210 : Cond.laysFinal RX5 "BlanketKeys$State" "second" "LBlanketKeys$Typist;" ∈ TT := t1_in (List.mem_of_getElem? (i := 210) rfl) rfl
theorem wt1_212 : Cond.laysFinal RX5 "BlanketKeys$State" "ended" "LBlanketKeys$Strokes;" ∈ TT := t1_in (List.mem_of_getElem? (i := 212) rfl) rfl
theorem wt1_214 : Cond.laysFinal RX5 "BlanketKeys$State" "disputes" "LBlanketKeys$Strokes;" ∈ TT := t1_in (List.mem_of_getElem? (i := 214) rfl) rfl
theorem wt1_216 : Cond.laysFinal RX5 "BlanketKeys$State" "settings" "LBlanketKeys$Settings;" ∈ TT := t1_in (List.mem_of_getElem? (i := 216) rfl) rfl
theorem wt1_218 : Cond.lays RX5 "BlanketKeys$State" "time" "I" ∈ TT := t1_in (List.mem_of_getElem? (i := 218) rfl) rfl
theorem wt1_220 : Cond.lays RX5 "BlanketKeys$State" "ghosts" "I" ∈ TT := t1_in (List.mem_of_getElem? (i := 220) rfl) rfl
theorem wt1_222 : Cond.lays RX5 "BlanketKeys$State" "ghostsOfNobody" "I" ∈ TT := t1_in (List.mem_of_getElem? (i := 222) rfl) rfl
theorem wt1_224 : Cond.lays RX5 "BlanketKeys$State" "openDisputes" "I" ∈ TT := t1_in (List.mem_of_getElem? (i := 224) rfl) rfl
theorem wt1_227 : Cond.classLink RX8 22 RX2 ∈ TT := t1_in (List.mem_of_getElem? (i := 227) rfl) rfl
theorem wt1_228 : Cond.instantiable RX2 5 ∈ TT := t1_in (List.mem_of_getElem? (i := 228) rfl) rfl
theorem wn1_229 : Cond.methodLinkNest RX8 24 yX2_init RX8 ∈ lw_tbl := (fun h => List.mem_append_right _ (List.mem_append_left _ h)) (List.mem_of_getElem? (l := tables_1_1) (i := 229) rfl)
theorem wt1_230 : Cond.instanceMethod yX2_init ∈ TT := t1_in (List.mem_of_getElem? (i := 230) rfl) rfl
theorem wt1_231 : Cond.code yX2_init cX2_init 1 none ∈ TT := t1_in (List.mem_of_getElem? (i := 231) rfl) rfl
theorem wt1_232 : Cond.methodLink RX2 3 ⟨"java/lang/Object", "<init>", "()V"⟩ ∈ TT := t1_in (List.mem_of_getElem? (i := 232) rfl) rfl
theorem wt1_233 : Cond.classLink RX2 9 RX5 ∈ TT := t1_in (List.mem_of_getElem? (i := 233) rfl) rfl
theorem wn1_234 : Cond.methodLinkNest RX2 11 yX5_init RX8 ∈ lw_tbl := (fun h => List.mem_append_right _ (List.mem_append_left _ h)) (List.mem_of_getElem? (l := tables_1_1) (i := 234) rfl)
theorem wt1_235 : Cond.fieldLink RX2 31 "BlanketKeys$History" "depth" "I" ∈ TT := t1_in (List.mem_of_getElem? (i := 235) rfl) rfl
theorem wt1_236 : Cond.fieldLink RX8 191 "BlanketKeys$History" "depth" "I" ∈ TT := t1_in (List.mem_of_getElem? (i := 236) rfl) rfl
theorem wt1_237 : Cond.fieldLink RX2 12 "BlanketKeys$History" "latest" "LBlanketKeys$State;" ∈ TT := t1_in (List.mem_of_getElem? (i := 237) rfl) rfl
theorem wt1_238 : Cond.fieldLink RX2 18 "BlanketKeys$History" "second" "LBlanketKeys$State;" ∈ TT := t1_in (List.mem_of_getElem? (i := 238) rfl) rfl
theorem wt1_239 : Cond.fieldLink RX2 21 "BlanketKeys$History" "third" "LBlanketKeys$State;" ∈ TT := t1_in (List.mem_of_getElem? (i := 239) rfl) rfl
theorem wt2_0 : Cond.fieldLink RX2 24 "BlanketKeys$History" "oldest" "LBlanketKeys$State;" ∈ TT := t2_in (List.mem_of_getElem? (i := 0) rfl) rfl
theorem wt2_1 : Cond.lays RX2 "BlanketKeys$History" "depth" "I" ∈ TT := t2_in (List.mem_of_getElem? (i := 1) rfl) rfl
theorem wt2_3 : Cond.lays RX2 "BlanketKeys$History" "latest" "LBlanketKeys$State;" ∈ TT := t2_in (List.mem_of_getElem? (i := 3) rfl) rfl
theorem wt2_5 : Cond.lays RX2 "BlanketKeys$History" "second" "LBlanketKeys$State;" ∈ TT := t2_in (List.mem_of_getElem? (i := 5) rfl) rfl
theorem wt2_7 : Cond.lays RX2 "BlanketKeys$History" "third" "LBlanketKeys$State;" ∈ TT := t2_in (List.mem_of_getElem? (i := 7) rfl) rfl
theorem wt2_9 : Cond.lays RX2 "BlanketKeys$History" "oldest" "LBlanketKeys$State;" ∈ TT := t2_in (List.mem_of_getElem? (i := 9) rfl) rfl
theorem wt2_12 : Cond.classLink RX8 29 RX3 ∈ TT := t2_in (List.mem_of_getElem? (i := 12) rfl) rfl
theorem wt2_13 : Cond.instantiable RX3 2 ∈ TT := t2_in (List.mem_of_getElem? (i := 13) rfl) rfl
theorem wn2_14 : Cond.methodLinkNest RX8 31 yX3_init RX8 ∈ lw_tbl := (fun h => List.mem_append_right _ (List.mem_append_right _ (List.mem_append_left _ h))) (List.mem_of_getElem? (l := tables_1_2) (i := 14) rfl)
theorem wt2_15 : Cond.instanceMethod yX3_init ∈ TT := t2_in (List.mem_of_getElem? (i := 15) rfl) rfl
theorem wt2_16 : Cond.code yX3_init cX3_init 1 none ∈ TT := t2_in (List.mem_of_getElem? (i := 16) rfl) rfl
theorem wt2_17 : Cond.methodLink RX3 3 ⟨"java/lang/Object", "<init>", "()V"⟩ ∈ TT := t2_in (List.mem_of_getElem? (i := 17) rfl) rfl
theorem wt2_18 : Cond.fieldLink RX3 15 "BlanketKeys$Script" "length" "I" ∈ TT := t2_in (List.mem_of_getElem? (i := 18) rfl) rfl
theorem wt2_19 : Cond.fieldLink RX8 169 "BlanketKeys$Script" "length" "I" ∈ TT := t2_in (List.mem_of_getElem? (i := 19) rfl) rfl
theorem wt2_20 : Cond.fieldLink RX3 9 "BlanketKeys$Script" "characters" "[C" ∈ TT := t2_in (List.mem_of_getElem? (i := 20) rfl) rfl
theorem wt2_21 : Cond.lays RX3 "BlanketKeys$Script" "length" "I" ∈ TT := t2_in (List.mem_of_getElem? (i := 21) rfl) rfl
theorem wt2_23 : Cond.laysFinal RX3 "BlanketKeys$Script" "characters" "[C" ∈ TT := t2_in (List.mem_of_getElem? (i := 23) rfl) rfl
theorem wt2_26 : Cond.arrayClass .char ∈ TT := t2_in (List.mem_of_getElem? (i := 26) rfl) rfl
theorem wt2_27 : Cond.fieldLink RX8 12 "BlanketKeys" "now" "LBlanketKeys$State;" ∈ TT := t2_in (List.mem_of_getElem? (i := 27) rfl) rfl
theorem wt2_28 : Cond.fieldLink RX8 16 "BlanketKeys" "beforeScript" "LBlanketKeys$State;" ∈ TT := t2_in (List.mem_of_getElem? (i := 28) rfl) rfl
theorem wt2_29 : Cond.fieldLink RX8 19 "BlanketKeys" "snapshot" "LBlanketKeys$State;" ∈ TT := t2_in (List.mem_of_getElem? (i := 29) rfl) rfl
theorem wt2_30 : Cond.fieldLink RX8 25 "BlanketKeys" "history" "LBlanketKeys$History;" ∈ TT := t2_in (List.mem_of_getElem? (i := 30) rfl) rfl
theorem wt2_31 : Cond.fieldLink RX8 32 "BlanketKeys" "script" "LBlanketKeys$Script;" ∈ TT := t2_in (List.mem_of_getElem? (i := 31) rfl) rfl
theorem wt2_32 : Cond.fieldLink RX8 36 "BlanketKeys" "hasSnapshot" "Z" ∈ TT := t2_in (List.mem_of_getElem? (i := 32) rfl) rfl
theorem wt2_33 : Cond.laysFinal RX8 "BlanketKeys" "now" "LBlanketKeys$State;" ∈ TT := t2_in (List.mem_of_getElem? (i := 33) rfl) rfl
theorem wt2_35 : Cond.laysFinal RX8 "BlanketKeys" "beforeScript" "LBlanketKeys$State;" ∈ TT := t2_in (List.mem_of_getElem? (i := 35) rfl) rfl
theorem wt2_37 : Cond.laysFinal RX8 "BlanketKeys" "snapshot" "LBlanketKeys$State;" ∈ TT := t2_in (List.mem_of_getElem? (i := 37) rfl) rfl
theorem wt2_39 : Cond.laysFinal RX8 "BlanketKeys" "history" "LBlanketKeys$History;" ∈ TT := t2_in (List.mem_of_getElem? (i := 39) rfl) rfl
theorem wt2_41 : Cond.laysFinal RX8 "BlanketKeys" "script" "LBlanketKeys$Script;" ∈ TT := t2_in (List.mem_of_getElem? (i := 41) rfl) rfl
theorem wt2_43 : Cond.lays RX8 "BlanketKeys" "hasSnapshot" "Z" ∈ TT := t2_in (List.mem_of_getElem? (i := 43) rfl) rfl
theorem wt2_46 : Cond.methodLink RL 13 yX8_build ∈ TT := t2_in (List.mem_of_getElem? (i := 46) rfl) rfl
theorem wt2_47 : Cond.instanceMethod yX8_build ∈ TT := t2_in (List.mem_of_getElem? (i := 47) rfl) rfl
theorem wt2_48 : Cond.selects RX8 yX8_build yX8_build ∈ TT := t2_in (List.mem_of_getElem? (i := 48) rfl) rfl
theorem wt2_49 : Cond.code yX8_build cX8_build 4 (some .int) ∈ TT := t2_in (List.mem_of_getElem? (i := 49) rfl) rfl
theorem wt2_50 : Cond.methodLink RX8 44 yX0_downKeys ∈ TT := t2_in (List.mem_of_getElem? (i := 50) rfl) rfl
theorem wt2_51 : Cond.instanceMethod yX0_downKeys ∈ TT := t2_in (List.mem_of_getElem? (i := 51) rfl) rfl
theorem wt2_52 : Cond.selects RX0 yX0_downKeys yX0_downKeys ∈ TT := t2_in (List.mem_of_getElem? (i := 52) rfl) rfl
theorem wt2_53 : Cond.code yX0_downKeys cX0_downKeys 1 (some .int) ∈ TT := t2_in (List.mem_of_getElem? (i := 53) rfl) rfl
theorem wt2_54 : Cond.methodLink RX0 69 yX1_bitsIn ∈ TT := t2_in (List.mem_of_getElem? (i := 54) rfl) rfl
theorem wt2_55 : Cond.static yX1_bitsIn ∈ TT := t2_in (List.mem_of_getElem? (i := 55) rfl) rfl
theorem wt2_56 : Cond.code yX1_bitsIn cX1_bitsIn 6 (some .int) ∈ TT := t2_in (List.mem_of_getElem? (i := 56) rfl) rfl
theorem wt2_57 : Cond.methodLink RX1 19 yJ6_bitCount_0f7a4 ∈ TT := t2_in (List.mem_of_getElem? (i := 57) rfl) rfl
theorem wt2_58 : Cond.static yJ6_bitCount_0f7a4 ∈ TT := t2_in (List.mem_of_getElem? (i := 58) rfl) rfl
theorem wt2_59 : Cond.code yJ6_bitCount_0f7a4 cJ6_bitCount_0f7a4 1 (some .int) ∈ TT := t2_in (List.mem_of_getElem? (i := 59) rfl) rfl
theorem wt2_60 : Cond.constant RJ6 265 (1431655765) ∈ TT := t2_in (List.mem_of_getElem? (i := 60) rfl) rfl
theorem wt2_61 : Cond.constant RJ6 266 (858993459) ∈ TT := t2_in (List.mem_of_getElem? (i := 61) rfl) rfl
theorem wt2_62 : Cond.constant RJ6 267 (252645135) ∈ TT := t2_in (List.mem_of_getElem? (i := 62) rfl) rfl
theorem wt2_63 : Cond.methodLink RX8 50 yX0_seenKeys ∈ TT := t2_in (List.mem_of_getElem? (i := 63) rfl) rfl
theorem wt2_64 : Cond.instanceMethod yX0_seenKeys ∈ TT := t2_in (List.mem_of_getElem? (i := 64) rfl) rfl
theorem wt2_65 : Cond.selects RX0 yX0_seenKeys yX0_seenKeys ∈ TT := t2_in (List.mem_of_getElem? (i := 65) rfl) rfl
theorem wt2_66 : Cond.code yX0_seenKeys cX0_seenKeys 1 (some .int) ∈ TT := t2_in (List.mem_of_getElem? (i := 66) rfl) rfl
theorem wt2_67 : Cond.methodLink RX8 60 yX2_remember ∈ TT := t2_in (List.mem_of_getElem? (i := 67) rfl) rfl
theorem wt2_68 : Cond.instanceMethod yX2_remember ∈ TT := t2_in (List.mem_of_getElem? (i := 68) rfl) rfl
theorem wt2_69 : Cond.selects RX2 yX2_remember yX2_remember ∈ TT := t2_in (List.mem_of_getElem? (i := 69) rfl) rfl
theorem wt2_70 : Cond.code yX2_remember cX2_remember 3 none ∈ TT := t2_in (List.mem_of_getElem? (i := 70) rfl) rfl
theorem wt2_71 : Cond.methodLink RX2 27 yX5_copyFrom ∈ TT := t2_in (List.mem_of_getElem? (i := 71) rfl) rfl
theorem wt2_72 : Cond.instanceMethod yX5_copyFrom ∈ TT := t2_in (List.mem_of_getElem? (i := 72) rfl) rfl
theorem wt2_73 : Cond.selects RX5 yX5_copyFrom yX5_copyFrom ∈ TT := t2_in (List.mem_of_getElem? (i := 73) rfl) rfl
theorem wt2_74 : Cond.code yX5_copyFrom cX5_copyFrom 2 none ∈ TT := t2_in (List.mem_of_getElem? (i := 74) rfl) rfl
theorem wt2_75 : Cond.methodLink RX5 51 yX0_copyFrom ∈ TT := t2_in (List.mem_of_getElem? (i := 75) rfl) rfl
theorem wt2_76 : Cond.instanceMethod yX0_copyFrom ∈ TT := t2_in (List.mem_of_getElem? (i := 76) rfl) rfl
theorem wt2_77 : Cond.selects RX0 yX0_copyFrom yX0_copyFrom ∈ TT := t2_in (List.mem_of_getElem? (i := 77) rfl) rfl
theorem wt2_78 : Cond.code yX0_copyFrom cX0_copyFrom 2 none ∈ TT := t2_in (List.mem_of_getElem? (i := 78) rfl) rfl
theorem wt2_79 : Cond.methodLink RX0 52 yX1_copy ∈ TT := t2_in (List.mem_of_getElem? (i := 79) rfl) rfl
theorem wt2_80 : Cond.static yX1_copy ∈ TT := t2_in (List.mem_of_getElem? (i := 80) rfl) rfl
theorem wt2_81 : Cond.code yX1_copy cX1_copy 2 none ∈ TT := t2_in (List.mem_of_getElem? (i := 81) rfl) rfl
theorem wt2_82 : Cond.methodLink RX1 7 yJ9_min_7cf53 ∈ TT := t2_in (List.mem_of_getElem? (i := 82) rfl) rfl
theorem wt2_83 : Cond.static yJ9_min_7cf53 ∈ TT := t2_in (List.mem_of_getElem? (i := 83) rfl) rfl
theorem wt2_84 : Cond.code yJ9_min_7cf53 cJ9_min_7cf53 2 (some .int) ∈ TT := t2_in (List.mem_of_getElem? (i := 84) rfl) rfl
theorem wt2_85 : Cond.methodLink RX1 13 ⟨"java/lang/System", "arraycopy", "(Ljava/lang/Object;ILjava/lang/Object;II)V"⟩ ∈ TT := t2_in (List.mem_of_getElem? (i := 85) rfl) rfl
theorem wt2_86 : Cond.static ⟨"java/lang/System", "arraycopy", "(Ljava/lang/Object;ILjava/lang/Object;II)V"⟩ ∈ TT := t2_in (List.mem_of_getElem? (i := 86) rfl) rfl
theorem wt2_87 : Cond.native ⟨"java/lang/System", "arraycopy", "(Ljava/lang/Object;ILjava/lang/Object;II)V"⟩ ∈ TT := t2_in (List.mem_of_getElem? (i := 87) rfl) rfl
theorem wt2_88 : Cond.methodLink RX5 55 yX7_copyFrom ∈ TT := t2_in (List.mem_of_getElem? (i := 88) rfl) rfl
theorem wt2_89 : Cond.instanceMethod yX7_copyFrom ∈ TT := t2_in (List.mem_of_getElem? (i := 89) rfl) rfl
theorem wt2_90 : Cond.selects RX7 yX7_copyFrom yX7_copyFrom ∈ TT := t2_in (List.mem_of_getElem? (i := 90) rfl) rfl
theorem wt2_91 : Cond.code yX7_copyFrom cX7_copyFrom 2 none ∈ TT := t2_in (List.mem_of_getElem? (i := 91) rfl) rfl
theorem wt2_92 : Cond.methodLink RX7 39 yX1_copy ∈ TT := t2_in (List.mem_of_getElem? (i := 92) rfl) rfl
theorem wt2_93 : Cond.methodLink RX5 58 yX6_copyFrom ∈ TT := t2_in (List.mem_of_getElem? (i := 93) rfl) rfl
theorem wt2_94 : Cond.instanceMethod yX6_copyFrom ∈ TT := t2_in (List.mem_of_getElem? (i := 94) rfl) rfl
theorem wt2_95 : Cond.selects RX6 yX6_copyFrom yX6_copyFrom ∈ TT := t2_in (List.mem_of_getElem? (i := 95) rfl) rfl
theorem wt2_96 : Cond.code yX6_copyFrom cX6_copyFrom 2 none ∈ TT := t2_in (List.mem_of_getElem? (i := 96) rfl) rfl
theorem wt2_97 : Cond.methodLink RX6 37 yX1_copy ∈ TT := t2_in (List.mem_of_getElem? (i := 97) rfl) rfl
theorem wt2_98 : Cond.methodLink RX5 61 yX4_copyFrom ∈ TT := t2_in (List.mem_of_getElem? (i := 98) rfl) rfl
theorem wt2_99 : Cond.instanceMethod yX4_copyFrom ∈ TT := t2_in (List.mem_of_getElem? (i := 99) rfl) rfl
theorem wt2_100 : Cond.selects RX4 yX4_copyFrom yX4_copyFrom ∈ TT := t2_in (List.mem_of_getElem? (i := 100) rfl) rfl
theorem wt2_101 : Cond.code yX4_copyFrom cX4_copyFrom 2 none ∈ TT := t2_in (List.mem_of_getElem? (i := 101) rfl) rfl
theorem wt2_102 : Cond.methodLink RX4 29 yX1_copy ∈ TT := t2_in (List.mem_of_getElem? (i := 102) rfl) rfl
theorem wt2_103 : Cond.methodLink RX2 35 yJ9_min_7cf53 ∈ TT := t2_in (List.mem_of_getElem? (i := 103) rfl) rfl
theorem wt2_104 : Cond.methodLink RX8 64 yX0_rebuild ∈ TT := t2_in (List.mem_of_getElem? (i := 104) rfl) rfl
theorem wt2_105 : Cond.instanceMethod yX0_rebuild ∈ TT := t2_in (List.mem_of_getElem? (i := 105) rfl) rfl
theorem wt2_106 : Cond.selects RX0 yX0_rebuild yX0_rebuild ∈ TT := t2_in (List.mem_of_getElem? (i := 106) rfl) rfl
theorem wt2_107 : Cond.code yX0_rebuild cX0_rebuild 3 none ∈ TT := t2_in (List.mem_of_getElem? (i := 107) rfl) rfl
theorem wt2_108 : Cond.methodLink RX8 68 yX0_size ∈ TT := t2_in (List.mem_of_getElem? (i := 108) rfl) rfl
theorem wt2_109 : Cond.instanceMethod yX0_size ∈ TT := t2_in (List.mem_of_getElem? (i := 109) rfl) rfl
theorem wt2_110 : Cond.selects RX0 yX0_size yX0_size ∈ TT := t2_in (List.mem_of_getElem? (i := 110) rfl) rfl
theorem wt2_111 : Cond.code yX0_size cX0_size 1 (some .int) ∈ TT := t2_in (List.mem_of_getElem? (i := 111) rfl) rfl
theorem wt2_112 : Cond.methodLink RL 18 yX8_setSign ∈ TT := t2_in (List.mem_of_getElem? (i := 112) rfl) rfl
theorem wt2_113 : Cond.instanceMethod yX8_setSign ∈ TT := t2_in (List.mem_of_getElem? (i := 113) rfl) rfl
theorem wt2_114 : Cond.selects RX8 yX8_setSign yX8_setSign ∈ TT := t2_in (List.mem_of_getElem? (i := 114) rfl) rfl
theorem wt2_115 : Cond.code yX8_setSign cX8_setSign 5 (some .int) ∈ TT := t2_in (List.mem_of_getElem? (i := 115) rfl) rfl
theorem wt2_116 : Cond.methodLink RX8 71 yX0_has ∈ TT := t2_in (List.mem_of_getElem? (i := 116) rfl) rfl
theorem wt2_117 : Cond.instanceMethod yX0_has ∈ TT := t2_in (List.mem_of_getElem? (i := 117) rfl) rfl
theorem wt2_118 : Cond.selects RX0 yX0_has yX0_has ∈ TT := t2_in (List.mem_of_getElem? (i := 118) rfl) rfl
theorem wt2_119 : Cond.code yX0_has cX0_has 2 (some .boolean) ∈ TT := t2_in (List.mem_of_getElem? (i := 119) rfl) rfl
theorem wt2_120 : Cond.methodLink RX8 75 yX0_signOf ∈ TT := t2_in (List.mem_of_getElem? (i := 120) rfl) rfl
theorem wt2_121 : Cond.instanceMethod yX0_signOf ∈ TT := t2_in (List.mem_of_getElem? (i := 121) rfl) rfl
theorem wt2_122 : Cond.selects RX0 yX0_signOf yX0_signOf ∈ TT := t2_in (List.mem_of_getElem? (i := 122) rfl) rfl
theorem wt2_123 : Cond.code yX0_signOf cX0_signOf 2 (some .int) ∈ TT := t2_in (List.mem_of_getElem? (i := 123) rfl) rfl
theorem wt2_124 : Cond.methodLink RX0 77 yX0_has ∈ TT := t2_in (List.mem_of_getElem? (i := 124) rfl) rfl
theorem wt2_125 : Cond.methodLink RX0 62 yX1_at ∈ TT := t2_in (List.mem_of_getElem? (i := 125) rfl) rfl
theorem wt2_126 : Cond.static yX1_at ∈ TT := t2_in (List.mem_of_getElem? (i := 126) rfl) rfl
theorem wt2_127 : Cond.code yX1_at cX1_at 2 (some .int) ∈ TT := t2_in (List.mem_of_getElem? (i := 127) rfl) rfl
theorem wt2_128 : Cond.methodLink RX8 79 yX0_shiftOwner ∈ TT := t2_in (List.mem_of_getElem? (i := 128) rfl) rfl
theorem wt2_129 : Cond.instanceMethod yX0_shiftOwner ∈ TT := t2_in (List.mem_of_getElem? (i := 129) rfl) rfl
theorem wt2_130 : Cond.selects RX0 yX0_shiftOwner yX0_shiftOwner ∈ TT := t2_in (List.mem_of_getElem? (i := 130) rfl) rfl
theorem wt2_131 : Cond.code yX0_shiftOwner cX0_shiftOwner 2 (some .int) ∈ TT := t2_in (List.mem_of_getElem? (i := 131) rfl) rfl
theorem wt2_132 : Cond.methodLink RX8 82 yX0_giveSign ∈ TT := t2_in (List.mem_of_getElem? (i := 132) rfl) rfl
theorem wt2_133 : Cond.instanceMethod yX0_giveSign ∈ TT := t2_in (List.mem_of_getElem? (i := 133) rfl) rfl
theorem wt2_134 : Cond.selects RX0 yX0_giveSign yX0_giveSign ∈ TT := t2_in (List.mem_of_getElem? (i := 134) rfl) rfl
theorem wt2_135 : Cond.code yX0_giveSign cX0_giveSign 4 none ∈ TT := t2_in (List.mem_of_getElem? (i := 135) rfl) rfl
theorem wt2_136 : Cond.methodLink RX0 81 yX0_shiftOwner ∈ TT := t2_in (List.mem_of_getElem? (i := 136) rfl) rfl
theorem wt2_137 : Cond.methodLink RX0 73 yX1_put ∈ TT := t2_in (List.mem_of_getElem? (i := 137) rfl) rfl
theorem wt2_138 : Cond.static yX1_put ∈ TT := t2_in (List.mem_of_getElem? (i := 138) rfl) rfl
theorem wt2_139 : Cond.code yX1_put cX1_put 3 none ∈ TT := t2_in (List.mem_of_getElem? (i := 139) rfl) rfl
theorem wt2_140 : Cond.methodLink RL 23 yX8_setShift ∈ TT := t2_in (List.mem_of_getElem? (i := 140) rfl) rfl
theorem wt2_141 : Cond.instanceMethod yX8_setShift ∈ TT := t2_in (List.mem_of_getElem? (i := 141) rfl) rfl
theorem wt2_142 : Cond.selects RX8 yX8_setShift yX8_setShift ∈ TT := t2_in (List.mem_of_getElem? (i := 142) rfl) rfl
theorem wt2_143 : Cond.code yX8_setShift cX8_setShift 6 (some .int) ∈ TT := t2_in (List.mem_of_getElem? (i := 143) rfl) rfl
theorem wt2_144 : Cond.methodLink RX8 86 yX5_isTypist ∈ TT := t2_in (List.mem_of_getElem? (i := 144) rfl) rfl
theorem wt2_145 : Cond.static yX5_isTypist ∈ TT := t2_in (List.mem_of_getElem? (i := 145) rfl) rfl
theorem wt2_146 : Cond.code yX5_isTypist cX5_isTypist 1 (some .boolean) ∈ TT := t2_in (List.mem_of_getElem? (i := 146) rfl) rfl
theorem wt2_147 : Cond.methodLink RX8 89 yX0_shiftOf ∈ TT := t2_in (List.mem_of_getElem? (i := 147) rfl) rfl
theorem wt2_148 : Cond.instanceMethod yX0_shiftOf ∈ TT := t2_in (List.mem_of_getElem? (i := 148) rfl) rfl
theorem wt2_149 : Cond.selects RX0 yX0_shiftOf yX0_shiftOf ∈ TT := t2_in (List.mem_of_getElem? (i := 149) rfl) rfl
theorem wt2_150 : Cond.code yX0_shiftOf cX0_shiftOf 2 (some .int) ∈ TT := t2_in (List.mem_of_getElem? (i := 150) rfl) rfl
theorem wt2_151 : Cond.methodLink RX8 92 yX0_giveShift ∈ TT := t2_in (List.mem_of_getElem? (i := 151) rfl) rfl
theorem wt2_152 : Cond.instanceMethod yX0_giveShift ∈ TT := t2_in (List.mem_of_getElem? (i := 152) rfl) rfl
theorem wt2_153 : Cond.selects RX0 yX0_giveShift yX0_giveShift ∈ TT := t2_in (List.mem_of_getElem? (i := 153) rfl) rfl
theorem wt2_154 : Cond.code yX0_giveShift cX0_giveShift 3 none ∈ TT := t2_in (List.mem_of_getElem? (i := 154) rfl) rfl
theorem wt2_155 : Cond.methodLink RL 27 yX8_borrow ∈ TT := t2_in (List.mem_of_getElem? (i := 155) rfl) rfl
theorem wt2_156 : Cond.instanceMethod yX8_borrow ∈ TT := t2_in (List.mem_of_getElem? (i := 156) rfl) rfl
theorem wt2_157 : Cond.selects RX8 yX8_borrow yX8_borrow ∈ TT := t2_in (List.mem_of_getElem? (i := 157) rfl) rfl
theorem wt2_158 : Cond.code yX8_borrow cX8_borrow 3 (some .int) ∈ TT := t2_in (List.mem_of_getElem? (i := 158) rfl) rfl
theorem wt2_159 : Cond.methodLink RX8 95 yX5_typistOf ∈ TT := t2_in (List.mem_of_getElem? (i := 159) rfl) rfl
theorem wt2_160 : Cond.instanceMethod yX5_typistOf ∈ TT := t2_in (List.mem_of_getElem? (i := 160) rfl) rfl
theorem wt2_161 : Cond.selects RX5 yX5_typistOf yX5_typistOf ∈ TT := t2_in (List.mem_of_getElem? (i := 161) rfl) rfl
theorem wt2_162 : Cond.code yX5_typistOf cX5_typistOf 2 (some (.object "BlanketKeys$Typist")) ∈ TT := t2_in (List.mem_of_getElem? (i := 162) rfl) rfl
theorem wt2_163 : Cond.methodLink RL 32 yX8_set ∈ TT := t2_in (List.mem_of_getElem? (i := 163) rfl) rfl
theorem wt2_164 : Cond.instanceMethod yX8_set ∈ TT := t2_in (List.mem_of_getElem? (i := 164) rfl) rfl
theorem wt2_165 : Cond.selects RX8 yX8_set yX8_set ∈ TT := t2_in (List.mem_of_getElem? (i := 165) rfl) rfl
theorem wt2_166 : Cond.code yX8_set cX8_set 4 (some .int) ∈ TT := t2_in (List.mem_of_getElem? (i := 166) rfl) rfl
theorem wt2_167 : Cond.methodLink RX8 111 yX4_accepts ∈ TT := t2_in (List.mem_of_getElem? (i := 167) rfl) rfl
theorem wt2_168 : Cond.static yX4_accepts ∈ TT := t2_in (List.mem_of_getElem? (i := 168) rfl) rfl
theorem wt2_169 : Cond.code yX4_accepts cX4_accepts 2 (some .boolean) ∈ TT := t2_in (List.mem_of_getElem? (i := 169) rfl) rfl
theorem wt2_170 : Cond.fieldLink RX4 35 "BlanketKeys$Settings" "LEAST_TOO_MUCH" "[I" ∈ TT := t2_in (List.mem_of_getElem? (i := 170) rfl) rfl
theorem wt2_172 : Cond.methodLink RX8 121 yX4_bitsOf ∈ TT := t2_in (List.mem_of_getElem? (i := 172) rfl) rfl
theorem wt2_173 : Cond.instanceMethod yX4_bitsOf ∈ TT := t2_in (List.mem_of_getElem? (i := 173) rfl) rfl
theorem wt2_174 : Cond.selects RX4 yX4_bitsOf yX4_bitsOf ∈ TT := t2_in (List.mem_of_getElem? (i := 174) rfl) rfl
theorem wt2_175 : Cond.code yX4_bitsOf cX4_bitsOf 2 (some .int) ∈ TT := t2_in (List.mem_of_getElem? (i := 175) rfl) rfl
theorem wt2_176 : Cond.methodLink RX4 38 yX1_at ∈ TT := t2_in (List.mem_of_getElem? (i := 176) rfl) rfl
theorem wt2_177 : Cond.methodLink RX8 124 yX4_change ∈ TT := t2_in (List.mem_of_getElem? (i := 177) rfl) rfl
theorem wt2_178 : Cond.instanceMethod yX4_change ∈ TT := t2_in (List.mem_of_getElem? (i := 178) rfl) rfl
theorem wt2_179 : Cond.selects RX4 yX4_change yX4_change ∈ TT := t2_in (List.mem_of_getElem? (i := 179) rfl) rfl
theorem wt2_180 : Cond.code yX4_change cX4_change 4 none ∈ TT := t2_in (List.mem_of_getElem? (i := 180) rfl) rfl
theorem wt2_181 : Cond.methodLink RX4 42 yX1_put ∈ TT := t2_in (List.mem_of_getElem? (i := 181) rfl) rfl
theorem wt2_182 : Cond.methodLink RX4 46 yX4_valueOf ∈ TT := t2_in (List.mem_of_getElem? (i := 182) rfl) rfl
theorem wt2_183 : Cond.static yX4_valueOf ∈ TT := t2_in (List.mem_of_getElem? (i := 183) rfl) rfl
theorem wt2_184 : Cond.code yX4_valueOf cX4_valueOf 6 (some .float) ∈ TT := t2_in (List.mem_of_getElem? (i := 184) rfl) rfl
theorem wt2_185 : Cond.constant RX4 50 (8388607) ∈ TT := t2_in (List.mem_of_getElem? (i := 185) rfl) rfl
theorem wt2_186 : Cond.constant RX4 51 (8388608) ∈ TT := t2_in (List.mem_of_getElem? (i := 186) rfl) rfl
theorem wt2_187 : Cond.methodLink RL 36 yX8_press ∈ TT := t2_in (List.mem_of_getElem? (i := 187) rfl) rfl
theorem wt2_188 : Cond.instanceMethod yX8_press ∈ TT := t2_in (List.mem_of_getElem? (i := 188) rfl) rfl
theorem wt2_189 : Cond.selects RX8 yX8_press yX8_press ∈ TT := t2_in (List.mem_of_getElem? (i := 189) rfl) rfl
theorem wt2_190 : Cond.code yX8_press cX8_press 4 (some .int) ∈ TT := t2_in (List.mem_of_getElem? (i := 190) rfl) rfl
theorem wt2_191 : Cond.methodLink RX8 127 yX5_pressError ∈ TT := t2_in (List.mem_of_getElem? (i := 191) rfl) rfl
theorem wt2_192 : Cond.instanceMethod yX5_pressError ∈ TT := t2_in (List.mem_of_getElem? (i := 192) rfl) rfl
theorem wt2_193 : Cond.selects RX5 yX5_pressError yX5_pressError ∈ TT := t2_in (List.mem_of_getElem? (i := 193) rfl) rfl
theorem wt2_194 : Cond.code yX5_pressError cX5_pressError 3 (some .int) ∈ TT := t2_in (List.mem_of_getElem? (i := 194) rfl) rfl
theorem wt2_195 : Cond.methodLink RX5 80 yX5_isTypist ∈ TT := t2_in (List.mem_of_getElem? (i := 195) rfl) rfl
theorem wt2_196 : Cond.methodLink RX5 84 yX0_has ∈ TT := t2_in (List.mem_of_getElem? (i := 196) rfl) rfl
theorem wt2_197 : Cond.methodLink RX5 87 yX0_isDown ∈ TT := t2_in (List.mem_of_getElem? (i := 197) rfl) rfl
theorem wt2_198 : Cond.instanceMethod yX0_isDown ∈ TT := t2_in (List.mem_of_getElem? (i := 198) rfl) rfl
theorem wt2_199 : Cond.selects RX0 yX0_isDown yX0_isDown ∈ TT := t2_in (List.mem_of_getElem? (i := 199) rfl) rfl
theorem wt2_200 : Cond.code yX0_isDown cX0_isDown 2 (some .boolean) ∈ TT := t2_in (List.mem_of_getElem? (i := 200) rfl) rfl
theorem wt2_201 : Cond.methodLink RX0 58 yX0_rowOf ∈ TT := t2_in (List.mem_of_getElem? (i := 201) rfl) rfl
theorem wt2_202 : Cond.instanceMethod yX0_rowOf ∈ TT := t2_in (List.mem_of_getElem? (i := 202) rfl) rfl
theorem wt2_203 : Cond.selects RX0 yX0_rowOf yX0_rowOf ∈ TT := t2_in (List.mem_of_getElem? (i := 203) rfl) rfl
theorem wt2_204 : Cond.code yX0_rowOf cX0_rowOf 2 (some .int) ∈ TT := t2_in (List.mem_of_getElem? (i := 204) rfl) rfl
theorem wt2_205 : Cond.methodLink RX0 66 yX0_bitOf ∈ TT := t2_in (List.mem_of_getElem? (i := 205) rfl) rfl
theorem wt2_206 : Cond.instanceMethod yX0_bitOf ∈ TT := t2_in (List.mem_of_getElem? (i := 206) rfl) rfl
theorem wt2_207 : Cond.selects RX0 yX0_bitOf yX0_bitOf ∈ TT := t2_in (List.mem_of_getElem? (i := 207) rfl) rfl
theorem wt2_208 : Cond.code yX0_bitOf cX0_bitOf 2 (some .int) ∈ TT := t2_in (List.mem_of_getElem? (i := 208) rfl) rfl
theorem wt2_209 : Cond.methodLink RX5 90 yX0_heldBy ∈ TT := t2_in (List.mem_of_getElem? (i := 209) rfl) rfl
theorem wt2_210 : Cond.instanceMethod yX0_heldBy ∈ TT := t2_in (List.mem_of_getElem? (i := 210) rfl) rfl
theorem wt2_211 : Cond.selects RX0 yX0_heldBy yX0_heldBy ∈ TT := t2_in (List.mem_of_getElem? (i := 211) rfl) rfl
theorem wt2_212 : Cond.code yX0_heldBy cX0_heldBy 7 (some .int) ∈ TT := t2_in (List.mem_of_getElem? (i := 212) rfl) rfl
theorem wt2_213 : Cond.methodLink RX8 131 yX0_putDown ∈ TT := t2_in (List.mem_of_getElem? (i := 213) rfl) rfl
theorem wt2_214 : Cond.instanceMethod yX0_putDown ∈ TT := t2_in (List.mem_of_getElem? (i := 214) rfl) rfl
theorem wt2_215 : Cond.selects RX0 yX0_putDown yX0_putDown ∈ TT := t2_in (List.mem_of_getElem? (i := 215) rfl) rfl
theorem wt2_216 : Cond.code yX0_putDown cX0_putDown 4 none ∈ TT := t2_in (List.mem_of_getElem? (i := 216) rfl) rfl
theorem wt2_217 : Cond.methodLink RX8 134 yX0_heldBy ∈ TT := t2_in (List.mem_of_getElem? (i := 217) rfl) rfl
theorem wt2_218 : Cond.methodLink RL 40 yX8_release ∈ TT := t2_in (List.mem_of_getElem? (i := 218) rfl) rfl
theorem wt2_219 : Cond.instanceMethod yX8_release ∈ TT := t2_in (List.mem_of_getElem? (i := 219) rfl) rfl
theorem wt2_220 : Cond.selects RX8 yX8_release yX8_release ∈ TT := t2_in (List.mem_of_getElem? (i := 220) rfl) rfl
theorem wt2_221 : Cond.code yX8_release cX8_release 4 (some .int) ∈ TT := t2_in (List.mem_of_getElem? (i := 221) rfl) rfl
theorem wt2_222 : Cond.methodLink RX8 137 yX5_releaseError ∈ TT := t2_in (List.mem_of_getElem? (i := 222) rfl) rfl
theorem wt2_223 : Cond.instanceMethod yX5_releaseError ∈ TT := t2_in (List.mem_of_getElem? (i := 223) rfl) rfl
theorem wt2_224 : Cond.selects RX5 yX5_releaseError yX5_releaseError ∈ TT := t2_in (List.mem_of_getElem? (i := 224) rfl) rfl
theorem wt2_225 : Cond.code yX5_releaseError cX5_releaseError 3 (some .int) ∈ TT := t2_in (List.mem_of_getElem? (i := 225) rfl) rfl
theorem wt2_226 : Cond.methodLink RX5 94 yX0_holderOf ∈ TT := t2_in (List.mem_of_getElem? (i := 226) rfl) rfl
theorem wt2_227 : Cond.instanceMethod yX0_holderOf ∈ TT := t2_in (List.mem_of_getElem? (i := 227) rfl) rfl
theorem wt2_228 : Cond.selects RX0 yX0_holderOf yX0_holderOf ∈ TT := t2_in (List.mem_of_getElem? (i := 228) rfl) rfl
theorem wt2_229 : Cond.code yX0_holderOf cX0_holderOf 2 (some .int) ∈ TT := t2_in (List.mem_of_getElem? (i := 229) rfl) rfl
theorem wt2_230 : Cond.methodLink RX8 140 yX0_liftUp ∈ TT := t2_in (List.mem_of_getElem? (i := 230) rfl) rfl
theorem wt2_231 : Cond.instanceMethod yX0_liftUp ∈ TT := t2_in (List.mem_of_getElem? (i := 231) rfl) rfl
theorem wt2_232 : Cond.selects RX0 yX0_liftUp yX0_liftUp ∈ TT := t2_in (List.mem_of_getElem? (i := 232) rfl) rfl
theorem wt2_233 : Cond.code yX0_liftUp cX0_liftUp 3 none ∈ TT := t2_in (List.mem_of_getElem? (i := 233) rfl) rfl
theorem wt2_234 : Cond.methodLink RL 44 yX8_tick ∈ TT := t2_in (List.mem_of_getElem? (i := 234) rfl) rfl
theorem wt2_235 : Cond.instanceMethod yX8_tick ∈ TT := t2_in (List.mem_of_getElem? (i := 235) rfl) rfl
theorem wt2_236 : Cond.selects RX8 yX8_tick yX8_tick ∈ TT := t2_in (List.mem_of_getElem? (i := 236) rfl) rfl
theorem wt2_237 : Cond.code yX8_tick cX8_tick 2 (some .int) ∈ TT := t2_in (List.mem_of_getElem? (i := 237) rfl) rfl
theorem wt2_238 : Cond.methodLink RX8 144 yX5_pass ∈ TT := t2_in (List.mem_of_getElem? (i := 238) rfl) rfl
theorem wt2_239 : Cond.instanceMethod yX5_pass ∈ TT := t2_in (List.mem_of_getElem? (i := 239) rfl) rfl
theorem wt3_0 : Cond.selects RX5 yX5_pass yX5_pass ∈ TT := t3_in (List.mem_of_getElem? (i := 0) rfl) rfl
theorem wt3_1 : Cond.code yX5_pass cX5_pass 8 (some .int) ∈ TT := t3_in (List.mem_of_getElem? (i := 1) rfl) rfl
theorem wt3_2 : Cond.methodLink RX5 106 yX5_drivenRow ∈ TT := t3_in (List.mem_of_getElem? (i := 2) rfl) rfl
theorem wt3_3 : Cond.instanceMethod yX5_drivenRow ∈ TT := t3_in (List.mem_of_getElem? (i := 3) rfl) rfl
theorem wt3_4 : Cond.selects RX5 yX5_drivenRow yX5_drivenRow ∈ TT := t3_in (List.mem_of_getElem? (i := 4) rfl) rfl
theorem wt3_5 : Cond.code yX5_drivenRow cX5_drivenRow 1 (some .int) ∈ TT := t3_in (List.mem_of_getElem? (i := 5) rfl) rfl
theorem wt3_6 : Cond.methodLink RX5 100 yJ9_floorMod_7cf53 ∈ TT := t3_in (List.mem_of_getElem? (i := 6) rfl) rfl
theorem wt3_7 : Cond.static yJ9_floorMod_7cf53 ∈ TT := t3_in (List.mem_of_getElem? (i := 7) rfl) rfl
theorem wt3_8 : Cond.code yJ9_floorMod_7cf53 cJ9_floorMod_7cf53 3 (some .int) ∈ TT := t3_in (List.mem_of_getElem? (i := 8) rfl) rfl
theorem wt3_9 : Cond.methodLink RX5 114 yX1_at ∈ TT := t3_in (List.mem_of_getElem? (i := 9) rfl) rfl
theorem wt3_10 : Cond.methodLink RX5 120 yX0_sensed ∈ TT := t3_in (List.mem_of_getElem? (i := 10) rfl) rfl
theorem wt3_11 : Cond.instanceMethod yX0_sensed ∈ TT := t3_in (List.mem_of_getElem? (i := 11) rfl) rfl
theorem wt3_12 : Cond.selects RX0 yX0_sensed yX0_sensed ∈ TT := t3_in (List.mem_of_getElem? (i := 12) rfl) rfl
theorem wt3_13 : Cond.code yX0_sensed cX0_sensed 8 (some .int) ∈ TT := t3_in (List.mem_of_getElem? (i := 13) rfl) rfl
theorem wt3_14 : Cond.methodLink RX0 93 yX0_joined ∈ TT := t3_in (List.mem_of_getElem? (i := 14) rfl) rfl
theorem wt3_15 : Cond.instanceMethod yX0_joined ∈ TT := t3_in (List.mem_of_getElem? (i := 15) rfl) rfl
theorem wt3_16 : Cond.selects RX0 yX0_joined yX0_joined ∈ TT := t3_in (List.mem_of_getElem? (i := 16) rfl) rfl
theorem wt3_17 : Cond.code yX0_joined cX0_joined 4 (some .int) ∈ TT := t3_in (List.mem_of_getElem? (i := 17) rfl) rfl
theorem wt3_18 : Cond.methodLink RX5 126 yX5_endStroke ∈ TT := t3_in (List.mem_of_getElem? (i := 18) rfl) rfl
theorem wt3_19 : Cond.instanceMethod yX5_endStroke ∈ TT := t3_in (List.mem_of_getElem? (i := 19) rfl) rfl
theorem wt3_20 : Cond.selects RX5 yX5_endStroke yX5_endStroke ∈ TT := t3_in (List.mem_of_getElem? (i := 20) rfl) rfl
theorem wt3_21 : Cond.code yX5_endStroke cX5_endStroke 3 none ∈ TT := t3_in (List.mem_of_getElem? (i := 21) rfl) rfl
theorem wt3_22 : Cond.methodLink RX5 158 yX5_fateNow ∈ TT := t3_in (List.mem_of_getElem? (i := 22) rfl) rfl
theorem wt3_23 : Cond.instanceMethod yX5_fateNow ∈ TT := t3_in (List.mem_of_getElem? (i := 23) rfl) rfl
theorem wt3_24 : Cond.selects RX5 yX5_fateNow yX5_fateNow ∈ TT := t3_in (List.mem_of_getElem? (i := 24) rfl) rfl
theorem wt3_25 : Cond.code yX5_fateNow cX5_fateNow 9 (some .int) ∈ TT := t3_in (List.mem_of_getElem? (i := 25) rfl) rfl
theorem wt3_26 : Cond.methodLink RX5 134 yX0_isDoubtful ∈ TT := t3_in (List.mem_of_getElem? (i := 26) rfl) rfl
theorem wt3_27 : Cond.instanceMethod yX0_isDoubtful ∈ TT := t3_in (List.mem_of_getElem? (i := 27) rfl) rfl
theorem wt3_28 : Cond.selects RX0 yX0_isDoubtful yX0_isDoubtful ∈ TT := t3_in (List.mem_of_getElem? (i := 28) rfl) rfl
theorem wt3_29 : Cond.code yX0_isDoubtful cX0_isDoubtful 2 (some .boolean) ∈ TT := t3_in (List.mem_of_getElem? (i := 29) rfl) rfl
theorem wt3_30 : Cond.methodLink RX5 137 yX0_shiftOwner ∈ TT := t3_in (List.mem_of_getElem? (i := 30) rfl) rfl
theorem wt3_31 : Cond.methodLink RX5 140 yX0_sinceOf ∈ TT := t3_in (List.mem_of_getElem? (i := 31) rfl) rfl
theorem wt3_32 : Cond.instanceMethod yX0_sinceOf ∈ TT := t3_in (List.mem_of_getElem? (i := 32) rfl) rfl
theorem wt3_33 : Cond.selects RX0 yX0_sinceOf yX0_sinceOf ∈ TT := t3_in (List.mem_of_getElem? (i := 33) rfl) rfl
theorem wt3_34 : Cond.code yX0_sinceOf cX0_sinceOf 2 (some .int) ∈ TT := t3_in (List.mem_of_getElem? (i := 34) rfl) rfl
theorem wt3_35 : Cond.methodLink RX5 143 yX7_distanceOf ∈ TT := t3_in (List.mem_of_getElem? (i := 35) rfl) rfl
theorem wt3_36 : Cond.instanceMethod yX7_distanceOf ∈ TT := t3_in (List.mem_of_getElem? (i := 36) rfl) rfl
theorem wt3_37 : Cond.selects RX7 yX7_distanceOf yX7_distanceOf ∈ TT := t3_in (List.mem_of_getElem? (i := 37) rfl) rfl
theorem wt3_38 : Cond.code yX7_distanceOf cX7_distanceOf 4 (some .float) ∈ TT := t3_in (List.mem_of_getElem? (i := 38) rfl) rfl
theorem wt3_39 : Cond.methodLink RX7 45 yX7_unsigned ∈ TT := t3_in (List.mem_of_getElem? (i := 39) rfl) rfl
theorem wt3_40 : Cond.static yX7_unsigned ∈ TT := t3_in (List.mem_of_getElem? (i := 40) rfl) rfl
theorem wt3_41 : Cond.code yX7_unsigned cX7_unsigned 1 (some .float) ∈ TT := t3_in (List.mem_of_getElem? (i := 41) rfl) rfl
theorem wt3_42 : Cond.methodLink RX7 49 yJ9_abs_0f7a4 ∈ TT := t3_in (List.mem_of_getElem? (i := 42) rfl) rfl
theorem wt3_43 : Cond.static yJ9_abs_0f7a4 ∈ TT := t3_in (List.mem_of_getElem? (i := 43) rfl) rfl
theorem wt3_44 : Cond.code yJ9_abs_0f7a4 cJ9_abs_0f7a4 1 (some .int) ∈ TT := t3_in (List.mem_of_getElem? (i := 44) rfl) rfl
theorem wt3_45 : Cond.constantFloat RX7 55 (1056964608) ∈ TT := t3_in (List.mem_of_getElem? (i := 45) rfl) rfl
theorem wt3_46 : Cond.methodLink RX5 151 yX7_unsigned ∈ TT := t3_in (List.mem_of_getElem? (i := 46) rfl) rfl
theorem wt3_47 : Cond.methodLink RX5 161 yX6_addFrom ∈ TT := t3_in (List.mem_of_getElem? (i := 47) rfl) rfl
theorem wt3_48 : Cond.instanceMethod yX6_addFrom ∈ TT := t3_in (List.mem_of_getElem? (i := 48) rfl) rfl
theorem wt3_49 : Cond.selects RX6 yX6_addFrom yX6_addFrom ∈ TT := t3_in (List.mem_of_getElem? (i := 49) rfl) rfl
theorem wt3_50 : Cond.code yX6_addFrom cX6_addFrom 6 none ∈ TT := t3_in (List.mem_of_getElem? (i := 50) rfl) rfl
theorem wt3_51 : Cond.methodLink RX6 43 yX6_slot ∈ TT := t3_in (List.mem_of_getElem? (i := 51) rfl) rfl
theorem wt3_52 : Cond.static yX6_slot ∈ TT := t3_in (List.mem_of_getElem? (i := 52) rfl) rfl
theorem wt3_53 : Cond.code yX6_slot cX6_slot 1 (some .int) ∈ TT := t3_in (List.mem_of_getElem? (i := 53) rfl) rfl
theorem wt3_54 : Cond.methodLink RX6 47 yX1_put ∈ TT := t3_in (List.mem_of_getElem? (i := 54) rfl) rfl
theorem wt3_55 : Cond.methodLink RX6 51 yX0_sinceOf ∈ TT := t3_in (List.mem_of_getElem? (i := 55) rfl) rfl
theorem wt3_56 : Cond.methodLink RX6 56 yX0_trueHolderOf ∈ TT := t3_in (List.mem_of_getElem? (i := 56) rfl) rfl
theorem wt3_57 : Cond.instanceMethod yX0_trueHolderOf ∈ TT := t3_in (List.mem_of_getElem? (i := 57) rfl) rfl
theorem wt3_58 : Cond.selects RX0 yX0_trueHolderOf yX0_trueHolderOf ∈ TT := t3_in (List.mem_of_getElem? (i := 58) rfl) rfl
theorem wt3_59 : Cond.code yX0_trueHolderOf cX0_trueHolderOf 2 (some .int) ∈ TT := t3_in (List.mem_of_getElem? (i := 59) rfl) rfl
theorem wt3_60 : Cond.methodLink RX6 59 yX0_notedFor ∈ TT := t3_in (List.mem_of_getElem? (i := 60) rfl) rfl
theorem wt3_61 : Cond.instanceMethod yX0_notedFor ∈ TT := t3_in (List.mem_of_getElem? (i := 61) rfl) rfl
theorem wt3_62 : Cond.selects RX0 yX0_notedFor yX0_notedFor ∈ TT := t3_in (List.mem_of_getElem? (i := 62) rfl) rfl
theorem wt3_63 : Cond.code yX0_notedFor cX0_notedFor 2 (some .int) ∈ TT := t3_in (List.mem_of_getElem? (i := 63) rfl) rfl
theorem wt3_64 : Cond.methodLink RX5 165 yX0_loseSight ∈ TT := t3_in (List.mem_of_getElem? (i := 64) rfl) rfl
theorem wt3_65 : Cond.instanceMethod yX0_loseSight ∈ TT := t3_in (List.mem_of_getElem? (i := 65) rfl) rfl
theorem wt3_66 : Cond.selects RX0 yX0_loseSight yX0_loseSight ∈ TT := t3_in (List.mem_of_getElem? (i := 66) rfl) rfl
theorem wt3_67 : Cond.code yX0_loseSight cX0_loseSight 3 none ∈ TT := t3_in (List.mem_of_getElem? (i := 67) rfl) rfl
theorem wt3_68 : Cond.methodLink RX5 168 yX6_addLatestOf ∈ TT := t3_in (List.mem_of_getElem? (i := 68) rfl) rfl
theorem wt3_69 : Cond.instanceMethod yX6_addLatestOf ∈ TT := t3_in (List.mem_of_getElem? (i := 69) rfl) rfl
theorem wt3_70 : Cond.selects RX6 yX6_addLatestOf yX6_addLatestOf ∈ TT := t3_in (List.mem_of_getElem? (i := 70) rfl) rfl
theorem wt3_71 : Cond.code yX6_addLatestOf cX6_addLatestOf 4 none ∈ TT := t3_in (List.mem_of_getElem? (i := 71) rfl) rfl
theorem wt3_72 : Cond.methodLink RX6 62 yX6_keyOf ∈ TT := t3_in (List.mem_of_getElem? (i := 72) rfl) rfl
theorem wt3_73 : Cond.instanceMethod yX6_keyOf ∈ TT := t3_in (List.mem_of_getElem? (i := 73) rfl) rfl
theorem wt3_74 : Cond.selects RX6 yX6_keyOf yX6_keyOf ∈ TT := t3_in (List.mem_of_getElem? (i := 74) rfl) rfl
theorem wt3_75 : Cond.code yX6_keyOf cX6_keyOf 2 (some .int) ∈ TT := t3_in (List.mem_of_getElem? (i := 75) rfl) rfl
theorem wt3_76 : Cond.methodLink RX6 78 yX1_at ∈ TT := t3_in (List.mem_of_getElem? (i := 76) rfl) rfl
theorem wt3_77 : Cond.methodLink RX6 65 yX6_sinceOf ∈ TT := t3_in (List.mem_of_getElem? (i := 77) rfl) rfl
theorem wt3_78 : Cond.instanceMethod yX6_sinceOf ∈ TT := t3_in (List.mem_of_getElem? (i := 78) rfl) rfl
theorem wt3_79 : Cond.selects RX6 yX6_sinceOf yX6_sinceOf ∈ TT := t3_in (List.mem_of_getElem? (i := 79) rfl) rfl
theorem wt3_80 : Cond.code yX6_sinceOf cX6_sinceOf 2 (some .int) ∈ TT := t3_in (List.mem_of_getElem? (i := 80) rfl) rfl
theorem wt3_81 : Cond.methodLink RX6 66 yX6_dwellOf ∈ TT := t3_in (List.mem_of_getElem? (i := 81) rfl) rfl
theorem wt3_82 : Cond.instanceMethod yX6_dwellOf ∈ TT := t3_in (List.mem_of_getElem? (i := 82) rfl) rfl
theorem wt3_83 : Cond.selects RX6 yX6_dwellOf yX6_dwellOf ∈ TT := t3_in (List.mem_of_getElem? (i := 83) rfl) rfl
theorem wt3_84 : Cond.code yX6_dwellOf cX6_dwellOf 2 (some .int) ∈ TT := t3_in (List.mem_of_getElem? (i := 84) rfl) rfl
theorem wt3_85 : Cond.methodLink RX6 69 yX6_fateOf ∈ TT := t3_in (List.mem_of_getElem? (i := 85) rfl) rfl
theorem wt3_86 : Cond.instanceMethod yX6_fateOf ∈ TT := t3_in (List.mem_of_getElem? (i := 86) rfl) rfl
theorem wt3_87 : Cond.selects RX6 yX6_fateOf yX6_fateOf ∈ TT := t3_in (List.mem_of_getElem? (i := 87) rfl) rfl
theorem wt3_88 : Cond.code yX6_fateOf cX6_fateOf 2 (some .int) ∈ TT := t3_in (List.mem_of_getElem? (i := 88) rfl) rfl
theorem wt3_89 : Cond.methodLink RX6 72 yX6_holderOf ∈ TT := t3_in (List.mem_of_getElem? (i := 89) rfl) rfl
theorem wt3_90 : Cond.instanceMethod yX6_holderOf ∈ TT := t3_in (List.mem_of_getElem? (i := 90) rfl) rfl
theorem wt3_91 : Cond.selects RX6 yX6_holderOf yX6_holderOf ∈ TT := t3_in (List.mem_of_getElem? (i := 91) rfl) rfl
theorem wt3_92 : Cond.code yX6_holderOf cX6_holderOf 2 (some .int) ∈ TT := t3_in (List.mem_of_getElem? (i := 92) rfl) rfl
theorem wt3_93 : Cond.methodLink RX6 75 yX6_notedOf ∈ TT := t3_in (List.mem_of_getElem? (i := 93) rfl) rfl
theorem wt3_94 : Cond.instanceMethod yX6_notedOf ∈ TT := t3_in (List.mem_of_getElem? (i := 94) rfl) rfl
theorem wt3_95 : Cond.selects RX6 yX6_notedOf yX6_notedOf ∈ TT := t3_in (List.mem_of_getElem? (i := 95) rfl) rfl
theorem wt3_96 : Cond.code yX6_notedOf cX6_notedOf 2 (some .int) ∈ TT := t3_in (List.mem_of_getElem? (i := 96) rfl) rfl
theorem wt3_97 : Cond.methodLink RX5 171 yX5_finish ∈ TT := t3_in (List.mem_of_getElem? (i := 97) rfl) rfl
theorem wt3_98 : Cond.instanceMethod yX5_finish ∈ TT := t3_in (List.mem_of_getElem? (i := 98) rfl) rfl
theorem wt3_99 : Cond.selects RX5 yX5_finish yX5_finish ∈ TT := t3_in (List.mem_of_getElem? (i := 99) rfl) rfl
theorem wt3_100 : Cond.code yX5_finish cX5_finish 10 none ∈ TT := t3_in (List.mem_of_getElem? (i := 100) rfl) rfl
theorem wt3_101 : Cond.methodLink RX5 182 yX6_holderOf ∈ TT := t3_in (List.mem_of_getElem? (i := 101) rfl) rfl
theorem wt3_102 : Cond.methodLink RX5 183 yX5_typistOf ∈ TT := t3_in (List.mem_of_getElem? (i := 102) rfl) rfl
theorem wt3_103 : Cond.methodLink RX5 193 yX6_sinceOf ∈ TT := t3_in (List.mem_of_getElem? (i := 103) rfl) rfl
theorem wt3_104 : Cond.methodLink RX5 194 yX6_dwellOf ∈ TT := t3_in (List.mem_of_getElem? (i := 104) rfl) rfl
theorem wt3_105 : Cond.methodLink RX5 200 yX7_learn ∈ TT := t3_in (List.mem_of_getElem? (i := 105) rfl) rfl
theorem wt3_106 : Cond.instanceMethod yX7_learn ∈ TT := t3_in (List.mem_of_getElem? (i := 106) rfl) rfl
theorem wt3_107 : Cond.selects RX7 yX7_learn yX7_learn ∈ TT := t3_in (List.mem_of_getElem? (i := 107) rfl) rfl
theorem wt3_108 : Cond.code yX7_learn cX7_learn 4 none ∈ TT := t3_in (List.mem_of_getElem? (i := 108) rfl) rfl
theorem wt3_109 : Cond.methodLink RX7 56 yX7_atLeastHalf ∈ TT := t3_in (List.mem_of_getElem? (i := 109) rfl) rfl
theorem wt3_110 : Cond.static yX7_atLeastHalf ∈ TT := t3_in (List.mem_of_getElem? (i := 110) rfl) rfl
theorem wt3_111 : Cond.code yX7_atLeastHalf cX7_atLeastHalf 1 (some .float) ∈ TT := t3_in (List.mem_of_getElem? (i := 111) rfl) rfl
theorem wt3_112 : Cond.methodLink RX5 204 yX6_keyOf ∈ TT := t3_in (List.mem_of_getElem? (i := 112) rfl) rfl
theorem wt3_113 : Cond.methodLink RX5 207 yX0_signOf ∈ TT := t3_in (List.mem_of_getElem? (i := 113) rfl) rfl
theorem wt3_114 : Cond.methodLink RX5 214 yX6_notedOf ∈ TT := t3_in (List.mem_of_getElem? (i := 114) rfl) rfl
theorem wt3_115 : Cond.methodLink RX5 217 yX7_addSign ∈ TT := t3_in (List.mem_of_getElem? (i := 115) rfl) rfl
theorem wt3_116 : Cond.instanceMethod yX7_addSign ∈ TT := t3_in (List.mem_of_getElem? (i := 116) rfl) rfl
theorem wt3_117 : Cond.selects RX7 yX7_addSign yX7_addSign ∈ TT := t3_in (List.mem_of_getElem? (i := 117) rfl) rfl
theorem wt3_118 : Cond.code yX7_addSign cX7_addSign 2 none ∈ TT := t3_in (List.mem_of_getElem? (i := 118) rfl) rfl
theorem wt3_119 : Cond.methodLink RX7 59 yJ9_floorMod_7cf53 ∈ TT := t3_in (List.mem_of_getElem? (i := 119) rfl) rfl
theorem wt3_120 : Cond.methodLink RX7 63 yX1_put ∈ TT := t3_in (List.mem_of_getElem? (i := 120) rfl) rfl
theorem wt3_121 : Cond.methodLink RX5 130 yX0_see ∈ TT := t3_in (List.mem_of_getElem? (i := 121) rfl) rfl
theorem wt3_122 : Cond.instanceMethod yX0_see ∈ TT := t3_in (List.mem_of_getElem? (i := 122) rfl) rfl
theorem wt3_123 : Cond.selects RX0 yX0_see yX0_see ∈ TT := t3_in (List.mem_of_getElem? (i := 123) rfl) rfl
theorem wt3_124 : Cond.code yX0_see cX0_see 7 none ∈ TT := t3_in (List.mem_of_getElem? (i := 124) rfl) rfl
theorem wt3_125 : Cond.methodLink RX0 105 yX0_closesCorner ∈ TT := t3_in (List.mem_of_getElem? (i := 125) rfl) rfl
theorem wt3_126 : Cond.instanceMethod yX0_closesCorner ∈ TT := t3_in (List.mem_of_getElem? (i := 126) rfl) rfl
theorem wt3_127 : Cond.selects RX0 yX0_closesCorner yX0_closesCorner ∈ TT := t3_in (List.mem_of_getElem? (i := 127) rfl) rfl
theorem wt3_128 : Cond.code yX0_closesCorner cX0_closesCorner 6 (some .boolean) ∈ TT := t3_in (List.mem_of_getElem? (i := 128) rfl) rfl
theorem wt3_129 : Cond.methodLink RX0 109 yX0_isShiftOn ∈ TT := t3_in (List.mem_of_getElem? (i := 129) rfl) rfl
theorem wt3_130 : Cond.instanceMethod yX0_isShiftOn ∈ TT := t3_in (List.mem_of_getElem? (i := 130) rfl) rfl
theorem wt3_131 : Cond.selects RX0 yX0_isShiftOn yX0_isShiftOn ∈ TT := t3_in (List.mem_of_getElem? (i := 131) rfl) rfl
theorem wt3_132 : Cond.code yX0_isShiftOn cX0_isShiftOn 3 (some .boolean) ∈ TT := t3_in (List.mem_of_getElem? (i := 132) rfl) rfl
theorem wt3_133 : Cond.methodLink RX0 84 yX0_shiftOf ∈ TT := t3_in (List.mem_of_getElem? (i := 133) rfl) rfl
theorem wt3_134 : Cond.methodLink RX0 87 yX0_isSeen ∈ TT := t3_in (List.mem_of_getElem? (i := 134) rfl) rfl
theorem wt3_135 : Cond.instanceMethod yX0_isSeen ∈ TT := t3_in (List.mem_of_getElem? (i := 135) rfl) rfl
theorem wt3_136 : Cond.selects RX0 yX0_isSeen yX0_isSeen ∈ TT := t3_in (List.mem_of_getElem? (i := 136) rfl) rfl
theorem wt3_137 : Cond.code yX0_isSeen cX0_isSeen 2 (some .boolean) ∈ TT := t3_in (List.mem_of_getElem? (i := 137) rfl) rfl
theorem wt3_138 : Cond.methodLink RX0 90 yX0_isDoubtful ∈ TT := t3_in (List.mem_of_getElem? (i := 138) rfl) rfl
theorem wt3_139 : Cond.methodLink RL 49 yX8_settle ∈ TT := t3_in (List.mem_of_getElem? (i := 139) rfl) rfl
theorem wt3_140 : Cond.instanceMethod yX8_settle ∈ TT := t3_in (List.mem_of_getElem? (i := 140) rfl) rfl
theorem wt3_141 : Cond.selects RX8 yX8_settle yX8_settle ∈ TT := t3_in (List.mem_of_getElem? (i := 141) rfl) rfl
theorem wt3_142 : Cond.code yX8_settle cX8_settle 3 (some .int) ∈ TT := t3_in (List.mem_of_getElem? (i := 142) rfl) rfl
theorem wt3_143 : Cond.methodLink RX8 147 yX5_hasDispute ∈ TT := t3_in (List.mem_of_getElem? (i := 143) rfl) rfl
theorem wt3_144 : Cond.instanceMethod yX5_hasDispute ∈ TT := t3_in (List.mem_of_getElem? (i := 144) rfl) rfl
theorem wt3_145 : Cond.selects RX5 yX5_hasDispute yX5_hasDispute ∈ TT := t3_in (List.mem_of_getElem? (i := 145) rfl) rfl
theorem wt3_146 : Cond.code yX5_hasDispute cX5_hasDispute 2 (some .boolean) ∈ TT := t3_in (List.mem_of_getElem? (i := 146) rfl) rfl
theorem wt3_147 : Cond.methodLink RX8 154 yX6_fateOf ∈ TT := t3_in (List.mem_of_getElem? (i := 147) rfl) rfl
theorem wt3_148 : Cond.methodLink RX8 159 yX5_settleByHand ∈ TT := t3_in (List.mem_of_getElem? (i := 148) rfl) rfl
theorem wt3_149 : Cond.instanceMethod yX5_settleByHand ∈ TT := t3_in (List.mem_of_getElem? (i := 149) rfl) rfl
theorem wt3_150 : Cond.selects RX5 yX5_settleByHand yX5_settleByHand ∈ TT := t3_in (List.mem_of_getElem? (i := 150) rfl) rfl
theorem wt3_151 : Cond.code yX5_settleByHand cX5_settleByHand 3 none ∈ TT := t3_in (List.mem_of_getElem? (i := 151) rfl) rfl
theorem wt3_152 : Cond.methodLink RX5 175 yX6_changeFate ∈ TT := t3_in (List.mem_of_getElem? (i := 152) rfl) rfl
theorem wt3_153 : Cond.instanceMethod yX6_changeFate ∈ TT := t3_in (List.mem_of_getElem? (i := 153) rfl) rfl
theorem wt3_154 : Cond.selects RX6 yX6_changeFate yX6_changeFate ∈ TT := t3_in (List.mem_of_getElem? (i := 154) rfl) rfl
theorem wt3_155 : Cond.code yX6_changeFate cX6_changeFate 3 none ∈ TT := t3_in (List.mem_of_getElem? (i := 155) rfl) rfl
theorem wt3_156 : Cond.methodLink RX6 82 yX6_holds ∈ TT := t3_in (List.mem_of_getElem? (i := 156) rfl) rfl
theorem wt3_157 : Cond.instanceMethod yX6_holds ∈ TT := t3_in (List.mem_of_getElem? (i := 157) rfl) rfl
theorem wt3_158 : Cond.selects RX6 yX6_holds yX6_holds ∈ TT := t3_in (List.mem_of_getElem? (i := 158) rfl) rfl
theorem wt3_159 : Cond.code yX6_holds cX6_holds 2 (some .boolean) ∈ TT := t3_in (List.mem_of_getElem? (i := 159) rfl) rfl
theorem wt3_160 : Cond.methodLink RX5 179 yX6_originOf ∈ TT := t3_in (List.mem_of_getElem? (i := 160) rfl) rfl
theorem wt3_161 : Cond.instanceMethod yX6_originOf ∈ TT := t3_in (List.mem_of_getElem? (i := 161) rfl) rfl
theorem wt3_162 : Cond.selects RX6 yX6_originOf yX6_originOf ∈ TT := t3_in (List.mem_of_getElem? (i := 162) rfl) rfl
theorem wt3_163 : Cond.code yX6_originOf cX6_originOf 2 (some .int) ∈ TT := t3_in (List.mem_of_getElem? (i := 163) rfl) rfl
theorem wt3_164 : Cond.methodLink RX8 162 yX6_keyOf ∈ TT := t3_in (List.mem_of_getElem? (i := 164) rfl) rfl
theorem wt3_165 : Cond.methodLink RL 53 yX8_type ∈ TT := t3_in (List.mem_of_getElem? (i := 165) rfl) rfl
theorem wt3_166 : Cond.instanceMethod yX8_type ∈ TT := t3_in (List.mem_of_getElem? (i := 166) rfl) rfl
theorem wt3_167 : Cond.selects RX8 yX8_type yX8_type ∈ TT := t3_in (List.mem_of_getElem? (i := 167) rfl) rfl
theorem wt3_168 : Cond.code yX8_type cX8_type 2 (some .int) ∈ TT := t3_in (List.mem_of_getElem? (i := 168) rfl) rfl
theorem wt3_169 : Cond.methodLink RX8 165 yX3_append ∈ TT := t3_in (List.mem_of_getElem? (i := 169) rfl) rfl
theorem wt3_170 : Cond.instanceMethod yX3_append ∈ TT := t3_in (List.mem_of_getElem? (i := 170) rfl) rfl
theorem wt3_171 : Cond.selects RX3 yX3_append yX3_append ∈ TT := t3_in (List.mem_of_getElem? (i := 171) rfl) rfl
theorem wt3_172 : Cond.code yX3_append cX3_append 2 (some .boolean) ∈ TT := t3_in (List.mem_of_getElem? (i := 172) rfl) rfl
theorem wt3_173 : Cond.methodLink RL 58 yX8_clearText ∈ TT := t3_in (List.mem_of_getElem? (i := 173) rfl) rfl
theorem wt3_174 : Cond.instanceMethod yX8_clearText ∈ TT := t3_in (List.mem_of_getElem? (i := 174) rfl) rfl
theorem wt3_175 : Cond.selects RX8 yX8_clearText yX8_clearText ∈ TT := t3_in (List.mem_of_getElem? (i := 175) rfl) rfl
theorem wt3_176 : Cond.code yX8_clearText cX8_clearText 2 (some .int) ∈ TT := t3_in (List.mem_of_getElem? (i := 176) rfl) rfl
theorem wt3_177 : Cond.methodLink RL 63 yX8_perform ∈ TT := t3_in (List.mem_of_getElem? (i := 177) rfl) rfl
theorem wt3_178 : Cond.instanceMethod yX8_perform ∈ TT := t3_in (List.mem_of_getElem? (i := 178) rfl) rfl
theorem wt3_179 : Cond.selects RX8 yX8_perform yX8_perform ∈ TT := t3_in (List.mem_of_getElem? (i := 179) rfl) rfl
theorem wt3_180 : Cond.code yX8_perform cX8_perform 6 (some .int) ∈ TT := t3_in (List.mem_of_getElem? (i := 180) rfl) rfl
theorem wt3_181 : Cond.methodLink RX8 172 yX3_fault ∈ TT := t3_in (List.mem_of_getElem? (i := 181) rfl) rfl
theorem wt3_182 : Cond.instanceMethod yX3_fault ∈ TT := t3_in (List.mem_of_getElem? (i := 182) rfl) rfl
theorem wt3_183 : Cond.selects RX3 yX3_fault yX3_fault ∈ TT := t3_in (List.mem_of_getElem? (i := 183) rfl) rfl
theorem wt3_184 : Cond.code yX3_fault cX3_fault 3 (some .int) ∈ TT := t3_in (List.mem_of_getElem? (i := 184) rfl) rfl
theorem wt3_185 : Cond.methodLink RX3 19 yX3_characterAt ∈ TT := t3_in (List.mem_of_getElem? (i := 185) rfl) rfl
theorem wt3_186 : Cond.instanceMethod yX3_characterAt ∈ TT := t3_in (List.mem_of_getElem? (i := 186) rfl) rfl
theorem wt3_187 : Cond.selects RX3 yX3_characterAt yX3_characterAt ∈ TT := t3_in (List.mem_of_getElem? (i := 187) rfl) rfl
theorem wt3_188 : Cond.code yX3_characterAt cX3_characterAt 2 (some .char) ∈ TT := t3_in (List.mem_of_getElem? (i := 188) rfl) rfl
theorem wt3_189 : Cond.methodLink RX3 23 yX3_placeAfter ∈ TT := t3_in (List.mem_of_getElem? (i := 189) rfl) rfl
theorem wt3_190 : Cond.static yX3_placeAfter ∈ TT := t3_in (List.mem_of_getElem? (i := 190) rfl) rfl
theorem wt3_191 : Cond.code yX3_placeAfter cX3_placeAfter 2 (some .int) ∈ TT := t3_in (List.mem_of_getElem? (i := 191) rfl) rfl
theorem wt3_192 : Cond.methodLink RX3 27 yX3_isDigit ∈ TT := t3_in (List.mem_of_getElem? (i := 192) rfl) rfl
theorem wt3_193 : Cond.static yX3_isDigit ∈ TT := t3_in (List.mem_of_getElem? (i := 193) rfl) rfl
theorem wt3_194 : Cond.code yX3_isDigit cX3_isDigit 1 (some .boolean) ∈ TT := t3_in (List.mem_of_getElem? (i := 194) rfl) rfl
theorem wt3_195 : Cond.methodLink RX8 175 yX5_copyFrom ∈ TT := t3_in (List.mem_of_getElem? (i := 195) rfl) rfl
theorem wt3_196 : Cond.methodLink RX8 178 yX3_isMoveEnd ∈ TT := t3_in (List.mem_of_getElem? (i := 196) rfl) rfl
theorem wt3_197 : Cond.instanceMethod yX3_isMoveEnd ∈ TT := t3_in (List.mem_of_getElem? (i := 197) rfl) rfl
theorem wt3_198 : Cond.selects RX3 yX3_isMoveEnd yX3_isMoveEnd ∈ TT := t3_in (List.mem_of_getElem? (i := 198) rfl) rfl
theorem wt3_199 : Cond.code yX3_isMoveEnd cX3_isMoveEnd 2 (some .boolean) ∈ TT := t3_in (List.mem_of_getElem? (i := 199) rfl) rfl
theorem wt3_200 : Cond.methodLink RX8 181 yX8_move ∈ TT := t3_in (List.mem_of_getElem? (i := 200) rfl) rfl
theorem wt3_202 : Cond.instanceMethod yX8_move ∈ TT := t3_in (List.mem_of_getElem? (i := 202) rfl) rfl
theorem wt3_203 : Cond.code yX8_move cX8_move 8 (some .int) ∈ TT := t3_in (List.mem_of_getElem? (i := 203) rfl) rfl
theorem wt3_204 : Cond.methodLink RX8 184 yX3_characterAt ∈ TT := t3_in (List.mem_of_getElem? (i := 204) rfl) rfl
theorem wt3_205 : Cond.methodLink RX8 188 yX3_number ∈ TT := t3_in (List.mem_of_getElem? (i := 205) rfl) rfl
theorem wt3_206 : Cond.instanceMethod yX3_number ∈ TT := t3_in (List.mem_of_getElem? (i := 206) rfl) rfl
theorem wt3_207 : Cond.selects RX3 yX3_number yX3_number ∈ TT := t3_in (List.mem_of_getElem? (i := 207) rfl) rfl
theorem wt3_208 : Cond.code yX3_number cX3_number 5 (some .int) ∈ TT := t3_in (List.mem_of_getElem? (i := 208) rfl) rfl
theorem wt3_209 : Cond.methodLink RL 67 yX8_undo ∈ TT := t3_in (List.mem_of_getElem? (i := 209) rfl) rfl
theorem wt3_210 : Cond.instanceMethod yX8_undo ∈ TT := t3_in (List.mem_of_getElem? (i := 210) rfl) rfl
theorem wt3_211 : Cond.selects RX8 yX8_undo yX8_undo ∈ TT := t3_in (List.mem_of_getElem? (i := 211) rfl) rfl
theorem wt3_212 : Cond.code yX8_undo cX8_undo 1 (some .int) ∈ TT := t3_in (List.mem_of_getElem? (i := 212) rfl) rfl
theorem wt3_213 : Cond.methodLink RX8 194 yX2_takeBack ∈ TT := t3_in (List.mem_of_getElem? (i := 213) rfl) rfl
theorem wt3_214 : Cond.instanceMethod yX2_takeBack ∈ TT := t3_in (List.mem_of_getElem? (i := 214) rfl) rfl
theorem wt3_215 : Cond.selects RX2 yX2_takeBack yX2_takeBack ∈ TT := t3_in (List.mem_of_getElem? (i := 215) rfl) rfl
theorem wt3_216 : Cond.code yX2_takeBack cX2_takeBack 3 none ∈ TT := t3_in (List.mem_of_getElem? (i := 216) rfl) rfl
theorem wt3_217 : Cond.methodLink RL 71 yX8_keep ∈ TT := t3_in (List.mem_of_getElem? (i := 217) rfl) rfl
theorem wt3_218 : Cond.instanceMethod yX8_keep ∈ TT := t3_in (List.mem_of_getElem? (i := 218) rfl) rfl
theorem wt3_219 : Cond.selects RX8 yX8_keep yX8_keep ∈ TT := t3_in (List.mem_of_getElem? (i := 219) rfl) rfl
theorem wt3_220 : Cond.code yX8_keep cX8_keep 1 (some .int) ∈ TT := t3_in (List.mem_of_getElem? (i := 220) rfl) rfl
theorem wt3_221 : Cond.methodLink RL 75 yX8_restore ∈ TT := t3_in (List.mem_of_getElem? (i := 221) rfl) rfl
theorem wt3_222 : Cond.instanceMethod yX8_restore ∈ TT := t3_in (List.mem_of_getElem? (i := 222) rfl) rfl
theorem wt3_223 : Cond.selects RX8 yX8_restore yX8_restore ∈ TT := t3_in (List.mem_of_getElem? (i := 223) rfl) rfl
theorem wt3_224 : Cond.code yX8_restore cX8_restore 1 (some .int) ∈ TT := t3_in (List.mem_of_getElem? (i := 224) rfl) rfl
theorem wt3_225 : Cond.methodLink RL 79 yX8_key ∈ TT := t3_in (List.mem_of_getElem? (i := 225) rfl) rfl
theorem wt3_226 : Cond.instanceMethod yX8_key ∈ TT := t3_in (List.mem_of_getElem? (i := 226) rfl) rfl
theorem wt3_227 : Cond.selects RX8 yX8_key yX8_key ∈ TT := t3_in (List.mem_of_getElem? (i := 227) rfl) rfl
theorem wt3_228 : Cond.code yX8_key cX8_key 4 (some .int) ∈ TT := t3_in (List.mem_of_getElem? (i := 228) rfl) rfl
theorem wt3_229 : Cond.methodLink RX8 200 yX0_holderOf ∈ TT := t3_in (List.mem_of_getElem? (i := 229) rfl) rfl
theorem wt3_230 : Cond.methodLink RX8 203 yX8_orNone ∈ TT := t3_in (List.mem_of_getElem? (i := 230) rfl) rfl
theorem wt3_231 : Cond.static yX8_orNone ∈ TT := t3_in (List.mem_of_getElem? (i := 231) rfl) rfl
theorem wt3_232 : Cond.code yX8_orNone cX8_orNone 1 (some .int) ∈ TT := t3_in (List.mem_of_getElem? (i := 232) rfl) rfl
theorem wt3_233 : Cond.methodLink RX8 206 yX0_isSeen ∈ TT := t3_in (List.mem_of_getElem? (i := 233) rfl) rfl
theorem wt3_234 : Cond.methodLink RX8 209 yX0_sinceOf ∈ TT := t3_in (List.mem_of_getElem? (i := 234) rfl) rfl
theorem wt3_235 : Cond.methodLink RX8 212 yX0_isDoubtful ∈ TT := t3_in (List.mem_of_getElem? (i := 235) rfl) rfl
theorem wt3_236 : Cond.methodLink RX8 215 yX0_rowOf ∈ TT := t3_in (List.mem_of_getElem? (i := 236) rfl) rfl
theorem wt3_237 : Cond.methodLink RX8 218 yX0_sensed ∈ TT := t3_in (List.mem_of_getElem? (i := 237) rfl) rfl
theorem wt3_238 : Cond.methodLink RX8 221 yX0_bitOf ∈ TT := t3_in (List.mem_of_getElem? (i := 238) rfl) rfl
theorem wt3_239 : Cond.methodLink RL 83 yX8_typist ∈ TT := t3_in (List.mem_of_getElem? (i := 239) rfl) rfl
theorem wt4_0 : Cond.instanceMethod yX8_typist ∈ TT := t4_in (List.mem_of_getElem? (i := 0) rfl) rfl
theorem wt4_1 : Cond.selects RX8 yX8_typist yX8_typist ∈ TT := t4_in (List.mem_of_getElem? (i := 1) rfl) rfl
theorem wt4_2 : Cond.code yX8_typist cX8_typist 4 (some .int) ∈ TT := t4_in (List.mem_of_getElem? (i := 2) rfl) rfl
theorem wt4_3 : Cond.methodLink RX8 224 yX0_isShiftOn ∈ TT := t4_in (List.mem_of_getElem? (i := 3) rfl) rfl
theorem wt4_4 : Cond.methodLink RL 87 yX8_style ∈ TT := t4_in (List.mem_of_getElem? (i := 4) rfl) rfl
theorem wt4_5 : Cond.instanceMethod yX8_style ∈ TT := t4_in (List.mem_of_getElem? (i := 5) rfl) rfl
theorem wt4_6 : Cond.selects RX8 yX8_style yX8_style ∈ TT := t4_in (List.mem_of_getElem? (i := 6) rfl) rfl
theorem wt4_7 : Cond.code yX8_style cX8_style 3 (some .float) ∈ TT := t4_in (List.mem_of_getElem? (i := 7) rfl) rfl
theorem wt4_8 : Cond.methodLink RX8 239 yX8_isMean ∈ TT := t4_in (List.mem_of_getElem? (i := 8) rfl) rfl
theorem wt4_9 : Cond.static yX8_isMean ∈ TT := t4_in (List.mem_of_getElem? (i := 9) rfl) rfl
theorem wt4_10 : Cond.code yX8_isMean cX8_isMean 1 (some .boolean) ∈ TT := t4_in (List.mem_of_getElem? (i := 10) rfl) rfl
theorem wt4_11 : Cond.constantFloat RX8 242 (2143289344) ∈ TT := t4_in (List.mem_of_getElem? (i := 11) rfl) rfl
theorem wt4_12 : Cond.methodLink RX8 243 yX8_meanOf ∈ TT := t4_in (List.mem_of_getElem? (i := 12) rfl) rfl
theorem wt4_14 : Cond.instanceMethod yX8_meanOf ∈ TT := t4_in (List.mem_of_getElem? (i := 14) rfl) rfl
theorem wt4_15 : Cond.code yX8_meanOf cX8_meanOf 4 (some .float) ∈ TT := t4_in (List.mem_of_getElem? (i := 15) rfl) rfl
theorem wt4_16 : Cond.methodLink RL 92 yX8_hundredths ∈ TT := t4_in (List.mem_of_getElem? (i := 16) rfl) rfl
theorem wt4_17 : Cond.instanceMethod yX8_hundredths ∈ TT := t4_in (List.mem_of_getElem? (i := 17) rfl) rfl
theorem wt4_18 : Cond.selects RX8 yX8_hundredths yX8_hundredths ∈ TT := t4_in (List.mem_of_getElem? (i := 18) rfl) rfl
theorem wt4_19 : Cond.code yX8_hundredths cX8_hundredths 3 (some .int) ∈ TT := t4_in (List.mem_of_getElem? (i := 19) rfl) rfl
theorem wt4_20 : Cond.constantFloat RX8 247 (1120403456) ∈ TT := t4_in (List.mem_of_getElem? (i := 20) rfl) rfl
theorem wt4_21 : Cond.methodLink RL 96 yX8_typed ∈ TT := t4_in (List.mem_of_getElem? (i := 21) rfl) rfl
theorem wt4_22 : Cond.instanceMethod yX8_typed ∈ TT := t4_in (List.mem_of_getElem? (i := 22) rfl) rfl
theorem wt4_23 : Cond.selects RX8 yX8_typed yX8_typed ∈ TT := t4_in (List.mem_of_getElem? (i := 23) rfl) rfl
theorem wt4_24 : Cond.code yX8_typed cX8_typed 4 (some .int) ∈ TT := t4_in (List.mem_of_getElem? (i := 24) rfl) rfl
theorem wt4_25 : Cond.methodLink RX8 248 yX7_signBack ∈ TT := t4_in (List.mem_of_getElem? (i := 25) rfl) rfl
theorem wt4_26 : Cond.instanceMethod yX7_signBack ∈ TT := t4_in (List.mem_of_getElem? (i := 26) rfl) rfl
theorem wt4_27 : Cond.selects RX7 yX7_signBack yX7_signBack ∈ TT := t4_in (List.mem_of_getElem? (i := 27) rfl) rfl
theorem wt4_28 : Cond.code yX7_signBack cX7_signBack 2 (some .int) ∈ TT := t4_in (List.mem_of_getElem? (i := 28) rfl) rfl
theorem wt4_29 : Cond.methodLink RX7 67 yX1_at ∈ TT := t4_in (List.mem_of_getElem? (i := 29) rfl) rfl
theorem wt4_30 : Cond.methodLink RL 100 yX8_stroke ∈ TT := t4_in (List.mem_of_getElem? (i := 30) rfl) rfl
theorem wt4_31 : Cond.instanceMethod yX8_stroke ∈ TT := t4_in (List.mem_of_getElem? (i := 31) rfl) rfl
theorem wt4_32 : Cond.selects RX8 yX8_stroke yX8_stroke ∈ TT := t4_in (List.mem_of_getElem? (i := 32) rfl) rfl
theorem wt4_33 : Cond.code yX8_stroke cX8_stroke 5 (some .int) ∈ TT := t4_in (List.mem_of_getElem? (i := 33) rfl) rfl
theorem wt4_34 : Cond.methodLink RX8 257 yX6_sinceOf ∈ TT := t4_in (List.mem_of_getElem? (i := 34) rfl) rfl
theorem wt4_35 : Cond.methodLink RX8 258 yX6_dwellOf ∈ TT := t4_in (List.mem_of_getElem? (i := 35) rfl) rfl
theorem wt4_36 : Cond.methodLink RX8 261 yX6_holderOf ∈ TT := t4_in (List.mem_of_getElem? (i := 36) rfl) rfl
theorem wt4_37 : Cond.methodLink RX8 262 yX6_notedOf ∈ TT := t4_in (List.mem_of_getElem? (i := 37) rfl) rfl
theorem wt4_38 : Cond.methodLink RL 104 yX8_dispute ∈ TT := t4_in (List.mem_of_getElem? (i := 38) rfl) rfl
theorem wt4_39 : Cond.instanceMethod yX8_dispute ∈ TT := t4_in (List.mem_of_getElem? (i := 39) rfl) rfl
theorem wt4_40 : Cond.selects RX8 yX8_dispute yX8_dispute ∈ TT := t4_in (List.mem_of_getElem? (i := 40) rfl) rfl
theorem wt4_41 : Cond.code yX8_dispute cX8_dispute 4 (some .int) ∈ TT := t4_in (List.mem_of_getElem? (i := 41) rfl) rfl
theorem wt4_42 : Cond.methodLink RL 108 yX8_distance ∈ TT := t4_in (List.mem_of_getElem? (i := 42) rfl) rfl
theorem wt4_43 : Cond.instanceMethod yX8_distance ∈ TT := t4_in (List.mem_of_getElem? (i := 43) rfl) rfl
theorem wt4_44 : Cond.selects RX8 yX8_distance yX8_distance ∈ TT := t4_in (List.mem_of_getElem? (i := 44) rfl) rfl
theorem wt4_45 : Cond.code yX8_distance cX8_distance 4 (some .float) ∈ TT := t4_in (List.mem_of_getElem? (i := 45) rfl) rfl
theorem wt4_46 : Cond.methodLink RX8 265 yX7_distanceOf ∈ TT := t4_in (List.mem_of_getElem? (i := 46) rfl) rfl
theorem wt4_47 : Cond.methodLink RL 113 yX8_verdict ∈ TT := t4_in (List.mem_of_getElem? (i := 47) rfl) rfl
theorem wt4_48 : Cond.instanceMethod yX8_verdict ∈ TT := t4_in (List.mem_of_getElem? (i := 48) rfl) rfl
theorem wt4_49 : Cond.selects RX8 yX8_verdict yX8_verdict ∈ TT := t4_in (List.mem_of_getElem? (i := 49) rfl) rfl
theorem wt4_50 : Cond.code yX8_verdict cX8_verdict 2 (some .int) ∈ TT := t4_in (List.mem_of_getElem? (i := 50) rfl) rfl
theorem wt4_51 : Cond.methodLink RX8 268 yX5_fateNow ∈ TT := t4_in (List.mem_of_getElem? (i := 51) rfl) rfl
theorem wt4_52 : Cond.methodLink RL 117 yX8_ghostsBy ∈ TT := t4_in (List.mem_of_getElem? (i := 52) rfl) rfl
theorem wt4_53 : Cond.instanceMethod yX8_ghostsBy ∈ TT := t4_in (List.mem_of_getElem? (i := 53) rfl) rfl
theorem wt4_54 : Cond.selects RX8 yX8_ghostsBy yX8_ghostsBy ∈ TT := t4_in (List.mem_of_getElem? (i := 54) rfl) rfl
theorem wt4_55 : Cond.code yX8_ghostsBy cX8_ghostsBy 3 (some .int) ∈ TT := t4_in (List.mem_of_getElem? (i := 55) rfl) rfl
theorem wt4_56 : Cond.methodLink RX8 271 yX0_ghostsBeside ∈ TT := t4_in (List.mem_of_getElem? (i := 56) rfl) rfl
theorem wt4_57 : Cond.instanceMethod yX0_ghostsBeside ∈ TT := t4_in (List.mem_of_getElem? (i := 57) rfl) rfl
theorem wt4_58 : Cond.selects RX0 yX0_ghostsBeside yX0_ghostsBeside ∈ TT := t4_in (List.mem_of_getElem? (i := 58) rfl) rfl
theorem wt4_59 : Cond.code yX0_ghostsBeside cX0_ghostsBeside 6 (some .int) ∈ TT := t4_in (List.mem_of_getElem? (i := 59) rfl) rfl
theorem wt4_60 : Cond.methodLink RX0 97 yX0_sensed ∈ TT := t4_in (List.mem_of_getElem? (i := 60) rfl) rfl
theorem wt4_61 : Cond.methodLink RX0 100 yJ6_bitCount_0f7a4 ∈ TT := t4_in (List.mem_of_getElem? (i := 61) rfl) rfl
theorem wt4_62 : Cond.methodLink RL 121 yX8_count ∈ TT := t4_in (List.mem_of_getElem? (i := 62) rfl) rfl
theorem wt4_63 : Cond.instanceMethod yX8_count ∈ TT := t4_in (List.mem_of_getElem? (i := 63) rfl) rfl
theorem wt4_64 : Cond.selects RX8 yX8_count yX8_count ∈ TT := t4_in (List.mem_of_getElem? (i := 64) rfl) rfl
theorem wt4_65 : Cond.code yX8_count cX8_count 3 (some .int) ∈ TT := t4_in (List.mem_of_getElem? (i := 65) rfl) rfl
theorem wt4_66 : Cond.methodLink RX8 274 yX0_doubtfulKeys ∈ TT := t4_in (List.mem_of_getElem? (i := 66) rfl) rfl
theorem wt4_67 : Cond.instanceMethod yX0_doubtfulKeys ∈ TT := t4_in (List.mem_of_getElem? (i := 67) rfl) rfl
theorem wt4_68 : Cond.selects RX0 yX0_doubtfulKeys yX0_doubtfulKeys ∈ TT := t4_in (List.mem_of_getElem? (i := 68) rfl) rfl
theorem wt4_69 : Cond.code yX0_doubtfulKeys cX0_doubtfulKeys 1 (some .int) ∈ TT := t4_in (List.mem_of_getElem? (i := 69) rfl) rfl
theorem wt4_70 : Cond.methodLink RX8 286 yX5_drivenRow ∈ TT := t4_in (List.mem_of_getElem? (i := 70) rfl) rfl
theorem wt4_71 : Cond.classLink RL 10 RX9 ∈ TT := t4_in (List.mem_of_getElem? (i := 71) rfl) rfl
theorem wt4_72 : Cond.instantiable RX9 15 ∈ TT := t4_in (List.mem_of_getElem? (i := 72) rfl) rfl
theorem wt4_73 : Cond.methodLink RL 12 yX9_init ∈ TT := t4_in (List.mem_of_getElem? (i := 73) rfl) rfl
theorem wt4_74 : Cond.instanceMethod yX9_init ∈ TT := t4_in (List.mem_of_getElem? (i := 74) rfl) rfl
theorem wt4_75 : Cond.code yX9_init cX9_init 2 none ∈ TT := t4_in (List.mem_of_getElem? (i := 75) rfl) rfl
theorem wt4_76 : Cond.methodLink RX9 1 ⟨"java/lang/Object", "<init>", "()V"⟩ ∈ TT := t4_in (List.mem_of_getElem? (i := 76) rfl) rfl
theorem wt4_77 : Cond.constantFloat RX9 39 (1082130432) ∈ TT := t4_in (List.mem_of_getElem? (i := 77) rfl) rfl
theorem wt4_78 : Cond.constantFloat RX9 40 (1086324736) ∈ TT := t4_in (List.mem_of_getElem? (i := 78) rfl) rfl
theorem wt4_79 : Cond.constantFloat RX9 41 (1040187392) ∈ TT := t4_in (List.mem_of_getElem? (i := 79) rfl) rfl
theorem wt4_80 : Cond.constantFloat RX9 42 (1056964608) ∈ TT := t4_in (List.mem_of_getElem? (i := 80) rfl) rfl
theorem wt4_81 : Cond.constantFloat RX9 43 (1048576000) ∈ TT := t4_in (List.mem_of_getElem? (i := 81) rfl) rfl
theorem wt4_82 : Cond.methodLink RX9 44 yX9_clearKeys ∈ TT := t4_in (List.mem_of_getElem? (i := 82) rfl) rfl
theorem wt4_84 : Cond.instanceMethod yX9_clearKeys ∈ TT := t4_in (List.mem_of_getElem? (i := 84) rfl) rfl
theorem wt4_85 : Cond.code yX9_clearKeys cX9_clearKeys 2 none ∈ TT := t4_in (List.mem_of_getElem? (i := 85) rfl) rfl
theorem wt4_86 : Cond.fieldLink RX9 7 "BlanketKeysModel" "row" "[I" ∈ TT := t4_in (List.mem_of_getElem? (i := 86) rfl) rfl
theorem wt4_87 : Cond.fieldLink RX9 13 "BlanketKeysModel" "past" "[I" ∈ TT := t4_in (List.mem_of_getElem? (i := 87) rfl) rfl
theorem wt4_88 : Cond.fieldLink RX9 16 "BlanketKeysModel" "aside" "[I" ∈ TT := t4_in (List.mem_of_getElem? (i := 88) rfl) rfl
theorem wt4_89 : Cond.fieldLink RX9 19 "BlanketKeysModel" "before" "[I" ∈ TT := t4_in (List.mem_of_getElem? (i := 89) rfl) rfl
theorem wt4_90 : Cond.fieldLink RX9 22 "BlanketKeysModel" "style" "[F" ∈ TT := t4_in (List.mem_of_getElem? (i := 90) rfl) rfl
theorem wt4_91 : Cond.fieldLink RX9 26 "BlanketKeysModel" "pastStyle" "[F" ∈ TT := t4_in (List.mem_of_getElem? (i := 91) rfl) rfl
theorem wt4_92 : Cond.fieldLink RX9 29 "BlanketKeysModel" "asideStyle" "[F" ∈ TT := t4_in (List.mem_of_getElem? (i := 92) rfl) rfl
theorem wt4_93 : Cond.fieldLink RX9 32 "BlanketKeysModel" "beforeStyle" "[F" ∈ TT := t4_in (List.mem_of_getElem? (i := 93) rfl) rfl
theorem wt4_94 : Cond.fieldLink RX9 47 "BlanketKeysModel" "states" "I" ∈ TT := t4_in (List.mem_of_getElem? (i := 94) rfl) rfl
theorem wt4_95 : Cond.fieldLink RX9 57 "BlanketKeysModel" "isAside" "Z" ∈ TT := t4_in (List.mem_of_getElem? (i := 95) rfl) rfl
theorem wt4_96 : Cond.fieldLink RX9 35 "BlanketKeysModel" "text" "[C" ∈ TT := t4_in (List.mem_of_getElem? (i := 96) rfl) rfl
theorem wt4_97 : Cond.fieldLink RX9 168 "BlanketKeysModel" "length" "I" ∈ TT := t4_in (List.mem_of_getElem? (i := 97) rfl) rfl
theorem wt4_98 : Cond.fieldLink RX9 171 "BlanketKeysModel" "at" "I" ∈ TT := t4_in (List.mem_of_getElem? (i := 98) rfl) rfl
theorem wt4_99 : Cond.fieldLink RX9 104 "BlanketKeysModel" "columnsNow" "I" ∈ TT := t4_in (List.mem_of_getElem? (i := 99) rfl) rfl
theorem wt4_100 : Cond.fieldLink RX9 101 "BlanketKeysModel" "rowsNow" "I" ∈ TT := t4_in (List.mem_of_getElem? (i := 100) rfl) rfl
theorem wt4_101 : Cond.laysFinal RX9 "BlanketKeysModel" "row" "[I" ∈ TT := t4_in (List.mem_of_getElem? (i := 101) rfl) rfl
theorem wt4_103 : Cond.laysFinal RX9 "BlanketKeysModel" "past" "[I" ∈ TT := t4_in (List.mem_of_getElem? (i := 103) rfl) rfl
theorem wt4_105 : Cond.laysFinal RX9 "BlanketKeysModel" "aside" "[I" ∈ TT := t4_in (List.mem_of_getElem? (i := 105) rfl) rfl
theorem wt4_107 : Cond.laysFinal RX9 "BlanketKeysModel" "before" "[I" ∈ TT := t4_in (List.mem_of_getElem? (i := 107) rfl) rfl
theorem wt4_109 : Cond.laysFinal RX9 "BlanketKeysModel" "style" "[F" ∈ TT := t4_in (List.mem_of_getElem? (i := 109) rfl) rfl
theorem wt4_111 : Cond.laysFinal RX9 "BlanketKeysModel" "pastStyle" "[F" ∈ TT := t4_in (List.mem_of_getElem? (i := 111) rfl) rfl
theorem wt4_113 : Cond.laysFinal RX9 "BlanketKeysModel" "asideStyle" "[F" ∈ TT := t4_in (List.mem_of_getElem? (i := 113) rfl) rfl
theorem wt4_115 : Cond.laysFinal RX9 "BlanketKeysModel" "beforeStyle" "[F" ∈ TT := t4_in (List.mem_of_getElem? (i := 115) rfl) rfl
theorem wt4_117 : Cond.lays RX9 "BlanketKeysModel" "states" "I" ∈ TT := t4_in (List.mem_of_getElem? (i := 117) rfl) rfl
theorem wt4_119 : Cond.lays RX9 "BlanketKeysModel" "isAside" "Z" ∈ TT := t4_in (List.mem_of_getElem? (i := 119) rfl) rfl
theorem wt4_121 : Cond.laysFinal RX9 "BlanketKeysModel" "text" "[C" ∈ TT := t4_in (List.mem_of_getElem? (i := 121) rfl) rfl
theorem wt4_123 : Cond.lays RX9 "BlanketKeysModel" "length" "I" ∈ TT := t4_in (List.mem_of_getElem? (i := 123) rfl) rfl
theorem wt4_125 : Cond.lays RX9 "BlanketKeysModel" "at" "I" ∈ TT := t4_in (List.mem_of_getElem? (i := 125) rfl) rfl
theorem wt4_127 : Cond.lays RX9 "BlanketKeysModel" "columnsNow" "I" ∈ TT := t4_in (List.mem_of_getElem? (i := 127) rfl) rfl
theorem wt4_129 : Cond.lays RX9 "BlanketKeysModel" "rowsNow" "I" ∈ TT := t4_in (List.mem_of_getElem? (i := 129) rfl) rfl
theorem wt4_132 : Cond.arrayClass .float ∈ TT := t4_in (List.mem_of_getElem? (i := 132) rfl) rfl
theorem wt4_133 : Cond.methodLink RL 70 yX9_undo ∈ TT := t4_in (List.mem_of_getElem? (i := 133) rfl) rfl
theorem wt4_134 : Cond.instanceMethod yX9_undo ∈ TT := t4_in (List.mem_of_getElem? (i := 134) rfl) rfl
theorem wt4_135 : Cond.selects RX9 yX9_undo yX9_undo ∈ TT := t4_in (List.mem_of_getElem? (i := 135) rfl) rfl
theorem wt4_136 : Cond.code yX9_undo cX9_undo 2 (some .int) ∈ TT := t4_in (List.mem_of_getElem? (i := 136) rfl) rfl
theorem wt4_137 : Cond.methodLink RL 74 yX9_keep ∈ TT := t4_in (List.mem_of_getElem? (i := 137) rfl) rfl
theorem wt4_138 : Cond.instanceMethod yX9_keep ∈ TT := t4_in (List.mem_of_getElem? (i := 138) rfl) rfl
theorem wt4_139 : Cond.selects RX9 yX9_keep yX9_keep ∈ TT := t4_in (List.mem_of_getElem? (i := 139) rfl) rfl
theorem wt4_140 : Cond.code yX9_keep cX9_keep 2 (some .int) ∈ TT := t4_in (List.mem_of_getElem? (i := 140) rfl) rfl
theorem wt4_141 : Cond.methodLink RL 78 yX9_restore ∈ TT := t4_in (List.mem_of_getElem? (i := 141) rfl) rfl
theorem wt4_142 : Cond.instanceMethod yX9_restore ∈ TT := t4_in (List.mem_of_getElem? (i := 142) rfl) rfl
theorem wt4_143 : Cond.selects RX9 yX9_restore yX9_restore ∈ TT := t4_in (List.mem_of_getElem? (i := 143) rfl) rfl
theorem wt4_144 : Cond.code yX9_restore cX9_restore 2 (some .int) ∈ TT := t4_in (List.mem_of_getElem? (i := 144) rfl) rfl
theorem wt4_145 : Cond.methodLink RX9 61 yX9_begin ∈ TT := t4_in (List.mem_of_getElem? (i := 145) rfl) rfl
theorem wt4_147 : Cond.instanceMethod yX9_begin ∈ TT := t4_in (List.mem_of_getElem? (i := 147) rfl) rfl
theorem wt4_148 : Cond.code yX9_begin cX9_begin 1 none ∈ TT := t4_in (List.mem_of_getElem? (i := 148) rfl) rfl
theorem wt4_149 : Cond.methodLink RX9 51 yX9_remember ∈ TT := t4_in (List.mem_of_getElem? (i := 149) rfl) rfl
theorem wt4_151 : Cond.instanceMethod yX9_remember ∈ TT := t4_in (List.mem_of_getElem? (i := 151) rfl) rfl
theorem wt4_152 : Cond.code yX9_remember cX9_remember 2 none ∈ TT := t4_in (List.mem_of_getElem? (i := 152) rfl) rfl
theorem wt4_153 : Cond.methodLink RX9 54 yX9_record ∈ TT := t4_in (List.mem_of_getElem? (i := 153) rfl) rfl
theorem wt4_155 : Cond.instanceMethod yX9_record ∈ TT := t4_in (List.mem_of_getElem? (i := 155) rfl) rfl
theorem wt4_156 : Cond.code yX9_record cX9_record 2 none ∈ TT := t4_in (List.mem_of_getElem? (i := 156) rfl) rfl
theorem wt4_157 : Cond.methodLink RL 17 yX9_build ∈ TT := t4_in (List.mem_of_getElem? (i := 157) rfl) rfl
theorem wt4_158 : Cond.instanceMethod yX9_build ∈ TT := t4_in (List.mem_of_getElem? (i := 158) rfl) rfl
theorem wt4_159 : Cond.selects RX9 yX9_build yX9_build ∈ TT := t4_in (List.mem_of_getElem? (i := 159) rfl) rfl
theorem wt4_160 : Cond.code yX9_build cX9_build 5 (some .int) ∈ TT := t4_in (List.mem_of_getElem? (i := 160) rfl) rfl
theorem wt4_161 : Cond.methodLink RX9 68 yX9_in ∈ TT := t4_in (List.mem_of_getElem? (i := 161) rfl) rfl
theorem wt4_162 : Cond.static yX9_in ∈ TT := t4_in (List.mem_of_getElem? (i := 162) rfl) rfl
theorem wt4_163 : Cond.code yX9_in cX9_in 3 (some .boolean) ∈ TT := t4_in (List.mem_of_getElem? (i := 163) rfl) rfl
theorem wt4_164 : Cond.methodLink RX9 64 yX9_keys ∈ TT := t4_in (List.mem_of_getElem? (i := 164) rfl) rfl
theorem wt4_166 : Cond.instanceMethod yX9_keys ∈ TT := t4_in (List.mem_of_getElem? (i := 166) rfl) rfl
theorem wt4_167 : Cond.code yX9_keys cX9_keys 1 (some .int) ∈ TT := t4_in (List.mem_of_getElem? (i := 167) rfl) rfl
theorem wt4_168 : Cond.methodLink RX9 72 yX9_isDown ∈ TT := t4_in (List.mem_of_getElem? (i := 168) rfl) rfl
theorem wt4_170 : Cond.instanceMethod yX9_isDown ∈ TT := t4_in (List.mem_of_getElem? (i := 170) rfl) rfl
theorem wt4_171 : Cond.code yX9_isDown cX9_isDown 2 (some .boolean) ∈ TT := t4_in (List.mem_of_getElem? (i := 171) rfl) rfl
theorem wt4_172 : Cond.methodLink RX9 76 yX9_isSeen ∈ TT := t4_in (List.mem_of_getElem? (i := 172) rfl) rfl
theorem wt4_174 : Cond.instanceMethod yX9_isSeen ∈ TT := t4_in (List.mem_of_getElem? (i := 174) rfl) rfl
theorem wt4_175 : Cond.code yX9_isSeen cX9_isSeen 2 (some .boolean) ∈ TT := t4_in (List.mem_of_getElem? (i := 175) rfl) rfl
theorem wt4_176 : Cond.methodLink RL 22 yX9_setSign ∈ TT := t4_in (List.mem_of_getElem? (i := 176) rfl) rfl
theorem wt4_177 : Cond.instanceMethod yX9_setSign ∈ TT := t4_in (List.mem_of_getElem? (i := 177) rfl) rfl
theorem wt4_178 : Cond.selects RX9 yX9_setSign yX9_setSign ∈ TT := t4_in (List.mem_of_getElem? (i := 178) rfl) rfl
theorem wt4_179 : Cond.code yX9_setSign cX9_setSign 5 (some .int) ∈ TT := t4_in (List.mem_of_getElem? (i := 179) rfl) rfl
theorem wt4_180 : Cond.methodLink RX9 79 yX9_noKey ∈ TT := t4_in (List.mem_of_getElem? (i := 180) rfl) rfl
theorem wt4_182 : Cond.instanceMethod yX9_noKey ∈ TT := t4_in (List.mem_of_getElem? (i := 182) rfl) rfl
theorem wt4_183 : Cond.code yX9_noKey cX9_noKey 2 (some .boolean) ∈ TT := t4_in (List.mem_of_getElem? (i := 183) rfl) rfl
theorem wt4_184 : Cond.methodLink RX9 82 yX9_shiftOf ∈ TT := t4_in (List.mem_of_getElem? (i := 184) rfl) rfl
theorem wt4_186 : Cond.instanceMethod yX9_shiftOf ∈ TT := t4_in (List.mem_of_getElem? (i := 186) rfl) rfl
theorem wt4_187 : Cond.code yX9_shiftOf cX9_shiftOf 2 (some .int) ∈ TT := t4_in (List.mem_of_getElem? (i := 187) rfl) rfl
theorem wt4_188 : Cond.methodLink RL 26 yX9_setShift ∈ TT := t4_in (List.mem_of_getElem? (i := 188) rfl) rfl
theorem wt4_189 : Cond.instanceMethod yX9_setShift ∈ TT := t4_in (List.mem_of_getElem? (i := 189) rfl) rfl
theorem wt4_190 : Cond.selects RX9 yX9_setShift yX9_setShift ∈ TT := t4_in (List.mem_of_getElem? (i := 190) rfl) rfl
theorem wt4_191 : Cond.code yX9_setShift cX9_setShift 5 (some .int) ∈ TT := t4_in (List.mem_of_getElem? (i := 191) rfl) rfl
theorem wt4_192 : Cond.methodLink RX9 86 yX9_noTypist ∈ TT := t4_in (List.mem_of_getElem? (i := 192) rfl) rfl
theorem wt4_194 : Cond.instanceMethod yX9_noTypist ∈ TT := t4_in (List.mem_of_getElem? (i := 194) rfl) rfl
theorem wt4_195 : Cond.code yX9_noTypist cX9_noTypist 2 (some .boolean) ∈ TT := t4_in (List.mem_of_getElem? (i := 195) rfl) rfl
theorem wt4_196 : Cond.methodLink RL 31 yX9_borrow ∈ TT := t4_in (List.mem_of_getElem? (i := 196) rfl) rfl
theorem wt4_197 : Cond.instanceMethod yX9_borrow ∈ TT := t4_in (List.mem_of_getElem? (i := 197) rfl) rfl
theorem wt4_198 : Cond.selects RX9 yX9_borrow yX9_borrow ∈ TT := t4_in (List.mem_of_getElem? (i := 198) rfl) rfl
theorem wt4_199 : Cond.code yX9_borrow cX9_borrow 3 (some .int) ∈ TT := t4_in (List.mem_of_getElem? (i := 199) rfl) rfl
theorem wt4_200 : Cond.methodLink RL 35 yX9_set ∈ TT := t4_in (List.mem_of_getElem? (i := 200) rfl) rfl
theorem wt4_201 : Cond.instanceMethod yX9_set ∈ TT := t4_in (List.mem_of_getElem? (i := 201) rfl) rfl
theorem wt4_202 : Cond.selects RX9 yX9_set yX9_set ∈ TT := t4_in (List.mem_of_getElem? (i := 202) rfl) rfl
theorem wt4_203 : Cond.code yX9_set cX9_set 6 (some .int) ∈ TT := t4_in (List.mem_of_getElem? (i := 203) rfl) rfl
theorem wt4_204 : Cond.constant RX9 89 (2147483647) ∈ TT := t4_in (List.mem_of_getElem? (i := 204) rfl) rfl
theorem wt4_205 : Cond.constant RX9 90 (2139095040) ∈ TT := t4_in (List.mem_of_getElem? (i := 205) rfl) rfl
theorem wt4_206 : Cond.methodLink RX9 91 ⟨"java/lang/Float", "intBitsToFloat", "(I)F"⟩ ∈ TT := t4_in (List.mem_of_getElem? (i := 206) rfl) rfl
theorem wt4_207 : Cond.static ⟨"java/lang/Float", "intBitsToFloat", "(I)F"⟩ ∈ TT := t4_in (List.mem_of_getElem? (i := 207) rfl) rfl
theorem wt4_208 : Cond.native ⟨"java/lang/Float", "intBitsToFloat", "(I)F"⟩ ∈ TT := t4_in (List.mem_of_getElem? (i := 208) rfl) rfl
theorem wt4_209 : Cond.methodLink RX9 97 yJxf58ca_floatToIntBits_5c35a ∈ TT := t4_in (List.mem_of_getElem? (i := 209) rfl) rfl
theorem wt4_210 : Cond.static yJxf58ca_floatToIntBits_5c35a ∈ TT := t4_in (List.mem_of_getElem? (i := 210) rfl) rfl
theorem wt4_211 : Cond.code yJxf58ca_floatToIntBits_5c35a cJxf58ca_floatToIntBits_5c35a 1 (some .int) ∈ TT := t4_in (List.mem_of_getElem? (i := 211) rfl) rfl
theorem wt4_212 : Cond.methodLink RJxf58ca 59 yJxf58ca_isNaN_12338 ∈ TT := t4_in (List.mem_of_getElem? (i := 212) rfl) rfl
theorem wt4_213 : Cond.static yJxf58ca_isNaN_12338 ∈ TT := t4_in (List.mem_of_getElem? (i := 213) rfl) rfl
theorem wt4_214 : Cond.code yJxf58ca_isNaN_12338 cJxf58ca_isNaN_12338 1 (some .boolean) ∈ TT := t4_in (List.mem_of_getElem? (i := 214) rfl) rfl
theorem wt4_215 : Cond.methodLink RJxf58ca 74 ⟨"java/lang/Float", "floatToRawIntBits", "(F)I"⟩ ∈ TT := t4_in (List.mem_of_getElem? (i := 215) rfl) rfl
theorem wt4_216 : Cond.static ⟨"java/lang/Float", "floatToRawIntBits", "(F)I"⟩ ∈ TT := t4_in (List.mem_of_getElem? (i := 216) rfl) rfl
theorem wt4_217 : Cond.native ⟨"java/lang/Float", "floatToRawIntBits", "(F)I"⟩ ∈ TT := t4_in (List.mem_of_getElem? (i := 217) rfl) rfl
theorem wt4_218 : Cond.constant RJxf58ca 77 (2143289344) ∈ TT := t4_in (List.mem_of_getElem? (i := 218) rfl) rfl
theorem wt4_219 : Cond.methodLink RL 39 yX9_press ∈ TT := t4_in (List.mem_of_getElem? (i := 219) rfl) rfl
theorem wt4_220 : Cond.instanceMethod yX9_press ∈ TT := t4_in (List.mem_of_getElem? (i := 220) rfl) rfl
theorem wt4_221 : Cond.selects RX9 yX9_press yX9_press ∈ TT := t4_in (List.mem_of_getElem? (i := 221) rfl) rfl
theorem wt4_222 : Cond.code yX9_press cX9_press 4 (some .int) ∈ TT := t4_in (List.mem_of_getElem? (i := 222) rfl) rfl
theorem wt4_223 : Cond.methodLink RX9 153 yX9_againstPress ∈ TT := t4_in (List.mem_of_getElem? (i := 223) rfl) rfl
theorem wt4_225 : Cond.instanceMethod yX9_againstPress ∈ TT := t4_in (List.mem_of_getElem? (i := 225) rfl) rfl
theorem wt4_226 : Cond.code yX9_againstPress cX9_againstPress 3 (some .int) ∈ TT := t4_in (List.mem_of_getElem? (i := 226) rfl) rfl
theorem wt4_227 : Cond.methodLink RX9 150 yX9_held ∈ TT := t4_in (List.mem_of_getElem? (i := 227) rfl) rfl
theorem wt4_229 : Cond.instanceMethod yX9_held ∈ TT := t4_in (List.mem_of_getElem? (i := 229) rfl) rfl
theorem wt4_230 : Cond.code yX9_held cX9_held 4 (some .int) ∈ TT := t4_in (List.mem_of_getElem? (i := 230) rfl) rfl
theorem wt4_231 : Cond.methodLink RL 43 yX9_release ∈ TT := t4_in (List.mem_of_getElem? (i := 231) rfl) rfl
theorem wt4_232 : Cond.instanceMethod yX9_release ∈ TT := t4_in (List.mem_of_getElem? (i := 232) rfl) rfl
theorem wt4_233 : Cond.selects RX9 yX9_release yX9_release ∈ TT := t4_in (List.mem_of_getElem? (i := 233) rfl) rfl
theorem wt4_234 : Cond.code yX9_release cX9_release 4 (some .int) ∈ TT := t4_in (List.mem_of_getElem? (i := 234) rfl) rfl
theorem wt4_235 : Cond.methodLink RX9 156 yX9_againstRelease ∈ TT := t4_in (List.mem_of_getElem? (i := 235) rfl) rfl
theorem wt4_237 : Cond.instanceMethod yX9_againstRelease ∈ TT := t4_in (List.mem_of_getElem? (i := 237) rfl) rfl
theorem wt4_238 : Cond.code yX9_againstRelease cX9_againstRelease 3 (some .int) ∈ TT := t4_in (List.mem_of_getElem? (i := 238) rfl) rfl
theorem wt4_239 : Cond.methodLink RL 48 yX9_tick ∈ TT := t4_in (List.mem_of_getElem? (i := 239) rfl) rfl
theorem wt5_0 : Cond.instanceMethod yX9_tick ∈ TT := t5_in (List.mem_of_getElem? (i := 0) rfl) rfl
theorem wt5_1 : Cond.selects RX9 yX9_tick yX9_tick ∈ TT := t5_in (List.mem_of_getElem? (i := 1) rfl) rfl
theorem wt5_2 : Cond.code yX9_tick cX9_tick 2 (some .int) ∈ TT := t5_in (List.mem_of_getElem? (i := 2) rfl) rfl
theorem wt5_3 : Cond.methodLink RX9 162 yX9_steps ∈ TT := t5_in (List.mem_of_getElem? (i := 3) rfl) rfl
theorem wt5_5 : Cond.instanceMethod yX9_steps ∈ TT := t5_in (List.mem_of_getElem? (i := 5) rfl) rfl
theorem wt5_6 : Cond.code yX9_steps cX9_steps 4 (some .int) ∈ TT := t5_in (List.mem_of_getElem? (i := 6) rfl) rfl
theorem wt5_7 : Cond.methodLink RX9 159 yX9_step ∈ TT := t5_in (List.mem_of_getElem? (i := 7) rfl) rfl
theorem wt5_9 : Cond.instanceMethod yX9_step ∈ TT := t5_in (List.mem_of_getElem? (i := 9) rfl) rfl
theorem wt5_10 : Cond.code yX9_step cX9_step 7 (some .int) ∈ TT := t5_in (List.mem_of_getElem? (i := 10) rfl) rfl
theorem wt5_11 : Cond.methodLink RX9 107 yX9_drive ∈ TT := t5_in (List.mem_of_getElem? (i := 11) rfl) rfl
theorem wt5_13 : Cond.instanceMethod yX9_drive ∈ TT := t5_in (List.mem_of_getElem? (i := 13) rfl) rfl
theorem wt5_14 : Cond.code yX9_drive cX9_drive 9 none ∈ TT := t5_in (List.mem_of_getElem? (i := 14) rfl) rfl
theorem wt5_15 : Cond.methodLink RX9 111 yX9_endStroke ∈ TT := t5_in (List.mem_of_getElem? (i := 15) rfl) rfl
theorem wt5_17 : Cond.instanceMethod yX9_endStroke ∈ TT := t5_in (List.mem_of_getElem? (i := 17) rfl) rfl
theorem wt5_18 : Cond.code yX9_endStroke cX9_endStroke 9 none ∈ TT := t5_in (List.mem_of_getElem? (i := 18) rfl) rfl
theorem wt5_19 : Cond.methodLink RX9 136 yX9_judged ∈ TT := t5_in (List.mem_of_getElem? (i := 19) rfl) rfl
theorem wt5_21 : Cond.instanceMethod yX9_judged ∈ TT := t5_in (List.mem_of_getElem? (i := 21) rfl) rfl
theorem wt5_22 : Cond.code yX9_judged cX9_judged 9 (some .int) ∈ TT := t5_in (List.mem_of_getElem? (i := 22) rfl) rfl
theorem wt5_23 : Cond.methodLink RX9 132 yX9_off ∈ TT := t5_in (List.mem_of_getElem? (i := 23) rfl) rfl
theorem wt5_25 : Cond.instanceMethod yX9_off ∈ TT := t5_in (List.mem_of_getElem? (i := 25) rfl) rfl
theorem wt5_26 : Cond.code yX9_off cX9_off 8 (some .float) ∈ TT := t5_in (List.mem_of_getElem? (i := 26) rfl) rfl
theorem wt5_27 : Cond.methodLink RX9 120 yX9_size ∈ TT := t5_in (List.mem_of_getElem? (i := 27) rfl) rfl
theorem wt5_28 : Cond.static yX9_size ∈ TT := t5_in (List.mem_of_getElem? (i := 28) rfl) rfl
theorem wt5_29 : Cond.code yX9_size cX9_size 1 (some .float) ∈ TT := t5_in (List.mem_of_getElem? (i := 29) rfl) rfl
theorem wt5_30 : Cond.methodLink RX9 124 yX9_gap ∈ TT := t5_in (List.mem_of_getElem? (i := 30) rfl) rfl
theorem wt5_32 : Cond.instanceMethod yX9_gap ∈ TT := t5_in (List.mem_of_getElem? (i := 32) rfl) rfl
theorem wt5_33 : Cond.code yX9_gap cX9_gap 4 (some .int) ∈ TT := t5_in (List.mem_of_getElem? (i := 33) rfl) rfl
theorem wt5_34 : Cond.methodLink RX9 139 yX9_countIt ∈ TT := t5_in (List.mem_of_getElem? (i := 34) rfl) rfl
theorem wt5_36 : Cond.instanceMethod yX9_countIt ∈ TT := t5_in (List.mem_of_getElem? (i := 36) rfl) rfl
theorem wt5_37 : Cond.code yX9_countIt cX9_countIt 3 none ∈ TT := t5_in (List.mem_of_getElem? (i := 37) rfl) rfl
theorem wt5_38 : Cond.methodLink RX9 143 yX9_learn ∈ TT := t5_in (List.mem_of_getElem? (i := 38) rfl) rfl
theorem wt5_40 : Cond.instanceMethod yX9_learn ∈ TT := t5_in (List.mem_of_getElem? (i := 40) rfl) rfl
theorem wt5_41 : Cond.code yX9_learn cX9_learn 5 none ∈ TT := t5_in (List.mem_of_getElem? (i := 41) rfl) rfl
theorem wt5_42 : Cond.methodLink RX9 128 yX9_learned ∈ TT := t5_in (List.mem_of_getElem? (i := 42) rfl) rfl
theorem wt5_44 : Cond.instanceMethod yX9_learned ∈ TT := t5_in (List.mem_of_getElem? (i := 44) rfl) rfl
theorem wt5_45 : Cond.code yX9_learned cX9_learned 4 (some .float) ∈ TT := t5_in (List.mem_of_getElem? (i := 45) rfl) rfl
theorem wt5_46 : Cond.methodLink RX9 147 yX9_giveSign ∈ TT := t5_in (List.mem_of_getElem? (i := 46) rfl) rfl
theorem wt5_48 : Cond.instanceMethod yX9_giveSign ∈ TT := t5_in (List.mem_of_getElem? (i := 48) rfl) rfl
theorem wt5_49 : Cond.code yX9_giveSign cX9_giveSign 5 none ∈ TT := t5_in (List.mem_of_getElem? (i := 49) rfl) rfl
theorem wt5_50 : Cond.methodLink RX9 114 yX9_closesCorner ∈ TT := t5_in (List.mem_of_getElem? (i := 50) rfl) rfl
theorem wt5_52 : Cond.instanceMethod yX9_closesCorner ∈ TT := t5_in (List.mem_of_getElem? (i := 52) rfl) rfl
theorem wt5_53 : Cond.code yX9_closesCorner cX9_closesCorner 7 (some .boolean) ∈ TT := t5_in (List.mem_of_getElem? (i := 53) rfl) rfl
theorem wt5_54 : Cond.methodLink RX9 117 yX9_isOn ∈ TT := t5_in (List.mem_of_getElem? (i := 54) rfl) rfl
theorem wt5_56 : Cond.instanceMethod yX9_isOn ∈ TT := t5_in (List.mem_of_getElem? (i := 56) rfl) rfl
theorem wt5_57 : Cond.code yX9_isOn cX9_isOn 3 (some .boolean) ∈ TT := t5_in (List.mem_of_getElem? (i := 57) rfl) rfl
theorem wt5_58 : Cond.methodLink RL 52 yX9_settle ∈ TT := t5_in (List.mem_of_getElem? (i := 58) rfl) rfl
theorem wt5_59 : Cond.instanceMethod yX9_settle ∈ TT := t5_in (List.mem_of_getElem? (i := 59) rfl) rfl
theorem wt5_60 : Cond.selects RX9 yX9_settle yX9_settle ∈ TT := t5_in (List.mem_of_getElem? (i := 60) rfl) rfl
theorem wt5_61 : Cond.code yX9_settle cX9_settle 4 (some .int) ∈ TT := t5_in (List.mem_of_getElem? (i := 61) rfl) rfl
theorem wt5_62 : Cond.methodLink RX9 165 yX9_noDispute ∈ TT := t5_in (List.mem_of_getElem? (i := 62) rfl) rfl
theorem wt5_64 : Cond.instanceMethod yX9_noDispute ∈ TT := t5_in (List.mem_of_getElem? (i := 64) rfl) rfl
theorem wt5_65 : Cond.code yX9_noDispute cX9_noDispute 2 (some .boolean) ∈ TT := t5_in (List.mem_of_getElem? (i := 65) rfl) rfl
theorem wt5_66 : Cond.methodLink RL 57 yX9_type ∈ TT := t5_in (List.mem_of_getElem? (i := 66) rfl) rfl
theorem wt5_67 : Cond.instanceMethod yX9_type ∈ TT := t5_in (List.mem_of_getElem? (i := 67) rfl) rfl
theorem wt5_68 : Cond.selects RX9 yX9_type yX9_type ∈ TT := t5_in (List.mem_of_getElem? (i := 68) rfl) rfl
theorem wt5_69 : Cond.code yX9_type cX9_type 2 (some .int) ∈ TT := t5_in (List.mem_of_getElem? (i := 69) rfl) rfl
theorem wt5_70 : Cond.methodLink RL 62 yX9_clearText ∈ TT := t5_in (List.mem_of_getElem? (i := 70) rfl) rfl
theorem wt5_71 : Cond.instanceMethod yX9_clearText ∈ TT := t5_in (List.mem_of_getElem? (i := 71) rfl) rfl
theorem wt5_72 : Cond.selects RX9 yX9_clearText yX9_clearText ∈ TT := t5_in (List.mem_of_getElem? (i := 72) rfl) rfl
theorem wt5_73 : Cond.code yX9_clearText cX9_clearText 2 (some .int) ∈ TT := t5_in (List.mem_of_getElem? (i := 73) rfl) rfl
theorem wt5_74 : Cond.methodLink RL 66 yX9_perform ∈ TT := t5_in (List.mem_of_getElem? (i := 74) rfl) rfl
theorem wt5_75 : Cond.instanceMethod yX9_perform ∈ TT := t5_in (List.mem_of_getElem? (i := 75) rfl) rfl
theorem wt5_76 : Cond.selects RX9 yX9_perform yX9_perform ∈ TT := t5_in (List.mem_of_getElem? (i := 76) rfl) rfl
theorem wt5_77 : Cond.code yX9_perform cX9_perform 2 (some .int) ∈ TT := t5_in (List.mem_of_getElem? (i := 77) rfl) rfl
theorem wt5_78 : Cond.methodLink RX9 185 yX9_moves ∈ TT := t5_in (List.mem_of_getElem? (i := 78) rfl) rfl
theorem wt5_80 : Cond.instanceMethod yX9_moves ∈ TT := t5_in (List.mem_of_getElem? (i := 80) rfl) rfl
theorem wt5_81 : Cond.code yX9_moves cX9_moves 5 (some .int) ∈ TT := t5_in (List.mem_of_getElem? (i := 81) rfl) rfl
theorem wt5_82 : Cond.methodLink RX9 181 yX9_move ∈ TT := t5_in (List.mem_of_getElem? (i := 82) rfl) rfl
theorem wt5_84 : Cond.instanceMethod yX9_move ∈ TT := t5_in (List.mem_of_getElem? (i := 84) rfl) rfl
theorem wt5_85 : Cond.code yX9_move cX9_move 6 (some .int) ∈ TT := t5_in (List.mem_of_getElem? (i := 85) rfl) rfl
theorem wt5_86 : Cond.methodLink RX9 174 yX9_sees ∈ TT := t5_in (List.mem_of_getElem? (i := 86) rfl) rfl
theorem wt5_88 : Cond.instanceMethod yX9_sees ∈ TT := t5_in (List.mem_of_getElem? (i := 88) rfl) rfl
theorem wt5_89 : Cond.code yX9_sees cX9_sees 3 (some .boolean) ∈ TT := t5_in (List.mem_of_getElem? (i := 89) rfl) rfl
theorem wt5_90 : Cond.methodLink RX9 178 yX9_readsNumber ∈ TT := t5_in (List.mem_of_getElem? (i := 90) rfl) rfl
theorem wt5_92 : Cond.instanceMethod yX9_readsNumber ∈ TT := t5_in (List.mem_of_getElem? (i := 92) rfl) rfl
theorem wt5_93 : Cond.code yX9_readsNumber cX9_readsNumber 3 (some .int) ∈ TT := t5_in (List.mem_of_getElem? (i := 93) rfl) rfl
theorem wt5_94 : Cond.methodLink RX9 188 yX9_goBack ∈ TT := t5_in (List.mem_of_getElem? (i := 94) rfl) rfl
theorem wt5_96 : Cond.instanceMethod yX9_goBack ∈ TT := t5_in (List.mem_of_getElem? (i := 96) rfl) rfl
theorem wt5_97 : Cond.code yX9_goBack cX9_goBack 2 none ∈ TT := t5_in (List.mem_of_getElem? (i := 97) rfl) rfl
theorem wt5_98 : Cond.methodLink RL 82 yX9_key ∈ TT := t5_in (List.mem_of_getElem? (i := 98) rfl) rfl
theorem wt5_99 : Cond.instanceMethod yX9_key ∈ TT := t5_in (List.mem_of_getElem? (i := 99) rfl) rfl
theorem wt5_100 : Cond.selects RX9 yX9_key yX9_key ∈ TT := t5_in (List.mem_of_getElem? (i := 100) rfl) rfl
theorem wt5_101 : Cond.code yX9_key cX9_key 3 (some .int) ∈ TT := t5_in (List.mem_of_getElem? (i := 101) rfl) rfl
theorem wt5_102 : Cond.methodLink RX9 191 yX9_wouldSense ∈ TT := t5_in (List.mem_of_getElem? (i := 102) rfl) rfl
theorem wt5_104 : Cond.instanceMethod yX9_wouldSense ∈ TT := t5_in (List.mem_of_getElem? (i := 104) rfl) rfl
theorem wt5_105 : Cond.code yX9_wouldSense cX9_wouldSense 2 (some .boolean) ∈ TT := t5_in (List.mem_of_getElem? (i := 105) rfl) rfl
theorem wt5_106 : Cond.methodLink RL 86 yX9_typist ∈ TT := t5_in (List.mem_of_getElem? (i := 106) rfl) rfl
theorem wt5_107 : Cond.instanceMethod yX9_typist ∈ TT := t5_in (List.mem_of_getElem? (i := 107) rfl) rfl
theorem wt5_108 : Cond.selects RX9 yX9_typist yX9_typist ∈ TT := t5_in (List.mem_of_getElem? (i := 108) rfl) rfl
theorem wt5_109 : Cond.code yX9_typist cX9_typist 3 (some .int) ∈ TT := t5_in (List.mem_of_getElem? (i := 109) rfl) rfl
theorem wt5_110 : Cond.methodLink RL 91 yX9_style ∈ TT := t5_in (List.mem_of_getElem? (i := 110) rfl) rfl
theorem wt5_111 : Cond.instanceMethod yX9_style ∈ TT := t5_in (List.mem_of_getElem? (i := 111) rfl) rfl
theorem wt5_112 : Cond.selects RX9 yX9_style yX9_style ∈ TT := t5_in (List.mem_of_getElem? (i := 112) rfl) rfl
theorem wt5_113 : Cond.code yX9_style cX9_style 3 (some .float) ∈ TT := t5_in (List.mem_of_getElem? (i := 113) rfl) rfl
theorem wt5_114 : Cond.constantFloat RX9 194 (2143289344) ∈ TT := t5_in (List.mem_of_getElem? (i := 114) rfl) rfl
theorem wt5_115 : Cond.methodLink RL 95 yX9_hundredths ∈ TT := t5_in (List.mem_of_getElem? (i := 115) rfl) rfl
theorem wt5_116 : Cond.instanceMethod yX9_hundredths ∈ TT := t5_in (List.mem_of_getElem? (i := 116) rfl) rfl
theorem wt5_117 : Cond.selects RX9 yX9_hundredths yX9_hundredths ∈ TT := t5_in (List.mem_of_getElem? (i := 117) rfl) rfl
theorem wt5_118 : Cond.code yX9_hundredths cX9_hundredths 3 (some .int) ∈ TT := t5_in (List.mem_of_getElem? (i := 118) rfl) rfl
theorem wt5_119 : Cond.constantFloat RX9 195 (1120403456) ∈ TT := t5_in (List.mem_of_getElem? (i := 119) rfl) rfl
theorem wt5_120 : Cond.methodLink RL 99 yX9_typed ∈ TT := t5_in (List.mem_of_getElem? (i := 120) rfl) rfl
theorem wt5_121 : Cond.instanceMethod yX9_typed ∈ TT := t5_in (List.mem_of_getElem? (i := 121) rfl) rfl
theorem wt5_122 : Cond.selects RX9 yX9_typed yX9_typed ∈ TT := t5_in (List.mem_of_getElem? (i := 122) rfl) rfl
theorem wt5_123 : Cond.code yX9_typed cX9_typed 4 (some .int) ∈ TT := t5_in (List.mem_of_getElem? (i := 123) rfl) rfl
theorem wt5_124 : Cond.methodLink RL 103 yX9_stroke ∈ TT := t5_in (List.mem_of_getElem? (i := 124) rfl) rfl
theorem wt5_125 : Cond.instanceMethod yX9_stroke ∈ TT := t5_in (List.mem_of_getElem? (i := 125) rfl) rfl
theorem wt5_126 : Cond.selects RX9 yX9_stroke yX9_stroke ∈ TT := t5_in (List.mem_of_getElem? (i := 126) rfl) rfl
theorem wt5_127 : Cond.code yX9_stroke cX9_stroke 4 (some .int) ∈ TT := t5_in (List.mem_of_getElem? (i := 127) rfl) rfl
theorem wt5_128 : Cond.methodLink RL 107 yX9_dispute ∈ TT := t5_in (List.mem_of_getElem? (i := 128) rfl) rfl
theorem wt5_129 : Cond.instanceMethod yX9_dispute ∈ TT := t5_in (List.mem_of_getElem? (i := 129) rfl) rfl
theorem wt5_130 : Cond.selects RX9 yX9_dispute yX9_dispute ∈ TT := t5_in (List.mem_of_getElem? (i := 130) rfl) rfl
theorem wt5_131 : Cond.code yX9_dispute cX9_dispute 3 (some .int) ∈ TT := t5_in (List.mem_of_getElem? (i := 131) rfl) rfl
theorem wt5_132 : Cond.methodLink RL 112 yX9_distance ∈ TT := t5_in (List.mem_of_getElem? (i := 132) rfl) rfl
theorem wt5_133 : Cond.instanceMethod yX9_distance ∈ TT := t5_in (List.mem_of_getElem? (i := 133) rfl) rfl
theorem wt5_134 : Cond.selects RX9 yX9_distance yX9_distance ∈ TT := t5_in (List.mem_of_getElem? (i := 134) rfl) rfl
theorem wt5_135 : Cond.code yX9_distance cX9_distance 4 (some .float) ∈ TT := t5_in (List.mem_of_getElem? (i := 135) rfl) rfl
theorem wt5_136 : Cond.methodLink RL 116 yX9_verdict ∈ TT := t5_in (List.mem_of_getElem? (i := 136) rfl) rfl
theorem wt5_137 : Cond.instanceMethod yX9_verdict ∈ TT := t5_in (List.mem_of_getElem? (i := 137) rfl) rfl
theorem wt5_138 : Cond.selects RX9 yX9_verdict yX9_verdict ∈ TT := t5_in (List.mem_of_getElem? (i := 138) rfl) rfl
theorem wt5_139 : Cond.code yX9_verdict cX9_verdict 2 (some .int) ∈ TT := t5_in (List.mem_of_getElem? (i := 139) rfl) rfl
theorem wt5_140 : Cond.methodLink RL 120 yX9_ghostsBy ∈ TT := t5_in (List.mem_of_getElem? (i := 140) rfl) rfl
theorem wt5_141 : Cond.instanceMethod yX9_ghostsBy ∈ TT := t5_in (List.mem_of_getElem? (i := 141) rfl) rfl
theorem wt5_142 : Cond.selects RX9 yX9_ghostsBy yX9_ghostsBy ∈ TT := t5_in (List.mem_of_getElem? (i := 142) rfl) rfl
theorem wt5_143 : Cond.code yX9_ghostsBy cX9_ghostsBy 8 (some .int) ∈ TT := t5_in (List.mem_of_getElem? (i := 143) rfl) rfl
theorem wt5_144 : Cond.methodLink RL 124 yX9_count ∈ TT := t5_in (List.mem_of_getElem? (i := 144) rfl) rfl
theorem wt5_145 : Cond.instanceMethod yX9_count ∈ TT := t5_in (List.mem_of_getElem? (i := 145) rfl) rfl
theorem wt5_146 : Cond.selects RX9 yX9_count yX9_count ∈ TT := t5_in (List.mem_of_getElem? (i := 146) rfl) rfl
theorem wt5_147 : Cond.code yX9_count cX9_count 2 (some .int) ∈ TT := t5_in (List.mem_of_getElem? (i := 147) rfl) rfl
theorem wt5_148 : Cond.methodLink RX9 196 yX9_keysThat ∈ TT := t5_in (List.mem_of_getElem? (i := 148) rfl) rfl
theorem wt5_150 : Cond.instanceMethod yX9_keysThat ∈ TT := t5_in (List.mem_of_getElem? (i := 150) rfl) rfl
theorem wt5_151 : Cond.code yX9_keysThat cX9_keysThat 5 (some .int) ∈ TT := t5_in (List.mem_of_getElem? (i := 151) rfl) rfl
theorem wt5_152 : Cond.methodLink RX9 199 yX9_openDisputes ∈ TT := t5_in (List.mem_of_getElem? (i := 152) rfl) rfl
theorem wt5_154 : Cond.instanceMethod yX9_openDisputes ∈ TT := t5_in (List.mem_of_getElem? (i := 154) rfl) rfl
theorem wt5_155 : Cond.code yX9_openDisputes cX9_openDisputes 3 (some .int) ∈ TT := t5_in (List.mem_of_getElem? (i := 155) rfl) rfl
theorem wt0_0 : Cond.selects RX8 yX8_move yX8_move ∈ TT := t0_in (List.mem_of_getElem? (i := 0) rfl) rfl
theorem wt0_1 : Cond.selects RX8 yX8_meanOf yX8_meanOf ∈ TT := t0_in (List.mem_of_getElem? (i := 1) rfl) rfl
theorem wt0_2 : Cond.selects RX9 yX9_clearKeys yX9_clearKeys ∈ TT := t0_in (List.mem_of_getElem? (i := 2) rfl) rfl
theorem wt0_3 : Cond.selects RX9 yX9_begin yX9_begin ∈ TT := t0_in (List.mem_of_getElem? (i := 3) rfl) rfl
theorem wt0_4 : Cond.selects RX9 yX9_remember yX9_remember ∈ TT := t0_in (List.mem_of_getElem? (i := 4) rfl) rfl
theorem wt0_5 : Cond.selects RX9 yX9_record yX9_record ∈ TT := t0_in (List.mem_of_getElem? (i := 5) rfl) rfl
theorem wt0_6 : Cond.selects RX9 yX9_keys yX9_keys ∈ TT := t0_in (List.mem_of_getElem? (i := 6) rfl) rfl
theorem wt0_7 : Cond.selects RX9 yX9_isDown yX9_isDown ∈ TT := t0_in (List.mem_of_getElem? (i := 7) rfl) rfl
theorem wt0_8 : Cond.selects RX9 yX9_isSeen yX9_isSeen ∈ TT := t0_in (List.mem_of_getElem? (i := 8) rfl) rfl
theorem wt0_9 : Cond.selects RX9 yX9_noKey yX9_noKey ∈ TT := t0_in (List.mem_of_getElem? (i := 9) rfl) rfl
theorem wt0_10 : Cond.selects RX9 yX9_shiftOf yX9_shiftOf ∈ TT := t0_in (List.mem_of_getElem? (i := 10) rfl) rfl
theorem wt0_11 : Cond.selects RX9 yX9_noTypist yX9_noTypist ∈ TT := t0_in (List.mem_of_getElem? (i := 11) rfl) rfl
theorem wt0_12 : Cond.selects RX9 yX9_againstPress yX9_againstPress ∈ TT := t0_in (List.mem_of_getElem? (i := 12) rfl) rfl
theorem wt0_13 : Cond.selects RX9 yX9_held yX9_held ∈ TT := t0_in (List.mem_of_getElem? (i := 13) rfl) rfl
theorem wt0_14 : Cond.selects RX9 yX9_againstRelease yX9_againstRelease ∈ TT := t0_in (List.mem_of_getElem? (i := 14) rfl) rfl
theorem wt0_15 : Cond.selects RX9 yX9_steps yX9_steps ∈ TT := t0_in (List.mem_of_getElem? (i := 15) rfl) rfl
theorem wt0_16 : Cond.selects RX9 yX9_step yX9_step ∈ TT := t0_in (List.mem_of_getElem? (i := 16) rfl) rfl
theorem wt0_17 : Cond.selects RX9 yX9_drive yX9_drive ∈ TT := t0_in (List.mem_of_getElem? (i := 17) rfl) rfl
theorem wt0_18 : Cond.selects RX9 yX9_endStroke yX9_endStroke ∈ TT := t0_in (List.mem_of_getElem? (i := 18) rfl) rfl
theorem wt0_19 : Cond.selects RX9 yX9_judged yX9_judged ∈ TT := t0_in (List.mem_of_getElem? (i := 19) rfl) rfl
theorem wt0_20 : Cond.selects RX9 yX9_off yX9_off ∈ TT := t0_in (List.mem_of_getElem? (i := 20) rfl) rfl
theorem wt0_21 : Cond.selects RX9 yX9_gap yX9_gap ∈ TT := t0_in (List.mem_of_getElem? (i := 21) rfl) rfl
theorem wt0_22 : Cond.selects RX9 yX9_countIt yX9_countIt ∈ TT := t0_in (List.mem_of_getElem? (i := 22) rfl) rfl
theorem wt0_23 : Cond.selects RX9 yX9_learn yX9_learn ∈ TT := t0_in (List.mem_of_getElem? (i := 23) rfl) rfl
theorem wt0_24 : Cond.selects RX9 yX9_learned yX9_learned ∈ TT := t0_in (List.mem_of_getElem? (i := 24) rfl) rfl
theorem wt0_25 : Cond.selects RX9 yX9_giveSign yX9_giveSign ∈ TT := t0_in (List.mem_of_getElem? (i := 25) rfl) rfl
theorem wt0_26 : Cond.selects RX9 yX9_closesCorner yX9_closesCorner ∈ TT := t0_in (List.mem_of_getElem? (i := 26) rfl) rfl
theorem wt0_27 : Cond.selects RX9 yX9_isOn yX9_isOn ∈ TT := t0_in (List.mem_of_getElem? (i := 27) rfl) rfl
theorem wt0_28 : Cond.selects RX9 yX9_noDispute yX9_noDispute ∈ TT := t0_in (List.mem_of_getElem? (i := 28) rfl) rfl
theorem wt0_29 : Cond.selects RX9 yX9_moves yX9_moves ∈ TT := t0_in (List.mem_of_getElem? (i := 29) rfl) rfl
theorem wt0_30 : Cond.selects RX9 yX9_move yX9_move ∈ TT := t0_in (List.mem_of_getElem? (i := 30) rfl) rfl
theorem wt0_31 : Cond.selects RX9 yX9_sees yX9_sees ∈ TT := t0_in (List.mem_of_getElem? (i := 31) rfl) rfl
theorem wt0_32 : Cond.selects RX9 yX9_readsNumber yX9_readsNumber ∈ TT := t0_in (List.mem_of_getElem? (i := 32) rfl) rfl
theorem wt0_33 : Cond.selects RX9 yX9_goBack yX9_goBack ∈ TT := t0_in (List.mem_of_getElem? (i := 33) rfl) rfl
theorem wt0_34 : Cond.selects RX9 yX9_wouldSense yX9_wouldSense ∈ TT := t0_in (List.mem_of_getElem? (i := 34) rfl) rfl
theorem wt0_35 : Cond.selects RX9 yX9_keysThat yX9_keysThat ∈ TT := t0_in (List.mem_of_getElem? (i := 35) rfl) rfl
theorem wt0_36 : Cond.selects RX9 yX9_openDisputes yX9_openDisputes ∈ TT := t0_in (List.mem_of_getElem? (i := 36) rfl) rfl
theorem uinX0 : ∀ w ∈ wsX00, w ∈ TT := by
  have e : wsX00 = [Cond.lays RX0 "BlanketKeys$Board" "rows" "I", Cond.lays RX0 "BlanketKeys$Board" "columns" "I", Cond.laysFinal RX0 "BlanketKeys$Board" "holders" "[I", Cond.laysFinal RX0 "BlanketKeys$Board" "signs" "[I", Cond.laysFinal RX0 "BlanketKeys$Board" "sinces" "[I", Cond.laysFinal RX0 "BlanketKeys$Board" "notedShifts" "[I", Cond.laysFinal RX0 "BlanketKeys$Board" "trueHolders" "[I", Cond.laysFinal RX0 "BlanketKeys$Board" "down" "[I", Cond.laysFinal RX0 "BlanketKeys$Board" "seen" "[I", Cond.laysFinal RX0 "BlanketKeys$Board" "doubtful" "[I", Cond.laysFinal RX0 "BlanketKeys$Board" "shifts" "[I"] := rfl
  rw [e]
  exact List.forall_mem_cons.mpr ⟨wt1_56, List.forall_mem_cons.mpr ⟨wt1_58, List.forall_mem_cons.mpr ⟨wt1_60, List.forall_mem_cons.mpr ⟨wt1_62, List.forall_mem_cons.mpr ⟨wt1_64, List.forall_mem_cons.mpr ⟨wt1_66, List.forall_mem_cons.mpr ⟨wt1_68, List.forall_mem_cons.mpr ⟨wt1_70, List.forall_mem_cons.mpr ⟨wt1_72, List.forall_mem_cons.mpr ⟨wt1_74, List.forall_mem_cons.mpr ⟨wt1_76, fun _ h => absurd h List.not_mem_nil⟩⟩⟩⟩⟩⟩⟩⟩⟩⟩⟩
theorem uinX2 : ∀ w ∈ wsX20, w ∈ TT := by
  have e : wsX20 = [Cond.lays RX2 "BlanketKeys$History" "depth" "I", Cond.lays RX2 "BlanketKeys$History" "latest" "LBlanketKeys$State;", Cond.lays RX2 "BlanketKeys$History" "second" "LBlanketKeys$State;", Cond.lays RX2 "BlanketKeys$History" "third" "LBlanketKeys$State;", Cond.lays RX2 "BlanketKeys$History" "oldest" "LBlanketKeys$State;"] := rfl
  rw [e]
  exact List.forall_mem_cons.mpr ⟨wt2_1, List.forall_mem_cons.mpr ⟨wt2_3, List.forall_mem_cons.mpr ⟨wt2_5, List.forall_mem_cons.mpr ⟨wt2_7, List.forall_mem_cons.mpr ⟨wt2_9, fun _ h => absurd h List.not_mem_nil⟩⟩⟩⟩⟩
theorem uinX3 : ∀ w ∈ wsX30, w ∈ TT := by
  have e : wsX30 = [Cond.lays RX3 "BlanketKeys$Script" "length" "I", Cond.laysFinal RX3 "BlanketKeys$Script" "characters" "[C"] := rfl
  rw [e]
  exact List.forall_mem_cons.mpr ⟨wt2_21, List.forall_mem_cons.mpr ⟨wt2_23, fun _ h => absurd h List.not_mem_nil⟩⟩
theorem uinX4 : ∀ w ∈ wsX40, w ∈ TT := by
  have e : wsX40 = [Cond.laysFinal RX4 "BlanketKeys$Settings" "bits" "[I", Cond.lays RX4 "BlanketKeys$Settings" "margin" "F", Cond.lays RX4 "BlanketKeys$Settings" "trust" "F", Cond.lays RX4 "BlanketKeys$Settings" "rate" "F"] := rfl
  rw [e]
  exact List.forall_mem_cons.mpr ⟨wt1_177, List.forall_mem_cons.mpr ⟨wt1_179, List.forall_mem_cons.mpr ⟨wt1_181, List.forall_mem_cons.mpr ⟨wt1_183, fun _ h => absurd h List.not_mem_nil⟩⟩⟩⟩
theorem uinX5 : ∀ w ∈ wsX50, w ∈ TT := by
  have e : wsX50 = [Cond.laysFinal RX5 "BlanketKeys$State" "board" "LBlanketKeys$Board;", Cond.laysFinal RX5 "BlanketKeys$State" "first" "LBlanketKeys$Typist;", Cond.laysFinal RX5 "BlanketKeys$State" "second" "LBlanketKeys$Typist;", Cond.laysFinal RX5 "BlanketKeys$State" "ended" "LBlanketKeys$Strokes;", Cond.laysFinal RX5 "BlanketKeys$State" "disputes" "LBlanketKeys$Strokes;", Cond.laysFinal RX5 "BlanketKeys$State" "settings" "LBlanketKeys$Settings;", Cond.lays RX5 "BlanketKeys$State" "time" "I", Cond.lays RX5 "BlanketKeys$State" "ghosts" "I", Cond.lays RX5 "BlanketKeys$State" "ghostsOfNobody" "I", Cond.lays RX5 "BlanketKeys$State" "openDisputes" "I"] := rfl
  rw [e]
  exact List.forall_mem_cons.mpr ⟨wt1_206, List.forall_mem_cons.mpr ⟨wt1_208, List.forall_mem_cons.mpr ⟨wt1_210, List.forall_mem_cons.mpr ⟨wt1_212, List.forall_mem_cons.mpr ⟨wt1_214, List.forall_mem_cons.mpr ⟨wt1_216, List.forall_mem_cons.mpr ⟨wt1_218, List.forall_mem_cons.mpr ⟨wt1_220, List.forall_mem_cons.mpr ⟨wt1_222, List.forall_mem_cons.mpr ⟨wt1_224, fun _ h => absurd h List.not_mem_nil⟩⟩⟩⟩⟩⟩⟩⟩⟩⟩
theorem uinX6 : ∀ w ∈ wsX60, w ∈ TT := by
  have e : wsX60 = [Cond.lays RX6 "BlanketKeys$Strokes" "total" "I", Cond.laysFinal RX6 "BlanketKeys$Strokes" "keys" "[I", Cond.laysFinal RX6 "BlanketKeys$Strokes" "sinces" "[I", Cond.laysFinal RX6 "BlanketKeys$Strokes" "dwells" "[I", Cond.laysFinal RX6 "BlanketKeys$Strokes" "fates" "[I", Cond.laysFinal RX6 "BlanketKeys$Strokes" "holders" "[I", Cond.laysFinal RX6 "BlanketKeys$Strokes" "notedShifts" "[I", Cond.laysFinal RX6 "BlanketKeys$Strokes" "origins" "[I"] := rfl
  rw [e]
  exact List.forall_mem_cons.mpr ⟨wt1_141, List.forall_mem_cons.mpr ⟨wt1_143, List.forall_mem_cons.mpr ⟨wt1_145, List.forall_mem_cons.mpr ⟨wt1_147, List.forall_mem_cons.mpr ⟨wt1_149, List.forall_mem_cons.mpr ⟨wt1_151, List.forall_mem_cons.mpr ⟨wt1_153, List.forall_mem_cons.mpr ⟨wt1_155, fun _ h => absurd h List.not_mem_nil⟩⟩⟩⟩⟩⟩⟩⟩
theorem uinX7 : ∀ w ∈ wsX70, w ∈ TT := by
  have e : wsX70 = [Cond.lays RX7 "BlanketKeys$Typist" "meanDwell" "F", Cond.lays RX7 "BlanketKeys$Typist" "meanGap" "F", Cond.lays RX7 "BlanketKeys$Typist" "last" "I", Cond.lays RX7 "BlanketKeys$Typist" "borrows" "Z", Cond.lays RX7 "BlanketKeys$Typist" "credited" "I", Cond.lays RX7 "BlanketKeys$Typist" "creditedRightly" "I", Cond.lays RX7 "BlanketKeys$Typist" "signCount" "I", Cond.laysFinal RX7 "BlanketKeys$Typist" "signs" "[I"] := rfl
  rw [e]
  exact List.forall_mem_cons.mpr ⟨wt1_106, List.forall_mem_cons.mpr ⟨wt1_108, List.forall_mem_cons.mpr ⟨wt1_110, List.forall_mem_cons.mpr ⟨wt1_112, List.forall_mem_cons.mpr ⟨wt1_114, List.forall_mem_cons.mpr ⟨wt1_116, List.forall_mem_cons.mpr ⟨wt1_118, List.forall_mem_cons.mpr ⟨wt1_120, fun _ h => absurd h List.not_mem_nil⟩⟩⟩⟩⟩⟩⟩⟩
theorem uinX8 : ∀ w ∈ wsX80, w ∈ TT := by
  have e : wsX80 = [Cond.laysFinal RX8 "BlanketKeys" "now" "LBlanketKeys$State;", Cond.laysFinal RX8 "BlanketKeys" "beforeScript" "LBlanketKeys$State;", Cond.laysFinal RX8 "BlanketKeys" "snapshot" "LBlanketKeys$State;", Cond.laysFinal RX8 "BlanketKeys" "history" "LBlanketKeys$History;", Cond.laysFinal RX8 "BlanketKeys" "script" "LBlanketKeys$Script;", Cond.lays RX8 "BlanketKeys" "hasSnapshot" "Z"] := rfl
  rw [e]
  exact List.forall_mem_cons.mpr ⟨wt2_33, List.forall_mem_cons.mpr ⟨wt2_35, List.forall_mem_cons.mpr ⟨wt2_37, List.forall_mem_cons.mpr ⟨wt2_39, List.forall_mem_cons.mpr ⟨wt2_41, List.forall_mem_cons.mpr ⟨wt2_43, fun _ h => absurd h List.not_mem_nil⟩⟩⟩⟩⟩⟩
theorem uinX9 : ∀ w ∈ wsX90, w ∈ TT := by
  have e : wsX90 = [Cond.laysFinal RX9 "BlanketKeysModel" "row" "[I", Cond.laysFinal RX9 "BlanketKeysModel" "past" "[I", Cond.laysFinal RX9 "BlanketKeysModel" "aside" "[I", Cond.laysFinal RX9 "BlanketKeysModel" "before" "[I", Cond.laysFinal RX9 "BlanketKeysModel" "style" "[F", Cond.laysFinal RX9 "BlanketKeysModel" "pastStyle" "[F", Cond.laysFinal RX9 "BlanketKeysModel" "asideStyle" "[F", Cond.laysFinal RX9 "BlanketKeysModel" "beforeStyle" "[F", Cond.lays RX9 "BlanketKeysModel" "states" "I", Cond.lays RX9 "BlanketKeysModel" "isAside" "Z", Cond.laysFinal RX9 "BlanketKeysModel" "text" "[C", Cond.lays RX9 "BlanketKeysModel" "length" "I", Cond.lays RX9 "BlanketKeysModel" "at" "I", Cond.lays RX9 "BlanketKeysModel" "columnsNow" "I", Cond.lays RX9 "BlanketKeysModel" "rowsNow" "I"] := rfl
  rw [e]
  exact List.forall_mem_cons.mpr ⟨wt4_101, List.forall_mem_cons.mpr ⟨wt4_103, List.forall_mem_cons.mpr ⟨wt4_105, List.forall_mem_cons.mpr ⟨wt4_107, List.forall_mem_cons.mpr ⟨wt4_109, List.forall_mem_cons.mpr ⟨wt4_111, List.forall_mem_cons.mpr ⟨wt4_113, List.forall_mem_cons.mpr ⟨wt4_115, List.forall_mem_cons.mpr ⟨wt4_117, List.forall_mem_cons.mpr ⟨wt4_119, List.forall_mem_cons.mpr ⟨wt4_121, List.forall_mem_cons.mpr ⟨wt4_123, List.forall_mem_cons.mpr ⟨wt4_125, List.forall_mem_cons.mpr ⟨wt4_127, List.forall_mem_cons.mpr ⟨wt4_129, fun _ h => absurd h List.not_mem_nil⟩⟩⟩⟩⟩⟩⟩⟩⟩⟩⟩⟩⟩⟩⟩
