/-- the words of the tables that a callee may be handed -/
def TT : List Cond := lw_tbl.filter goodWord
theorem TTm {w : Cond} (h : w ∈ lw_tbl) (g : goodWord w = true) : w ∈ TT := List.mem_filter.mpr ⟨h, g⟩
theorem TTs {w : Cond} (h : w ∈ TT) : w ∈ lw_tbl := (List.mem_filter.mp h).1
theorem TTg : GoodIn TT TT := fun w h => ⟨h, good_of_word (List.mem_filter.mp h).2⟩
theorem t0_in {w : Cond} (h : w ∈ k2_sels lw_privs) (g : goodWord w = true) : w ∈ TT := TTm (List.mem_append_left _ h) g
theorem t1_in {w : Cond} (h : w ∈ tables_1_1) (g : goodWord w = true) : w ∈ TT := TTm (List.mem_append_right _ (List.mem_append_left _ h)) g
theorem t2_in {w : Cond} (h : w ∈ tables_1_2) (g : goodWord w = true) : w ∈ TT := TTm (List.mem_append_right _ (List.mem_append_right _ (List.mem_append_left _ h))) g
theorem t3_in {w : Cond} (h : w ∈ tables_1_3) (g : goodWord w = true) : w ∈ TT := TTm (List.mem_append_right _ (List.mem_append_right _ (List.mem_append_right _ (List.mem_append_left _ h)))) g
theorem t4_in {w : Cond} (h : w ∈ tables_1_4) (g : goodWord w = true) : w ∈ TT := TTm (List.mem_append_right _ (List.mem_append_right _ (List.mem_append_right _ (List.mem_append_right _ h)))) g
theorem wt1_0 : Cond.initialized RL ∈ TT := t1_in (List.mem_of_getElem? (i := 0) rfl) rfl
theorem wt1_1 : Cond.initialized RX8 ∈ TT := t1_in (List.mem_of_getElem? (i := 1) rfl) rfl
theorem wt1_2 : Cond.initialized RX5 ∈ TT := t1_in (List.mem_of_getElem? (i := 2) rfl) rfl
theorem wt1_3 : Cond.initialized RX0 ∈ TT := t1_in (List.mem_of_getElem? (i := 3) rfl) rfl
theorem wt1_4 : Cond.initialized RJ7 ∈ TT := t1_in (List.mem_of_getElem? (i := 4) rfl) rfl
theorem wt1_5 : Cond.initialized RX7 ∈ TT := t1_in (List.mem_of_getElem? (i := 5) rfl) rfl
theorem wt1_6 : Cond.initialized RX6 ∈ TT := t1_in (List.mem_of_getElem? (i := 6) rfl) rfl
theorem wt1_7 : Cond.initialized RX4 ∈ TT := t1_in (List.mem_of_getElem? (i := 7) rfl) rfl
theorem wt1_8 : Cond.initialized RX2 ∈ TT := t1_in (List.mem_of_getElem? (i := 8) rfl) rfl
theorem wt1_9 : Cond.initialized RX3 ∈ TT := t1_in (List.mem_of_getElem? (i := 9) rfl) rfl
theorem wt1_10 : Cond.initialized RX1 ∈ TT := t1_in (List.mem_of_getElem? (i := 10) rfl) rfl
theorem wt1_11 : Cond.initialized RJ9 ∈ TT := t1_in (List.mem_of_getElem? (i := 11) rfl) rfl
theorem wt1_12 : Cond.initialized RJ10 ∈ TT := t1_in (List.mem_of_getElem? (i := 12) rfl) rfl
theorem wt1_13 : Cond.initialized RJ6 ∈ TT := t1_in (List.mem_of_getElem? (i := 13) rfl) rfl
theorem wt1_14 : Cond.classLink RL 10 RX8 ∈ TT := t1_in (List.mem_of_getElem? (i := 14) rfl) rfl
theorem wt1_15 : Cond.instantiable RX8 6 ∈ TT := t1_in (List.mem_of_getElem? (i := 15) rfl) rfl
theorem wt1_16 : Cond.methodLink RL 119 yX8_init ∈ TT := t1_in (List.mem_of_getElem? (i := 16) rfl) rfl
theorem wt1_17 : Cond.instanceMethod yX8_init ∈ TT := t1_in (List.mem_of_getElem? (i := 17) rfl) rfl
theorem wt1_18 : Cond.code yX8_init cX8_init 1 none ∈ TT := t1_in (List.mem_of_getElem? (i := 18) rfl) rfl
theorem wt1_19 : Cond.methodLink RX8 3 ⟨"java/lang/Object", "<init>", "()V"⟩ ∈ TT := t1_in (List.mem_of_getElem? (i := 19) rfl) rfl
theorem wt1_20 : Cond.instanceMethod ⟨"java/lang/Object", "<init>", "()V"⟩ ∈ TT := t1_in (List.mem_of_getElem? (i := 20) rfl) rfl
theorem wt1_21 : Cond.code ⟨"java/lang/Object", "<init>", "()V"⟩ object_method_1_code 1 none ∈ TT := t1_in (List.mem_of_getElem? (i := 21) rfl) rfl
theorem wt1_22 : Cond.classLink RX8 9 RX5 ∈ TT := t1_in (List.mem_of_getElem? (i := 22) rfl) rfl
theorem wt1_23 : Cond.instantiable RX5 10 ∈ TT := t1_in (List.mem_of_getElem? (i := 23) rfl) rfl
theorem wn1_24 : Cond.methodLinkNest RX8 11 yX5_init RX8 ∈ lw_tbl := (fun h => List.mem_append_right _ (List.mem_append_left _ h)) (List.mem_of_getElem? (l := tables_1_1) (i := 24) rfl)
theorem wt1_25 : Cond.instanceMethod yX5_init ∈ TT := t1_in (List.mem_of_getElem? (i := 25) rfl) rfl
theorem wt1_26 : Cond.code yX5_init cX5_init 1 none ∈ TT := t1_in (List.mem_of_getElem? (i := 26) rfl) rfl
theorem wt1_27 : Cond.methodLink RX5 3 ⟨"java/lang/Object", "<init>", "()V"⟩ ∈ TT := t1_in (List.mem_of_getElem? (i := 27) rfl) rfl
theorem wt1_28 : Cond.classLink RX5 9 RX0 ∈ TT := t1_in (List.mem_of_getElem? (i := 28) rfl) rfl
theorem wt1_29 : Cond.instantiable RX0 11 ∈ TT := t1_in (List.mem_of_getElem? (i := 29) rfl) rfl
theorem wt1_30 : Cond.methodLink RX5 11 yX0_init ∈ TT := t1_in (List.mem_of_getElem? (i := 30) rfl) rfl
theorem wt1_31 : Cond.instanceMethod yX0_init ∈ TT := t1_in (List.mem_of_getElem? (i := 31) rfl) rfl
theorem wt1_32 : Cond.code yX0_init cX0_init 1 none ∈ TT := t1_in (List.mem_of_getElem? (i := 32) rfl) rfl
theorem wt1_33 : Cond.methodLink RX0 3 ⟨"java/lang/Object", "<init>", "()V"⟩ ∈ TT := t1_in (List.mem_of_getElem? (i := 33) rfl) rfl
theorem wt1_34 : Cond.methodLink RX0 46 yJ7_fill_53178 ∈ TT := t1_in (List.mem_of_getElem? (i := 34) rfl) rfl
theorem wt1_35 : Cond.static yJ7_fill_53178 ∈ TT := t1_in (List.mem_of_getElem? (i := 35) rfl) rfl
theorem wt1_36 : Cond.code yJ7_fill_53178 cJ7_fill_53178 4 none ∈ TT := t1_in (List.mem_of_getElem? (i := 36) rfl) rfl
theorem wt1_37 : Cond.fieldLink RX0 9 "BlanketKeys$Board" "rows" "I" ∈ TT := t1_in (List.mem_of_getElem? (i := 37) rfl) rfl
theorem wt1_38 : Cond.fieldLink RX8 53 "BlanketKeys$Board" "rows" "I" ∈ TT := t1_in (List.mem_of_getElem? (i := 38) rfl) rfl
theorem wt1_39 : Cond.fieldLink RX5 97 "BlanketKeys$Board" "rows" "I" ∈ TT := t1_in (List.mem_of_getElem? (i := 39) rfl) rfl
theorem wt1_40 : Cond.fieldLink RX0 15 "BlanketKeys$Board" "columns" "I" ∈ TT := t1_in (List.mem_of_getElem? (i := 40) rfl) rfl
theorem wt1_41 : Cond.fieldLink RX8 57 "BlanketKeys$Board" "columns" "I" ∈ TT := t1_in (List.mem_of_getElem? (i := 41) rfl) rfl
theorem wt1_42 : Cond.fieldLink RX5 123 "BlanketKeys$Board" "columns" "I" ∈ TT := t1_in (List.mem_of_getElem? (i := 42) rfl) rfl
theorem wt1_43 : Cond.fieldLink RX0 18 "BlanketKeys$Board" "holders" "[I" ∈ TT := t1_in (List.mem_of_getElem? (i := 43) rfl) rfl
theorem wt1_44 : Cond.fieldLink RX0 22 "BlanketKeys$Board" "signs" "[I" ∈ TT := t1_in (List.mem_of_getElem? (i := 44) rfl) rfl
theorem wt1_45 : Cond.fieldLink RX0 25 "BlanketKeys$Board" "sinces" "[I" ∈ TT := t1_in (List.mem_of_getElem? (i := 45) rfl) rfl
theorem wt1_46 : Cond.fieldLink RX0 28 "BlanketKeys$Board" "notedShifts" "[I" ∈ TT := t1_in (List.mem_of_getElem? (i := 46) rfl) rfl
theorem wt1_47 : Cond.fieldLink RX0 31 "BlanketKeys$Board" "trueHolders" "[I" ∈ TT := t1_in (List.mem_of_getElem? (i := 47) rfl) rfl
theorem wt1_48 : Cond.fieldLink RX0 34 "BlanketKeys$Board" "down" "[I" ∈ TT := t1_in (List.mem_of_getElem? (i := 48) rfl) rfl
theorem wt1_49 : Cond.fieldLink RX0 37 "BlanketKeys$Board" "seen" "[I" ∈ TT := t1_in (List.mem_of_getElem? (i := 49) rfl) rfl
theorem wt1_50 : Cond.fieldLink RX5 110 "BlanketKeys$Board" "seen" "[I" ∈ TT := t1_in (List.mem_of_getElem? (i := 50) rfl) rfl
theorem wt1_51 : Cond.fieldLink RX0 40 "BlanketKeys$Board" "doubtful" "[I" ∈ TT := t1_in (List.mem_of_getElem? (i := 51) rfl) rfl
theorem wt1_52 : Cond.fieldLink RX0 43 "BlanketKeys$Board" "shifts" "[I" ∈ TT := t1_in (List.mem_of_getElem? (i := 52) rfl) rfl
theorem wt1_53 : Cond.lays RX0 "BlanketKeys$Board" "rows" "I" ∈ TT := t1_in (List.mem_of_getElem? (i := 53) rfl) rfl
theorem wt1_55 : Cond.lays RX0 "BlanketKeys$Board" "columns" "I" ∈ TT := t1_in (List.mem_of_getElem? (i := 55) rfl) rfl
theorem wt1_57 : Cond.laysFinal RX0 "BlanketKeys$Board" "holders" "[I" ∈ TT := t1_in (List.mem_of_getElem? (i := 57) rfl) rfl
theorem wt1_59 : Cond.laysFinal RX0 "BlanketKeys$Board" "signs" "[I" ∈ TT := t1_in (List.mem_of_getElem? (i := 59) rfl) rfl
theorem wt1_61 : Cond.laysFinal RX0 "BlanketKeys$Board" "sinces" "[I" ∈ TT := t1_in (List.mem_of_getElem? (i := 61) rfl) rfl
theorem wt1_63 : Cond.laysFinal RX0 "BlanketKeys$Board" "notedShifts" "[I" ∈ TT := t1_in (List.mem_of_getElem? (i := 63) rfl) rfl
theorem wt1_65 : Cond.laysFinal RX0 "BlanketKeys$Board" "trueHolders" "[I" ∈ TT := t1_in (List.mem_of_getElem? (i := 65) rfl) rfl
theorem wt1_67 : Cond.laysFinal RX0 "BlanketKeys$Board" "down" "[I" ∈ TT := t1_in (List.mem_of_getElem? (i := 67) rfl) rfl
theorem wt1_69 : Cond.laysFinal RX0 "BlanketKeys$Board" "seen" "[I" ∈ TT := t1_in (List.mem_of_getElem? (i := 69) rfl) rfl
theorem wt1_71 : Cond.laysFinal RX0 "BlanketKeys$Board" "doubtful" "[I" ∈ TT := t1_in (List.mem_of_getElem? (i := 71) rfl) rfl
theorem wt1_73 : Cond.laysFinal RX0 "BlanketKeys$Board" "shifts" "[I" ∈ TT := t1_in (List.mem_of_getElem? (i := 73) rfl) rfl
theorem wt1_76 : Cond.arrayClass .int ∈ TT := t1_in (List.mem_of_getElem? (i := 76) rfl) rfl
theorem wt1_77 : Cond.classLink RX5 18 RX7 ∈ TT := t1_in (List.mem_of_getElem? (i := 77) rfl) rfl
theorem wt1_78 : Cond.instantiable RX7 8 ∈ TT := t1_in (List.mem_of_getElem? (i := 78) rfl) rfl
theorem wt1_79 : Cond.constantFloat RX5 20 (1082130432) ∈ TT := t1_in (List.mem_of_getElem? (i := 79) rfl) rfl
theorem wt1_80 : Cond.constantFloat RX5 21 (1086324736) ∈ TT := t1_in (List.mem_of_getElem? (i := 80) rfl) rfl
theorem wt1_81 : Cond.methodLink RX5 22 yX7_init ∈ TT := t1_in (List.mem_of_getElem? (i := 81) rfl) rfl
theorem wt1_82 : Cond.instanceMethod yX7_init ∈ TT := t1_in (List.mem_of_getElem? (i := 82) rfl) rfl
theorem wt1_83 : Cond.code yX7_init cX7_init 3 none ∈ TT := t1_in (List.mem_of_getElem? (i := 83) rfl) rfl
theorem wt1_84 : Cond.methodLink RX7 3 ⟨"java/lang/Object", "<init>", "()V"⟩ ∈ TT := t1_in (List.mem_of_getElem? (i := 84) rfl) rfl
theorem wt1_85 : Cond.fieldLink RX7 19 "BlanketKeys$Typist" "meanDwell" "F" ∈ TT := t1_in (List.mem_of_getElem? (i := 85) rfl) rfl
theorem wt1_86 : Cond.fieldLink RX8 289 "BlanketKeys$Typist" "meanDwell" "F" ∈ TT := t1_in (List.mem_of_getElem? (i := 86) rfl) rfl
theorem wt1_87 : Cond.fieldLink RX7 23 "BlanketKeys$Typist" "meanGap" "F" ∈ TT := t1_in (List.mem_of_getElem? (i := 87) rfl) rfl
theorem wt1_88 : Cond.fieldLink RX8 293 "BlanketKeys$Typist" "meanGap" "F" ∈ TT := t1_in (List.mem_of_getElem? (i := 88) rfl) rfl
theorem wt1_89 : Cond.fieldLink RX7 9 "BlanketKeys$Typist" "last" "I" ∈ TT := t1_in (List.mem_of_getElem? (i := 89) rfl) rfl
theorem wt1_90 : Cond.fieldLink RX8 236 "BlanketKeys$Typist" "last" "I" ∈ TT := t1_in (List.mem_of_getElem? (i := 90) rfl) rfl
theorem wt1_91 : Cond.fieldLink RX7 26 "BlanketKeys$Typist" "borrows" "Z" ∈ TT := t1_in (List.mem_of_getElem? (i := 91) rfl) rfl
theorem wt1_92 : Cond.fieldLink RX5 210 "BlanketKeys$Typist" "borrows" "Z" ∈ TT := t1_in (List.mem_of_getElem? (i := 92) rfl) rfl
theorem wt1_93 : Cond.fieldLink RX8 99 "BlanketKeys$Typist" "borrows" "Z" ∈ TT := t1_in (List.mem_of_getElem? (i := 93) rfl) rfl
theorem wt1_94 : Cond.fieldLink RX7 30 "BlanketKeys$Typist" "credited" "I" ∈ TT := t1_in (List.mem_of_getElem? (i := 94) rfl) rfl
theorem wt1_95 : Cond.fieldLink RX5 187 "BlanketKeys$Typist" "credited" "I" ∈ TT := t1_in (List.mem_of_getElem? (i := 95) rfl) rfl
theorem wt1_96 : Cond.fieldLink RX8 227 "BlanketKeys$Typist" "credited" "I" ∈ TT := t1_in (List.mem_of_getElem? (i := 96) rfl) rfl
theorem wt1_97 : Cond.fieldLink RX7 33 "BlanketKeys$Typist" "creditedRightly" "I" ∈ TT := t1_in (List.mem_of_getElem? (i := 97) rfl) rfl
theorem wt1_98 : Cond.fieldLink RX5 190 "BlanketKeys$Typist" "creditedRightly" "I" ∈ TT := t1_in (List.mem_of_getElem? (i := 98) rfl) rfl
theorem wt1_99 : Cond.fieldLink RX8 230 "BlanketKeys$Typist" "creditedRightly" "I" ∈ TT := t1_in (List.mem_of_getElem? (i := 99) rfl) rfl
theorem wt1_100 : Cond.fieldLink RX7 36 "BlanketKeys$Typist" "signCount" "I" ∈ TT := t1_in (List.mem_of_getElem? (i := 100) rfl) rfl
theorem wt1_101 : Cond.fieldLink RX8 233 "BlanketKeys$Typist" "signCount" "I" ∈ TT := t1_in (List.mem_of_getElem? (i := 101) rfl) rfl
theorem wt1_102 : Cond.fieldLink RX7 15 "BlanketKeys$Typist" "signs" "[I" ∈ TT := t1_in (List.mem_of_getElem? (i := 102) rfl) rfl
theorem wt1_103 : Cond.lays RX7 "BlanketKeys$Typist" "meanDwell" "F" ∈ TT := t1_in (List.mem_of_getElem? (i := 103) rfl) rfl
theorem wt1_105 : Cond.lays RX7 "BlanketKeys$Typist" "meanGap" "F" ∈ TT := t1_in (List.mem_of_getElem? (i := 105) rfl) rfl
theorem wt1_107 : Cond.lays RX7 "BlanketKeys$Typist" "last" "I" ∈ TT := t1_in (List.mem_of_getElem? (i := 107) rfl) rfl
theorem wt1_109 : Cond.lays RX7 "BlanketKeys$Typist" "borrows" "Z" ∈ TT := t1_in (List.mem_of_getElem? (i := 109) rfl) rfl
theorem wt1_111 : Cond.lays RX7 "BlanketKeys$Typist" "credited" "I" ∈ TT := t1_in (List.mem_of_getElem? (i := 111) rfl) rfl
theorem wt1_113 : Cond.lays RX7 "BlanketKeys$Typist" "creditedRightly" "I" ∈ TT := t1_in (List.mem_of_getElem? (i := 113) rfl) rfl
theorem wt1_115 : Cond.lays RX7 "BlanketKeys$Typist" "signCount" "I" ∈ TT := t1_in (List.mem_of_getElem? (i := 115) rfl) rfl
theorem wt1_117 : Cond.laysFinal RX7 "BlanketKeys$Typist" "signs" "[I" ∈ TT := t1_in (List.mem_of_getElem? (i := 117) rfl) rfl
theorem wt1_120 : Cond.constantFloat RX5 29 (1090519040) ∈ TT := t1_in (List.mem_of_getElem? (i := 120) rfl) rfl
theorem wt1_121 : Cond.constantFloat RX5 30 (1092616192) ∈ TT := t1_in (List.mem_of_getElem? (i := 121) rfl) rfl
theorem wt1_122 : Cond.classLink RX5 34 RX6 ∈ TT := t1_in (List.mem_of_getElem? (i := 122) rfl) rfl
theorem wt1_123 : Cond.instantiable RX6 8 ∈ TT := t1_in (List.mem_of_getElem? (i := 123) rfl) rfl
theorem wn1_124 : Cond.methodLinkNest RX5 36 yX6_init RX8 ∈ lw_tbl := (fun h => List.mem_append_right _ (List.mem_append_left _ h)) (List.mem_of_getElem? (l := tables_1_1) (i := 124) rfl)
theorem wt1_125 : Cond.instanceMethod yX6_init ∈ TT := t1_in (List.mem_of_getElem? (i := 125) rfl) rfl
theorem wt1_126 : Cond.code yX6_init cX6_init 1 none ∈ TT := t1_in (List.mem_of_getElem? (i := 126) rfl) rfl
theorem wt1_127 : Cond.methodLink RX6 3 ⟨"java/lang/Object", "<init>", "()V"⟩ ∈ TT := t1_in (List.mem_of_getElem? (i := 127) rfl) rfl
theorem wt1_128 : Cond.fieldLink RX6 33 "BlanketKeys$Strokes" "total" "I" ∈ TT := t1_in (List.mem_of_getElem? (i := 128) rfl) rfl
theorem wt1_129 : Cond.fieldLink RX5 77 "BlanketKeys$Strokes" "total" "I" ∈ TT := t1_in (List.mem_of_getElem? (i := 129) rfl) rfl
theorem wt1_130 : Cond.fieldLink RX8 254 "BlanketKeys$Strokes" "total" "I" ∈ TT := t1_in (List.mem_of_getElem? (i := 130) rfl) rfl
theorem wt1_131 : Cond.fieldLink RX6 11 "BlanketKeys$Strokes" "keys" "[I" ∈ TT := t1_in (List.mem_of_getElem? (i := 131) rfl) rfl
theorem wt1_132 : Cond.fieldLink RX6 15 "BlanketKeys$Strokes" "sinces" "[I" ∈ TT := t1_in (List.mem_of_getElem? (i := 132) rfl) rfl
theorem wt1_133 : Cond.fieldLink RX6 18 "BlanketKeys$Strokes" "dwells" "[I" ∈ TT := t1_in (List.mem_of_getElem? (i := 133) rfl) rfl
theorem wt1_134 : Cond.fieldLink RX6 21 "BlanketKeys$Strokes" "fates" "[I" ∈ TT := t1_in (List.mem_of_getElem? (i := 134) rfl) rfl
theorem wt1_135 : Cond.fieldLink RX6 24 "BlanketKeys$Strokes" "holders" "[I" ∈ TT := t1_in (List.mem_of_getElem? (i := 135) rfl) rfl
theorem wt1_136 : Cond.fieldLink RX6 27 "BlanketKeys$Strokes" "notedShifts" "[I" ∈ TT := t1_in (List.mem_of_getElem? (i := 136) rfl) rfl
theorem wt1_137 : Cond.fieldLink RX6 30 "BlanketKeys$Strokes" "origins" "[I" ∈ TT := t1_in (List.mem_of_getElem? (i := 137) rfl) rfl
theorem wt1_138 : Cond.lays RX6 "BlanketKeys$Strokes" "total" "I" ∈ TT := t1_in (List.mem_of_getElem? (i := 138) rfl) rfl
theorem wt1_140 : Cond.laysFinal RX6 "BlanketKeys$Strokes" "keys" "[I" ∈ TT := t1_in (List.mem_of_getElem? (i := 140) rfl) rfl
theorem wt1_142 : Cond.laysFinal RX6 "BlanketKeys$Strokes" "sinces" "[I" ∈ TT := t1_in (List.mem_of_getElem? (i := 142) rfl) rfl
theorem wt1_144 : Cond.laysFinal RX6 "BlanketKeys$Strokes" "dwells" "[I" ∈ TT := t1_in (List.mem_of_getElem? (i := 144) rfl) rfl
theorem wt1_146 : Cond.laysFinal RX6 "BlanketKeys$Strokes" "fates" "[I" ∈ TT := t1_in (List.mem_of_getElem? (i := 146) rfl) rfl
theorem wt1_148 : Cond.laysFinal RX6 "BlanketKeys$Strokes" "holders" "[I" ∈ TT := t1_in (List.mem_of_getElem? (i := 148) rfl) rfl
theorem wt1_150 : Cond.laysFinal RX6 "BlanketKeys$Strokes" "notedShifts" "[I" ∈ TT := t1_in (List.mem_of_getElem? (i := 150) rfl) rfl
theorem wt1_152 : Cond.laysFinal RX6 "BlanketKeys$Strokes" "origins" "[I" ∈ TT := t1_in (List.mem_of_getElem? (i := 152) rfl) rfl
theorem wt1_155 : Cond.classLink RX5 44 RX4 ∈ TT := t1_in (List.mem_of_getElem? (i := 155) rfl) rfl
theorem wt1_156 : Cond.instantiable RX4 4 ∈ TT := t1_in (List.mem_of_getElem? (i := 156) rfl) rfl
theorem wn1_157 : Cond.methodLinkNest RX5 46 yX4_init RX8 ∈ lw_tbl := (fun h => List.mem_append_right _ (List.mem_append_left _ h)) (List.mem_of_getElem? (l := tables_1_1) (i := 157) rfl)
theorem wt1_158 : Cond.instanceMethod yX4_init ∈ TT := t1_in (List.mem_of_getElem? (i := 158) rfl) rfl
theorem wt1_159 : Cond.code yX4_init cX4_init 1 none ∈ TT := t1_in (List.mem_of_getElem? (i := 159) rfl) rfl
theorem wt1_160 : Cond.methodLink RX4 3 ⟨"java/lang/Object", "<init>", "()V"⟩ ∈ TT := t1_in (List.mem_of_getElem? (i := 160) rfl) rfl
theorem wt1_161 : Cond.constant RX4 9 (1040187392) ∈ TT := t1_in (List.mem_of_getElem? (i := 161) rfl) rfl
theorem wt1_162 : Cond.constant RX4 10 (1056964608) ∈ TT := t1_in (List.mem_of_getElem? (i := 162) rfl) rfl
theorem wt1_163 : Cond.constant RX4 11 (1048576000) ∈ TT := t1_in (List.mem_of_getElem? (i := 163) rfl) rfl
theorem wt1_164 : Cond.constantFloat RX4 16 (1040187392) ∈ TT := t1_in (List.mem_of_getElem? (i := 164) rfl) rfl
theorem wt1_165 : Cond.constantFloat RX4 21 (1056964608) ∈ TT := t1_in (List.mem_of_getElem? (i := 165) rfl) rfl
theorem wt1_166 : Cond.constantFloat RX4 25 (1048576000) ∈ TT := t1_in (List.mem_of_getElem? (i := 166) rfl) rfl
theorem wt1_167 : Cond.fieldLink RX4 12 "BlanketKeys$Settings" "bits" "[I" ∈ TT := t1_in (List.mem_of_getElem? (i := 167) rfl) rfl
theorem wt1_168 : Cond.fieldLink RX4 17 "BlanketKeys$Settings" "margin" "F" ∈ TT := t1_in (List.mem_of_getElem? (i := 168) rfl) rfl
theorem wt1_169 : Cond.fieldLink RX5 155 "BlanketKeys$Settings" "margin" "F" ∈ TT := t1_in (List.mem_of_getElem? (i := 169) rfl) rfl
theorem wt1_170 : Cond.fieldLink RX4 22 "BlanketKeys$Settings" "trust" "F" ∈ TT := t1_in (List.mem_of_getElem? (i := 170) rfl) rfl
theorem wt1_171 : Cond.fieldLink RX5 147 "BlanketKeys$Settings" "trust" "F" ∈ TT := t1_in (List.mem_of_getElem? (i := 171) rfl) rfl
theorem wt1_172 : Cond.fieldLink RX4 26 "BlanketKeys$Settings" "rate" "F" ∈ TT := t1_in (List.mem_of_getElem? (i := 172) rfl) rfl
theorem wt1_173 : Cond.fieldLink RX5 197 "BlanketKeys$Settings" "rate" "F" ∈ TT := t1_in (List.mem_of_getElem? (i := 173) rfl) rfl
theorem wt1_174 : Cond.laysFinal RX4 "BlanketKeys$Settings" "bits" "[I" ∈ TT := t1_in (List.mem_of_getElem? (i := 174) rfl) rfl
theorem wt1_176 : Cond.lays RX4 "BlanketKeys$Settings" "margin" "F" ∈ TT := t1_in (List.mem_of_getElem? (i := 176) rfl) rfl
theorem wt1_178 : Cond.lays RX4 "BlanketKeys$Settings" "trust" "F" ∈ TT := t1_in (List.mem_of_getElem? (i := 178) rfl) rfl
theorem wt1_180 : Cond.lays RX4 "BlanketKeys$Settings" "rate" "F" ∈ TT := t1_in (List.mem_of_getElem? (i := 180) rfl) rfl
theorem wt1_183 : Cond.fieldLink RX5 12 "BlanketKeys$State" "board" "LBlanketKeys$Board;" ∈ TT := t1_in (List.mem_of_getElem? (i := 183) rfl) rfl
theorem wt1_184 : Cond.fieldLink RX8 40 "BlanketKeys$State" "board" "LBlanketKeys$Board;" ∈ TT := t1_in (List.mem_of_getElem? (i := 184) rfl) rfl
theorem wt1_185 : Cond.fieldLink RX5 25 "BlanketKeys$State" "first" "LBlanketKeys$Typist;" ∈ TT := t1_in (List.mem_of_getElem? (i := 185) rfl) rfl
theorem wt1_186 : Cond.fieldLink RX8 104 "BlanketKeys$State" "first" "LBlanketKeys$Typist;" ∈ TT := t1_in (List.mem_of_getElem? (i := 186) rfl) rfl
theorem wt1_187 : Cond.fieldLink RX5 31 "BlanketKeys$State" "second" "LBlanketKeys$Typist;" ∈ TT := t1_in (List.mem_of_getElem? (i := 187) rfl) rfl
theorem wt1_188 : Cond.fieldLink RX8 108 "BlanketKeys$State" "second" "LBlanketKeys$Typist;" ∈ TT := t1_in (List.mem_of_getElem? (i := 188) rfl) rfl
theorem wt1_189 : Cond.fieldLink RX5 37 "BlanketKeys$State" "ended" "LBlanketKeys$Strokes;" ∈ TT := t1_in (List.mem_of_getElem? (i := 189) rfl) rfl
theorem wt1_190 : Cond.fieldLink RX8 251 "BlanketKeys$State" "ended" "LBlanketKeys$Strokes;" ∈ TT := t1_in (List.mem_of_getElem? (i := 190) rfl) rfl
theorem wt1_191 : Cond.fieldLink RX5 41 "BlanketKeys$State" "disputes" "LBlanketKeys$Strokes;" ∈ TT := t1_in (List.mem_of_getElem? (i := 191) rfl) rfl
theorem wt1_192 : Cond.fieldLink RX8 150 "BlanketKeys$State" "disputes" "LBlanketKeys$Strokes;" ∈ TT := t1_in (List.mem_of_getElem? (i := 192) rfl) rfl
theorem wt1_193 : Cond.fieldLink RX5 47 "BlanketKeys$State" "settings" "LBlanketKeys$Settings;" ∈ TT := t1_in (List.mem_of_getElem? (i := 193) rfl) rfl
theorem wt1_194 : Cond.fieldLink RX8 117 "BlanketKeys$State" "settings" "LBlanketKeys$Settings;" ∈ TT := t1_in (List.mem_of_getElem? (i := 194) rfl) rfl
theorem wt1_195 : Cond.fieldLink RX5 64 "BlanketKeys$State" "time" "I" ∈ TT := t1_in (List.mem_of_getElem? (i := 195) rfl) rfl
theorem wt1_196 : Cond.fieldLink RX8 197 "BlanketKeys$State" "time" "I" ∈ TT := t1_in (List.mem_of_getElem? (i := 196) rfl) rfl
theorem wt1_197 : Cond.fieldLink RX5 68 "BlanketKeys$State" "ghosts" "I" ∈ TT := t1_in (List.mem_of_getElem? (i := 197) rfl) rfl
theorem wt1_198 : Cond.fieldLink RX8 277 "BlanketKeys$State" "ghosts" "I" ∈ TT := t1_in (List.mem_of_getElem? (i := 198) rfl) rfl
theorem wt1_199 : Cond.fieldLink RX5 71 "BlanketKeys$State" "ghostsOfNobody" "I" ∈ TT := t1_in (List.mem_of_getElem? (i := 199) rfl) rfl
theorem wt1_200 : Cond.fieldLink RX8 283 "BlanketKeys$State" "ghostsOfNobody" "I" ∈ TT := t1_in (List.mem_of_getElem? (i := 200) rfl) rfl
theorem wt1_201 : Cond.fieldLink RX5 74 "BlanketKeys$State" "openDisputes" "I" ∈ TT := t1_in (List.mem_of_getElem? (i := 201) rfl) rfl
theorem wt1_202 : Cond.fieldLink RX8 280 "BlanketKeys$State" "openDisputes" "I" ∈ TT := t1_in (List.mem_of_getElem? (i := 202) rfl) rfl
theorem wt1_203 : Cond.laysFinal RX5 "BlanketKeys$State" "board" "LBlanketKeys$Board;" ∈ TT := t1_in (List.mem_of_getElem? (i := 203) rfl) rfl
theorem wt1_205 : Cond.laysFinal RX5 "BlanketKeys$State" "first" "LBlanketKeys$Typist;" ∈ TT := t1_in (List.mem_of_getElem? (i := 205) rfl) rfl
theorem wt1_207 : Cond.laysFinal RX5 "BlanketKeys$State" "second" "LBlanketKeys$Typist;" ∈ TT := t1_in (List.mem_of_getElem? (i := 207) rfl) rfl
theorem wt1_209 : Cond.laysFinal RX5 "BlanketKeys$State" "ended" "LBlanketKeys$Strokes;" ∈ TT := t1_in (List.mem_of_getElem? (i := 209) rfl) rfl
theorem wt1_211 : Cond.laysFinal RX5 "BlanketKeys$State" "disputes" "LBlanketKeys$Strokes;" ∈ TT := t1_in (List.mem_of_getElem? (i := 211) rfl) rfl
theorem wt1_213 : Cond.laysFinal RX5 "BlanketKeys$State" "settings" "LBlanketKeys$Settings;" ∈ TT := t1_in (List.mem_of_getElem? (i := 213) rfl) rfl
theorem wt1_215 : Cond.lays RX5 "BlanketKeys$State" "time" "I" ∈ TT := t1_in (List.mem_of_getElem? (i := 215) rfl) rfl
theorem wt1_217 : Cond.lays RX5 "BlanketKeys$State" "ghosts" "I" ∈ TT := t1_in (List.mem_of_getElem? (i := 217) rfl) rfl
theorem wt1_219 : Cond.lays RX5 "BlanketKeys$State" "ghostsOfNobody" "I" ∈ TT := t1_in (List.mem_of_getElem? (i := 219) rfl) rfl
theorem wt1_221 : Cond.lays RX5 "BlanketKeys$State" "openDisputes" "I" ∈ TT := t1_in (List.mem_of_getElem? (i := 221) rfl) rfl
theorem wt1_224 : Cond.classLink RX8 22 RX2 ∈ TT := t1_in (List.mem_of_getElem? (i := 224) rfl) rfl
theorem wt1_225 : Cond.instantiable RX2 5 ∈ TT := t1_in (List.mem_of_getElem? (i := 225) rfl) rfl
theorem wn1_226 : Cond.methodLinkNest RX8 24 yX2_init RX8 ∈ lw_tbl := (fun h => List.mem_append_right _ (List.mem_append_left _ h)) (List.mem_of_getElem? (l := tables_1_1) (i := 226) rfl)
theorem wt1_227 : Cond.instanceMethod yX2_init ∈ TT := t1_in (List.mem_of_getElem? (i := 227) rfl) rfl
theorem wt1_228 : Cond.code yX2_init cX2_init 1 none ∈ TT := t1_in (List.mem_of_getElem? (i := 228) rfl) rfl
theorem wt1_229 : Cond.methodLink RX2 3 ⟨"java/lang/Object", "<init>", "()V"⟩ ∈ TT := t1_in (List.mem_of_getElem? (i := 229) rfl) rfl
theorem wt1_230 : Cond.classLink RX2 9 RX5 ∈ TT := t1_in (List.mem_of_getElem? (i := 230) rfl) rfl
theorem wn1_231 : Cond.methodLinkNest RX2 11 yX5_init RX8 ∈ lw_tbl := (fun h => List.mem_append_right _ (List.mem_append_left _ h)) (List.mem_of_getElem? (l := tables_1_1) (i := 231) rfl)
theorem wt1_232 : Cond.fieldLink RX2 31 "BlanketKeys$History" "depth" "I" ∈ TT := t1_in (List.mem_of_getElem? (i := 232) rfl) rfl
theorem wt1_233 : Cond.fieldLink RX8 191 "BlanketKeys$History" "depth" "I" ∈ TT := t1_in (List.mem_of_getElem? (i := 233) rfl) rfl
theorem wt1_234 : Cond.fieldLink RX2 12 "BlanketKeys$History" "latest" "LBlanketKeys$State;" ∈ TT := t1_in (List.mem_of_getElem? (i := 234) rfl) rfl
theorem wt1_235 : Cond.fieldLink RX2 18 "BlanketKeys$History" "second" "LBlanketKeys$State;" ∈ TT := t1_in (List.mem_of_getElem? (i := 235) rfl) rfl
theorem wt1_236 : Cond.fieldLink RX2 21 "BlanketKeys$History" "third" "LBlanketKeys$State;" ∈ TT := t1_in (List.mem_of_getElem? (i := 236) rfl) rfl
theorem wt1_237 : Cond.fieldLink RX2 24 "BlanketKeys$History" "oldest" "LBlanketKeys$State;" ∈ TT := t1_in (List.mem_of_getElem? (i := 237) rfl) rfl
theorem wt1_238 : Cond.lays RX2 "BlanketKeys$History" "depth" "I" ∈ TT := t1_in (List.mem_of_getElem? (i := 238) rfl) rfl
theorem wt2_0 : Cond.lays RX2 "BlanketKeys$History" "latest" "LBlanketKeys$State;" ∈ TT := t2_in (List.mem_of_getElem? (i := 0) rfl) rfl
theorem wt2_2 : Cond.lays RX2 "BlanketKeys$History" "second" "LBlanketKeys$State;" ∈ TT := t2_in (List.mem_of_getElem? (i := 2) rfl) rfl
theorem wt2_4 : Cond.lays RX2 "BlanketKeys$History" "third" "LBlanketKeys$State;" ∈ TT := t2_in (List.mem_of_getElem? (i := 4) rfl) rfl
theorem wt2_6 : Cond.lays RX2 "BlanketKeys$History" "oldest" "LBlanketKeys$State;" ∈ TT := t2_in (List.mem_of_getElem? (i := 6) rfl) rfl
theorem wt2_9 : Cond.classLink RX8 29 RX3 ∈ TT := t2_in (List.mem_of_getElem? (i := 9) rfl) rfl
theorem wt2_10 : Cond.instantiable RX3 2 ∈ TT := t2_in (List.mem_of_getElem? (i := 10) rfl) rfl
theorem wn2_11 : Cond.methodLinkNest RX8 31 yX3_init RX8 ∈ lw_tbl := (fun h => List.mem_append_right _ (List.mem_append_right _ (List.mem_append_left _ h))) (List.mem_of_getElem? (l := tables_1_2) (i := 11) rfl)
theorem wt2_12 : Cond.instanceMethod yX3_init ∈ TT := t2_in (List.mem_of_getElem? (i := 12) rfl) rfl
theorem wt2_13 : Cond.code yX3_init cX3_init 1 none ∈ TT := t2_in (List.mem_of_getElem? (i := 13) rfl) rfl
theorem wt2_14 : Cond.methodLink RX3 3 ⟨"java/lang/Object", "<init>", "()V"⟩ ∈ TT := t2_in (List.mem_of_getElem? (i := 14) rfl) rfl
theorem wt2_15 : Cond.fieldLink RX3 15 "BlanketKeys$Script" "length" "I" ∈ TT := t2_in (List.mem_of_getElem? (i := 15) rfl) rfl
theorem wt2_16 : Cond.fieldLink RX8 169 "BlanketKeys$Script" "length" "I" ∈ TT := t2_in (List.mem_of_getElem? (i := 16) rfl) rfl
theorem wt2_17 : Cond.fieldLink RX3 9 "BlanketKeys$Script" "characters" "[C" ∈ TT := t2_in (List.mem_of_getElem? (i := 17) rfl) rfl
theorem wt2_18 : Cond.lays RX3 "BlanketKeys$Script" "length" "I" ∈ TT := t2_in (List.mem_of_getElem? (i := 18) rfl) rfl
theorem wt2_20 : Cond.laysFinal RX3 "BlanketKeys$Script" "characters" "[C" ∈ TT := t2_in (List.mem_of_getElem? (i := 20) rfl) rfl
theorem wt2_23 : Cond.arrayClass .char ∈ TT := t2_in (List.mem_of_getElem? (i := 23) rfl) rfl
theorem wt2_24 : Cond.fieldLink RX8 12 "BlanketKeys" "now" "LBlanketKeys$State;" ∈ TT := t2_in (List.mem_of_getElem? (i := 24) rfl) rfl
theorem wt2_25 : Cond.fieldLink RX8 16 "BlanketKeys" "beforeScript" "LBlanketKeys$State;" ∈ TT := t2_in (List.mem_of_getElem? (i := 25) rfl) rfl
theorem wt2_26 : Cond.fieldLink RX8 19 "BlanketKeys" "snapshot" "LBlanketKeys$State;" ∈ TT := t2_in (List.mem_of_getElem? (i := 26) rfl) rfl
theorem wt2_27 : Cond.fieldLink RX8 25 "BlanketKeys" "history" "LBlanketKeys$History;" ∈ TT := t2_in (List.mem_of_getElem? (i := 27) rfl) rfl
theorem wt2_28 : Cond.fieldLink RX8 32 "BlanketKeys" "script" "LBlanketKeys$Script;" ∈ TT := t2_in (List.mem_of_getElem? (i := 28) rfl) rfl
theorem wt2_29 : Cond.fieldLink RX8 36 "BlanketKeys" "hasSnapshot" "Z" ∈ TT := t2_in (List.mem_of_getElem? (i := 29) rfl) rfl
theorem wt2_30 : Cond.laysFinal RX8 "BlanketKeys" "now" "LBlanketKeys$State;" ∈ TT := t2_in (List.mem_of_getElem? (i := 30) rfl) rfl
theorem wt2_32 : Cond.laysFinal RX8 "BlanketKeys" "beforeScript" "LBlanketKeys$State;" ∈ TT := t2_in (List.mem_of_getElem? (i := 32) rfl) rfl
theorem wt2_34 : Cond.laysFinal RX8 "BlanketKeys" "snapshot" "LBlanketKeys$State;" ∈ TT := t2_in (List.mem_of_getElem? (i := 34) rfl) rfl
theorem wt2_36 : Cond.laysFinal RX8 "BlanketKeys" "history" "LBlanketKeys$History;" ∈ TT := t2_in (List.mem_of_getElem? (i := 36) rfl) rfl
theorem wt2_38 : Cond.laysFinal RX8 "BlanketKeys" "script" "LBlanketKeys$Script;" ∈ TT := t2_in (List.mem_of_getElem? (i := 38) rfl) rfl
theorem wt2_40 : Cond.lays RX8 "BlanketKeys" "hasSnapshot" "Z" ∈ TT := t2_in (List.mem_of_getElem? (i := 40) rfl) rfl
theorem wt2_43 : Cond.methodLink RL 95 yX8_build ∈ TT := t2_in (List.mem_of_getElem? (i := 43) rfl) rfl
theorem wt2_44 : Cond.instanceMethod yX8_build ∈ TT := t2_in (List.mem_of_getElem? (i := 44) rfl) rfl
theorem wt2_45 : Cond.selects RX8 yX8_build yX8_build ∈ TT := t2_in (List.mem_of_getElem? (i := 45) rfl) rfl
theorem wt2_46 : Cond.code yX8_build cX8_build 4 (some .int) ∈ TT := t2_in (List.mem_of_getElem? (i := 46) rfl) rfl
theorem wt2_47 : Cond.methodLink RX8 44 yX0_downKeys ∈ TT := t2_in (List.mem_of_getElem? (i := 47) rfl) rfl
theorem wt2_48 : Cond.instanceMethod yX0_downKeys ∈ TT := t2_in (List.mem_of_getElem? (i := 48) rfl) rfl
theorem wt2_49 : Cond.selects RX0 yX0_downKeys yX0_downKeys ∈ TT := t2_in (List.mem_of_getElem? (i := 49) rfl) rfl
theorem wt2_50 : Cond.code yX0_downKeys cX0_downKeys 1 (some .int) ∈ TT := t2_in (List.mem_of_getElem? (i := 50) rfl) rfl
theorem wt2_51 : Cond.methodLink RX0 69 yX1_bitsIn ∈ TT := t2_in (List.mem_of_getElem? (i := 51) rfl) rfl
theorem wt2_52 : Cond.static yX1_bitsIn ∈ TT := t2_in (List.mem_of_getElem? (i := 52) rfl) rfl
theorem wt2_53 : Cond.code yX1_bitsIn cX1_bitsIn 6 (some .int) ∈ TT := t2_in (List.mem_of_getElem? (i := 53) rfl) rfl
theorem wt2_54 : Cond.methodLink RX1 19 yJ6_bitCount_0f7a4 ∈ TT := t2_in (List.mem_of_getElem? (i := 54) rfl) rfl
theorem wt2_55 : Cond.static yJ6_bitCount_0f7a4 ∈ TT := t2_in (List.mem_of_getElem? (i := 55) rfl) rfl
theorem wt2_56 : Cond.code yJ6_bitCount_0f7a4 cJ6_bitCount_0f7a4 1 (some .int) ∈ TT := t2_in (List.mem_of_getElem? (i := 56) rfl) rfl
theorem wt2_57 : Cond.constant RJ6 265 (1431655765) ∈ TT := t2_in (List.mem_of_getElem? (i := 57) rfl) rfl
theorem wt2_58 : Cond.constant RJ6 266 (858993459) ∈ TT := t2_in (List.mem_of_getElem? (i := 58) rfl) rfl
theorem wt2_59 : Cond.constant RJ6 267 (252645135) ∈ TT := t2_in (List.mem_of_getElem? (i := 59) rfl) rfl
theorem wt2_60 : Cond.methodLink RX8 50 yX0_seenKeys ∈ TT := t2_in (List.mem_of_getElem? (i := 60) rfl) rfl
theorem wt2_61 : Cond.instanceMethod yX0_seenKeys ∈ TT := t2_in (List.mem_of_getElem? (i := 61) rfl) rfl
theorem wt2_62 : Cond.selects RX0 yX0_seenKeys yX0_seenKeys ∈ TT := t2_in (List.mem_of_getElem? (i := 62) rfl) rfl
theorem wt2_63 : Cond.code yX0_seenKeys cX0_seenKeys 1 (some .int) ∈ TT := t2_in (List.mem_of_getElem? (i := 63) rfl) rfl
theorem wt2_64 : Cond.methodLink RX8 60 yX2_remember ∈ TT := t2_in (List.mem_of_getElem? (i := 64) rfl) rfl
theorem wt2_65 : Cond.instanceMethod yX2_remember ∈ TT := t2_in (List.mem_of_getElem? (i := 65) rfl) rfl
theorem wt2_66 : Cond.selects RX2 yX2_remember yX2_remember ∈ TT := t2_in (List.mem_of_getElem? (i := 66) rfl) rfl
theorem wt2_67 : Cond.code yX2_remember cX2_remember 3 none ∈ TT := t2_in (List.mem_of_getElem? (i := 67) rfl) rfl
theorem wt2_68 : Cond.methodLink RX2 27 yX5_copyFrom ∈ TT := t2_in (List.mem_of_getElem? (i := 68) rfl) rfl
theorem wt2_69 : Cond.instanceMethod yX5_copyFrom ∈ TT := t2_in (List.mem_of_getElem? (i := 69) rfl) rfl
theorem wt2_70 : Cond.selects RX5 yX5_copyFrom yX5_copyFrom ∈ TT := t2_in (List.mem_of_getElem? (i := 70) rfl) rfl
theorem wt2_71 : Cond.code yX5_copyFrom cX5_copyFrom 2 none ∈ TT := t2_in (List.mem_of_getElem? (i := 71) rfl) rfl
theorem wt2_72 : Cond.methodLink RX5 51 yX0_copyFrom ∈ TT := t2_in (List.mem_of_getElem? (i := 72) rfl) rfl
theorem wt2_73 : Cond.instanceMethod yX0_copyFrom ∈ TT := t2_in (List.mem_of_getElem? (i := 73) rfl) rfl
theorem wt2_74 : Cond.selects RX0 yX0_copyFrom yX0_copyFrom ∈ TT := t2_in (List.mem_of_getElem? (i := 74) rfl) rfl
theorem wt2_75 : Cond.code yX0_copyFrom cX0_copyFrom 2 none ∈ TT := t2_in (List.mem_of_getElem? (i := 75) rfl) rfl
theorem wt2_76 : Cond.methodLink RX0 52 yX1_copy ∈ TT := t2_in (List.mem_of_getElem? (i := 76) rfl) rfl
theorem wt2_77 : Cond.static yX1_copy ∈ TT := t2_in (List.mem_of_getElem? (i := 77) rfl) rfl
theorem wt2_78 : Cond.code yX1_copy cX1_copy 2 none ∈ TT := t2_in (List.mem_of_getElem? (i := 78) rfl) rfl
theorem wt2_79 : Cond.methodLink RX1 7 yJ9_min_7cf53 ∈ TT := t2_in (List.mem_of_getElem? (i := 79) rfl) rfl
theorem wt2_80 : Cond.static yJ9_min_7cf53 ∈ TT := t2_in (List.mem_of_getElem? (i := 80) rfl) rfl
theorem wt2_81 : Cond.code yJ9_min_7cf53 cJ9_min_7cf53 2 (some .int) ∈ TT := t2_in (List.mem_of_getElem? (i := 81) rfl) rfl
theorem wt2_82 : Cond.methodLink RX1 13 ⟨"java/lang/System", "arraycopy", "(Ljava/lang/Object;ILjava/lang/Object;II)V"⟩ ∈ TT := t2_in (List.mem_of_getElem? (i := 82) rfl) rfl
theorem wt2_83 : Cond.static ⟨"java/lang/System", "arraycopy", "(Ljava/lang/Object;ILjava/lang/Object;II)V"⟩ ∈ TT := t2_in (List.mem_of_getElem? (i := 83) rfl) rfl
theorem wt2_84 : Cond.native ⟨"java/lang/System", "arraycopy", "(Ljava/lang/Object;ILjava/lang/Object;II)V"⟩ ∈ TT := t2_in (List.mem_of_getElem? (i := 84) rfl) rfl
theorem wt2_85 : Cond.methodLink RX5 55 yX7_copyFrom ∈ TT := t2_in (List.mem_of_getElem? (i := 85) rfl) rfl
theorem wt2_86 : Cond.instanceMethod yX7_copyFrom ∈ TT := t2_in (List.mem_of_getElem? (i := 86) rfl) rfl
theorem wt2_87 : Cond.selects RX7 yX7_copyFrom yX7_copyFrom ∈ TT := t2_in (List.mem_of_getElem? (i := 87) rfl) rfl
theorem wt2_88 : Cond.code yX7_copyFrom cX7_copyFrom 2 none ∈ TT := t2_in (List.mem_of_getElem? (i := 88) rfl) rfl
theorem wt2_89 : Cond.methodLink RX7 39 yX1_copy ∈ TT := t2_in (List.mem_of_getElem? (i := 89) rfl) rfl
theorem wt2_90 : Cond.methodLink RX5 58 yX6_copyFrom ∈ TT := t2_in (List.mem_of_getElem? (i := 90) rfl) rfl
theorem wt2_91 : Cond.instanceMethod yX6_copyFrom ∈ TT := t2_in (List.mem_of_getElem? (i := 91) rfl) rfl
theorem wt2_92 : Cond.selects RX6 yX6_copyFrom yX6_copyFrom ∈ TT := t2_in (List.mem_of_getElem? (i := 92) rfl) rfl
theorem wt2_93 : Cond.code yX6_copyFrom cX6_copyFrom 2 none ∈ TT := t2_in (List.mem_of_getElem? (i := 93) rfl) rfl
theorem wt2_94 : Cond.methodLink RX6 37 yX1_copy ∈ TT := t2_in (List.mem_of_getElem? (i := 94) rfl) rfl
theorem wt2_95 : Cond.methodLink RX5 61 yX4_copyFrom ∈ TT := t2_in (List.mem_of_getElem? (i := 95) rfl) rfl
theorem wt2_96 : Cond.instanceMethod yX4_copyFrom ∈ TT := t2_in (List.mem_of_getElem? (i := 96) rfl) rfl
theorem wt2_97 : Cond.selects RX4 yX4_copyFrom yX4_copyFrom ∈ TT := t2_in (List.mem_of_getElem? (i := 97) rfl) rfl
theorem wt2_98 : Cond.code yX4_copyFrom cX4_copyFrom 2 none ∈ TT := t2_in (List.mem_of_getElem? (i := 98) rfl) rfl
theorem wt2_99 : Cond.methodLink RX4 29 yX1_copy ∈ TT := t2_in (List.mem_of_getElem? (i := 99) rfl) rfl
theorem wt2_100 : Cond.methodLink RX2 35 yJ9_min_7cf53 ∈ TT := t2_in (List.mem_of_getElem? (i := 100) rfl) rfl
theorem wt2_101 : Cond.methodLink RX8 64 yX0_rebuild ∈ TT := t2_in (List.mem_of_getElem? (i := 101) rfl) rfl
theorem wt2_102 : Cond.instanceMethod yX0_rebuild ∈ TT := t2_in (List.mem_of_getElem? (i := 102) rfl) rfl
theorem wt2_103 : Cond.selects RX0 yX0_rebuild yX0_rebuild ∈ TT := t2_in (List.mem_of_getElem? (i := 103) rfl) rfl
theorem wt2_104 : Cond.code yX0_rebuild cX0_rebuild 3 none ∈ TT := t2_in (List.mem_of_getElem? (i := 104) rfl) rfl
theorem wt2_105 : Cond.methodLink RX8 68 yX0_size ∈ TT := t2_in (List.mem_of_getElem? (i := 105) rfl) rfl
theorem wt2_106 : Cond.instanceMethod yX0_size ∈ TT := t2_in (List.mem_of_getElem? (i := 106) rfl) rfl
theorem wt2_107 : Cond.selects RX0 yX0_size yX0_size ∈ TT := t2_in (List.mem_of_getElem? (i := 107) rfl) rfl
theorem wt2_108 : Cond.code yX0_size cX0_size 1 (some .int) ∈ TT := t2_in (List.mem_of_getElem? (i := 108) rfl) rfl
theorem wt2_109 : Cond.methodLink RL 116 yX8_undo ∈ TT := t2_in (List.mem_of_getElem? (i := 109) rfl) rfl
theorem wt2_110 : Cond.instanceMethod yX8_undo ∈ TT := t2_in (List.mem_of_getElem? (i := 110) rfl) rfl
theorem wt2_111 : Cond.selects RX8 yX8_undo yX8_undo ∈ TT := t2_in (List.mem_of_getElem? (i := 111) rfl) rfl
theorem wt2_112 : Cond.code yX8_undo cX8_undo 1 (some .int) ∈ TT := t2_in (List.mem_of_getElem? (i := 112) rfl) rfl
theorem wt2_113 : Cond.methodLink RX8 194 yX2_takeBack ∈ TT := t2_in (List.mem_of_getElem? (i := 113) rfl) rfl
theorem wt2_114 : Cond.instanceMethod yX2_takeBack ∈ TT := t2_in (List.mem_of_getElem? (i := 114) rfl) rfl
theorem wt2_115 : Cond.selects RX2 yX2_takeBack yX2_takeBack ∈ TT := t2_in (List.mem_of_getElem? (i := 115) rfl) rfl
theorem wt2_116 : Cond.code yX2_takeBack cX2_takeBack 3 none ∈ TT := t2_in (List.mem_of_getElem? (i := 116) rfl) rfl
theorem wt2_117 : Cond.methodLink RL 124 yX8_restore ∈ TT := t2_in (List.mem_of_getElem? (i := 117) rfl) rfl
theorem wt2_118 : Cond.instanceMethod yX8_restore ∈ TT := t2_in (List.mem_of_getElem? (i := 118) rfl) rfl
theorem wt2_119 : Cond.selects RX8 yX8_restore yX8_restore ∈ TT := t2_in (List.mem_of_getElem? (i := 119) rfl) rfl
theorem wt2_120 : Cond.code yX8_restore cX8_restore 1 (some .int) ∈ TT := t2_in (List.mem_of_getElem? (i := 120) rfl) rfl
theorem wt2_121 : Cond.methodLink RX8 175 yX5_copyFrom ∈ TT := t2_in (List.mem_of_getElem? (i := 121) rfl) rfl
theorem wt2_122 : Cond.methodLink RL 120 yL_cell ∈ TT := t2_in (List.mem_of_getElem? (i := 122) rfl) rfl
theorem wt2_123 : Cond.static yL_cell ∈ TT := t2_in (List.mem_of_getElem? (i := 123) rfl) rfl
theorem wt2_124 : Cond.code yL_cell cL_cell 2 (some .int) ∈ TT := t2_in (List.mem_of_getElem? (i := 124) rfl) rfl
theorem wt2_125 : Cond.constant RL 7 (10390003) ∈ TT := t2_in (List.mem_of_getElem? (i := 125) rfl) rfl
theorem wt2_126 : Cond.methodLink RL 73 yL_low ∈ TT := t2_in (List.mem_of_getElem? (i := 126) rfl) rfl
theorem wt2_127 : Cond.static yL_low ∈ TT := t2_in (List.mem_of_getElem? (i := 127) rfl) rfl
theorem wt2_128 : Cond.code yL_low cL_low 2 (some .int) ∈ TT := t2_in (List.mem_of_getElem? (i := 128) rfl) rfl
theorem wt2_129 : Cond.constant RL 8 (2147483647) ∈ TT := t2_in (List.mem_of_getElem? (i := 129) rfl) rfl
theorem wt2_130 : Cond.methodLink RL 15 yL_keys ∈ TT := t2_in (List.mem_of_getElem? (i := 130) rfl) rfl
theorem wt2_131 : Cond.static yL_keys ∈ TT := t2_in (List.mem_of_getElem? (i := 131) rfl) rfl
theorem wt2_132 : Cond.code yL_keys cL_keys 1 (some .int) ∈ TT := t2_in (List.mem_of_getElem? (i := 132) rfl) rfl
theorem wt2_133 : Cond.methodLink RL 9 yX8_count ∈ TT := t2_in (List.mem_of_getElem? (i := 133) rfl) rfl
theorem wt2_134 : Cond.instanceMethod yX8_count ∈ TT := t2_in (List.mem_of_getElem? (i := 134) rfl) rfl
theorem wt2_135 : Cond.selects RX8 yX8_count yX8_count ∈ TT := t2_in (List.mem_of_getElem? (i := 135) rfl) rfl
theorem wt2_136 : Cond.code yX8_count cX8_count 3 (some .int) ∈ TT := t2_in (List.mem_of_getElem? (i := 136) rfl) rfl
theorem wt2_137 : Cond.methodLink RX8 274 yX0_doubtfulKeys ∈ TT := t2_in (List.mem_of_getElem? (i := 137) rfl) rfl
theorem wt2_138 : Cond.instanceMethod yX0_doubtfulKeys ∈ TT := t2_in (List.mem_of_getElem? (i := 138) rfl) rfl
theorem wt2_139 : Cond.selects RX0 yX0_doubtfulKeys yX0_doubtfulKeys ∈ TT := t2_in (List.mem_of_getElem? (i := 139) rfl) rfl
theorem wt2_140 : Cond.code yX0_doubtfulKeys cX0_doubtfulKeys 1 (some .int) ∈ TT := t2_in (List.mem_of_getElem? (i := 140) rfl) rfl
theorem wt2_141 : Cond.methodLink RX8 286 yX5_drivenRow ∈ TT := t2_in (List.mem_of_getElem? (i := 141) rfl) rfl
theorem wt2_142 : Cond.instanceMethod yX5_drivenRow ∈ TT := t2_in (List.mem_of_getElem? (i := 142) rfl) rfl
theorem wt2_143 : Cond.selects RX5 yX5_drivenRow yX5_drivenRow ∈ TT := t2_in (List.mem_of_getElem? (i := 143) rfl) rfl
theorem wt2_144 : Cond.code yX5_drivenRow cX5_drivenRow 1 (some .int) ∈ TT := t2_in (List.mem_of_getElem? (i := 144) rfl) rfl
theorem wt2_145 : Cond.methodLink RX5 100 yJ9_floorMod_7cf53 ∈ TT := t2_in (List.mem_of_getElem? (i := 145) rfl) rfl
theorem wt2_146 : Cond.static yJ9_floorMod_7cf53 ∈ TT := t2_in (List.mem_of_getElem? (i := 146) rfl) rfl
theorem wt2_147 : Cond.code yJ9_floorMod_7cf53 cJ9_floorMod_7cf53 3 (some .int) ∈ TT := t2_in (List.mem_of_getElem? (i := 147) rfl) rfl
theorem wt2_148 : Cond.methodLink RL 140 yL_ghosts ∈ TT := t2_in (List.mem_of_getElem? (i := 148) rfl) rfl
theorem wt2_149 : Cond.static yL_ghosts ∈ TT := t2_in (List.mem_of_getElem? (i := 149) rfl) rfl
theorem wt2_150 : Cond.code yL_ghosts cL_ghosts 4 (some .boolean) ∈ TT := t2_in (List.mem_of_getElem? (i := 150) rfl) rfl
theorem wt2_151 : Cond.methodLink RL 21 yX8_key ∈ TT := t2_in (List.mem_of_getElem? (i := 151) rfl) rfl
theorem wt2_152 : Cond.instanceMethod yX8_key ∈ TT := t2_in (List.mem_of_getElem? (i := 152) rfl) rfl
theorem wt2_153 : Cond.selects RX8 yX8_key yX8_key ∈ TT := t2_in (List.mem_of_getElem? (i := 153) rfl) rfl
theorem wt2_154 : Cond.code yX8_key cX8_key 4 (some .int) ∈ TT := t2_in (List.mem_of_getElem? (i := 154) rfl) rfl
theorem wt2_155 : Cond.methodLink RX8 71 yX0_has ∈ TT := t2_in (List.mem_of_getElem? (i := 155) rfl) rfl
theorem wt2_156 : Cond.instanceMethod yX0_has ∈ TT := t2_in (List.mem_of_getElem? (i := 156) rfl) rfl
theorem wt2_157 : Cond.selects RX0 yX0_has yX0_has ∈ TT := t2_in (List.mem_of_getElem? (i := 157) rfl) rfl
theorem wt2_158 : Cond.code yX0_has cX0_has 2 (some .boolean) ∈ TT := t2_in (List.mem_of_getElem? (i := 158) rfl) rfl
theorem wt2_159 : Cond.methodLink RX8 200 yX0_holderOf ∈ TT := t2_in (List.mem_of_getElem? (i := 159) rfl) rfl
theorem wt2_160 : Cond.instanceMethod yX0_holderOf ∈ TT := t2_in (List.mem_of_getElem? (i := 160) rfl) rfl
theorem wt2_161 : Cond.selects RX0 yX0_holderOf yX0_holderOf ∈ TT := t2_in (List.mem_of_getElem? (i := 161) rfl) rfl
theorem wt2_162 : Cond.code yX0_holderOf cX0_holderOf 2 (some .int) ∈ TT := t2_in (List.mem_of_getElem? (i := 162) rfl) rfl
theorem wt2_163 : Cond.methodLink RX0 62 yX1_at ∈ TT := t2_in (List.mem_of_getElem? (i := 163) rfl) rfl
theorem wt2_164 : Cond.static yX1_at ∈ TT := t2_in (List.mem_of_getElem? (i := 164) rfl) rfl
theorem wt2_165 : Cond.code yX1_at cX1_at 2 (some .int) ∈ TT := t2_in (List.mem_of_getElem? (i := 165) rfl) rfl
theorem wt2_166 : Cond.methodLink RX8 203 yX8_orNone ∈ TT := t2_in (List.mem_of_getElem? (i := 166) rfl) rfl
theorem wt2_167 : Cond.static yX8_orNone ∈ TT := t2_in (List.mem_of_getElem? (i := 167) rfl) rfl
theorem wt2_168 : Cond.code yX8_orNone cX8_orNone 1 (some .int) ∈ TT := t2_in (List.mem_of_getElem? (i := 168) rfl) rfl
theorem wt2_169 : Cond.methodLink RX8 206 yX0_isSeen ∈ TT := t2_in (List.mem_of_getElem? (i := 169) rfl) rfl
theorem wt2_170 : Cond.instanceMethod yX0_isSeen ∈ TT := t2_in (List.mem_of_getElem? (i := 170) rfl) rfl
theorem wt2_171 : Cond.selects RX0 yX0_isSeen yX0_isSeen ∈ TT := t2_in (List.mem_of_getElem? (i := 171) rfl) rfl
theorem wt2_172 : Cond.code yX0_isSeen cX0_isSeen 2 (some .boolean) ∈ TT := t2_in (List.mem_of_getElem? (i := 172) rfl) rfl
theorem wt2_173 : Cond.methodLink RX0 58 yX0_rowOf ∈ TT := t2_in (List.mem_of_getElem? (i := 173) rfl) rfl
theorem wt2_174 : Cond.instanceMethod yX0_rowOf ∈ TT := t2_in (List.mem_of_getElem? (i := 174) rfl) rfl
theorem wt2_175 : Cond.selects RX0 yX0_rowOf yX0_rowOf ∈ TT := t2_in (List.mem_of_getElem? (i := 175) rfl) rfl
theorem wt2_176 : Cond.code yX0_rowOf cX0_rowOf 2 (some .int) ∈ TT := t2_in (List.mem_of_getElem? (i := 176) rfl) rfl
theorem wt2_177 : Cond.methodLink RX0 66 yX0_bitOf ∈ TT := t2_in (List.mem_of_getElem? (i := 177) rfl) rfl
theorem wt2_178 : Cond.instanceMethod yX0_bitOf ∈ TT := t2_in (List.mem_of_getElem? (i := 178) rfl) rfl
theorem wt2_179 : Cond.selects RX0 yX0_bitOf yX0_bitOf ∈ TT := t2_in (List.mem_of_getElem? (i := 179) rfl) rfl
theorem wt2_180 : Cond.code yX0_bitOf cX0_bitOf 2 (some .int) ∈ TT := t2_in (List.mem_of_getElem? (i := 180) rfl) rfl
theorem wt2_181 : Cond.methodLink RX8 209 yX0_sinceOf ∈ TT := t2_in (List.mem_of_getElem? (i := 181) rfl) rfl
theorem wt2_182 : Cond.instanceMethod yX0_sinceOf ∈ TT := t2_in (List.mem_of_getElem? (i := 182) rfl) rfl
theorem wt2_183 : Cond.selects RX0 yX0_sinceOf yX0_sinceOf ∈ TT := t2_in (List.mem_of_getElem? (i := 183) rfl) rfl
theorem wt2_184 : Cond.code yX0_sinceOf cX0_sinceOf 2 (some .int) ∈ TT := t2_in (List.mem_of_getElem? (i := 184) rfl) rfl
theorem wt2_185 : Cond.methodLink RX8 212 yX0_isDoubtful ∈ TT := t2_in (List.mem_of_getElem? (i := 185) rfl) rfl
theorem wt2_186 : Cond.instanceMethod yX0_isDoubtful ∈ TT := t2_in (List.mem_of_getElem? (i := 186) rfl) rfl
theorem wt2_187 : Cond.selects RX0 yX0_isDoubtful yX0_isDoubtful ∈ TT := t2_in (List.mem_of_getElem? (i := 187) rfl) rfl
theorem wt2_188 : Cond.code yX0_isDoubtful cX0_isDoubtful 2 (some .boolean) ∈ TT := t2_in (List.mem_of_getElem? (i := 188) rfl) rfl
theorem wt2_189 : Cond.methodLink RX8 75 yX0_signOf ∈ TT := t2_in (List.mem_of_getElem? (i := 189) rfl) rfl
theorem wt2_190 : Cond.instanceMethod yX0_signOf ∈ TT := t2_in (List.mem_of_getElem? (i := 190) rfl) rfl
theorem wt2_191 : Cond.selects RX0 yX0_signOf yX0_signOf ∈ TT := t2_in (List.mem_of_getElem? (i := 191) rfl) rfl
theorem wt2_192 : Cond.code yX0_signOf cX0_signOf 2 (some .int) ∈ TT := t2_in (List.mem_of_getElem? (i := 192) rfl) rfl
theorem wt2_193 : Cond.methodLink RX0 77 yX0_has ∈ TT := t2_in (List.mem_of_getElem? (i := 193) rfl) rfl
theorem wt2_194 : Cond.methodLink RX8 79 yX0_shiftOwner ∈ TT := t2_in (List.mem_of_getElem? (i := 194) rfl) rfl
theorem wt2_195 : Cond.instanceMethod yX0_shiftOwner ∈ TT := t2_in (List.mem_of_getElem? (i := 195) rfl) rfl
theorem wt2_196 : Cond.selects RX0 yX0_shiftOwner yX0_shiftOwner ∈ TT := t2_in (List.mem_of_getElem? (i := 196) rfl) rfl
theorem wt2_197 : Cond.code yX0_shiftOwner cX0_shiftOwner 2 (some .int) ∈ TT := t2_in (List.mem_of_getElem? (i := 197) rfl) rfl
theorem wt2_198 : Cond.methodLink RX8 215 yX0_rowOf ∈ TT := t2_in (List.mem_of_getElem? (i := 198) rfl) rfl
theorem wt2_199 : Cond.methodLink RX8 218 yX0_sensed ∈ TT := t2_in (List.mem_of_getElem? (i := 199) rfl) rfl
theorem wt2_200 : Cond.instanceMethod yX0_sensed ∈ TT := t2_in (List.mem_of_getElem? (i := 200) rfl) rfl
theorem wt2_201 : Cond.selects RX0 yX0_sensed yX0_sensed ∈ TT := t2_in (List.mem_of_getElem? (i := 201) rfl) rfl
theorem wt2_202 : Cond.code yX0_sensed cX0_sensed 8 (some .int) ∈ TT := t2_in (List.mem_of_getElem? (i := 202) rfl) rfl
theorem wt2_203 : Cond.methodLink RX0 93 yX0_joined ∈ TT := t2_in (List.mem_of_getElem? (i := 203) rfl) rfl
theorem wt2_204 : Cond.instanceMethod yX0_joined ∈ TT := t2_in (List.mem_of_getElem? (i := 204) rfl) rfl
theorem wt2_205 : Cond.selects RX0 yX0_joined yX0_joined ∈ TT := t2_in (List.mem_of_getElem? (i := 205) rfl) rfl
theorem wt2_206 : Cond.code yX0_joined cX0_joined 4 (some .int) ∈ TT := t2_in (List.mem_of_getElem? (i := 206) rfl) rfl
theorem wt2_207 : Cond.methodLink RX8 221 yX0_bitOf ∈ TT := t2_in (List.mem_of_getElem? (i := 207) rfl) rfl
theorem wt2_208 : Cond.methodLink RL 29 yL_senses ∈ TT := t2_in (List.mem_of_getElem? (i := 208) rfl) rfl
theorem wt2_209 : Cond.static yL_senses ∈ TT := t2_in (List.mem_of_getElem? (i := 209) rfl) rfl
theorem wt2_210 : Cond.code yL_senses cL_senses 4 (some .boolean) ∈ TT := t2_in (List.mem_of_getElem? (i := 210) rfl) rfl
theorem wt2_211 : Cond.methodLink RL 25 yL_sensed ∈ TT := t2_in (List.mem_of_getElem? (i := 211) rfl) rfl
theorem wt2_212 : Cond.static yL_sensed ∈ TT := t2_in (List.mem_of_getElem? (i := 212) rfl) rfl
theorem wt2_213 : Cond.code yL_sensed cL_sensed 10 (some .int) ∈ TT := t2_in (List.mem_of_getElem? (i := 213) rfl) rfl
theorem wt2_214 : Cond.methodLink RL 33 yX8_ghostsBy ∈ TT := t2_in (List.mem_of_getElem? (i := 214) rfl) rfl
theorem wt2_215 : Cond.instanceMethod yX8_ghostsBy ∈ TT := t2_in (List.mem_of_getElem? (i := 215) rfl) rfl
theorem wt2_216 : Cond.selects RX8 yX8_ghostsBy yX8_ghostsBy ∈ TT := t2_in (List.mem_of_getElem? (i := 216) rfl) rfl
theorem wt2_217 : Cond.code yX8_ghostsBy cX8_ghostsBy 3 (some .int) ∈ TT := t2_in (List.mem_of_getElem? (i := 217) rfl) rfl
theorem wt2_218 : Cond.methodLink RX8 271 yX0_ghostsBeside ∈ TT := t2_in (List.mem_of_getElem? (i := 218) rfl) rfl
theorem wt2_219 : Cond.instanceMethod yX0_ghostsBeside ∈ TT := t2_in (List.mem_of_getElem? (i := 219) rfl) rfl
theorem wt2_220 : Cond.selects RX0 yX0_ghostsBeside yX0_ghostsBeside ∈ TT := t2_in (List.mem_of_getElem? (i := 220) rfl) rfl
theorem wt2_221 : Cond.code yX0_ghostsBeside cX0_ghostsBeside 6 (some .int) ∈ TT := t2_in (List.mem_of_getElem? (i := 221) rfl) rfl
theorem wt2_222 : Cond.methodLink RX0 97 yX0_sensed ∈ TT := t2_in (List.mem_of_getElem? (i := 222) rfl) rfl
theorem wt2_223 : Cond.methodLink RX0 100 yJ6_bitCount_0f7a4 ∈ TT := t2_in (List.mem_of_getElem? (i := 223) rfl) rfl
theorem wt2_224 : Cond.methodLink RL 130 yL_keyboard ∈ TT := t2_in (List.mem_of_getElem? (i := 224) rfl) rfl
theorem wt2_225 : Cond.static yL_keyboard ∈ TT := t2_in (List.mem_of_getElem? (i := 225) rfl) rfl
theorem wt2_226 : Cond.code yL_keyboard cL_keyboard 8 (some .boolean) ∈ TT := t2_in (List.mem_of_getElem? (i := 226) rfl) rfl
theorem wt2_227 : Cond.methodLink RL 45 yX8_typist ∈ TT := t2_in (List.mem_of_getElem? (i := 227) rfl) rfl
theorem wt2_228 : Cond.instanceMethod yX8_typist ∈ TT := t2_in (List.mem_of_getElem? (i := 228) rfl) rfl
theorem wt2_229 : Cond.selects RX8 yX8_typist yX8_typist ∈ TT := t2_in (List.mem_of_getElem? (i := 229) rfl) rfl
theorem wt2_230 : Cond.code yX8_typist cX8_typist 4 (some .int) ∈ TT := t2_in (List.mem_of_getElem? (i := 230) rfl) rfl
theorem wt2_231 : Cond.methodLink RX8 86 yX5_isTypist ∈ TT := t2_in (List.mem_of_getElem? (i := 231) rfl) rfl
theorem wt2_232 : Cond.static yX5_isTypist ∈ TT := t2_in (List.mem_of_getElem? (i := 232) rfl) rfl
theorem wt2_233 : Cond.code yX5_isTypist cX5_isTypist 1 (some .boolean) ∈ TT := t2_in (List.mem_of_getElem? (i := 233) rfl) rfl
theorem wt2_234 : Cond.methodLink RX8 95 yX5_typistOf ∈ TT := t2_in (List.mem_of_getElem? (i := 234) rfl) rfl
theorem wt2_235 : Cond.instanceMethod yX5_typistOf ∈ TT := t2_in (List.mem_of_getElem? (i := 235) rfl) rfl
theorem wt2_236 : Cond.selects RX5 yX5_typistOf yX5_typistOf ∈ TT := t2_in (List.mem_of_getElem? (i := 236) rfl) rfl
theorem wt2_237 : Cond.code yX5_typistOf cX5_typistOf 2 (some (.object "BlanketKeys$Typist")) ∈ TT := t2_in (List.mem_of_getElem? (i := 237) rfl) rfl
theorem wt2_238 : Cond.methodLink RX8 134 yX0_heldBy ∈ TT := t2_in (List.mem_of_getElem? (i := 238) rfl) rfl
theorem wt2_239 : Cond.instanceMethod yX0_heldBy ∈ TT := t2_in (List.mem_of_getElem? (i := 239) rfl) rfl
theorem wt3_0 : Cond.selects RX0 yX0_heldBy yX0_heldBy ∈ TT := t3_in (List.mem_of_getElem? (i := 0) rfl) rfl
theorem wt3_1 : Cond.code yX0_heldBy cX0_heldBy 7 (some .int) ∈ TT := t3_in (List.mem_of_getElem? (i := 1) rfl) rfl
theorem wt3_2 : Cond.methodLink RX8 89 yX0_shiftOf ∈ TT := t3_in (List.mem_of_getElem? (i := 2) rfl) rfl
theorem wt3_3 : Cond.instanceMethod yX0_shiftOf ∈ TT := t3_in (List.mem_of_getElem? (i := 3) rfl) rfl
theorem wt3_4 : Cond.selects RX0 yX0_shiftOf yX0_shiftOf ∈ TT := t3_in (List.mem_of_getElem? (i := 4) rfl) rfl
theorem wt3_5 : Cond.code yX0_shiftOf cX0_shiftOf 2 (some .int) ∈ TT := t3_in (List.mem_of_getElem? (i := 5) rfl) rfl
theorem wt3_6 : Cond.methodLink RX8 224 yX0_isShiftOn ∈ TT := t3_in (List.mem_of_getElem? (i := 6) rfl) rfl
theorem wt3_7 : Cond.instanceMethod yX0_isShiftOn ∈ TT := t3_in (List.mem_of_getElem? (i := 7) rfl) rfl
theorem wt3_8 : Cond.selects RX0 yX0_isShiftOn yX0_isShiftOn ∈ TT := t3_in (List.mem_of_getElem? (i := 8) rfl) rfl
theorem wt3_9 : Cond.code yX0_isShiftOn cX0_isShiftOn 3 (some .boolean) ∈ TT := t3_in (List.mem_of_getElem? (i := 9) rfl) rfl
theorem wt3_10 : Cond.methodLink RX0 84 yX0_shiftOf ∈ TT := t3_in (List.mem_of_getElem? (i := 10) rfl) rfl
theorem wt3_11 : Cond.methodLink RX0 87 yX0_isSeen ∈ TT := t3_in (List.mem_of_getElem? (i := 11) rfl) rfl
theorem wt3_12 : Cond.methodLink RX0 90 yX0_isDoubtful ∈ TT := t3_in (List.mem_of_getElem? (i := 12) rfl) rfl
theorem wt3_13 : Cond.methodLink RL 48 yL_judged ∈ TT := t3_in (List.mem_of_getElem? (i := 13) rfl) rfl
theorem wt3_14 : Cond.static yL_judged ∈ TT := t3_in (List.mem_of_getElem? (i := 14) rfl) rfl
theorem wt3_15 : Cond.code yL_judged cL_judged 12 (some .boolean) ∈ TT := t3_in (List.mem_of_getElem? (i := 15) rfl) rfl
theorem wt3_16 : Cond.methodLink RL 36 yX8_verdict ∈ TT := t3_in (List.mem_of_getElem? (i := 16) rfl) rfl
theorem wt3_17 : Cond.instanceMethod yX8_verdict ∈ TT := t3_in (List.mem_of_getElem? (i := 17) rfl) rfl
theorem wt3_18 : Cond.selects RX8 yX8_verdict yX8_verdict ∈ TT := t3_in (List.mem_of_getElem? (i := 18) rfl) rfl
theorem wt3_19 : Cond.code yX8_verdict cX8_verdict 2 (some .int) ∈ TT := t3_in (List.mem_of_getElem? (i := 19) rfl) rfl
theorem wt3_20 : Cond.methodLink RX8 268 yX5_fateNow ∈ TT := t3_in (List.mem_of_getElem? (i := 20) rfl) rfl
theorem wt3_21 : Cond.instanceMethod yX5_fateNow ∈ TT := t3_in (List.mem_of_getElem? (i := 21) rfl) rfl
theorem wt3_22 : Cond.selects RX5 yX5_fateNow yX5_fateNow ∈ TT := t3_in (List.mem_of_getElem? (i := 22) rfl) rfl
theorem wt3_23 : Cond.code yX5_fateNow cX5_fateNow 9 (some .int) ∈ TT := t3_in (List.mem_of_getElem? (i := 23) rfl) rfl
theorem wt3_24 : Cond.methodLink RX5 134 yX0_isDoubtful ∈ TT := t3_in (List.mem_of_getElem? (i := 24) rfl) rfl
theorem wt3_25 : Cond.methodLink RX5 137 yX0_shiftOwner ∈ TT := t3_in (List.mem_of_getElem? (i := 25) rfl) rfl
theorem wt3_26 : Cond.methodLink RX5 140 yX0_sinceOf ∈ TT := t3_in (List.mem_of_getElem? (i := 26) rfl) rfl
theorem wt3_27 : Cond.methodLink RX5 143 yX7_distanceOf ∈ TT := t3_in (List.mem_of_getElem? (i := 27) rfl) rfl
theorem wt3_28 : Cond.instanceMethod yX7_distanceOf ∈ TT := t3_in (List.mem_of_getElem? (i := 28) rfl) rfl
theorem wt3_29 : Cond.selects RX7 yX7_distanceOf yX7_distanceOf ∈ TT := t3_in (List.mem_of_getElem? (i := 29) rfl) rfl
theorem wt3_30 : Cond.code yX7_distanceOf cX7_distanceOf 4 (some .float) ∈ TT := t3_in (List.mem_of_getElem? (i := 30) rfl) rfl
theorem wt3_31 : Cond.methodLink RX7 45 yX7_unsigned ∈ TT := t3_in (List.mem_of_getElem? (i := 31) rfl) rfl
theorem wt3_32 : Cond.static yX7_unsigned ∈ TT := t3_in (List.mem_of_getElem? (i := 32) rfl) rfl
theorem wt3_33 : Cond.code yX7_unsigned cX7_unsigned 1 (some .float) ∈ TT := t3_in (List.mem_of_getElem? (i := 33) rfl) rfl
theorem wt3_34 : Cond.methodLink RX7 49 yJ9_abs_0f7a4 ∈ TT := t3_in (List.mem_of_getElem? (i := 34) rfl) rfl
theorem wt3_35 : Cond.static yJ9_abs_0f7a4 ∈ TT := t3_in (List.mem_of_getElem? (i := 35) rfl) rfl
theorem wt3_36 : Cond.code yJ9_abs_0f7a4 cJ9_abs_0f7a4 1 (some .int) ∈ TT := t3_in (List.mem_of_getElem? (i := 36) rfl) rfl
theorem wt3_37 : Cond.constantFloat RX7 55 (1056964608) ∈ TT := t3_in (List.mem_of_getElem? (i := 37) rfl) rfl
theorem wt3_38 : Cond.methodLink RX5 151 yX7_unsigned ∈ TT := t3_in (List.mem_of_getElem? (i := 38) rfl) rfl
theorem wt3_39 : Cond.methodLink RL 39 yX8_distance ∈ TT := t3_in (List.mem_of_getElem? (i := 39) rfl) rfl
theorem wt3_40 : Cond.instanceMethod yX8_distance ∈ TT := t3_in (List.mem_of_getElem? (i := 40) rfl) rfl
theorem wt3_41 : Cond.selects RX8 yX8_distance yX8_distance ∈ TT := t3_in (List.mem_of_getElem? (i := 41) rfl) rfl
theorem wt3_42 : Cond.code yX8_distance cX8_distance 4 (some .float) ∈ TT := t3_in (List.mem_of_getElem? (i := 42) rfl) rfl
theorem wt3_43 : Cond.constantFloat RX8 242 (2143289344) ∈ TT := t3_in (List.mem_of_getElem? (i := 43) rfl) rfl
theorem wt3_44 : Cond.methodLink RX8 265 yX7_distanceOf ∈ TT := t3_in (List.mem_of_getElem? (i := 44) rfl) rfl
theorem wt3_45 : Cond.constantFloat RL 43 (1056964608) ∈ TT := t3_in (List.mem_of_getElem? (i := 45) rfl) rfl
theorem wt3_46 : Cond.constantFloat RL 44 (1040187392) ∈ TT := t3_in (List.mem_of_getElem? (i := 46) rfl) rfl
theorem wt3_47 : Cond.methodLink RL 134 yL_typists ∈ TT := t3_in (List.mem_of_getElem? (i := 47) rfl) rfl
theorem wt3_48 : Cond.static yL_typists ∈ TT := t3_in (List.mem_of_getElem? (i := 48) rfl) rfl
theorem wt3_49 : Cond.code yL_typists cL_typists 11 (some .boolean) ∈ TT := t3_in (List.mem_of_getElem? (i := 49) rfl) rfl
theorem wt3_50 : Cond.methodLink RL 52 yX8_style ∈ TT := t3_in (List.mem_of_getElem? (i := 50) rfl) rfl
theorem wt3_51 : Cond.instanceMethod yX8_style ∈ TT := t3_in (List.mem_of_getElem? (i := 51) rfl) rfl
theorem wt3_52 : Cond.selects RX8 yX8_style yX8_style ∈ TT := t3_in (List.mem_of_getElem? (i := 52) rfl) rfl
theorem wt3_53 : Cond.code yX8_style cX8_style 3 (some .float) ∈ TT := t3_in (List.mem_of_getElem? (i := 53) rfl) rfl
theorem wt3_54 : Cond.methodLink RX8 239 yX8_isMean ∈ TT := t3_in (List.mem_of_getElem? (i := 54) rfl) rfl
theorem wt3_55 : Cond.static yX8_isMean ∈ TT := t3_in (List.mem_of_getElem? (i := 55) rfl) rfl
theorem wt3_56 : Cond.code yX8_isMean cX8_isMean 1 (some .boolean) ∈ TT := t3_in (List.mem_of_getElem? (i := 56) rfl) rfl
theorem wt3_57 : Cond.methodLink RX8 243 yX8_meanOf ∈ TT := t3_in (List.mem_of_getElem? (i := 57) rfl) rfl
theorem wt3_59 : Cond.instanceMethod yX8_meanOf ∈ TT := t3_in (List.mem_of_getElem? (i := 59) rfl) rfl
theorem wt3_60 : Cond.code yX8_meanOf cX8_meanOf 4 (some .float) ∈ TT := t3_in (List.mem_of_getElem? (i := 60) rfl) rfl
theorem wt3_61 : Cond.methodLink RL 56 yX8_hundredths ∈ TT := t3_in (List.mem_of_getElem? (i := 61) rfl) rfl
theorem wt3_62 : Cond.instanceMethod yX8_hundredths ∈ TT := t3_in (List.mem_of_getElem? (i := 62) rfl) rfl
theorem wt3_63 : Cond.selects RX8 yX8_hundredths yX8_hundredths ∈ TT := t3_in (List.mem_of_getElem? (i := 63) rfl) rfl
theorem wt3_64 : Cond.code yX8_hundredths cX8_hundredths 3 (some .int) ∈ TT := t3_in (List.mem_of_getElem? (i := 64) rfl) rfl
theorem wt3_65 : Cond.constantFloat RX8 247 (1120403456) ∈ TT := t3_in (List.mem_of_getElem? (i := 65) rfl) rfl
theorem wt3_66 : Cond.constantFloat RL 59 (1120403456) ∈ TT := t3_in (List.mem_of_getElem? (i := 66) rfl) rfl
theorem wt3_67 : Cond.methodLink RL 60 yX8_typed ∈ TT := t3_in (List.mem_of_getElem? (i := 67) rfl) rfl
theorem wt3_68 : Cond.instanceMethod yX8_typed ∈ TT := t3_in (List.mem_of_getElem? (i := 68) rfl) rfl
theorem wt3_69 : Cond.selects RX8 yX8_typed yX8_typed ∈ TT := t3_in (List.mem_of_getElem? (i := 69) rfl) rfl
theorem wt3_70 : Cond.code yX8_typed cX8_typed 4 (some .int) ∈ TT := t3_in (List.mem_of_getElem? (i := 70) rfl) rfl
theorem wt3_71 : Cond.methodLink RX8 248 yX7_signBack ∈ TT := t3_in (List.mem_of_getElem? (i := 71) rfl) rfl
theorem wt3_72 : Cond.instanceMethod yX7_signBack ∈ TT := t3_in (List.mem_of_getElem? (i := 72) rfl) rfl
theorem wt3_73 : Cond.selects RX7 yX7_signBack yX7_signBack ∈ TT := t3_in (List.mem_of_getElem? (i := 73) rfl) rfl
theorem wt3_74 : Cond.code yX7_signBack cX7_signBack 2 (some .int) ∈ TT := t3_in (List.mem_of_getElem? (i := 74) rfl) rfl
theorem wt3_75 : Cond.methodLink RX7 59 yJ9_floorMod_7cf53 ∈ TT := t3_in (List.mem_of_getElem? (i := 75) rfl) rfl
theorem wt3_76 : Cond.methodLink RX7 67 yX1_at ∈ TT := t3_in (List.mem_of_getElem? (i := 76) rfl) rfl
theorem wt3_77 : Cond.methodLink RL 137 yL_strokes ∈ TT := t3_in (List.mem_of_getElem? (i := 77) rfl) rfl
theorem wt3_78 : Cond.static yL_strokes ∈ TT := t3_in (List.mem_of_getElem? (i := 78) rfl) rfl
theorem wt3_79 : Cond.code yL_strokes cL_strokes 6 (some .boolean) ∈ TT := t3_in (List.mem_of_getElem? (i := 79) rfl) rfl
theorem wt3_80 : Cond.methodLink RL 63 yX8_dispute ∈ TT := t3_in (List.mem_of_getElem? (i := 80) rfl) rfl
theorem wt3_81 : Cond.instanceMethod yX8_dispute ∈ TT := t3_in (List.mem_of_getElem? (i := 81) rfl) rfl
theorem wt3_82 : Cond.selects RX8 yX8_dispute yX8_dispute ∈ TT := t3_in (List.mem_of_getElem? (i := 82) rfl) rfl
theorem wt3_83 : Cond.code yX8_dispute cX8_dispute 4 (some .int) ∈ TT := t3_in (List.mem_of_getElem? (i := 83) rfl) rfl
theorem wt3_84 : Cond.methodLink RX8 147 yX5_hasDispute ∈ TT := t3_in (List.mem_of_getElem? (i := 84) rfl) rfl
theorem wt3_85 : Cond.instanceMethod yX5_hasDispute ∈ TT := t3_in (List.mem_of_getElem? (i := 85) rfl) rfl
theorem wt3_86 : Cond.selects RX5 yX5_hasDispute yX5_hasDispute ∈ TT := t3_in (List.mem_of_getElem? (i := 86) rfl) rfl
theorem wt3_87 : Cond.code yX5_hasDispute cX5_hasDispute 2 (some .boolean) ∈ TT := t3_in (List.mem_of_getElem? (i := 87) rfl) rfl
theorem wt3_88 : Cond.methodLink RX8 162 yX6_keyOf ∈ TT := t3_in (List.mem_of_getElem? (i := 88) rfl) rfl
theorem wt3_89 : Cond.instanceMethod yX6_keyOf ∈ TT := t3_in (List.mem_of_getElem? (i := 89) rfl) rfl
theorem wt3_90 : Cond.selects RX6 yX6_keyOf yX6_keyOf ∈ TT := t3_in (List.mem_of_getElem? (i := 90) rfl) rfl
theorem wt3_91 : Cond.code yX6_keyOf cX6_keyOf 2 (some .int) ∈ TT := t3_in (List.mem_of_getElem? (i := 91) rfl) rfl
theorem wt3_92 : Cond.methodLink RX6 43 yX6_slot ∈ TT := t3_in (List.mem_of_getElem? (i := 92) rfl) rfl
theorem wt3_93 : Cond.static yX6_slot ∈ TT := t3_in (List.mem_of_getElem? (i := 93) rfl) rfl
theorem wt3_94 : Cond.code yX6_slot cX6_slot 1 (some .int) ∈ TT := t3_in (List.mem_of_getElem? (i := 94) rfl) rfl
theorem wt3_95 : Cond.methodLink RX6 78 yX1_at ∈ TT := t3_in (List.mem_of_getElem? (i := 95) rfl) rfl
theorem wt3_96 : Cond.methodLink RX8 257 yX6_sinceOf ∈ TT := t3_in (List.mem_of_getElem? (i := 96) rfl) rfl
theorem wt3_97 : Cond.instanceMethod yX6_sinceOf ∈ TT := t3_in (List.mem_of_getElem? (i := 97) rfl) rfl
theorem wt3_98 : Cond.selects RX6 yX6_sinceOf yX6_sinceOf ∈ TT := t3_in (List.mem_of_getElem? (i := 98) rfl) rfl
theorem wt3_99 : Cond.code yX6_sinceOf cX6_sinceOf 2 (some .int) ∈ TT := t3_in (List.mem_of_getElem? (i := 99) rfl) rfl
theorem wt3_100 : Cond.methodLink RX8 258 yX6_dwellOf ∈ TT := t3_in (List.mem_of_getElem? (i := 100) rfl) rfl
theorem wt3_101 : Cond.instanceMethod yX6_dwellOf ∈ TT := t3_in (List.mem_of_getElem? (i := 101) rfl) rfl
theorem wt3_102 : Cond.selects RX6 yX6_dwellOf yX6_dwellOf ∈ TT := t3_in (List.mem_of_getElem? (i := 102) rfl) rfl
theorem wt3_103 : Cond.code yX6_dwellOf cX6_dwellOf 2 (some .int) ∈ TT := t3_in (List.mem_of_getElem? (i := 103) rfl) rfl
theorem wt3_104 : Cond.methodLink RX8 154 yX6_fateOf ∈ TT := t3_in (List.mem_of_getElem? (i := 104) rfl) rfl
theorem wt3_105 : Cond.instanceMethod yX6_fateOf ∈ TT := t3_in (List.mem_of_getElem? (i := 105) rfl) rfl
theorem wt3_106 : Cond.selects RX6 yX6_fateOf yX6_fateOf ∈ TT := t3_in (List.mem_of_getElem? (i := 106) rfl) rfl
theorem wt3_107 : Cond.code yX6_fateOf cX6_fateOf 2 (some .int) ∈ TT := t3_in (List.mem_of_getElem? (i := 107) rfl) rfl
theorem wt3_108 : Cond.methodLink RX8 261 yX6_holderOf ∈ TT := t3_in (List.mem_of_getElem? (i := 108) rfl) rfl
theorem wt3_109 : Cond.instanceMethod yX6_holderOf ∈ TT := t3_in (List.mem_of_getElem? (i := 109) rfl) rfl
theorem wt3_110 : Cond.selects RX6 yX6_holderOf yX6_holderOf ∈ TT := t3_in (List.mem_of_getElem? (i := 110) rfl) rfl
theorem wt3_111 : Cond.code yX6_holderOf cX6_holderOf 2 (some .int) ∈ TT := t3_in (List.mem_of_getElem? (i := 111) rfl) rfl
theorem wt3_112 : Cond.methodLink RL 66 yX8_stroke ∈ TT := t3_in (List.mem_of_getElem? (i := 112) rfl) rfl
theorem wt3_113 : Cond.instanceMethod yX8_stroke ∈ TT := t3_in (List.mem_of_getElem? (i := 113) rfl) rfl
theorem wt3_114 : Cond.selects RX8 yX8_stroke yX8_stroke ∈ TT := t3_in (List.mem_of_getElem? (i := 114) rfl) rfl
theorem wt3_115 : Cond.code yX8_stroke cX8_stroke 5 (some .int) ∈ TT := t3_in (List.mem_of_getElem? (i := 115) rfl) rfl
theorem wt3_116 : Cond.methodLink RX8 262 yX6_notedOf ∈ TT := t3_in (List.mem_of_getElem? (i := 116) rfl) rfl
theorem wt3_117 : Cond.instanceMethod yX6_notedOf ∈ TT := t3_in (List.mem_of_getElem? (i := 117) rfl) rfl
theorem wt3_118 : Cond.selects RX6 yX6_notedOf yX6_notedOf ∈ TT := t3_in (List.mem_of_getElem? (i := 118) rfl) rfl
theorem wt3_119 : Cond.code yX6_notedOf cX6_notedOf 2 (some .int) ∈ TT := t3_in (List.mem_of_getElem? (i := 119) rfl) rfl
theorem wt3_120 : Cond.methodLink RL 127 yL_acts ∈ TT := t3_in (List.mem_of_getElem? (i := 120) rfl) rfl
theorem wt3_121 : Cond.static yL_acts ∈ TT := t3_in (List.mem_of_getElem? (i := 121) rfl) rfl
theorem wt3_122 : Cond.code yL_acts cL_acts 8 (some .boolean) ∈ TT := t3_in (List.mem_of_getElem? (i := 122) rfl) rfl
theorem wt3_123 : Cond.methodLink RL 76 yX8_press ∈ TT := t3_in (List.mem_of_getElem? (i := 123) rfl) rfl
theorem wt3_124 : Cond.instanceMethod yX8_press ∈ TT := t3_in (List.mem_of_getElem? (i := 124) rfl) rfl
theorem wt3_125 : Cond.selects RX8 yX8_press yX8_press ∈ TT := t3_in (List.mem_of_getElem? (i := 125) rfl) rfl
theorem wt3_126 : Cond.code yX8_press cX8_press 4 (some .int) ∈ TT := t3_in (List.mem_of_getElem? (i := 126) rfl) rfl
theorem wt3_127 : Cond.methodLink RX8 127 yX5_pressError ∈ TT := t3_in (List.mem_of_getElem? (i := 127) rfl) rfl
theorem wt3_128 : Cond.instanceMethod yX5_pressError ∈ TT := t3_in (List.mem_of_getElem? (i := 128) rfl) rfl
theorem wt3_129 : Cond.selects RX5 yX5_pressError yX5_pressError ∈ TT := t3_in (List.mem_of_getElem? (i := 129) rfl) rfl
theorem wt3_130 : Cond.code yX5_pressError cX5_pressError 3 (some .int) ∈ TT := t3_in (List.mem_of_getElem? (i := 130) rfl) rfl
theorem wt3_131 : Cond.methodLink RX5 80 yX5_isTypist ∈ TT := t3_in (List.mem_of_getElem? (i := 131) rfl) rfl
theorem wt3_132 : Cond.methodLink RX5 84 yX0_has ∈ TT := t3_in (List.mem_of_getElem? (i := 132) rfl) rfl
theorem wt3_133 : Cond.methodLink RX5 87 yX0_isDown ∈ TT := t3_in (List.mem_of_getElem? (i := 133) rfl) rfl
theorem wt3_134 : Cond.instanceMethod yX0_isDown ∈ TT := t3_in (List.mem_of_getElem? (i := 134) rfl) rfl
theorem wt3_135 : Cond.selects RX0 yX0_isDown yX0_isDown ∈ TT := t3_in (List.mem_of_getElem? (i := 135) rfl) rfl
theorem wt3_136 : Cond.code yX0_isDown cX0_isDown 2 (some .boolean) ∈ TT := t3_in (List.mem_of_getElem? (i := 136) rfl) rfl
theorem wt3_137 : Cond.methodLink RX5 90 yX0_heldBy ∈ TT := t3_in (List.mem_of_getElem? (i := 137) rfl) rfl
theorem wt3_138 : Cond.methodLink RX8 131 yX0_putDown ∈ TT := t3_in (List.mem_of_getElem? (i := 138) rfl) rfl
theorem wt3_139 : Cond.instanceMethod yX0_putDown ∈ TT := t3_in (List.mem_of_getElem? (i := 139) rfl) rfl
theorem wt3_140 : Cond.selects RX0 yX0_putDown yX0_putDown ∈ TT := t3_in (List.mem_of_getElem? (i := 140) rfl) rfl
theorem wt3_141 : Cond.code yX0_putDown cX0_putDown 4 none ∈ TT := t3_in (List.mem_of_getElem? (i := 141) rfl) rfl
theorem wt3_142 : Cond.methodLink RX0 73 yX1_put ∈ TT := t3_in (List.mem_of_getElem? (i := 142) rfl) rfl
theorem wt3_143 : Cond.static yX1_put ∈ TT := t3_in (List.mem_of_getElem? (i := 143) rfl) rfl
theorem wt3_144 : Cond.code yX1_put cX1_put 3 none ∈ TT := t3_in (List.mem_of_getElem? (i := 144) rfl) rfl
theorem wt3_145 : Cond.methodLink RL 79 yX8_release ∈ TT := t3_in (List.mem_of_getElem? (i := 145) rfl) rfl
theorem wt3_146 : Cond.instanceMethod yX8_release ∈ TT := t3_in (List.mem_of_getElem? (i := 146) rfl) rfl
theorem wt3_147 : Cond.selects RX8 yX8_release yX8_release ∈ TT := t3_in (List.mem_of_getElem? (i := 147) rfl) rfl
theorem wt3_148 : Cond.code yX8_release cX8_release 4 (some .int) ∈ TT := t3_in (List.mem_of_getElem? (i := 148) rfl) rfl
theorem wt3_149 : Cond.methodLink RX8 137 yX5_releaseError ∈ TT := t3_in (List.mem_of_getElem? (i := 149) rfl) rfl
theorem wt3_150 : Cond.instanceMethod yX5_releaseError ∈ TT := t3_in (List.mem_of_getElem? (i := 150) rfl) rfl
theorem wt3_151 : Cond.selects RX5 yX5_releaseError yX5_releaseError ∈ TT := t3_in (List.mem_of_getElem? (i := 151) rfl) rfl
theorem wt3_152 : Cond.code yX5_releaseError cX5_releaseError 3 (some .int) ∈ TT := t3_in (List.mem_of_getElem? (i := 152) rfl) rfl
theorem wt3_153 : Cond.methodLink RX5 94 yX0_holderOf ∈ TT := t3_in (List.mem_of_getElem? (i := 153) rfl) rfl
theorem wt3_154 : Cond.methodLink RX8 140 yX0_liftUp ∈ TT := t3_in (List.mem_of_getElem? (i := 154) rfl) rfl
theorem wt3_155 : Cond.instanceMethod yX0_liftUp ∈ TT := t3_in (List.mem_of_getElem? (i := 155) rfl) rfl
theorem wt3_156 : Cond.selects RX0 yX0_liftUp yX0_liftUp ∈ TT := t3_in (List.mem_of_getElem? (i := 156) rfl) rfl
theorem wt3_157 : Cond.code yX0_liftUp cX0_liftUp 3 none ∈ TT := t3_in (List.mem_of_getElem? (i := 157) rfl) rfl
theorem wt3_158 : Cond.methodLink RL 82 yX8_tick ∈ TT := t3_in (List.mem_of_getElem? (i := 158) rfl) rfl
theorem wt3_159 : Cond.instanceMethod yX8_tick ∈ TT := t3_in (List.mem_of_getElem? (i := 159) rfl) rfl
theorem wt3_160 : Cond.selects RX8 yX8_tick yX8_tick ∈ TT := t3_in (List.mem_of_getElem? (i := 160) rfl) rfl
theorem wt3_161 : Cond.code yX8_tick cX8_tick 2 (some .int) ∈ TT := t3_in (List.mem_of_getElem? (i := 161) rfl) rfl
theorem wt3_162 : Cond.methodLink RX8 144 yX5_pass ∈ TT := t3_in (List.mem_of_getElem? (i := 162) rfl) rfl
theorem wt3_163 : Cond.instanceMethod yX5_pass ∈ TT := t3_in (List.mem_of_getElem? (i := 163) rfl) rfl
theorem wt3_164 : Cond.selects RX5 yX5_pass yX5_pass ∈ TT := t3_in (List.mem_of_getElem? (i := 164) rfl) rfl
theorem wt3_165 : Cond.code yX5_pass cX5_pass 8 (some .int) ∈ TT := t3_in (List.mem_of_getElem? (i := 165) rfl) rfl
theorem wt3_166 : Cond.methodLink RX5 106 yX5_drivenRow ∈ TT := t3_in (List.mem_of_getElem? (i := 166) rfl) rfl
theorem wt3_167 : Cond.methodLink RX5 114 yX1_at ∈ TT := t3_in (List.mem_of_getElem? (i := 167) rfl) rfl
theorem wt3_168 : Cond.methodLink RX5 120 yX0_sensed ∈ TT := t3_in (List.mem_of_getElem? (i := 168) rfl) rfl
theorem wt3_169 : Cond.methodLink RX5 126 yX5_endStroke ∈ TT := t3_in (List.mem_of_getElem? (i := 169) rfl) rfl
theorem wt3_170 : Cond.instanceMethod yX5_endStroke ∈ TT := t3_in (List.mem_of_getElem? (i := 170) rfl) rfl
theorem wt3_171 : Cond.selects RX5 yX5_endStroke yX5_endStroke ∈ TT := t3_in (List.mem_of_getElem? (i := 171) rfl) rfl
theorem wt3_172 : Cond.code yX5_endStroke cX5_endStroke 3 none ∈ TT := t3_in (List.mem_of_getElem? (i := 172) rfl) rfl
theorem wt3_173 : Cond.methodLink RX5 158 yX5_fateNow ∈ TT := t3_in (List.mem_of_getElem? (i := 173) rfl) rfl
theorem wt3_174 : Cond.methodLink RX5 161 yX6_addFrom ∈ TT := t3_in (List.mem_of_getElem? (i := 174) rfl) rfl
theorem wt3_175 : Cond.instanceMethod yX6_addFrom ∈ TT := t3_in (List.mem_of_getElem? (i := 175) rfl) rfl
theorem wt3_176 : Cond.selects RX6 yX6_addFrom yX6_addFrom ∈ TT := t3_in (List.mem_of_getElem? (i := 176) rfl) rfl
theorem wt3_177 : Cond.code yX6_addFrom cX6_addFrom 6 none ∈ TT := t3_in (List.mem_of_getElem? (i := 177) rfl) rfl
theorem wt3_178 : Cond.methodLink RX6 47 yX1_put ∈ TT := t3_in (List.mem_of_getElem? (i := 178) rfl) rfl
theorem wt3_179 : Cond.methodLink RX6 51 yX0_sinceOf ∈ TT := t3_in (List.mem_of_getElem? (i := 179) rfl) rfl
theorem wt3_180 : Cond.methodLink RX6 56 yX0_trueHolderOf ∈ TT := t3_in (List.mem_of_getElem? (i := 180) rfl) rfl
theorem wt3_181 : Cond.instanceMethod yX0_trueHolderOf ∈ TT := t3_in (List.mem_of_getElem? (i := 181) rfl) rfl
theorem wt3_182 : Cond.selects RX0 yX0_trueHolderOf yX0_trueHolderOf ∈ TT := t3_in (List.mem_of_getElem? (i := 182) rfl) rfl
theorem wt3_183 : Cond.code yX0_trueHolderOf cX0_trueHolderOf 2 (some .int) ∈ TT := t3_in (List.mem_of_getElem? (i := 183) rfl) rfl
theorem wt3_184 : Cond.methodLink RX6 59 yX0_notedFor ∈ TT := t3_in (List.mem_of_getElem? (i := 184) rfl) rfl
theorem wt3_185 : Cond.instanceMethod yX0_notedFor ∈ TT := t3_in (List.mem_of_getElem? (i := 185) rfl) rfl
theorem wt3_186 : Cond.selects RX0 yX0_notedFor yX0_notedFor ∈ TT := t3_in (List.mem_of_getElem? (i := 186) rfl) rfl
theorem wt3_187 : Cond.code yX0_notedFor cX0_notedFor 2 (some .int) ∈ TT := t3_in (List.mem_of_getElem? (i := 187) rfl) rfl
theorem wt3_188 : Cond.methodLink RX5 165 yX0_loseSight ∈ TT := t3_in (List.mem_of_getElem? (i := 188) rfl) rfl
theorem wt3_189 : Cond.instanceMethod yX0_loseSight ∈ TT := t3_in (List.mem_of_getElem? (i := 189) rfl) rfl
theorem wt3_190 : Cond.selects RX0 yX0_loseSight yX0_loseSight ∈ TT := t3_in (List.mem_of_getElem? (i := 190) rfl) rfl
theorem wt3_191 : Cond.code yX0_loseSight cX0_loseSight 3 none ∈ TT := t3_in (List.mem_of_getElem? (i := 191) rfl) rfl
theorem wt3_192 : Cond.methodLink RX5 168 yX6_addLatestOf ∈ TT := t3_in (List.mem_of_getElem? (i := 192) rfl) rfl
theorem wt3_193 : Cond.instanceMethod yX6_addLatestOf ∈ TT := t3_in (List.mem_of_getElem? (i := 193) rfl) rfl
theorem wt3_194 : Cond.selects RX6 yX6_addLatestOf yX6_addLatestOf ∈ TT := t3_in (List.mem_of_getElem? (i := 194) rfl) rfl
theorem wt3_195 : Cond.code yX6_addLatestOf cX6_addLatestOf 4 none ∈ TT := t3_in (List.mem_of_getElem? (i := 195) rfl) rfl
theorem wt3_196 : Cond.methodLink RX6 62 yX6_keyOf ∈ TT := t3_in (List.mem_of_getElem? (i := 196) rfl) rfl
theorem wt3_197 : Cond.methodLink RX6 65 yX6_sinceOf ∈ TT := t3_in (List.mem_of_getElem? (i := 197) rfl) rfl
theorem wt3_198 : Cond.methodLink RX6 66 yX6_dwellOf ∈ TT := t3_in (List.mem_of_getElem? (i := 198) rfl) rfl
theorem wt3_199 : Cond.methodLink RX6 69 yX6_fateOf ∈ TT := t3_in (List.mem_of_getElem? (i := 199) rfl) rfl
theorem wt3_200 : Cond.methodLink RX6 72 yX6_holderOf ∈ TT := t3_in (List.mem_of_getElem? (i := 200) rfl) rfl
theorem wt3_201 : Cond.methodLink RX6 75 yX6_notedOf ∈ TT := t3_in (List.mem_of_getElem? (i := 201) rfl) rfl
theorem wt3_202 : Cond.methodLink RX5 171 yX5_finish ∈ TT := t3_in (List.mem_of_getElem? (i := 202) rfl) rfl
theorem wt3_203 : Cond.instanceMethod yX5_finish ∈ TT := t3_in (List.mem_of_getElem? (i := 203) rfl) rfl
theorem wt3_204 : Cond.selects RX5 yX5_finish yX5_finish ∈ TT := t3_in (List.mem_of_getElem? (i := 204) rfl) rfl
theorem wt3_205 : Cond.code yX5_finish cX5_finish 10 none ∈ TT := t3_in (List.mem_of_getElem? (i := 205) rfl) rfl
theorem wt3_206 : Cond.methodLink RX5 182 yX6_holderOf ∈ TT := t3_in (List.mem_of_getElem? (i := 206) rfl) rfl
theorem wt3_207 : Cond.methodLink RX5 183 yX5_typistOf ∈ TT := t3_in (List.mem_of_getElem? (i := 207) rfl) rfl
theorem wt3_208 : Cond.methodLink RX5 193 yX6_sinceOf ∈ TT := t3_in (List.mem_of_getElem? (i := 208) rfl) rfl
theorem wt3_209 : Cond.methodLink RX5 194 yX6_dwellOf ∈ TT := t3_in (List.mem_of_getElem? (i := 209) rfl) rfl
theorem wt3_210 : Cond.methodLink RX5 200 yX7_learn ∈ TT := t3_in (List.mem_of_getElem? (i := 210) rfl) rfl
theorem wt3_211 : Cond.instanceMethod yX7_learn ∈ TT := t3_in (List.mem_of_getElem? (i := 211) rfl) rfl
theorem wt3_212 : Cond.selects RX7 yX7_learn yX7_learn ∈ TT := t3_in (List.mem_of_getElem? (i := 212) rfl) rfl
theorem wt3_213 : Cond.code yX7_learn cX7_learn 4 none ∈ TT := t3_in (List.mem_of_getElem? (i := 213) rfl) rfl
theorem wt3_214 : Cond.methodLink RX7 56 yX7_atLeastHalf ∈ TT := t3_in (List.mem_of_getElem? (i := 214) rfl) rfl
theorem wt3_215 : Cond.static yX7_atLeastHalf ∈ TT := t3_in (List.mem_of_getElem? (i := 215) rfl) rfl
theorem wt3_216 : Cond.code yX7_atLeastHalf cX7_atLeastHalf 1 (some .float) ∈ TT := t3_in (List.mem_of_getElem? (i := 216) rfl) rfl
theorem wt3_217 : Cond.methodLink RX5 204 yX6_keyOf ∈ TT := t3_in (List.mem_of_getElem? (i := 217) rfl) rfl
theorem wt3_218 : Cond.methodLink RX5 207 yX0_signOf ∈ TT := t3_in (List.mem_of_getElem? (i := 218) rfl) rfl
theorem wt3_219 : Cond.methodLink RX5 214 yX6_notedOf ∈ TT := t3_in (List.mem_of_getElem? (i := 219) rfl) rfl
theorem wt3_220 : Cond.methodLink RX5 217 yX7_addSign ∈ TT := t3_in (List.mem_of_getElem? (i := 220) rfl) rfl
theorem wt3_221 : Cond.instanceMethod yX7_addSign ∈ TT := t3_in (List.mem_of_getElem? (i := 221) rfl) rfl
theorem wt3_222 : Cond.selects RX7 yX7_addSign yX7_addSign ∈ TT := t3_in (List.mem_of_getElem? (i := 222) rfl) rfl
theorem wt3_223 : Cond.code yX7_addSign cX7_addSign 2 none ∈ TT := t3_in (List.mem_of_getElem? (i := 223) rfl) rfl
theorem wt3_224 : Cond.methodLink RX7 63 yX1_put ∈ TT := t3_in (List.mem_of_getElem? (i := 224) rfl) rfl
theorem wt3_225 : Cond.methodLink RX5 130 yX0_see ∈ TT := t3_in (List.mem_of_getElem? (i := 225) rfl) rfl
theorem wt3_226 : Cond.instanceMethod yX0_see ∈ TT := t3_in (List.mem_of_getElem? (i := 226) rfl) rfl
theorem wt3_227 : Cond.selects RX0 yX0_see yX0_see ∈ TT := t3_in (List.mem_of_getElem? (i := 227) rfl) rfl
theorem wt3_228 : Cond.code yX0_see cX0_see 7 none ∈ TT := t3_in (List.mem_of_getElem? (i := 228) rfl) rfl
theorem wt3_229 : Cond.methodLink RX0 105 yX0_closesCorner ∈ TT := t3_in (List.mem_of_getElem? (i := 229) rfl) rfl
theorem wt3_230 : Cond.instanceMethod yX0_closesCorner ∈ TT := t3_in (List.mem_of_getElem? (i := 230) rfl) rfl
theorem wt3_231 : Cond.selects RX0 yX0_closesCorner yX0_closesCorner ∈ TT := t3_in (List.mem_of_getElem? (i := 231) rfl) rfl
theorem wt3_232 : Cond.code yX0_closesCorner cX0_closesCorner 6 (some .boolean) ∈ TT := t3_in (List.mem_of_getElem? (i := 232) rfl) rfl
theorem wt3_233 : Cond.methodLink RX0 109 yX0_isShiftOn ∈ TT := t3_in (List.mem_of_getElem? (i := 233) rfl) rfl
theorem wt3_234 : Cond.methodLink RL 85 yX8_setShift ∈ TT := t3_in (List.mem_of_getElem? (i := 234) rfl) rfl
theorem wt3_235 : Cond.instanceMethod yX8_setShift ∈ TT := t3_in (List.mem_of_getElem? (i := 235) rfl) rfl
theorem wt3_236 : Cond.selects RX8 yX8_setShift yX8_setShift ∈ TT := t3_in (List.mem_of_getElem? (i := 236) rfl) rfl
theorem wt3_237 : Cond.code yX8_setShift cX8_setShift 6 (some .int) ∈ TT := t3_in (List.mem_of_getElem? (i := 237) rfl) rfl
theorem wt3_238 : Cond.methodLink RX8 92 yX0_giveShift ∈ TT := t3_in (List.mem_of_getElem? (i := 238) rfl) rfl
theorem wt3_239 : Cond.instanceMethod yX0_giveShift ∈ TT := t3_in (List.mem_of_getElem? (i := 239) rfl) rfl
theorem wt4_0 : Cond.selects RX0 yX0_giveShift yX0_giveShift ∈ TT := t4_in (List.mem_of_getElem? (i := 0) rfl) rfl
theorem wt4_1 : Cond.code yX0_giveShift cX0_giveShift 3 none ∈ TT := t4_in (List.mem_of_getElem? (i := 1) rfl) rfl
theorem wt4_2 : Cond.methodLink RL 88 yX8_setSign ∈ TT := t4_in (List.mem_of_getElem? (i := 2) rfl) rfl
theorem wt4_3 : Cond.instanceMethod yX8_setSign ∈ TT := t4_in (List.mem_of_getElem? (i := 3) rfl) rfl
theorem wt4_4 : Cond.selects RX8 yX8_setSign yX8_setSign ∈ TT := t4_in (List.mem_of_getElem? (i := 4) rfl) rfl
theorem wt4_5 : Cond.code yX8_setSign cX8_setSign 5 (some .int) ∈ TT := t4_in (List.mem_of_getElem? (i := 5) rfl) rfl
theorem wt4_6 : Cond.methodLink RX8 82 yX0_giveSign ∈ TT := t4_in (List.mem_of_getElem? (i := 6) rfl) rfl
theorem wt4_7 : Cond.instanceMethod yX0_giveSign ∈ TT := t4_in (List.mem_of_getElem? (i := 7) rfl) rfl
theorem wt4_8 : Cond.selects RX0 yX0_giveSign yX0_giveSign ∈ TT := t4_in (List.mem_of_getElem? (i := 8) rfl) rfl
theorem wt4_9 : Cond.code yX0_giveSign cX0_giveSign 4 none ∈ TT := t4_in (List.mem_of_getElem? (i := 9) rfl) rfl
theorem wt4_10 : Cond.methodLink RX0 81 yX0_shiftOwner ∈ TT := t4_in (List.mem_of_getElem? (i := 10) rfl) rfl
theorem wt4_11 : Cond.methodLink RL 92 yL_settles ∈ TT := t4_in (List.mem_of_getElem? (i := 11) rfl) rfl
theorem wt4_12 : Cond.static yL_settles ∈ TT := t4_in (List.mem_of_getElem? (i := 12) rfl) rfl
theorem wt4_13 : Cond.code yL_settles cL_settles 11 (some .boolean) ∈ TT := t4_in (List.mem_of_getElem? (i := 13) rfl) rfl
theorem wt4_14 : Cond.methodLink RL 69 yX8_settle ∈ TT := t4_in (List.mem_of_getElem? (i := 14) rfl) rfl
theorem wt4_15 : Cond.instanceMethod yX8_settle ∈ TT := t4_in (List.mem_of_getElem? (i := 15) rfl) rfl
theorem wt4_16 : Cond.selects RX8 yX8_settle yX8_settle ∈ TT := t4_in (List.mem_of_getElem? (i := 16) rfl) rfl
theorem wt4_17 : Cond.code yX8_settle cX8_settle 3 (some .int) ∈ TT := t4_in (List.mem_of_getElem? (i := 17) rfl) rfl
theorem wt4_18 : Cond.methodLink RX8 159 yX5_settleByHand ∈ TT := t4_in (List.mem_of_getElem? (i := 18) rfl) rfl
theorem wt4_19 : Cond.instanceMethod yX5_settleByHand ∈ TT := t4_in (List.mem_of_getElem? (i := 19) rfl) rfl
theorem wt4_20 : Cond.selects RX5 yX5_settleByHand yX5_settleByHand ∈ TT := t4_in (List.mem_of_getElem? (i := 20) rfl) rfl
theorem wt4_21 : Cond.code yX5_settleByHand cX5_settleByHand 3 none ∈ TT := t4_in (List.mem_of_getElem? (i := 21) rfl) rfl
theorem wt4_22 : Cond.methodLink RX5 175 yX6_changeFate ∈ TT := t4_in (List.mem_of_getElem? (i := 22) rfl) rfl
theorem wt4_23 : Cond.instanceMethod yX6_changeFate ∈ TT := t4_in (List.mem_of_getElem? (i := 23) rfl) rfl
theorem wt4_24 : Cond.selects RX6 yX6_changeFate yX6_changeFate ∈ TT := t4_in (List.mem_of_getElem? (i := 24) rfl) rfl
theorem wt4_25 : Cond.code yX6_changeFate cX6_changeFate 3 none ∈ TT := t4_in (List.mem_of_getElem? (i := 25) rfl) rfl
theorem wt4_26 : Cond.methodLink RX6 82 yX6_holds ∈ TT := t4_in (List.mem_of_getElem? (i := 26) rfl) rfl
theorem wt4_27 : Cond.instanceMethod yX6_holds ∈ TT := t4_in (List.mem_of_getElem? (i := 27) rfl) rfl
theorem wt4_28 : Cond.selects RX6 yX6_holds yX6_holds ∈ TT := t4_in (List.mem_of_getElem? (i := 28) rfl) rfl
theorem wt4_29 : Cond.code yX6_holds cX6_holds 2 (some .boolean) ∈ TT := t4_in (List.mem_of_getElem? (i := 29) rfl) rfl
theorem wt4_30 : Cond.methodLink RX5 179 yX6_originOf ∈ TT := t4_in (List.mem_of_getElem? (i := 30) rfl) rfl
theorem wt4_31 : Cond.instanceMethod yX6_originOf ∈ TT := t4_in (List.mem_of_getElem? (i := 31) rfl) rfl
theorem wt4_32 : Cond.selects RX6 yX6_originOf yX6_originOf ∈ TT := t4_in (List.mem_of_getElem? (i := 32) rfl) rfl
theorem wt4_33 : Cond.code yX6_originOf cX6_originOf 2 (some .int) ∈ TT := t4_in (List.mem_of_getElem? (i := 33) rfl) rfl
theorem wt4_34 : Cond.constantFloat RL 72 (1048576000) ∈ TT := t4_in (List.mem_of_getElem? (i := 34) rfl) rfl
theorem wt4_35 : Cond.methodLink RL 143 yL_errors ∈ TT := t4_in (List.mem_of_getElem? (i := 35) rfl) rfl
theorem wt4_36 : Cond.static yL_errors ∈ TT := t4_in (List.mem_of_getElem? (i := 36) rfl) rfl
theorem wt4_37 : Cond.code yL_errors cL_errors 6 (some .boolean) ∈ TT := t4_in (List.mem_of_getElem? (i := 37) rfl) rfl
theorem wt4_38 : Cond.methodLink RL 98 yX8_set ∈ TT := t4_in (List.mem_of_getElem? (i := 38) rfl) rfl
theorem wt4_39 : Cond.instanceMethod yX8_set ∈ TT := t4_in (List.mem_of_getElem? (i := 39) rfl) rfl
theorem wt4_40 : Cond.selects RX8 yX8_set yX8_set ∈ TT := t4_in (List.mem_of_getElem? (i := 40) rfl) rfl
theorem wt4_41 : Cond.code yX8_set cX8_set 4 (some .int) ∈ TT := t4_in (List.mem_of_getElem? (i := 41) rfl) rfl
theorem wt4_42 : Cond.methodLink RX8 111 yX4_accepts ∈ TT := t4_in (List.mem_of_getElem? (i := 42) rfl) rfl
theorem wt4_43 : Cond.static yX4_accepts ∈ TT := t4_in (List.mem_of_getElem? (i := 43) rfl) rfl
theorem wt4_44 : Cond.code yX4_accepts cX4_accepts 2 (some .boolean) ∈ TT := t4_in (List.mem_of_getElem? (i := 44) rfl) rfl
theorem wt4_45 : Cond.fieldLink RX4 35 "BlanketKeys$Settings" "LEAST_TOO_MUCH" "[I" ∈ TT := t4_in (List.mem_of_getElem? (i := 45) rfl) rfl
theorem wt4_47 : Cond.methodLink RX8 121 yX4_bitsOf ∈ TT := t4_in (List.mem_of_getElem? (i := 47) rfl) rfl
theorem wt4_48 : Cond.instanceMethod yX4_bitsOf ∈ TT := t4_in (List.mem_of_getElem? (i := 48) rfl) rfl
theorem wt4_49 : Cond.selects RX4 yX4_bitsOf yX4_bitsOf ∈ TT := t4_in (List.mem_of_getElem? (i := 49) rfl) rfl
theorem wt4_50 : Cond.code yX4_bitsOf cX4_bitsOf 2 (some .int) ∈ TT := t4_in (List.mem_of_getElem? (i := 50) rfl) rfl
theorem wt4_51 : Cond.methodLink RX4 38 yX1_at ∈ TT := t4_in (List.mem_of_getElem? (i := 51) rfl) rfl
theorem wt4_52 : Cond.methodLink RX8 124 yX4_change ∈ TT := t4_in (List.mem_of_getElem? (i := 52) rfl) rfl
theorem wt4_53 : Cond.instanceMethod yX4_change ∈ TT := t4_in (List.mem_of_getElem? (i := 53) rfl) rfl
theorem wt4_54 : Cond.selects RX4 yX4_change yX4_change ∈ TT := t4_in (List.mem_of_getElem? (i := 54) rfl) rfl
theorem wt4_55 : Cond.code yX4_change cX4_change 4 none ∈ TT := t4_in (List.mem_of_getElem? (i := 55) rfl) rfl
theorem wt4_56 : Cond.methodLink RX4 42 yX1_put ∈ TT := t4_in (List.mem_of_getElem? (i := 56) rfl) rfl
theorem wt4_57 : Cond.methodLink RX4 46 yX4_valueOf ∈ TT := t4_in (List.mem_of_getElem? (i := 57) rfl) rfl
theorem wt4_58 : Cond.static yX4_valueOf ∈ TT := t4_in (List.mem_of_getElem? (i := 58) rfl) rfl
theorem wt4_59 : Cond.code yX4_valueOf cX4_valueOf 6 (some .float) ∈ TT := t4_in (List.mem_of_getElem? (i := 59) rfl) rfl
theorem wt4_60 : Cond.constant RX4 50 (8388607) ∈ TT := t4_in (List.mem_of_getElem? (i := 60) rfl) rfl
theorem wt4_61 : Cond.constant RX4 51 (8388608) ∈ TT := t4_in (List.mem_of_getElem? (i := 61) rfl) rfl
theorem wt4_62 : Cond.constant RL 101 (-2147483648) ∈ TT := t4_in (List.mem_of_getElem? (i := 62) rfl) rfl
theorem wt4_63 : Cond.constant RL 102 (1065353217) ∈ TT := t4_in (List.mem_of_getElem? (i := 63) rfl) rfl
theorem wt4_64 : Cond.constant RL 103 (2143289344) ∈ TT := t4_in (List.mem_of_getElem? (i := 64) rfl) rfl
theorem wt4_65 : Cond.constant RL 104 (1040187392) ∈ TT := t4_in (List.mem_of_getElem? (i := 65) rfl) rfl
theorem wt4_66 : Cond.methodLink RL 105 yX8_clearText ∈ TT := t4_in (List.mem_of_getElem? (i := 66) rfl) rfl
theorem wt4_67 : Cond.instanceMethod yX8_clearText ∈ TT := t4_in (List.mem_of_getElem? (i := 67) rfl) rfl
theorem wt4_68 : Cond.selects RX8 yX8_clearText yX8_clearText ∈ TT := t4_in (List.mem_of_getElem? (i := 68) rfl) rfl
theorem wt4_69 : Cond.code yX8_clearText cX8_clearText 2 (some .int) ∈ TT := t4_in (List.mem_of_getElem? (i := 69) rfl) rfl
theorem wt4_70 : Cond.methodLink RL 109 yX8_perform ∈ TT := t4_in (List.mem_of_getElem? (i := 70) rfl) rfl
theorem wt4_71 : Cond.instanceMethod yX8_perform ∈ TT := t4_in (List.mem_of_getElem? (i := 71) rfl) rfl
theorem wt4_72 : Cond.selects RX8 yX8_perform yX8_perform ∈ TT := t4_in (List.mem_of_getElem? (i := 72) rfl) rfl
theorem wt4_73 : Cond.code yX8_perform cX8_perform 6 (some .int) ∈ TT := t4_in (List.mem_of_getElem? (i := 73) rfl) rfl
theorem wt4_74 : Cond.methodLink RX8 172 yX3_fault ∈ TT := t4_in (List.mem_of_getElem? (i := 74) rfl) rfl
theorem wt4_75 : Cond.instanceMethod yX3_fault ∈ TT := t4_in (List.mem_of_getElem? (i := 75) rfl) rfl
theorem wt4_76 : Cond.selects RX3 yX3_fault yX3_fault ∈ TT := t4_in (List.mem_of_getElem? (i := 76) rfl) rfl
theorem wt4_77 : Cond.code yX3_fault cX3_fault 3 (some .int) ∈ TT := t4_in (List.mem_of_getElem? (i := 77) rfl) rfl
theorem wt4_78 : Cond.methodLink RX3 19 yX3_characterAt ∈ TT := t4_in (List.mem_of_getElem? (i := 78) rfl) rfl
theorem wt4_79 : Cond.instanceMethod yX3_characterAt ∈ TT := t4_in (List.mem_of_getElem? (i := 79) rfl) rfl
theorem wt4_80 : Cond.selects RX3 yX3_characterAt yX3_characterAt ∈ TT := t4_in (List.mem_of_getElem? (i := 80) rfl) rfl
theorem wt4_81 : Cond.code yX3_characterAt cX3_characterAt 2 (some .char) ∈ TT := t4_in (List.mem_of_getElem? (i := 81) rfl) rfl
theorem wt4_82 : Cond.methodLink RX3 23 yX3_placeAfter ∈ TT := t4_in (List.mem_of_getElem? (i := 82) rfl) rfl
theorem wt4_83 : Cond.static yX3_placeAfter ∈ TT := t4_in (List.mem_of_getElem? (i := 83) rfl) rfl
theorem wt4_84 : Cond.code yX3_placeAfter cX3_placeAfter 2 (some .int) ∈ TT := t4_in (List.mem_of_getElem? (i := 84) rfl) rfl
theorem wt4_85 : Cond.methodLink RX3 27 yX3_isDigit ∈ TT := t4_in (List.mem_of_getElem? (i := 85) rfl) rfl
theorem wt4_86 : Cond.static yX3_isDigit ∈ TT := t4_in (List.mem_of_getElem? (i := 86) rfl) rfl
theorem wt4_87 : Cond.code yX3_isDigit cX3_isDigit 1 (some .boolean) ∈ TT := t4_in (List.mem_of_getElem? (i := 87) rfl) rfl
theorem wt4_88 : Cond.methodLink RX8 178 yX3_isMoveEnd ∈ TT := t4_in (List.mem_of_getElem? (i := 88) rfl) rfl
theorem wt4_89 : Cond.instanceMethod yX3_isMoveEnd ∈ TT := t4_in (List.mem_of_getElem? (i := 89) rfl) rfl
theorem wt4_90 : Cond.selects RX3 yX3_isMoveEnd yX3_isMoveEnd ∈ TT := t4_in (List.mem_of_getElem? (i := 90) rfl) rfl
theorem wt4_91 : Cond.code yX3_isMoveEnd cX3_isMoveEnd 2 (some .boolean) ∈ TT := t4_in (List.mem_of_getElem? (i := 91) rfl) rfl
theorem wt4_92 : Cond.methodLink RX8 181 yX8_move ∈ TT := t4_in (List.mem_of_getElem? (i := 92) rfl) rfl
theorem wt4_94 : Cond.instanceMethod yX8_move ∈ TT := t4_in (List.mem_of_getElem? (i := 94) rfl) rfl
theorem wt4_95 : Cond.code yX8_move cX8_move 8 (some .int) ∈ TT := t4_in (List.mem_of_getElem? (i := 95) rfl) rfl
theorem wt4_96 : Cond.methodLink RX8 184 yX3_characterAt ∈ TT := t4_in (List.mem_of_getElem? (i := 96) rfl) rfl
theorem wt4_97 : Cond.methodLink RX8 188 yX3_number ∈ TT := t4_in (List.mem_of_getElem? (i := 97) rfl) rfl
theorem wt4_98 : Cond.instanceMethod yX3_number ∈ TT := t4_in (List.mem_of_getElem? (i := 98) rfl) rfl
theorem wt4_99 : Cond.selects RX3 yX3_number yX3_number ∈ TT := t4_in (List.mem_of_getElem? (i := 99) rfl) rfl
theorem wt4_100 : Cond.code yX3_number cX3_number 5 (some .int) ∈ TT := t4_in (List.mem_of_getElem? (i := 100) rfl) rfl
theorem wt4_101 : Cond.methodLink RL 112 yX8_type ∈ TT := t4_in (List.mem_of_getElem? (i := 101) rfl) rfl
theorem wt4_102 : Cond.instanceMethod yX8_type ∈ TT := t4_in (List.mem_of_getElem? (i := 102) rfl) rfl
theorem wt4_103 : Cond.selects RX8 yX8_type yX8_type ∈ TT := t4_in (List.mem_of_getElem? (i := 103) rfl) rfl
theorem wt4_104 : Cond.code yX8_type cX8_type 2 (some .int) ∈ TT := t4_in (List.mem_of_getElem? (i := 104) rfl) rfl
theorem wt4_105 : Cond.methodLink RX8 165 yX3_append ∈ TT := t4_in (List.mem_of_getElem? (i := 105) rfl) rfl
theorem wt4_106 : Cond.instanceMethod yX3_append ∈ TT := t4_in (List.mem_of_getElem? (i := 106) rfl) rfl
theorem wt4_107 : Cond.selects RX3 yX3_append yX3_append ∈ TT := t4_in (List.mem_of_getElem? (i := 107) rfl) rfl
theorem wt4_108 : Cond.code yX3_append cX3_append 2 (some .boolean) ∈ TT := t4_in (List.mem_of_getElem? (i := 108) rfl) rfl
theorem wt0_0 : Cond.selects RX8 yX8_meanOf yX8_meanOf ∈ TT := t0_in (List.mem_of_getElem? (i := 0) rfl) rfl
theorem wt0_1 : Cond.selects RX8 yX8_move yX8_move ∈ TT := t0_in (List.mem_of_getElem? (i := 1) rfl) rfl
theorem uinX0 : ∀ w ∈ wsX00, w ∈ TT := by
  have e : wsX00 = [Cond.lays RX0 "BlanketKeys$Board" "rows" "I", Cond.lays RX0 "BlanketKeys$Board" "columns" "I", Cond.laysFinal RX0 "BlanketKeys$Board" "holders" "[I", Cond.laysFinal RX0 "BlanketKeys$Board" "signs" "[I", Cond.laysFinal RX0 "BlanketKeys$Board" "sinces" "[I", Cond.laysFinal RX0 "BlanketKeys$Board" "notedShifts" "[I", Cond.laysFinal RX0 "BlanketKeys$Board" "trueHolders" "[I", Cond.laysFinal RX0 "BlanketKeys$Board" "down" "[I", Cond.laysFinal RX0 "BlanketKeys$Board" "seen" "[I", Cond.laysFinal RX0 "BlanketKeys$Board" "doubtful" "[I", Cond.laysFinal RX0 "BlanketKeys$Board" "shifts" "[I"] := rfl
  rw [e]
  exact List.forall_mem_cons.mpr ⟨wt1_53, List.forall_mem_cons.mpr ⟨wt1_55, List.forall_mem_cons.mpr ⟨wt1_57, List.forall_mem_cons.mpr ⟨wt1_59, List.forall_mem_cons.mpr ⟨wt1_61, List.forall_mem_cons.mpr ⟨wt1_63, List.forall_mem_cons.mpr ⟨wt1_65, List.forall_mem_cons.mpr ⟨wt1_67, List.forall_mem_cons.mpr ⟨wt1_69, List.forall_mem_cons.mpr ⟨wt1_71, List.forall_mem_cons.mpr ⟨wt1_73, fun _ h => absurd h List.not_mem_nil⟩⟩⟩⟩⟩⟩⟩⟩⟩⟩⟩
theorem uinX2 : ∀ w ∈ wsX20, w ∈ TT := by
  have e : wsX20 = [Cond.lays RX2 "BlanketKeys$History" "depth" "I", Cond.lays RX2 "BlanketKeys$History" "latest" "LBlanketKeys$State;", Cond.lays RX2 "BlanketKeys$History" "second" "LBlanketKeys$State;", Cond.lays RX2 "BlanketKeys$History" "third" "LBlanketKeys$State;", Cond.lays RX2 "BlanketKeys$History" "oldest" "LBlanketKeys$State;"] := rfl
  rw [e]
  exact List.forall_mem_cons.mpr ⟨wt1_238, List.forall_mem_cons.mpr ⟨wt2_0, List.forall_mem_cons.mpr ⟨wt2_2, List.forall_mem_cons.mpr ⟨wt2_4, List.forall_mem_cons.mpr ⟨wt2_6, fun _ h => absurd h List.not_mem_nil⟩⟩⟩⟩⟩
theorem uinX3 : ∀ w ∈ wsX30, w ∈ TT := by
  have e : wsX30 = [Cond.lays RX3 "BlanketKeys$Script" "length" "I", Cond.laysFinal RX3 "BlanketKeys$Script" "characters" "[C"] := rfl
  rw [e]
  exact List.forall_mem_cons.mpr ⟨wt2_18, List.forall_mem_cons.mpr ⟨wt2_20, fun _ h => absurd h List.not_mem_nil⟩⟩
theorem uinX4 : ∀ w ∈ wsX40, w ∈ TT := by
  have e : wsX40 = [Cond.laysFinal RX4 "BlanketKeys$Settings" "bits" "[I", Cond.lays RX4 "BlanketKeys$Settings" "margin" "F", Cond.lays RX4 "BlanketKeys$Settings" "trust" "F", Cond.lays RX4 "BlanketKeys$Settings" "rate" "F"] := rfl
  rw [e]
  exact List.forall_mem_cons.mpr ⟨wt1_174, List.forall_mem_cons.mpr ⟨wt1_176, List.forall_mem_cons.mpr ⟨wt1_178, List.forall_mem_cons.mpr ⟨wt1_180, fun _ h => absurd h List.not_mem_nil⟩⟩⟩⟩
theorem uinX5 : ∀ w ∈ wsX50, w ∈ TT := by
  have e : wsX50 = [Cond.laysFinal RX5 "BlanketKeys$State" "board" "LBlanketKeys$Board;", Cond.laysFinal RX5 "BlanketKeys$State" "first" "LBlanketKeys$Typist;", Cond.laysFinal RX5 "BlanketKeys$State" "second" "LBlanketKeys$Typist;", Cond.laysFinal RX5 "BlanketKeys$State" "ended" "LBlanketKeys$Strokes;", Cond.laysFinal RX5 "BlanketKeys$State" "disputes" "LBlanketKeys$Strokes;", Cond.laysFinal RX5 "BlanketKeys$State" "settings" "LBlanketKeys$Settings;", Cond.lays RX5 "BlanketKeys$State" "time" "I", Cond.lays RX5 "BlanketKeys$State" "ghosts" "I", Cond.lays RX5 "BlanketKeys$State" "ghostsOfNobody" "I", Cond.lays RX5 "BlanketKeys$State" "openDisputes" "I"] := rfl
  rw [e]
  exact List.forall_mem_cons.mpr ⟨wt1_203, List.forall_mem_cons.mpr ⟨wt1_205, List.forall_mem_cons.mpr ⟨wt1_207, List.forall_mem_cons.mpr ⟨wt1_209, List.forall_mem_cons.mpr ⟨wt1_211, List.forall_mem_cons.mpr ⟨wt1_213, List.forall_mem_cons.mpr ⟨wt1_215, List.forall_mem_cons.mpr ⟨wt1_217, List.forall_mem_cons.mpr ⟨wt1_219, List.forall_mem_cons.mpr ⟨wt1_221, fun _ h => absurd h List.not_mem_nil⟩⟩⟩⟩⟩⟩⟩⟩⟩⟩
theorem uinX6 : ∀ w ∈ wsX60, w ∈ TT := by
  have e : wsX60 = [Cond.lays RX6 "BlanketKeys$Strokes" "total" "I", Cond.laysFinal RX6 "BlanketKeys$Strokes" "keys" "[I", Cond.laysFinal RX6 "BlanketKeys$Strokes" "sinces" "[I", Cond.laysFinal RX6 "BlanketKeys$Strokes" "dwells" "[I", Cond.laysFinal RX6 "BlanketKeys$Strokes" "fates" "[I", Cond.laysFinal RX6 "BlanketKeys$Strokes" "holders" "[I", Cond.laysFinal RX6 "BlanketKeys$Strokes" "notedShifts" "[I", Cond.laysFinal RX6 "BlanketKeys$Strokes" "origins" "[I"] := rfl
  rw [e]
  exact List.forall_mem_cons.mpr ⟨wt1_138, List.forall_mem_cons.mpr ⟨wt1_140, List.forall_mem_cons.mpr ⟨wt1_142, List.forall_mem_cons.mpr ⟨wt1_144, List.forall_mem_cons.mpr ⟨wt1_146, List.forall_mem_cons.mpr ⟨wt1_148, List.forall_mem_cons.mpr ⟨wt1_150, List.forall_mem_cons.mpr ⟨wt1_152, fun _ h => absurd h List.not_mem_nil⟩⟩⟩⟩⟩⟩⟩⟩
theorem uinX7 : ∀ w ∈ wsX70, w ∈ TT := by
  have e : wsX70 = [Cond.lays RX7 "BlanketKeys$Typist" "meanDwell" "F", Cond.lays RX7 "BlanketKeys$Typist" "meanGap" "F", Cond.lays RX7 "BlanketKeys$Typist" "last" "I", Cond.lays RX7 "BlanketKeys$Typist" "borrows" "Z", Cond.lays RX7 "BlanketKeys$Typist" "credited" "I", Cond.lays RX7 "BlanketKeys$Typist" "creditedRightly" "I", Cond.lays RX7 "BlanketKeys$Typist" "signCount" "I", Cond.laysFinal RX7 "BlanketKeys$Typist" "signs" "[I"] := rfl
  rw [e]
  exact List.forall_mem_cons.mpr ⟨wt1_103, List.forall_mem_cons.mpr ⟨wt1_105, List.forall_mem_cons.mpr ⟨wt1_107, List.forall_mem_cons.mpr ⟨wt1_109, List.forall_mem_cons.mpr ⟨wt1_111, List.forall_mem_cons.mpr ⟨wt1_113, List.forall_mem_cons.mpr ⟨wt1_115, List.forall_mem_cons.mpr ⟨wt1_117, fun _ h => absurd h List.not_mem_nil⟩⟩⟩⟩⟩⟩⟩⟩
theorem uinX8 : ∀ w ∈ wsX80, w ∈ TT := by
  have e : wsX80 = [Cond.laysFinal RX8 "BlanketKeys" "now" "LBlanketKeys$State;", Cond.laysFinal RX8 "BlanketKeys" "beforeScript" "LBlanketKeys$State;", Cond.laysFinal RX8 "BlanketKeys" "snapshot" "LBlanketKeys$State;", Cond.laysFinal RX8 "BlanketKeys" "history" "LBlanketKeys$History;", Cond.laysFinal RX8 "BlanketKeys" "script" "LBlanketKeys$Script;", Cond.lays RX8 "BlanketKeys" "hasSnapshot" "Z"] := rfl
  rw [e]
  exact List.forall_mem_cons.mpr ⟨wt2_30, List.forall_mem_cons.mpr ⟨wt2_32, List.forall_mem_cons.mpr ⟨wt2_34, List.forall_mem_cons.mpr ⟨wt2_36, List.forall_mem_cons.mpr ⟨wt2_38, List.forall_mem_cons.mpr ⟨wt2_40, fun _ h => absurd h List.not_mem_nil⟩⟩⟩⟩⟩⟩
