theorem kf_0_2 : ∀ {b : Nat}, kd b = 0 → kd (b + 1) = 20 := fun {b} h => kd_all (P := fun b => kd (b + 1) = 20) (by decide) (by decide +kernel) b h
theorem kf_0_3 : ∀ {b : Nat}, kd b = 0 → kd (b + 2) = 20 := fun {b} h => kd_all (P := fun b => kd (b + 2) = 20) (by decide) (by decide +kernel) b h
theorem kf_0_4 : ∀ {b : Nat}, kd b = 0 → kd (b + 3) = 20 := fun {b} h => kd_all (P := fun b => kd (b + 3) = 20) (by decide) (by decide +kernel) b h
theorem kf_0_5 : ∀ {b : Nat}, kd b = 0 → kd (b + 4) = 20 := fun {b} h => kd_all (P := fun b => kd (b + 4) = 20) (by decide) (by decide +kernel) b h
theorem kf_0_6 : ∀ {b : Nat}, kd b = 0 → kd (b + 5) = 20 := fun {b} h => kd_all (P := fun b => kd (b + 5) = 20) (by decide) (by decide +kernel) b h
theorem kf_0_7 : ∀ {b : Nat}, kd b = 0 → kd (b + 6) = 20 := fun {b} h => kd_all (P := fun b => kd (b + 6) = 20) (by decide) (by decide +kernel) b h
theorem kf_0_8 : ∀ {b : Nat}, kd b = 0 → kd (b + 7) = 20 := fun {b} h => kd_all (P := fun b => kd (b + 7) = 20) (by decide) (by decide +kernel) b h
theorem kf_0_9 : ∀ {b : Nat}, kd b = 0 → kd (b + 8) = 20 := fun {b} h => kd_all (P := fun b => kd (b + 8) = 20) (by decide) (by decide +kernel) b h
theorem kf_0_10 : ∀ {b : Nat}, kd b = 0 → kd (b + 9) = 20 := fun {b} h => kd_all (P := fun b => kd (b + 9) = 20) (by decide) (by decide +kernel) b h
theorem kf_2_1 : ∀ {b : Nat}, kd b = 2 → kd (b + 1) = 22 := fun {b} h => kd_all (P := fun b => kd (b + 1) = 22) (by decide) (by decide +kernel) b h
theorem kf_3_0 : ∀ {b : Nat}, kd b = 3 → kd (b + 1) = 20 := fun {b} h => kd_all (P := fun b => kd (b + 1) = 20) (by decide) (by decide +kernel) b h
theorem kf_4_0 : ∀ {b : Nat}, kd b = 4 → kd (b + 1) = 0 := fun {b} h => kd_all (P := fun b => kd (b + 1) = 0) (by decide) (by decide +kernel) b h
theorem kf_4_1 : ∀ {b : Nat}, kd b = 4 → kd (b + 11) = 6 := fun {b} h => kd_all (P := fun b => kd (b + 11) = 6) (by decide) (by decide +kernel) b h
theorem kf_4_2 : ∀ {b : Nat}, kd b = 4 → kd (b + 13) = 6 := fun {b} h => kd_all (P := fun b => kd (b + 13) = 6) (by decide) (by decide +kernel) b h
theorem kf_4_3 : ∀ {b : Nat}, kd b = 4 → kd (b + 15) = 5 := fun {b} h => kd_all (P := fun b => kd (b + 15) = 5) (by decide) (by decide +kernel) b h
theorem kf_4_4 : ∀ {b : Nat}, kd b = 4 → kd (b + 23) = 5 := fun {b} h => kd_all (P := fun b => kd (b + 23) = 5) (by decide) (by decide +kernel) b h
theorem kf_4_5 : ∀ {b : Nat}, kd b = 4 → kd (b + 31) = 3 := fun {b} h => kd_all (P := fun b => kd (b + 31) = 3) (by decide) (by decide +kernel) b h
theorem kf_5_1 : ∀ {b : Nat}, kd b = 5 → kd (b + 1) = 20 := fun {b} h => kd_all (P := fun b => kd (b + 1) = 20) (by decide) (by decide +kernel) b h
theorem kf_5_2 : ∀ {b : Nat}, kd b = 5 → kd (b + 2) = 20 := fun {b} h => kd_all (P := fun b => kd (b + 2) = 20) (by decide) (by decide +kernel) b h
theorem kf_5_3 : ∀ {b : Nat}, kd b = 5 → kd (b + 3) = 20 := fun {b} h => kd_all (P := fun b => kd (b + 3) = 20) (by decide) (by decide +kernel) b h
theorem kf_5_4 : ∀ {b : Nat}, kd b = 5 → kd (b + 4) = 20 := fun {b} h => kd_all (P := fun b => kd (b + 4) = 20) (by decide) (by decide +kernel) b h
theorem kf_5_5 : ∀ {b : Nat}, kd b = 5 → kd (b + 5) = 20 := fun {b} h => kd_all (P := fun b => kd (b + 5) = 20) (by decide) (by decide +kernel) b h
theorem kf_5_6 : ∀ {b : Nat}, kd b = 5 → kd (b + 6) = 20 := fun {b} h => kd_all (P := fun b => kd (b + 6) = 20) (by decide) (by decide +kernel) b h
theorem kf_5_7 : ∀ {b : Nat}, kd b = 5 → kd (b + 7) = 20 := fun {b} h => kd_all (P := fun b => kd (b + 7) = 20) (by decide) (by decide +kernel) b h
theorem kf_6_7 : ∀ {b : Nat}, kd b = 6 → kd (b + 1) = 20 := fun {b} h => kd_all (P := fun b => kd (b + 1) = 20) (by decide) (by decide +kernel) b h
theorem kf_7_0 : ∀ {b : Nat}, kd b = 7 → kd (b + 1) = 4 := fun {b} h => kd_all (P := fun b => kd (b + 1) = 4) (by decide) (by decide +kernel) b h
theorem kf_7_1 : ∀ {b : Nat}, kd b = 7 → kd (b + 34) = 4 := fun {b} h => kd_all (P := fun b => kd (b + 34) = 4) (by decide) (by decide +kernel) b h
theorem kf_7_2 : ∀ {b : Nat}, kd b = 7 → kd (b + 67) = 4 := fun {b} h => kd_all (P := fun b => kd (b + 67) = 4) (by decide) (by decide +kernel) b h
theorem kf_7_3 : ∀ {b : Nat}, kd b = 7 → kd (b + 100) = 1 := fun {b} h => kd_all (P := fun b => kd (b + 100) = 1) (by decide) (by decide +kernel) b h
theorem kf_7_4 : ∀ {b : Nat}, kd b = 7 → kd (b + 233) = 2 := fun {b} h => kd_all (P := fun b => kd (b + 233) = 2) (by decide) (by decide +kernel) b h
theorem fl_X0_9 : FL RX0 9 0 0 true := ⟨RX0, TX0, 11, tyX0, rfl, by decide, wt1_37, rfl, uinX0, tyX0_ok, nmX0, rfl⟩
theorem fl_X0_15 : FL RX0 15 0 1 true := ⟨RX0, TX0, 11, tyX0, rfl, by decide, wt1_40, rfl, uinX0, tyX0_ok, nmX0, rfl⟩
theorem fl_X0_18 : FL RX0 18 0 2 false := ⟨RX0, TX0, 11, tyX0, rfl, by decide, wt1_43, rfl, uinX0, tyX0_ok, nmX0, rfl⟩
theorem fl_X0_22 : FL RX0 22 0 3 false := ⟨RX0, TX0, 11, tyX0, rfl, by decide, wt1_44, rfl, uinX0, tyX0_ok, nmX0, rfl⟩
theorem fl_X0_25 : FL RX0 25 0 4 false := ⟨RX0, TX0, 11, tyX0, rfl, by decide, wt1_45, rfl, uinX0, tyX0_ok, nmX0, rfl⟩
theorem fl_X0_28 : FL RX0 28 0 5 false := ⟨RX0, TX0, 11, tyX0, rfl, by decide, wt1_46, rfl, uinX0, tyX0_ok, nmX0, rfl⟩
theorem fl_X0_31 : FL RX0 31 0 6 false := ⟨RX0, TX0, 11, tyX0, rfl, by decide, wt1_47, rfl, uinX0, tyX0_ok, nmX0, rfl⟩
theorem fl_X0_34 : FL RX0 34 0 7 false := ⟨RX0, TX0, 11, tyX0, rfl, by decide, wt1_48, rfl, uinX0, tyX0_ok, nmX0, rfl⟩
theorem fl_X0_37 : FL RX0 37 0 8 false := ⟨RX0, TX0, 11, tyX0, rfl, by decide, wt1_49, rfl, uinX0, tyX0_ok, nmX0, rfl⟩
theorem fl_X0_40 : FL RX0 40 0 9 false := ⟨RX0, TX0, 11, tyX0, rfl, by decide, wt1_51, rfl, uinX0, tyX0_ok, nmX0, rfl⟩
theorem fl_X0_43 : FL RX0 43 0 10 false := ⟨RX0, TX0, 11, tyX0, rfl, by decide, wt1_52, rfl, uinX0, tyX0_ok, nmX0, rfl⟩
theorem fl_X2_12 : FL RX2 12 1 1 true := ⟨RX2, TX2, 5, tyX2, rfl, by decide, wt1_234, rfl, uinX2, tyX2_ok, nmX2, rfl⟩
theorem fl_X2_18 : FL RX2 18 1 2 true := ⟨RX2, TX2, 5, tyX2, rfl, by decide, wt1_235, rfl, uinX2, tyX2_ok, nmX2, rfl⟩
theorem fl_X2_21 : FL RX2 21 1 3 true := ⟨RX2, TX2, 5, tyX2, rfl, by decide, wt1_236, rfl, uinX2, tyX2_ok, nmX2, rfl⟩
theorem fl_X2_24 : FL RX2 24 1 4 true := ⟨RX2, TX2, 5, tyX2, rfl, by decide, wt1_237, rfl, uinX2, tyX2_ok, nmX2, rfl⟩
theorem fl_X2_31 : FL RX2 31 1 0 true := ⟨RX2, TX2, 5, tyX2, rfl, by decide, wt1_232, rfl, uinX2, tyX2_ok, nmX2, rfl⟩
theorem fl_X3_9 : FL RX3 9 2 1 false := ⟨RX3, TX3, 2, tyX3, rfl, by decide, wt2_17, rfl, uinX3, tyX3_ok, nmX3, rfl⟩
theorem fl_X3_15 : FL RX3 15 2 0 true := ⟨RX3, TX3, 2, tyX3, rfl, by decide, wt2_15, rfl, uinX3, tyX3_ok, nmX3, rfl⟩
theorem fl_X4_12 : FL RX4 12 3 0 false := ⟨RX4, TX4, 4, tyX4, rfl, by decide, wt1_167, rfl, uinX4, tyX4_ok, nmX4, rfl⟩
theorem fl_X4_17 : FL RX4 17 3 1 true := ⟨RX4, TX4, 4, tyX4, rfl, by decide, wt1_168, rfl, uinX4, tyX4_ok, nmX4, rfl⟩
theorem fl_X4_22 : FL RX4 22 3 2 true := ⟨RX4, TX4, 4, tyX4, rfl, by decide, wt1_170, rfl, uinX4, tyX4_ok, nmX4, rfl⟩
theorem fl_X4_26 : FL RX4 26 3 3 true := ⟨RX4, TX4, 4, tyX4, rfl, by decide, wt1_172, rfl, uinX4, tyX4_ok, nmX4, rfl⟩
theorem fl_X5_12 : FL RX5 12 4 0 false := ⟨RX5, TX5, 10, tyX5, rfl, by decide, wt1_183, rfl, uinX5, tyX5_ok, nmX5, rfl⟩
theorem fl_X5_25 : FL RX5 25 4 1 false := ⟨RX5, TX5, 10, tyX5, rfl, by decide, wt1_185, rfl, uinX5, tyX5_ok, nmX5, rfl⟩
theorem fl_X5_31 : FL RX5 31 4 2 false := ⟨RX5, TX5, 10, tyX5, rfl, by decide, wt1_187, rfl, uinX5, tyX5_ok, nmX5, rfl⟩
theorem fl_X5_37 : FL RX5 37 4 3 false := ⟨RX5, TX5, 10, tyX5, rfl, by decide, wt1_189, rfl, uinX5, tyX5_ok, nmX5, rfl⟩
theorem fl_X5_41 : FL RX5 41 4 4 false := ⟨RX5, TX5, 10, tyX5, rfl, by decide, wt1_191, rfl, uinX5, tyX5_ok, nmX5, rfl⟩
theorem fl_X5_47 : FL RX5 47 4 5 false := ⟨RX5, TX5, 10, tyX5, rfl, by decide, wt1_193, rfl, uinX5, tyX5_ok, nmX5, rfl⟩
theorem fl_X5_64 : FL RX5 64 4 6 true := ⟨RX5, TX5, 10, tyX5, rfl, by decide, wt1_195, rfl, uinX5, tyX5_ok, nmX5, rfl⟩
theorem fl_X5_68 : FL RX5 68 4 7 true := ⟨RX5, TX5, 10, tyX5, rfl, by decide, wt1_197, rfl, uinX5, tyX5_ok, nmX5, rfl⟩
theorem fl_X5_71 : FL RX5 71 4 8 true := ⟨RX5, TX5, 10, tyX5, rfl, by decide, wt1_199, rfl, uinX5, tyX5_ok, nmX5, rfl⟩
theorem fl_X5_74 : FL RX5 74 4 9 true := ⟨RX5, TX5, 10, tyX5, rfl, by decide, wt1_201, rfl, uinX5, tyX5_ok, nmX5, rfl⟩
theorem fl_X5_77 : FL RX5 77 5 0 true := ⟨RX6, TX6, 8, tyX6, rfl, by decide, wt1_129, rfl, uinX6, tyX6_ok, nmX6, rfl⟩
theorem fl_X5_97 : FL RX5 97 0 0 true := ⟨RX0, TX0, 11, tyX0, rfl, by decide, wt1_39, rfl, uinX0, tyX0_ok, nmX0, rfl⟩
theorem fl_X5_110 : FL RX5 110 0 8 false := ⟨RX0, TX0, 11, tyX0, rfl, by decide, wt1_50, rfl, uinX0, tyX0_ok, nmX0, rfl⟩
theorem fl_X5_123 : FL RX5 123 0 1 true := ⟨RX0, TX0, 11, tyX0, rfl, by decide, wt1_42, rfl, uinX0, tyX0_ok, nmX0, rfl⟩
theorem fl_X5_147 : FL RX5 147 3 2 true := ⟨RX4, TX4, 4, tyX4, rfl, by decide, wt1_171, rfl, uinX4, tyX4_ok, nmX4, rfl⟩
theorem fl_X5_155 : FL RX5 155 3 1 true := ⟨RX4, TX4, 4, tyX4, rfl, by decide, wt1_169, rfl, uinX4, tyX4_ok, nmX4, rfl⟩
theorem fl_X5_187 : FL RX5 187 6 4 true := ⟨RX7, TX7, 8, tyX7, rfl, by decide, wt1_95, rfl, uinX7, tyX7_ok, nmX7, rfl⟩
theorem fl_X5_190 : FL RX5 190 6 5 true := ⟨RX7, TX7, 8, tyX7, rfl, by decide, wt1_98, rfl, uinX7, tyX7_ok, nmX7, rfl⟩
theorem fl_X5_197 : FL RX5 197 3 3 true := ⟨RX4, TX4, 4, tyX4, rfl, by decide, wt1_173, rfl, uinX4, tyX4_ok, nmX4, rfl⟩
theorem fl_X5_210 : FL RX5 210 6 3 true := ⟨RX7, TX7, 8, tyX7, rfl, by decide, wt1_92, rfl, uinX7, tyX7_ok, nmX7, rfl⟩
theorem fl_X6_11 : FL RX6 11 5 1 false := ⟨RX6, TX6, 8, tyX6, rfl, by decide, wt1_131, rfl, uinX6, tyX6_ok, nmX6, rfl⟩
theorem fl_X6_15 : FL RX6 15 5 2 false := ⟨RX6, TX6, 8, tyX6, rfl, by decide, wt1_132, rfl, uinX6, tyX6_ok, nmX6, rfl⟩
theorem fl_X6_18 : FL RX6 18 5 3 false := ⟨RX6, TX6, 8, tyX6, rfl, by decide, wt1_133, rfl, uinX6, tyX6_ok, nmX6, rfl⟩
theorem fl_X6_21 : FL RX6 21 5 4 false := ⟨RX6, TX6, 8, tyX6, rfl, by decide, wt1_134, rfl, uinX6, tyX6_ok, nmX6, rfl⟩
theorem fl_X6_24 : FL RX6 24 5 5 false := ⟨RX6, TX6, 8, tyX6, rfl, by decide, wt1_135, rfl, uinX6, tyX6_ok, nmX6, rfl⟩
theorem fl_X6_27 : FL RX6 27 5 6 false := ⟨RX6, TX6, 8, tyX6, rfl, by decide, wt1_136, rfl, uinX6, tyX6_ok, nmX6, rfl⟩
theorem fl_X6_30 : FL RX6 30 5 7 false := ⟨RX6, TX6, 8, tyX6, rfl, by decide, wt1_137, rfl, uinX6, tyX6_ok, nmX6, rfl⟩
theorem fl_X6_33 : FL RX6 33 5 0 true := ⟨RX6, TX6, 8, tyX6, rfl, by decide, wt1_128, rfl, uinX6, tyX6_ok, nmX6, rfl⟩
theorem fl_X7_9 : FL RX7 9 6 2 true := ⟨RX7, TX7, 8, tyX7, rfl, by decide, wt1_89, rfl, uinX7, tyX7_ok, nmX7, rfl⟩
theorem fl_X7_15 : FL RX7 15 6 7 false := ⟨RX7, TX7, 8, tyX7, rfl, by decide, wt1_102, rfl, uinX7, tyX7_ok, nmX7, rfl⟩
theorem fl_X7_19 : FL RX7 19 6 0 true := ⟨RX7, TX7, 8, tyX7, rfl, by decide, wt1_85, rfl, uinX7, tyX7_ok, nmX7, rfl⟩
theorem fl_X7_23 : FL RX7 23 6 1 true := ⟨RX7, TX7, 8, tyX7, rfl, by decide, wt1_87, rfl, uinX7, tyX7_ok, nmX7, rfl⟩
theorem fl_X7_26 : FL RX7 26 6 3 true := ⟨RX7, TX7, 8, tyX7, rfl, by decide, wt1_91, rfl, uinX7, tyX7_ok, nmX7, rfl⟩
theorem fl_X7_30 : FL RX7 30 6 4 true := ⟨RX7, TX7, 8, tyX7, rfl, by decide, wt1_94, rfl, uinX7, tyX7_ok, nmX7, rfl⟩
theorem fl_X7_33 : FL RX7 33 6 5 true := ⟨RX7, TX7, 8, tyX7, rfl, by decide, wt1_97, rfl, uinX7, tyX7_ok, nmX7, rfl⟩
theorem fl_X7_36 : FL RX7 36 6 6 true := ⟨RX7, TX7, 8, tyX7, rfl, by decide, wt1_100, rfl, uinX7, tyX7_ok, nmX7, rfl⟩
theorem fl_X8_12 : FL RX8 12 7 0 false := ⟨RX8, TX8, 6, tyX8, rfl, by decide, wt2_24, rfl, uinX8, tyX8_ok, nmX8, rfl⟩
theorem fl_X8_16 : FL RX8 16 7 1 false := ⟨RX8, TX8, 6, tyX8, rfl, by decide, wt2_25, rfl, uinX8, tyX8_ok, nmX8, rfl⟩
theorem fl_X8_19 : FL RX8 19 7 2 false := ⟨RX8, TX8, 6, tyX8, rfl, by decide, wt2_26, rfl, uinX8, tyX8_ok, nmX8, rfl⟩
theorem fl_X8_25 : FL RX8 25 7 3 false := ⟨RX8, TX8, 6, tyX8, rfl, by decide, wt2_27, rfl, uinX8, tyX8_ok, nmX8, rfl⟩
theorem fl_X8_32 : FL RX8 32 7 4 false := ⟨RX8, TX8, 6, tyX8, rfl, by decide, wt2_28, rfl, uinX8, tyX8_ok, nmX8, rfl⟩
theorem fl_X8_36 : FL RX8 36 7 5 true := ⟨RX8, TX8, 6, tyX8, rfl, by decide, wt2_29, rfl, uinX8, tyX8_ok, nmX8, rfl⟩
theorem fl_X8_40 : FL RX8 40 4 0 false := ⟨RX5, TX5, 10, tyX5, rfl, by decide, wt1_184, rfl, uinX5, tyX5_ok, nmX5, rfl⟩
theorem fl_X8_53 : FL RX8 53 0 0 true := ⟨RX0, TX0, 11, tyX0, rfl, by decide, wt1_38, rfl, uinX0, tyX0_ok, nmX0, rfl⟩
theorem fl_X8_57 : FL RX8 57 0 1 true := ⟨RX0, TX0, 11, tyX0, rfl, by decide, wt1_41, rfl, uinX0, tyX0_ok, nmX0, rfl⟩
theorem fl_X8_99 : FL RX8 99 6 3 true := ⟨RX7, TX7, 8, tyX7, rfl, by decide, wt1_93, rfl, uinX7, tyX7_ok, nmX7, rfl⟩
theorem fl_X8_104 : FL RX8 104 4 1 false := ⟨RX5, TX5, 10, tyX5, rfl, by decide, wt1_186, rfl, uinX5, tyX5_ok, nmX5, rfl⟩
theorem fl_X8_108 : FL RX8 108 4 2 false := ⟨RX5, TX5, 10, tyX5, rfl, by decide, wt1_188, rfl, uinX5, tyX5_ok, nmX5, rfl⟩
theorem fl_X8_117 : FL RX8 117 4 5 false := ⟨RX5, TX5, 10, tyX5, rfl, by decide, wt1_194, rfl, uinX5, tyX5_ok, nmX5, rfl⟩
theorem fl_X8_150 : FL RX8 150 4 4 false := ⟨RX5, TX5, 10, tyX5, rfl, by decide, wt1_192, rfl, uinX5, tyX5_ok, nmX5, rfl⟩
theorem fl_X8_169 : FL RX8 169 2 0 true := ⟨RX3, TX3, 2, tyX3, rfl, by decide, wt2_16, rfl, uinX3, tyX3_ok, nmX3, rfl⟩
theorem fl_X8_191 : FL RX8 191 1 0 true := ⟨RX2, TX2, 5, tyX2, rfl, by decide, wt1_233, rfl, uinX2, tyX2_ok, nmX2, rfl⟩
theorem fl_X8_197 : FL RX8 197 4 6 true := ⟨RX5, TX5, 10, tyX5, rfl, by decide, wt1_196, rfl, uinX5, tyX5_ok, nmX5, rfl⟩
theorem fl_X8_227 : FL RX8 227 6 4 true := ⟨RX7, TX7, 8, tyX7, rfl, by decide, wt1_96, rfl, uinX7, tyX7_ok, nmX7, rfl⟩
theorem fl_X8_230 : FL RX8 230 6 5 true := ⟨RX7, TX7, 8, tyX7, rfl, by decide, wt1_99, rfl, uinX7, tyX7_ok, nmX7, rfl⟩
theorem fl_X8_233 : FL RX8 233 6 6 true := ⟨RX7, TX7, 8, tyX7, rfl, by decide, wt1_101, rfl, uinX7, tyX7_ok, nmX7, rfl⟩
theorem fl_X8_236 : FL RX8 236 6 2 true := ⟨RX7, TX7, 8, tyX7, rfl, by decide, wt1_90, rfl, uinX7, tyX7_ok, nmX7, rfl⟩
theorem fl_X8_251 : FL RX8 251 4 3 false := ⟨RX5, TX5, 10, tyX5, rfl, by decide, wt1_190, rfl, uinX5, tyX5_ok, nmX5, rfl⟩
theorem fl_X8_254 : FL RX8 254 5 0 true := ⟨RX6, TX6, 8, tyX6, rfl, by decide, wt1_130, rfl, uinX6, tyX6_ok, nmX6, rfl⟩
theorem fl_X8_277 : FL RX8 277 4 7 true := ⟨RX5, TX5, 10, tyX5, rfl, by decide, wt1_198, rfl, uinX5, tyX5_ok, nmX5, rfl⟩
theorem fl_X8_280 : FL RX8 280 4 9 true := ⟨RX5, TX5, 10, tyX5, rfl, by decide, wt1_202, rfl, uinX5, tyX5_ok, nmX5, rfl⟩
theorem fl_X8_283 : FL RX8 283 4 8 true := ⟨RX5, TX5, 10, tyX5, rfl, by decide, wt1_200, rfl, uinX5, tyX5_ok, nmX5, rfl⟩
theorem fl_X8_289 : FL RX8 289 6 0 true := ⟨RX7, TX7, 8, tyX7, rfl, by decide, wt1_86, rfl, uinX7, tyX7_ok, nmX7, rfl⟩
theorem fl_X8_293 : FL RX8 293 6 1 true := ⟨RX7, TX7, 8, tyX7, rfl, by decide, wt1_88, rfl, uinX7, tyX7_ok, nmX7, rfl⟩
theorem ft_X0_9 : FT RX0 9 0 0 .int := ⟨RX0, TX0, 11, tyX0, rfl, by decide, wt1_37, rfl, uinX0, tyX0_ok, nmX0, rfl, by decide +kernel⟩
theorem ft_X0_15 : FT RX0 15 0 1 .int := ⟨RX0, TX0, 11, tyX0, rfl, by decide, wt1_40, rfl, uinX0, tyX0_ok, nmX0, rfl, by decide +kernel⟩
theorem ft_X2_12 : FT RX2 12 1 1 (.object "BlanketKeys$State") := ⟨RX2, TX2, 5, tyX2, rfl, by decide, wt1_234, rfl, uinX2, tyX2_ok, nmX2, rfl, by decide +kernel⟩
theorem ft_X2_18 : FT RX2 18 1 2 (.object "BlanketKeys$State") := ⟨RX2, TX2, 5, tyX2, rfl, by decide, wt1_235, rfl, uinX2, tyX2_ok, nmX2, rfl, by decide +kernel⟩
theorem ft_X2_21 : FT RX2 21 1 3 (.object "BlanketKeys$State") := ⟨RX2, TX2, 5, tyX2, rfl, by decide, wt1_236, rfl, uinX2, tyX2_ok, nmX2, rfl, by decide +kernel⟩
theorem ft_X2_24 : FT RX2 24 1 4 (.object "BlanketKeys$State") := ⟨RX2, TX2, 5, tyX2, rfl, by decide, wt1_237, rfl, uinX2, tyX2_ok, nmX2, rfl, by decide +kernel⟩
theorem ft_X2_31 : FT RX2 31 1 0 .int := ⟨RX2, TX2, 5, tyX2, rfl, by decide, wt1_232, rfl, uinX2, tyX2_ok, nmX2, rfl, by decide +kernel⟩
theorem ft_X3_15 : FT RX3 15 2 0 .int := ⟨RX3, TX3, 2, tyX3, rfl, by decide, wt2_15, rfl, uinX3, tyX3_ok, nmX3, rfl, by decide +kernel⟩
theorem ft_X4_17 : FT RX4 17 3 1 .float := ⟨RX4, TX4, 4, tyX4, rfl, by decide, wt1_168, rfl, uinX4, tyX4_ok, nmX4, rfl, by decide +kernel⟩
theorem ft_X4_22 : FT RX4 22 3 2 .float := ⟨RX4, TX4, 4, tyX4, rfl, by decide, wt1_170, rfl, uinX4, tyX4_ok, nmX4, rfl, by decide +kernel⟩
theorem ft_X4_26 : FT RX4 26 3 3 .float := ⟨RX4, TX4, 4, tyX4, rfl, by decide, wt1_172, rfl, uinX4, tyX4_ok, nmX4, rfl, by decide +kernel⟩
theorem ft_X5_64 : FT RX5 64 4 6 .int := ⟨RX5, TX5, 10, tyX5, rfl, by decide, wt1_195, rfl, uinX5, tyX5_ok, nmX5, rfl, by decide +kernel⟩
theorem ft_X5_68 : FT RX5 68 4 7 .int := ⟨RX5, TX5, 10, tyX5, rfl, by decide, wt1_197, rfl, uinX5, tyX5_ok, nmX5, rfl, by decide +kernel⟩
theorem ft_X5_71 : FT RX5 71 4 8 .int := ⟨RX5, TX5, 10, tyX5, rfl, by decide, wt1_199, rfl, uinX5, tyX5_ok, nmX5, rfl, by decide +kernel⟩
theorem ft_X5_74 : FT RX5 74 4 9 .int := ⟨RX5, TX5, 10, tyX5, rfl, by decide, wt1_201, rfl, uinX5, tyX5_ok, nmX5, rfl, by decide +kernel⟩
theorem ft_X5_187 : FT RX5 187 6 4 .int := ⟨RX7, TX7, 8, tyX7, rfl, by decide, wt1_95, rfl, uinX7, tyX7_ok, nmX7, rfl, by decide +kernel⟩
theorem ft_X5_190 : FT RX5 190 6 5 .int := ⟨RX7, TX7, 8, tyX7, rfl, by decide, wt1_98, rfl, uinX7, tyX7_ok, nmX7, rfl, by decide +kernel⟩
theorem ft_X6_33 : FT RX6 33 5 0 .int := ⟨RX6, TX6, 8, tyX6, rfl, by decide, wt1_128, rfl, uinX6, tyX6_ok, nmX6, rfl, by decide +kernel⟩
theorem ft_X7_9 : FT RX7 9 6 2 .int := ⟨RX7, TX7, 8, tyX7, rfl, by decide, wt1_89, rfl, uinX7, tyX7_ok, nmX7, rfl, by decide +kernel⟩
theorem ft_X7_19 : FT RX7 19 6 0 .float := ⟨RX7, TX7, 8, tyX7, rfl, by decide, wt1_85, rfl, uinX7, tyX7_ok, nmX7, rfl, by decide +kernel⟩
theorem ft_X7_23 : FT RX7 23 6 1 .float := ⟨RX7, TX7, 8, tyX7, rfl, by decide, wt1_87, rfl, uinX7, tyX7_ok, nmX7, rfl, by decide +kernel⟩
theorem ft_X7_26 : FT RX7 26 6 3 .boolean := ⟨RX7, TX7, 8, tyX7, rfl, by decide, wt1_91, rfl, uinX7, tyX7_ok, nmX7, rfl, by decide +kernel⟩
theorem ft_X7_30 : FT RX7 30 6 4 .int := ⟨RX7, TX7, 8, tyX7, rfl, by decide, wt1_94, rfl, uinX7, tyX7_ok, nmX7, rfl, by decide +kernel⟩
theorem ft_X7_33 : FT RX7 33 6 5 .int := ⟨RX7, TX7, 8, tyX7, rfl, by decide, wt1_97, rfl, uinX7, tyX7_ok, nmX7, rfl, by decide +kernel⟩
theorem ft_X7_36 : FT RX7 36 6 6 .int := ⟨RX7, TX7, 8, tyX7, rfl, by decide, wt1_100, rfl, uinX7, tyX7_ok, nmX7, rfl, by decide +kernel⟩
theorem ft_X8_169 : FT RX8 169 2 0 .int := ⟨RX3, TX3, 2, tyX3, rfl, by decide, wt2_16, rfl, uinX3, tyX3_ok, nmX3, rfl, by decide +kernel⟩
theorem hs_0_0 {G : bkG} {M : Mem} {k : Nat} {x : Int32} : (flds G M k 0).set 0 (.int x) = flds G (w1 M k 0 x) k 0 := by simp [flds, w1, upd]
theorem hs_0_1 {G : bkG} {M : Mem} {k : Nat} {x : Int32} : (flds G M k 0).set 1 (.int x) = flds G (w1 M k 1 x) k 0 := by simp [flds, w1, upd]
theorem hs_1_0 {G : bkG} {M : Mem} {k : Nat} {x : Int32} : (flds G M k 1).set 0 (.int x) = flds G (w1 M k 0 x) k 1 := by simp [flds, w1, upd]
theorem hs_1_1 {G : bkG} {M : Mem} {k t : Nat} (h : kd t = 4) : (flds G M k 1).set 1 (rv G t) = flds G (w1 M k 1 (nI t)) k 1 := by
  have h1 : (nI t).toNatClampNeg = t := nI_clamp (Nat.lt_trans (kd_lt (by omega)) (by decide))
  simp [flds, w1, upd, h1]
theorem hs_1_2 {G : bkG} {M : Mem} {k t : Nat} (h : kd t = 4) : (flds G M k 1).set 2 (rv G t) = flds G (w1 M k 2 (nI t)) k 1 := by
  have h1 : (nI t).toNatClampNeg = t := nI_clamp (Nat.lt_trans (kd_lt (by omega)) (by decide))
  simp [flds, w1, upd, h1]
theorem hs_1_3 {G : bkG} {M : Mem} {k t : Nat} (h : kd t = 4) : (flds G M k 1).set 3 (rv G t) = flds G (w1 M k 3 (nI t)) k 1 := by
  have h1 : (nI t).toNatClampNeg = t := nI_clamp (Nat.lt_trans (kd_lt (by omega)) (by decide))
  simp [flds, w1, upd, h1]
theorem hs_1_4 {G : bkG} {M : Mem} {k t : Nat} (h : kd t = 4) : (flds G M k 1).set 4 (rv G t) = flds G (w1 M k 4 (nI t)) k 1 := by
  have h1 : (nI t).toNatClampNeg = t := nI_clamp (Nat.lt_trans (kd_lt (by omega)) (by decide))
  simp [flds, w1, upd, h1]
theorem hs_2_0 {G : bkG} {M : Mem} {k : Nat} {x : Int32} : (flds G M k 2).set 0 (.int x) = flds G (w1 M k 0 x) k 2 := by simp [flds, w1, upd]
theorem hs_3_1 {G : bkG} {M : Mem} {k : Nat} {x : UInt32} : (flds G M k 3).set 1 (.float x) = flds G (w2 M k 1 x) k 3 := by simp [flds, w2, vf_upd]
theorem hs_3_2 {G : bkG} {M : Mem} {k : Nat} {x : UInt32} : (flds G M k 3).set 2 (.float x) = flds G (w2 M k 2 x) k 3 := by simp [flds, w2, vf_upd]
theorem hs_3_3 {G : bkG} {M : Mem} {k : Nat} {x : UInt32} : (flds G M k 3).set 3 (.float x) = flds G (w2 M k 3 x) k 3 := by simp [flds, w2, vf_upd]
theorem hs_4_6 {G : bkG} {M : Mem} {k : Nat} {x : Int32} : (flds G M k 4).set 6 (.int x) = flds G (w1 M k 6 x) k 4 := by simp [flds, w1, upd]
theorem hs_4_7 {G : bkG} {M : Mem} {k : Nat} {x : Int32} : (flds G M k 4).set 7 (.int x) = flds G (w1 M k 7 x) k 4 := by simp [flds, w1, upd]
theorem hs_4_8 {G : bkG} {M : Mem} {k : Nat} {x : Int32} : (flds G M k 4).set 8 (.int x) = flds G (w1 M k 8 x) k 4 := by simp [flds, w1, upd]
theorem hs_4_9 {G : bkG} {M : Mem} {k : Nat} {x : Int32} : (flds G M k 4).set 9 (.int x) = flds G (w1 M k 9 x) k 4 := by simp [flds, w1, upd]
theorem hs_5_0 {G : bkG} {M : Mem} {k : Nat} {x : Int32} : (flds G M k 5).set 0 (.int x) = flds G (w1 M k 0 x) k 5 := by simp [flds, w1, upd]
theorem hs_6_0 {G : bkG} {M : Mem} {k : Nat} {x : UInt32} : (flds G M k 6).set 0 (.float x) = flds G (w2 M k 0 x) k 6 := by simp [flds, w2, vf_upd]
theorem hs_6_1 {G : bkG} {M : Mem} {k : Nat} {x : UInt32} : (flds G M k 6).set 1 (.float x) = flds G (w2 M k 1 x) k 6 := by simp [flds, w2, vf_upd]
theorem hs_6_2 {G : bkG} {M : Mem} {k : Nat} {x : Int32} : (flds G M k 6).set 2 (.int x) = flds G (w1 M k 2 x) k 6 := by simp [flds, w1, upd]
theorem hs_6_3 {G : bkG} {M : Mem} {k : Nat} {x : Int32} : (flds G M k 6).set 3 (.int x) = flds G (w1 M k 3 x) k 6 := by simp [flds, w1, upd]
theorem hs_6_4 {G : bkG} {M : Mem} {k : Nat} {x : Int32} : (flds G M k 6).set 4 (.int x) = flds G (w1 M k 4 x) k 6 := by simp [flds, w1, upd]
theorem hs_6_5 {G : bkG} {M : Mem} {k : Nat} {x : Int32} : (flds G M k 6).set 5 (.int x) = flds G (w1 M k 5 x) k 6 := by simp [flds, w1, upd]
theorem hs_6_6 {G : bkG} {M : Mem} {k : Nat} {x : Int32} : (flds G M k 6).set 6 (.int x) = flds G (w1 M k 6 x) k 6 := by simp [flds, w1, upd]
theorem cl_L_9 : CLV RL 9 yX8_count cX8_count 3 (some .int) 1 := ⟨wt2_133, wt2_134, wt2_135, wt1_1, wt2_136, ⟨by decide +kernel, by decide +kernel, by decide +kernel⟩⟩
theorem cl_L_15 : CLS RL 15 yL_keys cL_keys 1 (some .int) 1 := ⟨wt2_130, wt2_131, wt1_0, wt2_132, ⟨by decide +kernel, by decide +kernel, by decide +kernel⟩⟩
theorem cl_L_21 : CLV RL 21 yX8_key cX8_key 4 (some .int) 2 := ⟨wt2_151, wt2_152, wt2_153, wt1_1, wt2_154, ⟨by decide +kernel, by decide +kernel, by decide +kernel⟩⟩
theorem cl_L_25 : CLS RL 25 yL_sensed cL_sensed 10 (some .int) 3 := ⟨wt2_211, wt2_212, wt1_0, wt2_213, ⟨by decide +kernel, by decide +kernel, by decide +kernel⟩⟩
theorem cl_L_29 : CLS RL 29 yL_senses cL_senses 4 (some .boolean) 3 := ⟨wt2_208, wt2_209, wt1_0, wt2_210, ⟨by decide +kernel, by decide +kernel, by decide +kernel⟩⟩
theorem cl_L_33 : CLV RL 33 yX8_ghostsBy cX8_ghostsBy 3 (some .int) 1 := ⟨wt2_214, wt2_215, wt2_216, wt1_1, wt2_217, ⟨by decide +kernel, by decide +kernel, by decide +kernel⟩⟩
theorem cl_L_36 : CLV RL 36 yX8_verdict cX8_verdict 2 (some .int) 1 := ⟨wt3_16, wt3_17, wt3_18, wt1_1, wt3_19, ⟨by decide +kernel, by decide +kernel, by decide +kernel⟩⟩
theorem cl_L_39 : CLV RL 39 yX8_distance cX8_distance 4 (some .float) 3 := ⟨wt3_39, wt3_40, wt3_41, wt1_1, wt3_42, ⟨by decide +kernel, by decide +kernel, by decide +kernel⟩⟩
theorem cl_L_45 : CLV RL 45 yX8_typist cX8_typist 4 (some .int) 2 := ⟨wt2_227, wt2_228, wt2_229, wt1_1, wt2_230, ⟨by decide +kernel, by decide +kernel, by decide +kernel⟩⟩
theorem cl_L_48 : CLS RL 48 yL_judged cL_judged 12 (some .boolean) 2 := ⟨wt3_13, wt3_14, wt1_0, wt3_15, ⟨by decide +kernel, by decide +kernel, by decide +kernel⟩⟩
theorem cl_L_52 : CLV RL 52 yX8_style cX8_style 3 (some .float) 2 := ⟨wt3_50, wt3_51, wt3_52, wt1_1, wt3_53, ⟨by decide +kernel, by decide +kernel, by decide +kernel⟩⟩
theorem cl_L_56 : CLV RL 56 yX8_hundredths cX8_hundredths 3 (some .int) 2 := ⟨wt3_61, wt3_62, wt3_63, wt1_1, wt3_64, ⟨by decide +kernel, by decide +kernel, by decide +kernel⟩⟩
theorem cl_L_60 : CLV RL 60 yX8_typed cX8_typed 4 (some .int) 2 := ⟨wt3_67, wt3_68, wt3_69, wt1_1, wt3_70, ⟨by decide +kernel, by decide +kernel, by decide +kernel⟩⟩
theorem cl_L_63 : CLV RL 63 yX8_dispute cX8_dispute 4 (some .int) 2 := ⟨wt3_80, wt3_81, wt3_82, wt1_1, wt3_83, ⟨by decide +kernel, by decide +kernel, by decide +kernel⟩⟩
theorem cl_L_66 : CLV RL 66 yX8_stroke cX8_stroke 5 (some .int) 2 := ⟨wt3_112, wt3_113, wt3_114, wt1_1, wt3_115, ⟨by decide +kernel, by decide +kernel, by decide +kernel⟩⟩
theorem cl_L_69 : CLV RL 69 yX8_settle cX8_settle 3 (some .int) 2 := ⟨wt4_14, wt4_15, wt4_16, wt1_1, wt4_17, ⟨by decide +kernel, by decide +kernel, by decide +kernel⟩⟩
theorem cl_L_73 : CLS RL 73 yL_low cL_low 2 (some .int) 2 := ⟨wt2_126, wt2_127, wt1_0, wt2_128, ⟨by decide +kernel, by decide +kernel, by decide +kernel⟩⟩
theorem cl_L_76 : CLV RL 76 yX8_press cX8_press 4 (some .int) 2 := ⟨wt3_123, wt3_124, wt3_125, wt1_1, wt3_126, ⟨by decide +kernel, by decide +kernel, by decide +kernel⟩⟩
theorem cl_L_79 : CLV RL 79 yX8_release cX8_release 4 (some .int) 2 := ⟨wt3_145, wt3_146, wt3_147, wt1_1, wt3_148, ⟨by decide +kernel, by decide +kernel, by decide +kernel⟩⟩
theorem cl_L_82 : CLV RL 82 yX8_tick cX8_tick 2 (some .int) 1 := ⟨wt3_158, wt3_159, wt3_160, wt1_1, wt3_161, ⟨by decide +kernel, by decide +kernel, by decide +kernel⟩⟩
theorem cl_L_85 : CLV RL 85 yX8_setShift cX8_setShift 6 (some .int) 2 := ⟨wt3_234, wt3_235, wt3_236, wt1_1, wt3_237, ⟨by decide +kernel, by decide +kernel, by decide +kernel⟩⟩
theorem cl_L_88 : CLV RL 88 yX8_setSign cX8_setSign 5 (some .int) 2 := ⟨wt4_2, wt4_3, wt4_4, wt1_1, wt4_5, ⟨by decide +kernel, by decide +kernel, by decide +kernel⟩⟩
theorem cl_L_92 : CLS RL 92 yL_settles cL_settles 11 (some .boolean) 3 := ⟨wt4_11, wt4_12, wt1_0, wt4_13, ⟨by decide +kernel, by decide +kernel, by decide +kernel⟩⟩
theorem cl_L_95 : CLV RL 95 yX8_build cX8_build 4 (some .int) 2 := ⟨wt2_43, wt2_44, wt2_45, wt1_1, wt2_46, ⟨by decide +kernel, by decide +kernel, by decide +kernel⟩⟩
theorem cl_L_98 : CLV RL 98 yX8_set cX8_set 4 (some .int) 2 := ⟨wt4_38, wt4_39, wt4_40, wt1_1, wt4_41, ⟨by decide +kernel, by decide +kernel, by decide +kernel⟩⟩
theorem cl_L_105 : CLV RL 105 yX8_clearText cX8_clearText 2 (some .int) 0 := ⟨wt4_66, wt4_67, wt4_68, wt1_1, wt4_69, ⟨by decide +kernel, by decide +kernel, by decide +kernel⟩⟩
theorem cl_L_109 : CLV RL 109 yX8_perform cX8_perform 6 (some .int) 0 := ⟨wt4_70, wt4_71, wt4_72, wt1_1, wt4_73, ⟨by decide +kernel, by decide +kernel, by decide +kernel⟩⟩
theorem cl_L_112 : CLV RL 112 yX8_type cX8_type 2 (some .int) 1 := ⟨wt4_101, wt4_102, wt4_103, wt1_1, wt4_104, ⟨by decide +kernel, by decide +kernel, by decide +kernel⟩⟩
theorem cl_L_116 : CLV RL 116 yX8_undo cX8_undo 1 (some .int) 0 := ⟨wt2_109, wt2_110, wt2_111, wt1_1, wt2_112, ⟨by decide +kernel, by decide +kernel, by decide +kernel⟩⟩
theorem cl_X0_46 : CLS RX0 46 yJ7_fill_53178 cJ7_fill_53178 4 none 2 := ⟨wt1_34, wt1_35, wt1_4, wt1_36, ⟨by decide +kernel, by decide +kernel, by decide +kernel⟩⟩
theorem cl_X0_52 : CLS RX0 52 yX1_copy cX1_copy 2 none 2 := ⟨wt2_76, wt2_77, wt1_10, wt2_78, ⟨by decide +kernel, by decide +kernel, by decide +kernel⟩⟩
theorem cl_X0_58 : CLV RX0 58 yX0_rowOf cX0_rowOf 2 (some .int) 1 := ⟨wt2_173, wt2_174, wt2_175, wt1_3, wt2_176, ⟨by decide +kernel, by decide +kernel, by decide +kernel⟩⟩
theorem cl_X0_62 : CLS RX0 62 yX1_at cX1_at 2 (some .int) 2 := ⟨wt2_163, wt2_164, wt1_10, wt2_165, ⟨by decide +kernel, by decide +kernel, by decide +kernel⟩⟩
theorem cl_X0_66 : CLV RX0 66 yX0_bitOf cX0_bitOf 2 (some .int) 1 := ⟨wt2_177, wt2_178, wt2_179, wt1_3, wt2_180, ⟨by decide +kernel, by decide +kernel, by decide +kernel⟩⟩
theorem cl_X0_69 : CLS RX0 69 yX1_bitsIn cX1_bitsIn 6 (some .int) 1 := ⟨wt2_51, wt2_52, wt1_10, wt2_53, ⟨by decide +kernel, by decide +kernel, by decide +kernel⟩⟩
theorem cl_X0_73 : CLS RX0 73 yX1_put cX1_put 3 none 3 := ⟨wt3_142, wt3_143, wt1_10, wt3_144, ⟨by decide +kernel, by decide +kernel, by decide +kernel⟩⟩
theorem cl_X0_77 : CLV RX0 77 yX0_has cX0_has 2 (some .boolean) 1 := ⟨wt2_193, wt2_156, wt2_157, wt1_3, wt2_158, ⟨by decide +kernel, by decide +kernel, by decide +kernel⟩⟩
theorem cl_X0_81 : CLV RX0 81 yX0_shiftOwner cX0_shiftOwner 2 (some .int) 1 := ⟨wt4_10, wt2_195, wt2_196, wt1_3, wt2_197, ⟨by decide +kernel, by decide +kernel, by decide +kernel⟩⟩
theorem cl_X0_84 : CLV RX0 84 yX0_shiftOf cX0_shiftOf 2 (some .int) 1 := ⟨wt3_10, wt3_3, wt3_4, wt1_3, wt3_5, ⟨by decide +kernel, by decide +kernel, by decide +kernel⟩⟩
theorem cl_X0_87 : CLV RX0 87 yX0_isSeen cX0_isSeen 2 (some .boolean) 1 := ⟨wt3_11, wt2_170, wt2_171, wt1_3, wt2_172, ⟨by decide +kernel, by decide +kernel, by decide +kernel⟩⟩
theorem cl_X0_90 : CLV RX0 90 yX0_isDoubtful cX0_isDoubtful 2 (some .boolean) 1 := ⟨wt3_12, wt2_186, wt2_187, wt1_3, wt2_188, ⟨by decide +kernel, by decide +kernel, by decide +kernel⟩⟩
theorem cl_X0_93 : CLV RX0 93 yX0_joined cX0_joined 4 (some .int) 2 := ⟨wt2_203, wt2_204, wt2_205, wt1_3, wt2_206, ⟨by decide +kernel, by decide +kernel, by decide +kernel⟩⟩
theorem cl_X0_97 : CLV RX0 97 yX0_sensed cX0_sensed 8 (some .int) 2 := ⟨wt2_222, wt2_200, wt2_201, wt1_3, wt2_202, ⟨by decide +kernel, by decide +kernel, by decide +kernel⟩⟩
theorem cl_X0_100 : CLS RX0 100 yJ6_bitCount_0f7a4 cJ6_bitCount_0f7a4 1 (some .int) 1 := ⟨wt2_223, wt2_55, wt1_13, wt2_56, ⟨by decide +kernel, by decide +kernel, by decide +kernel⟩⟩
theorem cl_X0_105 : CLV RX0 105 yX0_closesCorner cX0_closesCorner 6 (some .boolean) 2 := ⟨wt3_229, wt3_230, wt3_231, wt1_3, wt3_232, ⟨by decide +kernel, by decide +kernel, by decide +kernel⟩⟩
theorem cl_X0_109 : CLV RX0 109 yX0_isShiftOn cX0_isShiftOn 3 (some .boolean) 1 := ⟨wt3_233, wt3_7, wt3_8, wt1_3, wt3_9, ⟨by decide +kernel, by decide +kernel, by decide +kernel⟩⟩
theorem cl_X1_7 : CLS RX1 7 yJ9_min_7cf53 cJ9_min_7cf53 2 (some .int) 2 := ⟨wt2_79, wt2_80, wt1_11, wt2_81, ⟨by decide +kernel, by decide +kernel, by decide +kernel⟩⟩
theorem cl_X1_19 : CLS RX1 19 yJ6_bitCount_0f7a4 cJ6_bitCount_0f7a4 1 (some .int) 1 := ⟨wt2_54, wt2_55, wt1_13, wt2_56, ⟨by decide +kernel, by decide +kernel, by decide +kernel⟩⟩
theorem cl_X2_27 : CLV RX2 27 yX5_copyFrom cX5_copyFrom 2 none 1 := ⟨wt2_68, wt2_69, wt2_70, wt1_2, wt2_71, ⟨by decide +kernel, by decide +kernel, by decide +kernel⟩⟩
theorem cl_X2_35 : CLS RX2 35 yJ9_min_7cf53 cJ9_min_7cf53 2 (some .int) 2 := ⟨wt2_100, wt2_80, wt1_11, wt2_81, ⟨by decide +kernel, by decide +kernel, by decide +kernel⟩⟩
theorem cl_X3_19 : CLV RX3 19 yX3_characterAt cX3_characterAt 2 (some .char) 1 := ⟨wt4_78, wt4_79, wt4_80, wt1_9, wt4_81, ⟨by decide +kernel, by decide +kernel, by decide +kernel⟩⟩
theorem cl_X3_23 : CLS RX3 23 yX3_placeAfter cX3_placeAfter 2 (some .int) 2 := ⟨wt4_82, wt4_83, wt1_9, wt4_84, ⟨by decide +kernel, by decide +kernel, by decide +kernel⟩⟩
theorem cl_X3_27 : CLS RX3 27 yX3_isDigit cX3_isDigit 1 (some .boolean) 1 := ⟨wt4_85, wt4_86, wt1_9, wt4_87, ⟨by decide +kernel, by decide +kernel, by decide +kernel⟩⟩
theorem cl_X4_29 : CLS RX4 29 yX1_copy cX1_copy 2 none 2 := ⟨wt2_99, wt2_77, wt1_10, wt2_78, ⟨by decide +kernel, by decide +kernel, by decide +kernel⟩⟩
theorem cl_X4_38 : CLS RX4 38 yX1_at cX1_at 2 (some .int) 2 := ⟨wt4_51, wt2_164, wt1_10, wt2_165, ⟨by decide +kernel, by decide +kernel, by decide +kernel⟩⟩
theorem cl_X4_42 : CLS RX4 42 yX1_put cX1_put 3 none 3 := ⟨wt4_56, wt3_143, wt1_10, wt3_144, ⟨by decide +kernel, by decide +kernel, by decide +kernel⟩⟩
theorem cl_X4_46 : CLS RX4 46 yX4_valueOf cX4_valueOf 6 (some .float) 1 := ⟨wt4_57, wt4_58, wt1_7, wt4_59, ⟨by decide +kernel, by decide +kernel, by decide +kernel⟩⟩
theorem cl_X5_51 : CLV RX5 51 yX0_copyFrom cX0_copyFrom 2 none 1 := ⟨wt2_72, wt2_73, wt2_74, wt1_3, wt2_75, ⟨by decide +kernel, by decide +kernel, by decide +kernel⟩⟩
theorem cl_X5_55 : CLV RX5 55 yX7_copyFrom cX7_copyFrom 2 none 1 := ⟨wt2_85, wt2_86, wt2_87, wt1_5, wt2_88, ⟨by decide +kernel, by decide +kernel, by decide +kernel⟩⟩
theorem cl_X5_58 : CLV RX5 58 yX6_copyFrom cX6_copyFrom 2 none 1 := ⟨wt2_90, wt2_91, wt2_92, wt1_6, wt2_93, ⟨by decide +kernel, by decide +kernel, by decide +kernel⟩⟩
theorem cl_X5_61 : CLV RX5 61 yX4_copyFrom cX4_copyFrom 2 none 1 := ⟨wt2_95, wt2_96, wt2_97, wt1_7, wt2_98, ⟨by decide +kernel, by decide +kernel, by decide +kernel⟩⟩
theorem cl_X5_80 : CLS RX5 80 yX5_isTypist cX5_isTypist 1 (some .boolean) 1 := ⟨wt3_131, wt2_232, wt1_2, wt2_233, ⟨by decide +kernel, by decide +kernel, by decide +kernel⟩⟩
theorem cl_X5_84 : CLV RX5 84 yX0_has cX0_has 2 (some .boolean) 1 := ⟨wt3_132, wt2_156, wt2_157, wt1_3, wt2_158, ⟨by decide +kernel, by decide +kernel, by decide +kernel⟩⟩
theorem cl_X5_87 : CLV RX5 87 yX0_isDown cX0_isDown 2 (some .boolean) 1 := ⟨wt3_133, wt3_134, wt3_135, wt1_3, wt3_136, ⟨by decide +kernel, by decide +kernel, by decide +kernel⟩⟩
theorem cl_X5_90 : CLV RX5 90 yX0_heldBy cX0_heldBy 7 (some .int) 1 := ⟨wt3_137, wt2_239, wt3_0, wt1_3, wt3_1, ⟨by decide +kernel, by decide +kernel, by decide +kernel⟩⟩
theorem cl_X5_94 : CLV RX5 94 yX0_holderOf cX0_holderOf 2 (some .int) 1 := ⟨wt3_153, wt2_160, wt2_161, wt1_3, wt2_162, ⟨by decide +kernel, by decide +kernel, by decide +kernel⟩⟩
theorem cl_X5_100 : CLS RX5 100 yJ9_floorMod_7cf53 cJ9_floorMod_7cf53 3 (some .int) 2 := ⟨wt2_145, wt2_146, wt1_11, wt2_147, ⟨by decide +kernel, by decide +kernel, by decide +kernel⟩⟩
theorem cl_X5_106 : CLV RX5 106 yX5_drivenRow cX5_drivenRow 1 (some .int) 0 := ⟨wt3_166, wt2_142, wt2_143, wt1_2, wt2_144, ⟨by decide +kernel, by decide +kernel, by decide +kernel⟩⟩
theorem cl_X5_114 : CLS RX5 114 yX1_at cX1_at 2 (some .int) 2 := ⟨wt3_167, wt2_164, wt1_10, wt2_165, ⟨by decide +kernel, by decide +kernel, by decide +kernel⟩⟩
theorem cl_X5_120 : CLV RX5 120 yX0_sensed cX0_sensed 8 (some .int) 2 := ⟨wt3_168, wt2_200, wt2_201, wt1_3, wt2_202, ⟨by decide +kernel, by decide +kernel, by decide +kernel⟩⟩
theorem cl_X5_126 : CLV RX5 126 yX5_endStroke cX5_endStroke 3 none 1 := ⟨wt3_169, wt3_170, wt3_171, wt1_2, wt3_172, ⟨by decide +kernel, by decide +kernel, by decide +kernel⟩⟩
theorem cl_X5_130 : CLV RX5 130 yX0_see cX0_see 7 none 3 := ⟨wt3_225, wt3_226, wt3_227, wt1_3, wt3_228, ⟨by decide +kernel, by decide +kernel, by decide +kernel⟩⟩
theorem cl_X5_134 : CLV RX5 134 yX0_isDoubtful cX0_isDoubtful 2 (some .boolean) 1 := ⟨wt3_24, wt2_186, wt2_187, wt1_3, wt2_188, ⟨by decide +kernel, by decide +kernel, by decide +kernel⟩⟩
theorem cl_X5_137 : CLV RX5 137 yX0_shiftOwner cX0_shiftOwner 2 (some .int) 1 := ⟨wt3_25, wt2_195, wt2_196, wt1_3, wt2_197, ⟨by decide +kernel, by decide +kernel, by decide +kernel⟩⟩
theorem cl_X5_140 : CLV RX5 140 yX0_sinceOf cX0_sinceOf 2 (some .int) 1 := ⟨wt3_26, wt2_182, wt2_183, wt1_3, wt2_184, ⟨by decide +kernel, by decide +kernel, by decide +kernel⟩⟩
theorem cl_X5_143 : CLV RX5 143 yX7_distanceOf cX7_distanceOf 4 (some .float) 2 := ⟨wt3_27, wt3_28, wt3_29, wt1_5, wt3_30, ⟨by decide +kernel, by decide +kernel, by decide +kernel⟩⟩
theorem cl_X5_151 : CLS RX5 151 yX7_unsigned cX7_unsigned 1 (some .float) 1 := ⟨wt3_38, wt3_32, wt1_5, wt3_33, ⟨by decide +kernel, by decide +kernel, by decide +kernel⟩⟩
theorem cl_X5_158 : CLV RX5 158 yX5_fateNow cX5_fateNow 9 (some .int) 1 := ⟨wt3_173, wt3_21, wt3_22, wt1_2, wt3_23, ⟨by decide +kernel, by decide +kernel, by decide +kernel⟩⟩
theorem cl_X5_161 : CLV RX5 161 yX6_addFrom cX6_addFrom 6 none 4 := ⟨wt3_174, wt3_175, wt3_176, wt1_6, wt3_177, ⟨by decide +kernel, by decide +kernel, by decide +kernel⟩⟩
theorem cl_X5_165 : CLV RX5 165 yX0_loseSight cX0_loseSight 3 none 1 := ⟨wt3_188, wt3_189, wt3_190, wt1_3, wt3_191, ⟨by decide +kernel, by decide +kernel, by decide +kernel⟩⟩
theorem cl_X5_168 : CLV RX5 168 yX6_addLatestOf cX6_addLatestOf 4 none 1 := ⟨wt3_192, wt3_193, wt3_194, wt1_6, wt3_195, ⟨by decide +kernel, by decide +kernel, by decide +kernel⟩⟩
theorem cl_X5_171 : CLV RX5 171 yX5_finish cX5_finish 10 none 4 := ⟨wt3_202, wt3_203, wt3_204, wt1_2, wt3_205, ⟨by decide +kernel, by decide +kernel, by decide +kernel⟩⟩
theorem cl_X5_175 : CLV RX5 175 yX6_changeFate cX6_changeFate 3 none 2 := ⟨wt4_22, wt4_23, wt4_24, wt1_6, wt4_25, ⟨by decide +kernel, by decide +kernel, by decide +kernel⟩⟩
theorem cl_X5_179 : CLV RX5 179 yX6_originOf cX6_originOf 2 (some .int) 1 := ⟨wt4_30, wt4_31, wt4_32, wt1_6, wt4_33, ⟨by decide +kernel, by decide +kernel, by decide +kernel⟩⟩
theorem cl_X5_182 : CLV RX5 182 yX6_holderOf cX6_holderOf 2 (some .int) 1 := ⟨wt3_206, wt3_109, wt3_110, wt1_6, wt3_111, ⟨by decide +kernel, by decide +kernel, by decide +kernel⟩⟩
theorem cl_X5_183 : CLV RX5 183 yX5_typistOf cX5_typistOf 2 (some (.object "BlanketKeys$Typist")) 1 := ⟨wt3_207, wt2_235, wt2_236, wt1_2, wt2_237, ⟨by decide +kernel, by decide +kernel, by decide +kernel⟩⟩
theorem cl_X5_193 : CLV RX5 193 yX6_sinceOf cX6_sinceOf 2 (some .int) 1 := ⟨wt3_208, wt3_97, wt3_98, wt1_6, wt3_99, ⟨by decide +kernel, by decide +kernel, by decide +kernel⟩⟩
theorem cl_X5_194 : CLV RX5 194 yX6_dwellOf cX6_dwellOf 2 (some .int) 1 := ⟨wt3_209, wt3_101, wt3_102, wt1_6, wt3_103, ⟨by decide +kernel, by decide +kernel, by decide +kernel⟩⟩
theorem cl_X5_200 : CLV RX5 200 yX7_learn cX7_learn 4 none 3 := ⟨wt3_210, wt3_211, wt3_212, wt1_5, wt3_213, ⟨by decide +kernel, by decide +kernel, by decide +kernel⟩⟩
theorem cl_X5_204 : CLV RX5 204 yX6_keyOf cX6_keyOf 2 (some .int) 1 := ⟨wt3_217, wt3_89, wt3_90, wt1_6, wt3_91, ⟨by decide +kernel, by decide +kernel, by decide +kernel⟩⟩
theorem cl_X5_207 : CLV RX5 207 yX0_signOf cX0_signOf 2 (some .int) 1 := ⟨wt3_218, wt2_190, wt2_191, wt1_3, wt2_192, ⟨by decide +kernel, by decide +kernel, by decide +kernel⟩⟩
theorem cl_X5_214 : CLV RX5 214 yX6_notedOf cX6_notedOf 2 (some .int) 1 := ⟨wt3_219, wt3_117, wt3_118, wt1_6, wt3_119, ⟨by decide +kernel, by decide +kernel, by decide +kernel⟩⟩
theorem cl_X5_217 : CLV RX5 217 yX7_addSign cX7_addSign 2 none 1 := ⟨wt3_220, wt3_221, wt3_222, wt1_5, wt3_223, ⟨by decide +kernel, by decide +kernel, by decide +kernel⟩⟩
theorem cl_X6_37 : CLS RX6 37 yX1_copy cX1_copy 2 none 2 := ⟨wt2_94, wt2_77, wt1_10, wt2_78, ⟨by decide +kernel, by decide +kernel, by decide +kernel⟩⟩
theorem cl_X6_43 : CLS RX6 43 yX6_slot cX6_slot 1 (some .int) 1 := ⟨wt3_92, wt3_93, wt1_6, wt3_94, ⟨by decide +kernel, by decide +kernel, by decide +kernel⟩⟩
theorem cl_X6_47 : CLS RX6 47 yX1_put cX1_put 3 none 3 := ⟨wt3_178, wt3_143, wt1_10, wt3_144, ⟨by decide +kernel, by decide +kernel, by decide +kernel⟩⟩
theorem cl_X6_51 : CLV RX6 51 yX0_sinceOf cX0_sinceOf 2 (some .int) 1 := ⟨wt3_179, wt2_182, wt2_183, wt1_3, wt2_184, ⟨by decide +kernel, by decide +kernel, by decide +kernel⟩⟩
theorem cl_X6_56 : CLV RX6 56 yX0_trueHolderOf cX0_trueHolderOf 2 (some .int) 1 := ⟨wt3_180, wt3_181, wt3_182, wt1_3, wt3_183, ⟨by decide +kernel, by decide +kernel, by decide +kernel⟩⟩
theorem cl_X6_59 : CLV RX6 59 yX0_notedFor cX0_notedFor 2 (some .int) 1 := ⟨wt3_184, wt3_185, wt3_186, wt1_3, wt3_187, ⟨by decide +kernel, by decide +kernel, by decide +kernel⟩⟩
theorem cl_X6_62 : CLV RX6 62 yX6_keyOf cX6_keyOf 2 (some .int) 1 := ⟨wt3_196, wt3_89, wt3_90, wt1_6, wt3_91, ⟨by decide +kernel, by decide +kernel, by decide +kernel⟩⟩
theorem cl_X6_65 : CLV RX6 65 yX6_sinceOf cX6_sinceOf 2 (some .int) 1 := ⟨wt3_197, wt3_97, wt3_98, wt1_6, wt3_99, ⟨by decide +kernel, by decide +kernel, by decide +kernel⟩⟩
theorem cl_X6_66 : CLV RX6 66 yX6_dwellOf cX6_dwellOf 2 (some .int) 1 := ⟨wt3_198, wt3_101, wt3_102, wt1_6, wt3_103, ⟨by decide +kernel, by decide +kernel, by decide +kernel⟩⟩
theorem cl_X6_69 : CLV RX6 69 yX6_fateOf cX6_fateOf 2 (some .int) 1 := ⟨wt3_199, wt3_105, wt3_106, wt1_6, wt3_107, ⟨by decide +kernel, by decide +kernel, by decide +kernel⟩⟩
theorem cl_X6_72 : CLV RX6 72 yX6_holderOf cX6_holderOf 2 (some .int) 1 := ⟨wt3_200, wt3_109, wt3_110, wt1_6, wt3_111, ⟨by decide +kernel, by decide +kernel, by decide +kernel⟩⟩
theorem cl_X6_75 : CLV RX6 75 yX6_notedOf cX6_notedOf 2 (some .int) 1 := ⟨wt3_201, wt3_117, wt3_118, wt1_6, wt3_119, ⟨by decide +kernel, by decide +kernel, by decide +kernel⟩⟩
theorem cl_X6_78 : CLS RX6 78 yX1_at cX1_at 2 (some .int) 2 := ⟨wt3_95, wt2_164, wt1_10, wt2_165, ⟨by decide +kernel, by decide +kernel, by decide +kernel⟩⟩
theorem cl_X6_82 : CLV RX6 82 yX6_holds cX6_holds 2 (some .boolean) 1 := ⟨wt4_26, wt4_27, wt4_28, wt1_6, wt4_29, ⟨by decide +kernel, by decide +kernel, by decide +kernel⟩⟩
theorem cl_X7_39 : CLS RX7 39 yX1_copy cX1_copy 2 none 2 := ⟨wt2_89, wt2_77, wt1_10, wt2_78, ⟨by decide +kernel, by decide +kernel, by decide +kernel⟩⟩
theorem cl_X7_45 : CLS RX7 45 yX7_unsigned cX7_unsigned 1 (some .float) 1 := ⟨wt3_31, wt3_32, wt1_5, wt3_33, ⟨by decide +kernel, by decide +kernel, by decide +kernel⟩⟩
theorem cl_X7_49 : CLS RX7 49 yJ9_abs_0f7a4 cJ9_abs_0f7a4 1 (some .int) 1 := ⟨wt3_34, wt3_35, wt1_11, wt3_36, ⟨by decide +kernel, by decide +kernel, by decide +kernel⟩⟩
theorem cl_X7_56 : CLS RX7 56 yX7_atLeastHalf cX7_atLeastHalf 1 (some .float) 1 := ⟨wt3_214, wt3_215, wt1_5, wt3_216, ⟨by decide +kernel, by decide +kernel, by decide +kernel⟩⟩
theorem cl_X7_59 : CLS RX7 59 yJ9_floorMod_7cf53 cJ9_floorMod_7cf53 3 (some .int) 2 := ⟨wt3_75, wt2_146, wt1_11, wt2_147, ⟨by decide +kernel, by decide +kernel, by decide +kernel⟩⟩
theorem cl_X7_63 : CLS RX7 63 yX1_put cX1_put 3 none 3 := ⟨wt3_224, wt3_143, wt1_10, wt3_144, ⟨by decide +kernel, by decide +kernel, by decide +kernel⟩⟩
theorem cl_X7_67 : CLS RX7 67 yX1_at cX1_at 2 (some .int) 2 := ⟨wt3_76, wt2_164, wt1_10, wt2_165, ⟨by decide +kernel, by decide +kernel, by decide +kernel⟩⟩
theorem cl_X8_44 : CLV RX8 44 yX0_downKeys cX0_downKeys 1 (some .int) 0 := ⟨wt2_47, wt2_48, wt2_49, wt1_3, wt2_50, ⟨by decide +kernel, by decide +kernel, by decide +kernel⟩⟩
theorem cl_X8_50 : CLV RX8 50 yX0_seenKeys cX0_seenKeys 1 (some .int) 0 := ⟨wt2_60, wt2_61, wt2_62, wt1_3, wt2_63, ⟨by decide +kernel, by decide +kernel, by decide +kernel⟩⟩
theorem cl_X8_60 : CLV RX8 60 yX2_remember cX2_remember 3 none 1 := ⟨wt2_64, wt2_65, wt2_66, wt1_8, wt2_67, ⟨by decide +kernel, by decide +kernel, by decide +kernel⟩⟩
theorem cl_X8_64 : CLV RX8 64 yX0_rebuild cX0_rebuild 3 none 2 := ⟨wt2_101, wt2_102, wt2_103, wt1_3, wt2_104, ⟨by decide +kernel, by decide +kernel, by decide +kernel⟩⟩
theorem cl_X8_68 : CLV RX8 68 yX0_size cX0_size 1 (some .int) 0 := ⟨wt2_105, wt2_106, wt2_107, wt1_3, wt2_108, ⟨by decide +kernel, by decide +kernel, by decide +kernel⟩⟩
theorem cl_X8_71 : CLV RX8 71 yX0_has cX0_has 2 (some .boolean) 1 := ⟨wt2_155, wt2_156, wt2_157, wt1_3, wt2_158, ⟨by decide +kernel, by decide +kernel, by decide +kernel⟩⟩
theorem cl_X8_75 : CLV RX8 75 yX0_signOf cX0_signOf 2 (some .int) 1 := ⟨wt2_189, wt2_190, wt2_191, wt1_3, wt2_192, ⟨by decide +kernel, by decide +kernel, by decide +kernel⟩⟩
theorem cl_X8_79 : CLV RX8 79 yX0_shiftOwner cX0_shiftOwner 2 (some .int) 1 := ⟨wt2_194, wt2_195, wt2_196, wt1_3, wt2_197, ⟨by decide +kernel, by decide +kernel, by decide +kernel⟩⟩
theorem cl_X8_82 : CLV RX8 82 yX0_giveSign cX0_giveSign 4 none 2 := ⟨wt4_6, wt4_7, wt4_8, wt1_3, wt4_9, ⟨by decide +kernel, by decide +kernel, by decide +kernel⟩⟩
theorem cl_X8_86 : CLS RX8 86 yX5_isTypist cX5_isTypist 1 (some .boolean) 1 := ⟨wt2_231, wt2_232, wt1_2, wt2_233, ⟨by decide +kernel, by decide +kernel, by decide +kernel⟩⟩
theorem cl_X8_89 : CLV RX8 89 yX0_shiftOf cX0_shiftOf 2 (some .int) 1 := ⟨wt3_2, wt3_3, wt3_4, wt1_3, wt3_5, ⟨by decide +kernel, by decide +kernel, by decide +kernel⟩⟩
theorem cl_X8_92 : CLV RX8 92 yX0_giveShift cX0_giveShift 3 none 2 := ⟨wt3_238, wt3_239, wt4_0, wt1_3, wt4_1, ⟨by decide +kernel, by decide +kernel, by decide +kernel⟩⟩
theorem cl_X8_95 : CLV RX8 95 yX5_typistOf cX5_typistOf 2 (some (.object "BlanketKeys$Typist")) 1 := ⟨wt2_234, wt2_235, wt2_236, wt1_2, wt2_237, ⟨by decide +kernel, by decide +kernel, by decide +kernel⟩⟩
theorem cl_X8_111 : CLS RX8 111 yX4_accepts cX4_accepts 2 (some .boolean) 2 := ⟨wt4_42, wt4_43, wt1_7, wt4_44, ⟨by decide +kernel, by decide +kernel, by decide +kernel⟩⟩
theorem cl_X8_121 : CLV RX8 121 yX4_bitsOf cX4_bitsOf 2 (some .int) 1 := ⟨wt4_47, wt4_48, wt4_49, wt1_7, wt4_50, ⟨by decide +kernel, by decide +kernel, by decide +kernel⟩⟩
theorem cl_X8_124 : CLV RX8 124 yX4_change cX4_change 4 none 2 := ⟨wt4_52, wt4_53, wt4_54, wt1_7, wt4_55, ⟨by decide +kernel, by decide +kernel, by decide +kernel⟩⟩
theorem cl_X8_127 : CLV RX8 127 yX5_pressError cX5_pressError 3 (some .int) 2 := ⟨wt3_127, wt3_128, wt3_129, wt1_2, wt3_130, ⟨by decide +kernel, by decide +kernel, by decide +kernel⟩⟩
theorem cl_X8_131 : CLV RX8 131 yX0_putDown cX0_putDown 4 none 2 := ⟨wt3_138, wt3_139, wt3_140, wt1_3, wt3_141, ⟨by decide +kernel, by decide +kernel, by decide +kernel⟩⟩
theorem cl_X8_134 : CLV RX8 134 yX0_heldBy cX0_heldBy 7 (some .int) 1 := ⟨wt2_238, wt2_239, wt3_0, wt1_3, wt3_1, ⟨by decide +kernel, by decide +kernel, by decide +kernel⟩⟩
theorem cl_X8_137 : CLV RX8 137 yX5_releaseError cX5_releaseError 3 (some .int) 2 := ⟨wt3_149, wt3_150, wt3_151, wt1_2, wt3_152, ⟨by decide +kernel, by decide +kernel, by decide +kernel⟩⟩
theorem cl_X8_140 : CLV RX8 140 yX0_liftUp cX0_liftUp 3 none 1 := ⟨wt3_154, wt3_155, wt3_156, wt1_3, wt3_157, ⟨by decide +kernel, by decide +kernel, by decide +kernel⟩⟩
theorem cl_X8_144 : CLV RX8 144 yX5_pass cX5_pass 8 (some .int) 1 := ⟨wt3_162, wt3_163, wt3_164, wt1_2, wt3_165, ⟨by decide +kernel, by decide +kernel, by decide +kernel⟩⟩
theorem cl_X8_147 : CLV RX8 147 yX5_hasDispute cX5_hasDispute 2 (some .boolean) 1 := ⟨wt3_84, wt3_85, wt3_86, wt1_2, wt3_87, ⟨by decide +kernel, by decide +kernel, by decide +kernel⟩⟩
theorem cl_X8_154 : CLV RX8 154 yX6_fateOf cX6_fateOf 2 (some .int) 1 := ⟨wt3_104, wt3_105, wt3_106, wt1_6, wt3_107, ⟨by decide +kernel, by decide +kernel, by decide +kernel⟩⟩
theorem cl_X8_159 : CLV RX8 159 yX5_settleByHand cX5_settleByHand 3 none 2 := ⟨wt4_18, wt4_19, wt4_20, wt1_2, wt4_21, ⟨by decide +kernel, by decide +kernel, by decide +kernel⟩⟩
theorem cl_X8_162 : CLV RX8 162 yX6_keyOf cX6_keyOf 2 (some .int) 1 := ⟨wt3_88, wt3_89, wt3_90, wt1_6, wt3_91, ⟨by decide +kernel, by decide +kernel, by decide +kernel⟩⟩
theorem cl_X8_165 : CLV RX8 165 yX3_append cX3_append 2 (some .boolean) 1 := ⟨wt4_105, wt4_106, wt4_107, wt1_9, wt4_108, ⟨by decide +kernel, by decide +kernel, by decide +kernel⟩⟩
theorem cl_X8_172 : CLV RX8 172 yX3_fault cX3_fault 3 (some .int) 0 := ⟨wt4_74, wt4_75, wt4_76, wt1_9, wt4_77, ⟨by decide +kernel, by decide +kernel, by decide +kernel⟩⟩
theorem cl_X8_175 : CLV RX8 175 yX5_copyFrom cX5_copyFrom 2 none 1 := ⟨wt2_121, wt2_69, wt2_70, wt1_2, wt2_71, ⟨by decide +kernel, by decide +kernel, by decide +kernel⟩⟩
theorem cl_X8_178 : CLV RX8 178 yX3_isMoveEnd cX3_isMoveEnd 2 (some .boolean) 1 := ⟨wt4_88, wt4_89, wt4_90, wt1_9, wt4_91, ⟨by decide +kernel, by decide +kernel, by decide +kernel⟩⟩
theorem cl_X8_181 : CLV RX8 181 yX8_move cX8_move 8 (some .int) 2 := ⟨wt4_92, wt4_94, wt0_1, wt1_1, wt4_95, ⟨by decide +kernel, by decide +kernel, by decide +kernel⟩⟩
theorem cl_X8_184 : CLV RX8 184 yX3_characterAt cX3_characterAt 2 (some .char) 1 := ⟨wt4_96, wt4_79, wt4_80, wt1_9, wt4_81, ⟨by decide +kernel, by decide +kernel, by decide +kernel⟩⟩
theorem cl_X8_188 : CLV RX8 188 yX3_number cX3_number 5 (some .int) 2 := ⟨wt4_97, wt4_98, wt4_99, wt1_9, wt4_100, ⟨by decide +kernel, by decide +kernel, by decide +kernel⟩⟩
theorem cl_X8_194 : CLV RX8 194 yX2_takeBack cX2_takeBack 3 none 1 := ⟨wt2_113, wt2_114, wt2_115, wt1_8, wt2_116, ⟨by decide +kernel, by decide +kernel, by decide +kernel⟩⟩
theorem cl_X8_200 : CLV RX8 200 yX0_holderOf cX0_holderOf 2 (some .int) 1 := ⟨wt2_159, wt2_160, wt2_161, wt1_3, wt2_162, ⟨by decide +kernel, by decide +kernel, by decide +kernel⟩⟩
theorem cl_X8_203 : CLS RX8 203 yX8_orNone cX8_orNone 1 (some .int) 1 := ⟨wt2_166, wt2_167, wt1_1, wt2_168, ⟨by decide +kernel, by decide +kernel, by decide +kernel⟩⟩
theorem cl_X8_206 : CLV RX8 206 yX0_isSeen cX0_isSeen 2 (some .boolean) 1 := ⟨wt2_169, wt2_170, wt2_171, wt1_3, wt2_172, ⟨by decide +kernel, by decide +kernel, by decide +kernel⟩⟩
theorem cl_X8_209 : CLV RX8 209 yX0_sinceOf cX0_sinceOf 2 (some .int) 1 := ⟨wt2_181, wt2_182, wt2_183, wt1_3, wt2_184, ⟨by decide +kernel, by decide +kernel, by decide +kernel⟩⟩
theorem cl_X8_212 : CLV RX8 212 yX0_isDoubtful cX0_isDoubtful 2 (some .boolean) 1 := ⟨wt2_185, wt2_186, wt2_187, wt1_3, wt2_188, ⟨by decide +kernel, by decide +kernel, by decide +kernel⟩⟩
theorem cl_X8_215 : CLV RX8 215 yX0_rowOf cX0_rowOf 2 (some .int) 1 := ⟨wt2_198, wt2_174, wt2_175, wt1_3, wt2_176, ⟨by decide +kernel, by decide +kernel, by decide +kernel⟩⟩
theorem cl_X8_218 : CLV RX8 218 yX0_sensed cX0_sensed 8 (some .int) 2 := ⟨wt2_199, wt2_200, wt2_201, wt1_3, wt2_202, ⟨by decide +kernel, by decide +kernel, by decide +kernel⟩⟩
theorem cl_X8_221 : CLV RX8 221 yX0_bitOf cX0_bitOf 2 (some .int) 1 := ⟨wt2_207, wt2_178, wt2_179, wt1_3, wt2_180, ⟨by decide +kernel, by decide +kernel, by decide +kernel⟩⟩
theorem cl_X8_224 : CLV RX8 224 yX0_isShiftOn cX0_isShiftOn 3 (some .boolean) 1 := ⟨wt3_6, wt3_7, wt3_8, wt1_3, wt3_9, ⟨by decide +kernel, by decide +kernel, by decide +kernel⟩⟩
theorem cl_X8_239 : CLS RX8 239 yX8_isMean cX8_isMean 1 (some .boolean) 1 := ⟨wt3_54, wt3_55, wt1_1, wt3_56, ⟨by decide +kernel, by decide +kernel, by decide +kernel⟩⟩
theorem cl_X8_243 : CLV RX8 243 yX8_meanOf cX8_meanOf 4 (some .float) 2 := ⟨wt3_57, wt3_59, wt0_0, wt1_1, wt3_60, ⟨by decide +kernel, by decide +kernel, by decide +kernel⟩⟩
theorem cl_X8_248 : CLV RX8 248 yX7_signBack cX7_signBack 2 (some .int) 1 := ⟨wt3_71, wt3_72, wt3_73, wt1_5, wt3_74, ⟨by decide +kernel, by decide +kernel, by decide +kernel⟩⟩
theorem cl_X8_257 : CLV RX8 257 yX6_sinceOf cX6_sinceOf 2 (some .int) 1 := ⟨wt3_96, wt3_97, wt3_98, wt1_6, wt3_99, ⟨by decide +kernel, by decide +kernel, by decide +kernel⟩⟩
theorem cl_X8_258 : CLV RX8 258 yX6_dwellOf cX6_dwellOf 2 (some .int) 1 := ⟨wt3_100, wt3_101, wt3_102, wt1_6, wt3_103, ⟨by decide +kernel, by decide +kernel, by decide +kernel⟩⟩
theorem cl_X8_261 : CLV RX8 261 yX6_holderOf cX6_holderOf 2 (some .int) 1 := ⟨wt3_108, wt3_109, wt3_110, wt1_6, wt3_111, ⟨by decide +kernel, by decide +kernel, by decide +kernel⟩⟩
theorem cl_X8_262 : CLV RX8 262 yX6_notedOf cX6_notedOf 2 (some .int) 1 := ⟨wt3_116, wt3_117, wt3_118, wt1_6, wt3_119, ⟨by decide +kernel, by decide +kernel, by decide +kernel⟩⟩
theorem cl_X8_265 : CLV RX8 265 yX7_distanceOf cX7_distanceOf 4 (some .float) 2 := ⟨wt3_44, wt3_28, wt3_29, wt1_5, wt3_30, ⟨by decide +kernel, by decide +kernel, by decide +kernel⟩⟩
theorem cl_X8_268 : CLV RX8 268 yX5_fateNow cX5_fateNow 9 (some .int) 1 := ⟨wt3_20, wt3_21, wt3_22, wt1_2, wt3_23, ⟨by decide +kernel, by decide +kernel, by decide +kernel⟩⟩
theorem cl_X8_271 : CLV RX8 271 yX0_ghostsBeside cX0_ghostsBeside 6 (some .int) 2 := ⟨wt2_218, wt2_219, wt2_220, wt1_3, wt2_221, ⟨by decide +kernel, by decide +kernel, by decide +kernel⟩⟩
theorem cl_X8_274 : CLV RX8 274 yX0_doubtfulKeys cX0_doubtfulKeys 1 (some .int) 0 := ⟨wt2_137, wt2_138, wt2_139, wt1_3, wt2_140, ⟨by decide +kernel, by decide +kernel, by decide +kernel⟩⟩
theorem cl_X8_286 : CLV RX8 286 yX5_drivenRow cX5_drivenRow 1 (some .int) 0 := ⟨wt2_141, wt2_142, wt2_143, wt1_2, wt2_144, ⟨by decide +kernel, by decide +kernel, by decide +kernel⟩⟩
theorem bc_m103 : (Int8.ofInt (-103)).toInt32 = (-103 : Int32) := by decide
theorem bc_m101 : (Int8.ofInt (-101)).toInt32 = (-101 : Int32) := by decide
theorem bc_m100 : (Int8.ofInt (-100)).toInt32 = (-100 : Int32) := by decide
theorem bc_m5 : (Int8.ofInt (-5)).toInt32 = (-5 : Int32) := by decide
theorem bc_m4 : (Int8.ofInt (-4)).toInt32 = (-4 : Int32) := by decide
theorem bc_m3 : (Int8.ofInt (-3)).toInt32 = (-3 : Int32) := by decide
theorem bc_m2 : (Int8.ofInt (-2)).toInt32 = (-2 : Int32) := by decide
theorem bc_6 : (Int8.ofInt 6).toInt32 = (6 : Int32) := by decide
theorem bc_7 : (Int8.ofInt 7).toInt32 = (7 : Int32) := by decide
theorem bc_8 : (Int8.ofInt 8).toInt32 = (8 : Int32) := by decide
theorem bc_9 : (Int8.ofInt 9).toInt32 = (9 : Int32) := by decide
theorem bc_10 : (Int8.ofInt 10).toInt32 = (10 : Int32) := by decide
theorem bc_11 : (Int8.ofInt 11).toInt32 = (11 : Int32) := by decide
theorem bc_12 : (Int8.ofInt 12).toInt32 = (12 : Int32) := by decide
theorem bc_13 : (Int8.ofInt 13).toInt32 = (13 : Int32) := by decide
theorem bc_14 : (Int8.ofInt 14).toInt32 = (14 : Int32) := by decide
theorem bc_15 : (Int8.ofInt 15).toInt32 = (15 : Int32) := by decide
theorem bc_16 : (Int8.ofInt 16).toInt32 = (16 : Int32) := by decide
theorem bc_18 : (Int8.ofInt 18).toInt32 = (18 : Int32) := by decide
theorem bc_20 : (Int8.ofInt 20).toInt32 = (20 : Int32) := by decide
theorem bc_22 : (Int8.ofInt 22).toInt32 = (22 : Int32) := by decide
theorem bc_23 : (Int8.ofInt 23).toInt32 = (23 : Int32) := by decide
theorem bc_24 : (Int8.ofInt 24).toInt32 = (24 : Int32) := by decide
theorem bc_26 : (Int8.ofInt 26).toInt32 = (26 : Int32) := by decide
theorem bc_32 : (Int8.ofInt 32).toInt32 = (32 : Int32) := by decide
theorem bc_46 : (Int8.ofInt 46).toInt32 = (46 : Int32) := by decide
theorem bc_48 : (Int8.ofInt 48).toInt32 = (48 : Int32) := by decide
theorem bc_49 : (Int8.ofInt 49).toInt32 = (49 : Int32) := by decide
theorem bc_53 : (Int8.ofInt 53).toInt32 = (53 : Int32) := by decide
theorem bc_57 : (Int8.ofInt 57).toInt32 = (57 : Int32) := by decide
theorem bc_59 : (Int8.ofInt 59).toInt32 = (59 : Int32) := by decide
theorem bc_63 : (Int8.ofInt 63).toInt32 = (63 : Int32) := by decide
theorem bc_65 : (Int8.ofInt 65).toInt32 = (65 : Int32) := by decide
theorem bc_90 : (Int8.ofInt 90).toInt32 = (90 : Int32) := by decide
theorem bc_97 : (Int8.ofInt 97).toInt32 = (97 : Int32) := by decide
theorem bc_99 : (Int8.ofInt 99).toInt32 = (99 : Int32) := by decide
theorem bc_100 : (Int8.ofInt 100).toInt32 = (100 : Int32) := by decide
theorem bc_116 : (Int8.ofInt 116).toInt32 = (116 : Int32) := by decide
theorem bc_117 : (Int8.ofInt 117).toInt32 = (117 : Int32) := by decide
theorem bc_122 : (Int8.ofInt 122).toInt32 = (122 : Int32) := by decide
theorem ic_m1 : Int32.ofInt (-1) = (-1 : Int32) := by decide
theorem ic_0 : Int32.ofInt 0 = (0 : Int32) := by decide
theorem ic_1 : Int32.ofInt 1 = (1 : Int32) := by decide
theorem ic_2 : Int32.ofInt 2 = (2 : Int32) := by decide
theorem ic_3 : Int32.ofInt 3 = (3 : Int32) := by decide
theorem ic_4 : Int32.ofInt 4 = (4 : Int32) := by decide
theorem ic_5 : Int32.ofInt 5 = (5 : Int32) := by decide
theorem sc_150 : (Int16.ofInt 150).toInt32 = (150 : Int32) := by decide
theorem sc_9999 : (Int16.ofInt 9999).toInt32 = (9999 : Int32) := by decide
theorem nat_X1_13 : Cond.methodLink RX1 13 arraycopyName ∈ TT ∧ Cond.native arraycopyName ∈ TT ∧ Cond.static arraycopyName ∈ TT ∧ Cond.initialized "java/lang/System" ∈ TT := ⟨wt2_82, wt2_84, wt2_83, wt1_12⟩
