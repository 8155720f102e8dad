theorem kf_0_2 : ∀ {b : Nat}, kd b = 0 → kd (b + 1) = 20 := fun {b} h => kd_all (P := fun b => kd (b + 1) = 20) (by decide) (by decide +kernel) b h
theorem kf_0_3 : ∀ {b : Nat}, kd b = 0 → kd (b + 2) = 20 := fun {b} h => kd_all (P := fun b => kd (b + 2) = 20) (by decide) (by decide +kernel) b h
theorem kf_0_4 : ∀ {b : Nat}, kd b = 0 → kd (b + 3) = 20 := fun {b} h => kd_all (P := fun b => kd (b + 3) = 20) (by decide) (by decide +kernel) b h
theorem kf_0_5 : ∀ {b : Nat}, kd b = 0 → kd (b + 4) = 20 := fun {b} h => kd_all (P := fun b => kd (b + 4) = 20) (by decide) (by decide +kernel) b h
theorem kf_0_6 : ∀ {b : Nat}, kd b = 0 → kd (b + 5) = 20 := fun {b} h => kd_all (P := fun b => kd (b + 5) = 20) (by decide) (by decide +kernel) b h
theorem kf_0_7 : ∀ {b : Nat}, kd b = 0 → kd (b + 6) = 20 := fun {b} h => kd_all (P := fun b => kd (b + 6) = 20) (by decide) (by decide +kernel) b h
theorem kf_0_8 : ∀ {b : Nat}, kd b = 0 → kd (b + 7) = 20 := fun {b} h => kd_all (P := fun b => kd (b + 7) = 20) (by decide) (by decide +kernel) b h
theorem kf_0_9 : ∀ {b : Nat}, kd b = 0 → kd (b + 8) = 20 := fun {b} h => kd_all (P := fun b => kd (b + 8) = 20) (by decide) (by decide +kernel) b h
theorem kf_0_10 : ∀ {b : Nat}, kd b = 0 → kd (b + 9) = 20 := fun {b} h => kd_all (P := fun b => kd (b + 9) = 20) (by decide) (by decide +kernel) b h
theorem kf_2_1 : ∀ {b : Nat}, kd b = 2 → kd (b + 1) = 22 := fun {b} h => kd_all (P := fun b => kd (b + 1) = 22) (by decide) (by decide +kernel) b h
theorem kf_3_0 : ∀ {b : Nat}, kd b = 3 → kd (b + 1) = 20 := fun {b} h => kd_all (P := fun b => kd (b + 1) = 20) (by decide) (by decide +kernel) b h
theorem kf_4_0 : ∀ {b : Nat}, kd b = 4 → kd (b + 1) = 0 := fun {b} h => kd_all (P := fun b => kd (b + 1) = 0) (by decide) (by decide +kernel) b h
theorem kf_4_1 : ∀ {b : Nat}, kd b = 4 → kd (b + 11) = 6 := fun {b} h => kd_all (P := fun b => kd (b + 11) = 6) (by decide) (by decide +kernel) b h
theorem kf_4_2 : ∀ {b : Nat}, kd b = 4 → kd (b + 13) = 6 := fun {b} h => kd_all (P := fun b => kd (b + 13) = 6) (by decide) (by decide +kernel) b h
theorem kf_4_3 : ∀ {b : Nat}, kd b = 4 → kd (b + 15) = 5 := fun {b} h => kd_all (P := fun b => kd (b + 15) = 5) (by decide) (by decide +kernel) b h
theorem kf_4_4 : ∀ {b : Nat}, kd b = 4 → kd (b + 23) = 5 := fun {b} h => kd_all (P := fun b => kd (b + 23) = 5) (by decide) (by decide +kernel) b h
theorem kf_4_5 : ∀ {b : Nat}, kd b = 4 → kd (b + 31) = 3 := fun {b} h => kd_all (P := fun b => kd (b + 31) = 3) (by decide) (by decide +kernel) b h
theorem kf_5_1 : ∀ {b : Nat}, kd b = 5 → kd (b + 1) = 20 := fun {b} h => kd_all (P := fun b => kd (b + 1) = 20) (by decide) (by decide +kernel) b h
theorem kf_5_2 : ∀ {b : Nat}, kd b = 5 → kd (b + 2) = 20 := fun {b} h => kd_all (P := fun b => kd (b + 2) = 20) (by decide) (by decide +kernel) b h
theorem kf_5_3 : ∀ {b : Nat}, kd b = 5 → kd (b + 3) = 20 := fun {b} h => kd_all (P := fun b => kd (b + 3) = 20) (by decide) (by decide +kernel) b h
theorem kf_5_4 : ∀ {b : Nat}, kd b = 5 → kd (b + 4) = 20 := fun {b} h => kd_all (P := fun b => kd (b + 4) = 20) (by decide) (by decide +kernel) b h
theorem kf_5_5 : ∀ {b : Nat}, kd b = 5 → kd (b + 5) = 20 := fun {b} h => kd_all (P := fun b => kd (b + 5) = 20) (by decide) (by decide +kernel) b h
theorem kf_5_6 : ∀ {b : Nat}, kd b = 5 → kd (b + 6) = 20 := fun {b} h => kd_all (P := fun b => kd (b + 6) = 20) (by decide) (by decide +kernel) b h
theorem kf_5_7 : ∀ {b : Nat}, kd b = 5 → kd (b + 7) = 20 := fun {b} h => kd_all (P := fun b => kd (b + 7) = 20) (by decide) (by decide +kernel) b h
theorem kf_6_7 : ∀ {b : Nat}, kd b = 6 → kd (b + 1) = 20 := fun {b} h => kd_all (P := fun b => kd (b + 1) = 20) (by decide) (by decide +kernel) b h
theorem kf_7_0 : ∀ {b : Nat}, kd b = 7 → kd (b + 1) = 4 := fun {b} h => kd_all (P := fun b => kd (b + 1) = 4) (by decide) (by decide +kernel) b h
theorem kf_7_1 : ∀ {b : Nat}, kd b = 7 → kd (b + 34) = 4 := fun {b} h => kd_all (P := fun b => kd (b + 34) = 4) (by decide) (by decide +kernel) b h
theorem kf_7_2 : ∀ {b : Nat}, kd b = 7 → kd (b + 67) = 4 := fun {b} h => kd_all (P := fun b => kd (b + 67) = 4) (by decide) (by decide +kernel) b h
theorem kf_7_3 : ∀ {b : Nat}, kd b = 7 → kd (b + 100) = 1 := fun {b} h => kd_all (P := fun b => kd (b + 100) = 1) (by decide) (by decide +kernel) b h
theorem kf_7_4 : ∀ {b : Nat}, kd b = 7 → kd (b + 233) = 2 := fun {b} h => kd_all (P := fun b => kd (b + 233) = 2) (by decide) (by decide +kernel) b h
theorem kf_8_0 : ∀ {b : Nat}, kd b = 8 → kd (b + 1) = 20 := fun {b} h => kd_all (P := fun b => kd (b + 1) = 20) (by decide) (by decide +kernel) b h
theorem kf_8_1 : ∀ {b : Nat}, kd b = 8 → kd (b + 2) = 20 := fun {b} h => kd_all (P := fun b => kd (b + 2) = 20) (by decide) (by decide +kernel) b h
theorem kf_8_2 : ∀ {b : Nat}, kd b = 8 → kd (b + 3) = 20 := fun {b} h => kd_all (P := fun b => kd (b + 3) = 20) (by decide) (by decide +kernel) b h
theorem kf_8_3 : ∀ {b : Nat}, kd b = 8 → kd (b + 4) = 20 := fun {b} h => kd_all (P := fun b => kd (b + 4) = 20) (by decide) (by decide +kernel) b h
theorem kf_8_4 : ∀ {b : Nat}, kd b = 8 → kd (b + 5) = 21 := fun {b} h => kd_all (P := fun b => kd (b + 5) = 21) (by decide) (by decide +kernel) b h
theorem kf_8_5 : ∀ {b : Nat}, kd b = 8 → kd (b + 6) = 21 := fun {b} h => kd_all (P := fun b => kd (b + 6) = 21) (by decide) (by decide +kernel) b h
theorem kf_8_6 : ∀ {b : Nat}, kd b = 8 → kd (b + 7) = 21 := fun {b} h => kd_all (P := fun b => kd (b + 7) = 21) (by decide) (by decide +kernel) b h
theorem kf_8_7 : ∀ {b : Nat}, kd b = 8 → kd (b + 8) = 21 := fun {b} h => kd_all (P := fun b => kd (b + 8) = 21) (by decide) (by decide +kernel) b h
theorem kf_8_10 : ∀ {b : Nat}, kd b = 8 → kd (b + 9) = 22 := fun {b} h => kd_all (P := fun b => kd (b + 9) = 22) (by decide) (by decide +kernel) b h
theorem fl_X0_9 : FL RX0 9 0 0 true := ⟨RX0, TX0, 11, tyX0, rfl, by decide, wt1_40, rfl, uinX0, tyX0_ok, nmX0, rfl⟩
theorem fl_X0_15 : FL RX0 15 0 1 true := ⟨RX0, TX0, 11, tyX0, rfl, by decide, wt1_43, rfl, uinX0, tyX0_ok, nmX0, rfl⟩
theorem fl_X0_18 : FL RX0 18 0 2 false := ⟨RX0, TX0, 11, tyX0, rfl, by decide, wt1_46, rfl, uinX0, tyX0_ok, nmX0, rfl⟩
theorem fl_X0_22 : FL RX0 22 0 3 false := ⟨RX0, TX0, 11, tyX0, rfl, by decide, wt1_47, rfl, uinX0, tyX0_ok, nmX0, rfl⟩
theorem fl_X0_25 : FL RX0 25 0 4 false := ⟨RX0, TX0, 11, tyX0, rfl, by decide, wt1_48, rfl, uinX0, tyX0_ok, nmX0, rfl⟩
theorem fl_X0_28 : FL RX0 28 0 5 false := ⟨RX0, TX0, 11, tyX0, rfl, by decide, wt1_49, rfl, uinX0, tyX0_ok, nmX0, rfl⟩
theorem fl_X0_31 : FL RX0 31 0 6 false := ⟨RX0, TX0, 11, tyX0, rfl, by decide, wt1_50, rfl, uinX0, tyX0_ok, nmX0, rfl⟩
theorem fl_X0_34 : FL RX0 34 0 7 false := ⟨RX0, TX0, 11, tyX0, rfl, by decide, wt1_51, rfl, uinX0, tyX0_ok, nmX0, rfl⟩
theorem fl_X0_37 : FL RX0 37 0 8 false := ⟨RX0, TX0, 11, tyX0, rfl, by decide, wt1_52, rfl, uinX0, tyX0_ok, nmX0, rfl⟩
theorem fl_X0_40 : FL RX0 40 0 9 false := ⟨RX0, TX0, 11, tyX0, rfl, by decide, wt1_54, rfl, uinX0, tyX0_ok, nmX0, rfl⟩
theorem fl_X0_43 : FL RX0 43 0 10 false := ⟨RX0, TX0, 11, tyX0, rfl, by decide, wt1_55, rfl, uinX0, tyX0_ok, nmX0, rfl⟩
theorem fl_X2_12 : FL RX2 12 1 1 true := ⟨RX2, TX2, 5, tyX2, rfl, by decide, wt1_237, rfl, uinX2, tyX2_ok, nmX2, rfl⟩
theorem fl_X2_18 : FL RX2 18 1 2 true := ⟨RX2, TX2, 5, tyX2, rfl, by decide, wt1_238, rfl, uinX2, tyX2_ok, nmX2, rfl⟩
theorem fl_X2_21 : FL RX2 21 1 3 true := ⟨RX2, TX2, 5, tyX2, rfl, by decide, wt1_239, rfl, uinX2, tyX2_ok, nmX2, rfl⟩
theorem fl_X2_24 : FL RX2 24 1 4 true := ⟨RX2, TX2, 5, tyX2, rfl, by decide, wt2_0, rfl, uinX2, tyX2_ok, nmX2, rfl⟩
theorem fl_X2_31 : FL RX2 31 1 0 true := ⟨RX2, TX2, 5, tyX2, rfl, by decide, wt1_235, rfl, uinX2, tyX2_ok, nmX2, rfl⟩
theorem fl_X3_9 : FL RX3 9 2 1 false := ⟨RX3, TX3, 2, tyX3, rfl, by decide, wt2_20, rfl, uinX3, tyX3_ok, nmX3, rfl⟩
theorem fl_X3_15 : FL RX3 15 2 0 true := ⟨RX3, TX3, 2, tyX3, rfl, by decide, wt2_18, rfl, uinX3, tyX3_ok, nmX3, rfl⟩
theorem fl_X4_12 : FL RX4 12 3 0 false := ⟨RX4, TX4, 4, tyX4, rfl, by decide, wt1_170, rfl, uinX4, tyX4_ok, nmX4, rfl⟩
theorem fl_X4_17 : FL RX4 17 3 1 true := ⟨RX4, TX4, 4, tyX4, rfl, by decide, wt1_171, rfl, uinX4, tyX4_ok, nmX4, rfl⟩
theorem fl_X4_22 : FL RX4 22 3 2 true := ⟨RX4, TX4, 4, tyX4, rfl, by decide, wt1_173, rfl, uinX4, tyX4_ok, nmX4, rfl⟩
theorem fl_X4_26 : FL RX4 26 3 3 true := ⟨RX4, TX4, 4, tyX4, rfl, by decide, wt1_175, rfl, uinX4, tyX4_ok, nmX4, rfl⟩
theorem fl_X5_12 : FL RX5 12 4 0 false := ⟨RX5, TX5, 10, tyX5, rfl, by decide, wt1_186, rfl, uinX5, tyX5_ok, nmX5, rfl⟩
theorem fl_X5_25 : FL RX5 25 4 1 false := ⟨RX5, TX5, 10, tyX5, rfl, by decide, wt1_188, rfl, uinX5, tyX5_ok, nmX5, rfl⟩
theorem fl_X5_31 : FL RX5 31 4 2 false := ⟨RX5, TX5, 10, tyX5, rfl, by decide, wt1_190, rfl, uinX5, tyX5_ok, nmX5, rfl⟩
theorem fl_X5_37 : FL RX5 37 4 3 false := ⟨RX5, TX5, 10, tyX5, rfl, by decide, wt1_192, rfl, uinX5, tyX5_ok, nmX5, rfl⟩
theorem fl_X5_41 : FL RX5 41 4 4 false := ⟨RX5, TX5, 10, tyX5, rfl, by decide, wt1_194, rfl, uinX5, tyX5_ok, nmX5, rfl⟩
theorem fl_X5_47 : FL RX5 47 4 5 false := ⟨RX5, TX5, 10, tyX5, rfl, by decide, wt1_196, rfl, uinX5, tyX5_ok, nmX5, rfl⟩
theorem fl_X5_64 : FL RX5 64 4 6 true := ⟨RX5, TX5, 10, tyX5, rfl, by decide, wt1_198, rfl, uinX5, tyX5_ok, nmX5, rfl⟩
theorem fl_X5_68 : FL RX5 68 4 7 true := ⟨RX5, TX5, 10, tyX5, rfl, by decide, wt1_200, rfl, uinX5, tyX5_ok, nmX5, rfl⟩
theorem fl_X5_71 : FL RX5 71 4 8 true := ⟨RX5, TX5, 10, tyX5, rfl, by decide, wt1_202, rfl, uinX5, tyX5_ok, nmX5, rfl⟩
theorem fl_X5_74 : FL RX5 74 4 9 true := ⟨RX5, TX5, 10, tyX5, rfl, by decide, wt1_204, rfl, uinX5, tyX5_ok, nmX5, rfl⟩
theorem fl_X5_77 : FL RX5 77 5 0 true := ⟨RX6, TX6, 8, tyX6, rfl, by decide, wt1_132, rfl, uinX6, tyX6_ok, nmX6, rfl⟩
theorem fl_X5_97 : FL RX5 97 0 0 true := ⟨RX0, TX0, 11, tyX0, rfl, by decide, wt1_42, rfl, uinX0, tyX0_ok, nmX0, rfl⟩
theorem fl_X5_110 : FL RX5 110 0 8 false := ⟨RX0, TX0, 11, tyX0, rfl, by decide, wt1_53, rfl, uinX0, tyX0_ok, nmX0, rfl⟩
theorem fl_X5_123 : FL RX5 123 0 1 true := ⟨RX0, TX0, 11, tyX0, rfl, by decide, wt1_45, rfl, uinX0, tyX0_ok, nmX0, rfl⟩
theorem fl_X5_147 : FL RX5 147 3 2 true := ⟨RX4, TX4, 4, tyX4, rfl, by decide, wt1_174, rfl, uinX4, tyX4_ok, nmX4, rfl⟩
theorem fl_X5_155 : FL RX5 155 3 1 true := ⟨RX4, TX4, 4, tyX4, rfl, by decide, wt1_172, rfl, uinX4, tyX4_ok, nmX4, rfl⟩
theorem fl_X5_187 : FL RX5 187 6 4 true := ⟨RX7, TX7, 8, tyX7, rfl, by decide, wt1_98, rfl, uinX7, tyX7_ok, nmX7, rfl⟩
theorem fl_X5_190 : FL RX5 190 6 5 true := ⟨RX7, TX7, 8, tyX7, rfl, by decide, wt1_101, rfl, uinX7, tyX7_ok, nmX7, rfl⟩
theorem fl_X5_197 : FL RX5 197 3 3 true := ⟨RX4, TX4, 4, tyX4, rfl, by decide, wt1_176, rfl, uinX4, tyX4_ok, nmX4, rfl⟩
theorem fl_X5_210 : FL RX5 210 6 3 true := ⟨RX7, TX7, 8, tyX7, rfl, by decide, wt1_96, rfl, uinX7, tyX7_ok, nmX7, rfl⟩
theorem fl_X6_11 : FL RX6 11 5 1 false := ⟨RX6, TX6, 8, tyX6, rfl, by decide, wt1_134, rfl, uinX6, tyX6_ok, nmX6, rfl⟩
theorem fl_X6_15 : FL RX6 15 5 2 false := ⟨RX6, TX6, 8, tyX6, rfl, by decide, wt1_135, rfl, uinX6, tyX6_ok, nmX6, rfl⟩
theorem fl_X6_18 : FL RX6 18 5 3 false := ⟨RX6, TX6, 8, tyX6, rfl, by decide, wt1_136, rfl, uinX6, tyX6_ok, nmX6, rfl⟩
theorem fl_X6_21 : FL RX6 21 5 4 false := ⟨RX6, TX6, 8, tyX6, rfl, by decide, wt1_137, rfl, uinX6, tyX6_ok, nmX6, rfl⟩
theorem fl_X6_24 : FL RX6 24 5 5 false := ⟨RX6, TX6, 8, tyX6, rfl, by decide, wt1_138, rfl, uinX6, tyX6_ok, nmX6, rfl⟩
theorem fl_X6_27 : FL RX6 27 5 6 false := ⟨RX6, TX6, 8, tyX6, rfl, by decide, wt1_139, rfl, uinX6, tyX6_ok, nmX6, rfl⟩
theorem fl_X6_30 : FL RX6 30 5 7 false := ⟨RX6, TX6, 8, tyX6, rfl, by decide, wt1_140, rfl, uinX6, tyX6_ok, nmX6, rfl⟩
theorem fl_X6_33 : FL RX6 33 5 0 true := ⟨RX6, TX6, 8, tyX6, rfl, by decide, wt1_131, rfl, uinX6, tyX6_ok, nmX6, rfl⟩
theorem fl_X7_9 : FL RX7 9 6 2 true := ⟨RX7, TX7, 8, tyX7, rfl, by decide, wt1_92, rfl, uinX7, tyX7_ok, nmX7, rfl⟩
theorem fl_X7_15 : FL RX7 15 6 7 false := ⟨RX7, TX7, 8, tyX7, rfl, by decide, wt1_105, rfl, uinX7, tyX7_ok, nmX7, rfl⟩
theorem fl_X7_19 : FL RX7 19 6 0 true := ⟨RX7, TX7, 8, tyX7, rfl, by decide, wt1_88, rfl, uinX7, tyX7_ok, nmX7, rfl⟩
theorem fl_X7_23 : FL RX7 23 6 1 true := ⟨RX7, TX7, 8, tyX7, rfl, by decide, wt1_90, rfl, uinX7, tyX7_ok, nmX7, rfl⟩
theorem fl_X7_26 : FL RX7 26 6 3 true := ⟨RX7, TX7, 8, tyX7, rfl, by decide, wt1_94, rfl, uinX7, tyX7_ok, nmX7, rfl⟩
theorem fl_X7_30 : FL RX7 30 6 4 true := ⟨RX7, TX7, 8, tyX7, rfl, by decide, wt1_97, rfl, uinX7, tyX7_ok, nmX7, rfl⟩
theorem fl_X7_33 : FL RX7 33 6 5 true := ⟨RX7, TX7, 8, tyX7, rfl, by decide, wt1_100, rfl, uinX7, tyX7_ok, nmX7, rfl⟩
theorem fl_X7_36 : FL RX7 36 6 6 true := ⟨RX7, TX7, 8, tyX7, rfl, by decide, wt1_103, rfl, uinX7, tyX7_ok, nmX7, rfl⟩
theorem fl_X8_12 : FL RX8 12 7 0 false := ⟨RX8, TX8, 6, tyX8, rfl, by decide, wt2_27, rfl, uinX8, tyX8_ok, nmX8, rfl⟩
theorem fl_X8_16 : FL RX8 16 7 1 false := ⟨RX8, TX8, 6, tyX8, rfl, by decide, wt2_28, rfl, uinX8, tyX8_ok, nmX8, rfl⟩
theorem fl_X8_19 : FL RX8 19 7 2 false := ⟨RX8, TX8, 6, tyX8, rfl, by decide, wt2_29, rfl, uinX8, tyX8_ok, nmX8, rfl⟩
theorem fl_X8_25 : FL RX8 25 7 3 false := ⟨RX8, TX8, 6, tyX8, rfl, by decide, wt2_30, rfl, uinX8, tyX8_ok, nmX8, rfl⟩
theorem fl_X8_32 : FL RX8 32 7 4 false := ⟨RX8, TX8, 6, tyX8, rfl, by decide, wt2_31, rfl, uinX8, tyX8_ok, nmX8, rfl⟩
theorem fl_X8_36 : FL RX8 36 7 5 true := ⟨RX8, TX8, 6, tyX8, rfl, by decide, wt2_32, rfl, uinX8, tyX8_ok, nmX8, rfl⟩
theorem fl_X8_40 : FL RX8 40 4 0 false := ⟨RX5, TX5, 10, tyX5, rfl, by decide, wt1_187, rfl, uinX5, tyX5_ok, nmX5, rfl⟩
theorem fl_X8_53 : FL RX8 53 0 0 true := ⟨RX0, TX0, 11, tyX0, rfl, by decide, wt1_41, rfl, uinX0, tyX0_ok, nmX0, rfl⟩
theorem fl_X8_57 : FL RX8 57 0 1 true := ⟨RX0, TX0, 11, tyX0, rfl, by decide, wt1_44, rfl, uinX0, tyX0_ok, nmX0, rfl⟩
theorem fl_X8_99 : FL RX8 99 6 3 true := ⟨RX7, TX7, 8, tyX7, rfl, by decide, wt1_95, rfl, uinX7, tyX7_ok, nmX7, rfl⟩
theorem fl_X8_104 : FL RX8 104 4 1 false := ⟨RX5, TX5, 10, tyX5, rfl, by decide, wt1_189, rfl, uinX5, tyX5_ok, nmX5, rfl⟩
theorem fl_X8_108 : FL RX8 108 4 2 false := ⟨RX5, TX5, 10, tyX5, rfl, by decide, wt1_191, rfl, uinX5, tyX5_ok, nmX5, rfl⟩
theorem fl_X8_117 : FL RX8 117 4 5 false := ⟨RX5, TX5, 10, tyX5, rfl, by decide, wt1_197, rfl, uinX5, tyX5_ok, nmX5, rfl⟩
theorem fl_X8_150 : FL RX8 150 4 4 false := ⟨RX5, TX5, 10, tyX5, rfl, by decide, wt1_195, rfl, uinX5, tyX5_ok, nmX5, rfl⟩
theorem fl_X8_169 : FL RX8 169 2 0 true := ⟨RX3, TX3, 2, tyX3, rfl, by decide, wt2_19, rfl, uinX3, tyX3_ok, nmX3, rfl⟩
theorem fl_X8_191 : FL RX8 191 1 0 true := ⟨RX2, TX2, 5, tyX2, rfl, by decide, wt1_236, rfl, uinX2, tyX2_ok, nmX2, rfl⟩
theorem fl_X8_197 : FL RX8 197 4 6 true := ⟨RX5, TX5, 10, tyX5, rfl, by decide, wt1_199, rfl, uinX5, tyX5_ok, nmX5, rfl⟩
theorem fl_X8_227 : FL RX8 227 6 4 true := ⟨RX7, TX7, 8, tyX7, rfl, by decide, wt1_99, rfl, uinX7, tyX7_ok, nmX7, rfl⟩
theorem fl_X8_230 : FL RX8 230 6 5 true := ⟨RX7, TX7, 8, tyX7, rfl, by decide, wt1_102, rfl, uinX7, tyX7_ok, nmX7, rfl⟩
theorem fl_X8_233 : FL RX8 233 6 6 true := ⟨RX7, TX7, 8, tyX7, rfl, by decide, wt1_104, rfl, uinX7, tyX7_ok, nmX7, rfl⟩
theorem fl_X8_236 : FL RX8 236 6 2 true := ⟨RX7, TX7, 8, tyX7, rfl, by decide, wt1_93, rfl, uinX7, tyX7_ok, nmX7, rfl⟩
theorem fl_X8_251 : FL RX8 251 4 3 false := ⟨RX5, TX5, 10, tyX5, rfl, by decide, wt1_193, rfl, uinX5, tyX5_ok, nmX5, rfl⟩
theorem fl_X8_254 : FL RX8 254 5 0 true := ⟨RX6, TX6, 8, tyX6, rfl, by decide, wt1_133, rfl, uinX6, tyX6_ok, nmX6, rfl⟩
theorem fl_X8_277 : FL RX8 277 4 7 true := ⟨RX5, TX5, 10, tyX5, rfl, by decide, wt1_201, rfl, uinX5, tyX5_ok, nmX5, rfl⟩
theorem fl_X8_280 : FL RX8 280 4 9 true := ⟨RX5, TX5, 10, tyX5, rfl, by decide, wt1_205, rfl, uinX5, tyX5_ok, nmX5, rfl⟩
theorem fl_X8_283 : FL RX8 283 4 8 true := ⟨RX5, TX5, 10, tyX5, rfl, by decide, wt1_203, rfl, uinX5, tyX5_ok, nmX5, rfl⟩
theorem fl_X8_289 : FL RX8 289 6 0 true := ⟨RX7, TX7, 8, tyX7, rfl, by decide, wt1_89, rfl, uinX7, tyX7_ok, nmX7, rfl⟩
theorem fl_X8_293 : FL RX8 293 6 1 true := ⟨RX7, TX7, 8, tyX7, rfl, by decide, wt1_91, rfl, uinX7, tyX7_ok, nmX7, rfl⟩
theorem fl_X9_7 : FL RX9 7 8 0 false := ⟨RX9, TX9, 15, tyX9, rfl, by decide, wt4_86, rfl, uinX9, tyX9_ok, nmX9, rfl⟩
theorem fl_X9_13 : FL RX9 13 8 1 false := ⟨RX9, TX9, 15, tyX9, rfl, by decide, wt4_87, rfl, uinX9, tyX9_ok, nmX9, rfl⟩
theorem fl_X9_16 : FL RX9 16 8 2 false := ⟨RX9, TX9, 15, tyX9, rfl, by decide, wt4_88, rfl, uinX9, tyX9_ok, nmX9, rfl⟩
theorem fl_X9_19 : FL RX9 19 8 3 false := ⟨RX9, TX9, 15, tyX9, rfl, by decide, wt4_89, rfl, uinX9, tyX9_ok, nmX9, rfl⟩
theorem fl_X9_22 : FL RX9 22 8 4 false := ⟨RX9, TX9, 15, tyX9, rfl, by decide, wt4_90, rfl, uinX9, tyX9_ok, nmX9, rfl⟩
theorem fl_X9_26 : FL RX9 26 8 5 false := ⟨RX9, TX9, 15, tyX9, rfl, by decide, wt4_91, rfl, uinX9, tyX9_ok, nmX9, rfl⟩
theorem fl_X9_29 : FL RX9 29 8 6 false := ⟨RX9, TX9, 15, tyX9, rfl, by decide, wt4_92, rfl, uinX9, tyX9_ok, nmX9, rfl⟩
theorem fl_X9_32 : FL RX9 32 8 7 false := ⟨RX9, TX9, 15, tyX9, rfl, by decide, wt4_93, rfl, uinX9, tyX9_ok, nmX9, rfl⟩
theorem fl_X9_35 : FL RX9 35 8 10 false := ⟨RX9, TX9, 15, tyX9, rfl, by decide, wt4_96, rfl, uinX9, tyX9_ok, nmX9, rfl⟩
theorem fl_X9_47 : FL RX9 47 8 8 true := ⟨RX9, TX9, 15, tyX9, rfl, by decide, wt4_94, rfl, uinX9, tyX9_ok, nmX9, rfl⟩
theorem fl_X9_57 : FL RX9 57 8 9 true := ⟨RX9, TX9, 15, tyX9, rfl, by decide, wt4_95, rfl, uinX9, tyX9_ok, nmX9, rfl⟩
theorem fl_X9_101 : FL RX9 101 8 14 true := ⟨RX9, TX9, 15, tyX9, rfl, by decide, wt4_100, rfl, uinX9, tyX9_ok, nmX9, rfl⟩
theorem fl_X9_104 : FL RX9 104 8 13 true := ⟨RX9, TX9, 15, tyX9, rfl, by decide, wt4_99, rfl, uinX9, tyX9_ok, nmX9, rfl⟩
theorem fl_X9_168 : FL RX9 168 8 11 true := ⟨RX9, TX9, 15, tyX9, rfl, by decide, wt4_97, rfl, uinX9, tyX9_ok, nmX9, rfl⟩
theorem fl_X9_171 : FL RX9 171 8 12 true := ⟨RX9, TX9, 15, tyX9, rfl, by decide, wt4_98, rfl, uinX9, tyX9_ok, nmX9, rfl⟩
theorem ft_X0_9 : FT RX0 9 0 0 .int := ⟨RX0, TX0, 11, tyX0, rfl, by decide, wt1_40, rfl, uinX0, tyX0_ok, nmX0, rfl, by decide +kernel⟩
theorem ft_X0_15 : FT RX0 15 0 1 .int := ⟨RX0, TX0, 11, tyX0, rfl, by decide, wt1_43, rfl, uinX0, tyX0_ok, nmX0, rfl, by decide +kernel⟩
theorem ft_X2_12 : FT RX2 12 1 1 (.object "BlanketKeys$State") := ⟨RX2, TX2, 5, tyX2, rfl, by decide, wt1_237, rfl, uinX2, tyX2_ok, nmX2, rfl, by decide +kernel⟩
theorem ft_X2_18 : FT RX2 18 1 2 (.object "BlanketKeys$State") := ⟨RX2, TX2, 5, tyX2, rfl, by decide, wt1_238, rfl, uinX2, tyX2_ok, nmX2, rfl, by decide +kernel⟩
theorem ft_X2_21 : FT RX2 21 1 3 (.object "BlanketKeys$State") := ⟨RX2, TX2, 5, tyX2, rfl, by decide, wt1_239, rfl, uinX2, tyX2_ok, nmX2, rfl, by decide +kernel⟩
theorem ft_X2_24 : FT RX2 24 1 4 (.object "BlanketKeys$State") := ⟨RX2, TX2, 5, tyX2, rfl, by decide, wt2_0, rfl, uinX2, tyX2_ok, nmX2, rfl, by decide +kernel⟩
theorem ft_X2_31 : FT RX2 31 1 0 .int := ⟨RX2, TX2, 5, tyX2, rfl, by decide, wt1_235, rfl, uinX2, tyX2_ok, nmX2, rfl, by decide +kernel⟩
theorem ft_X3_15 : FT RX3 15 2 0 .int := ⟨RX3, TX3, 2, tyX3, rfl, by decide, wt2_18, rfl, uinX3, tyX3_ok, nmX3, rfl, by decide +kernel⟩
theorem ft_X4_17 : FT RX4 17 3 1 .float := ⟨RX4, TX4, 4, tyX4, rfl, by decide, wt1_171, rfl, uinX4, tyX4_ok, nmX4, rfl, by decide +kernel⟩
theorem ft_X4_22 : FT RX4 22 3 2 .float := ⟨RX4, TX4, 4, tyX4, rfl, by decide, wt1_173, rfl, uinX4, tyX4_ok, nmX4, rfl, by decide +kernel⟩
theorem ft_X4_26 : FT RX4 26 3 3 .float := ⟨RX4, TX4, 4, tyX4, rfl, by decide, wt1_175, rfl, uinX4, tyX4_ok, nmX4, rfl, by decide +kernel⟩
theorem ft_X5_64 : FT RX5 64 4 6 .int := ⟨RX5, TX5, 10, tyX5, rfl, by decide, wt1_198, rfl, uinX5, tyX5_ok, nmX5, rfl, by decide +kernel⟩
theorem ft_X5_68 : FT RX5 68 4 7 .int := ⟨RX5, TX5, 10, tyX5, rfl, by decide, wt1_200, rfl, uinX5, tyX5_ok, nmX5, rfl, by decide +kernel⟩
theorem ft_X5_71 : FT RX5 71 4 8 .int := ⟨RX5, TX5, 10, tyX5, rfl, by decide, wt1_202, rfl, uinX5, tyX5_ok, nmX5, rfl, by decide +kernel⟩
theorem ft_X5_74 : FT RX5 74 4 9 .int := ⟨RX5, TX5, 10, tyX5, rfl, by decide, wt1_204, rfl, uinX5, tyX5_ok, nmX5, rfl, by decide +kernel⟩
theorem ft_X5_187 : FT RX5 187 6 4 .int := ⟨RX7, TX7, 8, tyX7, rfl, by decide, wt1_98, rfl, uinX7, tyX7_ok, nmX7, rfl, by decide +kernel⟩
theorem ft_X5_190 : FT RX5 190 6 5 .int := ⟨RX7, TX7, 8, tyX7, rfl, by decide, wt1_101, rfl, uinX7, tyX7_ok, nmX7, rfl, by decide +kernel⟩
theorem ft_X6_33 : FT RX6 33 5 0 .int := ⟨RX6, TX6, 8, tyX6, rfl, by decide, wt1_131, rfl, uinX6, tyX6_ok, nmX6, rfl, by decide +kernel⟩
theorem ft_X7_9 : FT RX7 9 6 2 .int := ⟨RX7, TX7, 8, tyX7, rfl, by decide, wt1_92, rfl, uinX7, tyX7_ok, nmX7, rfl, by decide +kernel⟩
theorem ft_X7_19 : FT RX7 19 6 0 .float := ⟨RX7, TX7, 8, tyX7, rfl, by decide, wt1_88, rfl, uinX7, tyX7_ok, nmX7, rfl, by decide +kernel⟩
theorem ft_X7_23 : FT RX7 23 6 1 .float := ⟨RX7, TX7, 8, tyX7, rfl, by decide, wt1_90, rfl, uinX7, tyX7_ok, nmX7, rfl, by decide +kernel⟩
theorem ft_X7_26 : FT RX7 26 6 3 .boolean := ⟨RX7, TX7, 8, tyX7, rfl, by decide, wt1_94, rfl, uinX7, tyX7_ok, nmX7, rfl, by decide +kernel⟩
theorem ft_X7_30 : FT RX7 30 6 4 .int := ⟨RX7, TX7, 8, tyX7, rfl, by decide, wt1_97, rfl, uinX7, tyX7_ok, nmX7, rfl, by decide +kernel⟩
theorem ft_X7_33 : FT RX7 33 6 5 .int := ⟨RX7, TX7, 8, tyX7, rfl, by decide, wt1_100, rfl, uinX7, tyX7_ok, nmX7, rfl, by decide +kernel⟩
theorem ft_X7_36 : FT RX7 36 6 6 .int := ⟨RX7, TX7, 8, tyX7, rfl, by decide, wt1_103, rfl, uinX7, tyX7_ok, nmX7, rfl, by decide +kernel⟩
theorem ft_X8_36 : FT RX8 36 7 5 .boolean := ⟨RX8, TX8, 6, tyX8, rfl, by decide, wt2_32, rfl, uinX8, tyX8_ok, nmX8, rfl, by decide +kernel⟩
theorem ft_X8_99 : FT RX8 99 6 3 .boolean := ⟨RX7, TX7, 8, tyX7, rfl, by decide, wt1_95, rfl, uinX7, tyX7_ok, nmX7, rfl, by decide +kernel⟩
theorem ft_X8_169 : FT RX8 169 2 0 .int := ⟨RX3, TX3, 2, tyX3, rfl, by decide, wt2_19, rfl, uinX3, tyX3_ok, nmX3, rfl, by decide +kernel⟩
theorem ft_X9_47 : FT RX9 47 8 8 .int := ⟨RX9, TX9, 15, tyX9, rfl, by decide, wt4_94, rfl, uinX9, tyX9_ok, nmX9, rfl, by decide +kernel⟩
theorem ft_X9_57 : FT RX9 57 8 9 .boolean := ⟨RX9, TX9, 15, tyX9, rfl, by decide, wt4_95, rfl, uinX9, tyX9_ok, nmX9, rfl, by decide +kernel⟩
theorem ft_X9_101 : FT RX9 101 8 14 .int := ⟨RX9, TX9, 15, tyX9, rfl, by decide, wt4_100, rfl, uinX9, tyX9_ok, nmX9, rfl, by decide +kernel⟩
theorem ft_X9_104 : FT RX9 104 8 13 .int := ⟨RX9, TX9, 15, tyX9, rfl, by decide, wt4_99, rfl, uinX9, tyX9_ok, nmX9, rfl, by decide +kernel⟩
theorem ft_X9_168 : FT RX9 168 8 11 .int := ⟨RX9, TX9, 15, tyX9, rfl, by decide, wt4_97, rfl, uinX9, tyX9_ok, nmX9, rfl, by decide +kernel⟩
theorem ft_X9_171 : FT RX9 171 8 12 .int := ⟨RX9, TX9, 15, tyX9, rfl, by decide, wt4_98, rfl, uinX9, tyX9_ok, nmX9, rfl, by decide +kernel⟩
theorem hs_0_0 {G : bkG} {M : Mem} {k : Nat} {x : Int32} : (flds G M k 0).set 0 (.int x) = flds G (w1 M k 0 x) k 0 := by simp [flds, w1, upd]
theorem hs_0_1 {G : bkG} {M : Mem} {k : Nat} {x : Int32} : (flds G M k 0).set 1 (.int x) = flds G (w1 M k 1 x) k 0 := by simp [flds, w1, upd]
theorem hs_1_0 {G : bkG} {M : Mem} {k : Nat} {x : Int32} : (flds G M k 1).set 0 (.int x) = flds G (w1 M k 0 x) k 1 := by simp [flds, w1, upd]
theorem hs_1_1 {G : bkG} {M : Mem} {k t : Nat} (h : kd t = 4) : (flds G M k 1).set 1 (rv G t) = flds G (w1 M k 1 (nI t)) k 1 := by
  have h1 : (nI t).toNatClampNeg = t := nI_clamp (Nat.lt_trans (kd_lt (by omega)) (by decide))
  simp [flds, w1, upd, h1]
theorem hs_1_2 {G : bkG} {M : Mem} {k t : Nat} (h : kd t = 4) : (flds G M k 1).set 2 (rv G t) = flds G (w1 M k 2 (nI t)) k 1 := by
  have h1 : (nI t).toNatClampNeg = t := nI_clamp (Nat.lt_trans (kd_lt (by omega)) (by decide))
  simp [flds, w1, upd, h1]
theorem hs_1_3 {G : bkG} {M : Mem} {k t : Nat} (h : kd t = 4) : (flds G M k 1).set 3 (rv G t) = flds G (w1 M k 3 (nI t)) k 1 := by
  have h1 : (nI t).toNatClampNeg = t := nI_clamp (Nat.lt_trans (kd_lt (by omega)) (by decide))
  simp [flds, w1, upd, h1]
theorem hs_1_4 {G : bkG} {M : Mem} {k t : Nat} (h : kd t = 4) : (flds G M k 1).set 4 (rv G t) = flds G (w1 M k 4 (nI t)) k 1 := by
  have h1 : (nI t).toNatClampNeg = t := nI_clamp (Nat.lt_trans (kd_lt (by omega)) (by decide))
  simp [flds, w1, upd, h1]
theorem hs_2_0 {G : bkG} {M : Mem} {k : Nat} {x : Int32} : (flds G M k 2).set 0 (.int x) = flds G (w1 M k 0 x) k 2 := by simp [flds, w1, upd]
theorem hs_3_1 {G : bkG} {M : Mem} {k : Nat} {x : UInt32} : (flds G M k 3).set 1 (.float x) = flds G (w2 M k 1 x) k 3 := by simp [flds, w2, vf_upd]
theorem hs_3_2 {G : bkG} {M : Mem} {k : Nat} {x : UInt32} : (flds G M k 3).set 2 (.float x) = flds G (w2 M k 2 x) k 3 := by simp [flds, w2, vf_upd]
theorem hs_3_3 {G : bkG} {M : Mem} {k : Nat} {x : UInt32} : (flds G M k 3).set 3 (.float x) = flds G (w2 M k 3 x) k 3 := by simp [flds, w2, vf_upd]
theorem hs_4_6 {G : bkG} {M : Mem} {k : Nat} {x : Int32} : (flds G M k 4).set 6 (.int x) = flds G (w1 M k 6 x) k 4 := by simp [flds, w1, upd]
theorem hs_4_7 {G : bkG} {M : Mem} {k : Nat} {x : Int32} : (flds G M k 4).set 7 (.int x) = flds G (w1 M k 7 x) k 4 := by simp [flds, w1, upd]
theorem hs_4_8 {G : bkG} {M : Mem} {k : Nat} {x : Int32} : (flds G M k 4).set 8 (.int x) = flds G (w1 M k 8 x) k 4 := by simp [flds, w1, upd]
theorem hs_4_9 {G : bkG} {M : Mem} {k : Nat} {x : Int32} : (flds G M k 4).set 9 (.int x) = flds G (w1 M k 9 x) k 4 := by simp [flds, w1, upd]
theorem hs_5_0 {G : bkG} {M : Mem} {k : Nat} {x : Int32} : (flds G M k 5).set 0 (.int x) = flds G (w1 M k 0 x) k 5 := by simp [flds, w1, upd]
theorem hs_6_0 {G : bkG} {M : Mem} {k : Nat} {x : UInt32} : (flds G M k 6).set 0 (.float x) = flds G (w2 M k 0 x) k 6 := by simp [flds, w2, vf_upd]
theorem hs_6_1 {G : bkG} {M : Mem} {k : Nat} {x : UInt32} : (flds G M k 6).set 1 (.float x) = flds G (w2 M k 1 x) k 6 := by simp [flds, w2, vf_upd]
theorem hs_6_2 {G : bkG} {M : Mem} {k : Nat} {x : Int32} : (flds G M k 6).set 2 (.int x) = flds G (w1 M k 2 x) k 6 := by simp [flds, w1, upd]
theorem hs_6_3 {G : bkG} {M : Mem} {k : Nat} {x : Int32} : (flds G M k 6).set 3 (.int x) = flds G (w1 M k 3 x) k 6 := by simp [flds, w1, upd]
theorem hs_6_4 {G : bkG} {M : Mem} {k : Nat} {x : Int32} : (flds G M k 6).set 4 (.int x) = flds G (w1 M k 4 x) k 6 := by simp [flds, w1, upd]
theorem hs_6_5 {G : bkG} {M : Mem} {k : Nat} {x : Int32} : (flds G M k 6).set 5 (.int x) = flds G (w1 M k 5 x) k 6 := by simp [flds, w1, upd]
theorem hs_6_6 {G : bkG} {M : Mem} {k : Nat} {x : Int32} : (flds G M k 6).set 6 (.int x) = flds G (w1 M k 6 x) k 6 := by simp [flds, w1, upd]
theorem hs_7_5 {G : bkG} {M : Mem} {k : Nat} {x : Int32} : (flds G M k 7).set 5 (.int x) = flds G (w1 M k 5 x) k 7 := by simp [flds, w1, upd]
theorem hs_8_8 {G : bkG} {M : Mem} {k : Nat} {x : Int32} : (flds G M k 8).set 8 (.int x) = flds G (w1 M k 8 x) k 8 := by simp [flds, w1, upd]
theorem hs_8_9 {G : bkG} {M : Mem} {k : Nat} {x : Int32} : (flds G M k 8).set 9 (.int x) = flds G (w1 M k 9 x) k 8 := by simp [flds, w1, upd]
theorem hs_8_11 {G : bkG} {M : Mem} {k : Nat} {x : Int32} : (flds G M k 8).set 11 (.int x) = flds G (w1 M k 11 x) k 8 := by simp [flds, w1, upd]
theorem hs_8_12 {G : bkG} {M : Mem} {k : Nat} {x : Int32} : (flds G M k 8).set 12 (.int x) = flds G (w1 M k 12 x) k 8 := by simp [flds, w1, upd]
theorem hs_8_13 {G : bkG} {M : Mem} {k : Nat} {x : Int32} : (flds G M k 8).set 13 (.int x) = flds G (w1 M k 13 x) k 8 := by simp [flds, w1, upd]
theorem hs_8_14 {G : bkG} {M : Mem} {k : Nat} {x : Int32} : (flds G M k 8).set 14 (.int x) = flds G (w1 M k 14 x) k 8 := by simp [flds, w1, upd]
theorem cl_Jxf58ca_59 : CLS RJxf58ca 59 yJxf58ca_isNaN_12338 cJxf58ca_isNaN_12338 1 (some .boolean) 1 := ⟨wt4_212, wt4_213, wt1_16, wt4_214, ⟨by decide +kernel, by decide +kernel, by decide +kernel⟩⟩
theorem cl_X0_46 : CLS RX0 46 yJ7_fill_53178 cJ7_fill_53178 4 none 2 := ⟨wt1_37, wt1_38, wt1_4, wt1_39, ⟨by decide +kernel, by decide +kernel, by decide +kernel⟩⟩
theorem cl_X0_52 : CLS RX0 52 yX1_copy cX1_copy 2 none 2 := ⟨wt2_79, wt2_80, wt1_11, wt2_81, ⟨by decide +kernel, by decide +kernel, by decide +kernel⟩⟩
theorem cl_X0_58 : CLV RX0 58 yX0_rowOf cX0_rowOf 2 (some .int) 1 := ⟨wt2_201, wt2_202, wt2_203, wt1_3, wt2_204, ⟨by decide +kernel, by decide +kernel, by decide +kernel⟩⟩
theorem cl_X0_62 : CLS RX0 62 yX1_at cX1_at 2 (some .int) 2 := ⟨wt2_125, wt2_126, wt1_11, wt2_127, ⟨by decide +kernel, by decide +kernel, by decide +kernel⟩⟩
theorem cl_X0_66 : CLV RX0 66 yX0_bitOf cX0_bitOf 2 (some .int) 1 := ⟨wt2_205, wt2_206, wt2_207, wt1_3, wt2_208, ⟨by decide +kernel, by decide +kernel, by decide +kernel⟩⟩
theorem cl_X0_69 : CLS RX0 69 yX1_bitsIn cX1_bitsIn 6 (some .int) 1 := ⟨wt2_54, wt2_55, wt1_11, wt2_56, ⟨by decide +kernel, by decide +kernel, by decide +kernel⟩⟩
theorem cl_X0_73 : CLS RX0 73 yX1_put cX1_put 3 none 3 := ⟨wt2_137, wt2_138, wt1_11, wt2_139, ⟨by decide +kernel, by decide +kernel, by decide +kernel⟩⟩
theorem cl_X0_77 : CLV RX0 77 yX0_has cX0_has 2 (some .boolean) 1 := ⟨wt2_124, wt2_117, wt2_118, wt1_3, wt2_119, ⟨by decide +kernel, by decide +kernel, by decide +kernel⟩⟩
theorem cl_X0_81 : CLV RX0 81 yX0_shiftOwner cX0_shiftOwner 2 (some .int) 1 := ⟨wt2_136, wt2_129, wt2_130, wt1_3, wt2_131, ⟨by decide +kernel, by decide +kernel, by decide +kernel⟩⟩
theorem cl_X0_84 : CLV RX0 84 yX0_shiftOf cX0_shiftOf 2 (some .int) 1 := ⟨wt3_133, wt2_148, wt2_149, wt1_3, wt2_150, ⟨by decide +kernel, by decide +kernel, by decide +kernel⟩⟩
theorem cl_X0_87 : CLV RX0 87 yX0_isSeen cX0_isSeen 2 (some .boolean) 1 := ⟨wt3_134, wt3_135, wt3_136, wt1_3, wt3_137, ⟨by decide +kernel, by decide +kernel, by decide +kernel⟩⟩
theorem cl_X0_90 : CLV RX0 90 yX0_isDoubtful cX0_isDoubtful 2 (some .boolean) 1 := ⟨wt3_138, wt3_27, wt3_28, wt1_3, wt3_29, ⟨by decide +kernel, by decide +kernel, by decide +kernel⟩⟩
theorem cl_X0_93 : CLV RX0 93 yX0_joined cX0_joined 4 (some .int) 2 := ⟨wt3_14, wt3_15, wt3_16, wt1_3, wt3_17, ⟨by decide +kernel, by decide +kernel, by decide +kernel⟩⟩
theorem cl_X0_97 : CLV RX0 97 yX0_sensed cX0_sensed 8 (some .int) 2 := ⟨wt4_60, wt3_11, wt3_12, wt1_3, wt3_13, ⟨by decide +kernel, by decide +kernel, by decide +kernel⟩⟩
theorem cl_X0_100 : CLS RX0 100 yJ6_bitCount_0f7a4 cJ6_bitCount_0f7a4 1 (some .int) 1 := ⟨wt4_61, wt2_58, wt1_13, wt2_59, ⟨by decide +kernel, by decide +kernel, by decide +kernel⟩⟩
theorem cl_X0_105 : CLV RX0 105 yX0_closesCorner cX0_closesCorner 6 (some .boolean) 2 := ⟨wt3_125, wt3_126, wt3_127, wt1_3, wt3_128, ⟨by decide +kernel, by decide +kernel, by decide +kernel⟩⟩
theorem cl_X0_109 : CLV RX0 109 yX0_isShiftOn cX0_isShiftOn 3 (some .boolean) 1 := ⟨wt3_129, wt3_130, wt3_131, wt1_3, wt3_132, ⟨by decide +kernel, by decide +kernel, by decide +kernel⟩⟩
theorem cl_X1_7 : CLS RX1 7 yJ9_min_7cf53 cJ9_min_7cf53 2 (some .int) 2 := ⟨wt2_82, wt2_83, wt1_14, wt2_84, ⟨by decide +kernel, by decide +kernel, by decide +kernel⟩⟩
theorem cl_X1_19 : CLS RX1 19 yJ6_bitCount_0f7a4 cJ6_bitCount_0f7a4 1 (some .int) 1 := ⟨wt2_57, wt2_58, wt1_13, wt2_59, ⟨by decide +kernel, by decide +kernel, by decide +kernel⟩⟩
theorem cl_X2_27 : CLV RX2 27 yX5_copyFrom cX5_copyFrom 2 none 1 := ⟨wt2_71, wt2_72, wt2_73, wt1_2, wt2_74, ⟨by decide +kernel, by decide +kernel, by decide +kernel⟩⟩
theorem cl_X2_35 : CLS RX2 35 yJ9_min_7cf53 cJ9_min_7cf53 2 (some .int) 2 := ⟨wt2_103, wt2_83, wt1_14, wt2_84, ⟨by decide +kernel, by decide +kernel, by decide +kernel⟩⟩
theorem cl_X3_19 : CLV RX3 19 yX3_characterAt cX3_characterAt 2 (some .char) 1 := ⟨wt3_185, wt3_186, wt3_187, wt1_9, wt3_188, ⟨by decide +kernel, by decide +kernel, by decide +kernel⟩⟩
theorem cl_X3_23 : CLS RX3 23 yX3_placeAfter cX3_placeAfter 2 (some .int) 2 := ⟨wt3_189, wt3_190, wt1_9, wt3_191, ⟨by decide +kernel, by decide +kernel, by decide +kernel⟩⟩
theorem cl_X3_27 : CLS RX3 27 yX3_isDigit cX3_isDigit 1 (some .boolean) 1 := ⟨wt3_192, wt3_193, wt1_9, wt3_194, ⟨by decide +kernel, by decide +kernel, by decide +kernel⟩⟩
theorem cl_X4_29 : CLS RX4 29 yX1_copy cX1_copy 2 none 2 := ⟨wt2_102, wt2_80, wt1_11, wt2_81, ⟨by decide +kernel, by decide +kernel, by decide +kernel⟩⟩
theorem cl_X4_38 : CLS RX4 38 yX1_at cX1_at 2 (some .int) 2 := ⟨wt2_176, wt2_126, wt1_11, wt2_127, ⟨by decide +kernel, by decide +kernel, by decide +kernel⟩⟩
theorem cl_X4_42 : CLS RX4 42 yX1_put cX1_put 3 none 3 := ⟨wt2_181, wt2_138, wt1_11, wt2_139, ⟨by decide +kernel, by decide +kernel, by decide +kernel⟩⟩
theorem cl_X4_46 : CLS RX4 46 yX4_valueOf cX4_valueOf 6 (some .float) 1 := ⟨wt2_182, wt2_183, wt1_7, wt2_184, ⟨by decide +kernel, by decide +kernel, by decide +kernel⟩⟩
theorem cl_X5_51 : CLV RX5 51 yX0_copyFrom cX0_copyFrom 2 none 1 := ⟨wt2_75, wt2_76, wt2_77, wt1_3, wt2_78, ⟨by decide +kernel, by decide +kernel, by decide +kernel⟩⟩
theorem cl_X5_55 : CLV RX5 55 yX7_copyFrom cX7_copyFrom 2 none 1 := ⟨wt2_88, wt2_89, wt2_90, wt1_5, wt2_91, ⟨by decide +kernel, by decide +kernel, by decide +kernel⟩⟩
theorem cl_X5_58 : CLV RX5 58 yX6_copyFrom cX6_copyFrom 2 none 1 := ⟨wt2_93, wt2_94, wt2_95, wt1_6, wt2_96, ⟨by decide +kernel, by decide +kernel, by decide +kernel⟩⟩
theorem cl_X5_61 : CLV RX5 61 yX4_copyFrom cX4_copyFrom 2 none 1 := ⟨wt2_98, wt2_99, wt2_100, wt1_7, wt2_101, ⟨by decide +kernel, by decide +kernel, by decide +kernel⟩⟩
theorem cl_X5_80 : CLS RX5 80 yX5_isTypist cX5_isTypist 1 (some .boolean) 1 := ⟨wt2_195, wt2_145, wt1_2, wt2_146, ⟨by decide +kernel, by decide +kernel, by decide +kernel⟩⟩
theorem cl_X5_84 : CLV RX5 84 yX0_has cX0_has 2 (some .boolean) 1 := ⟨wt2_196, wt2_117, wt2_118, wt1_3, wt2_119, ⟨by decide +kernel, by decide +kernel, by decide +kernel⟩⟩
theorem cl_X5_87 : CLV RX5 87 yX0_isDown cX0_isDown 2 (some .boolean) 1 := ⟨wt2_197, wt2_198, wt2_199, wt1_3, wt2_200, ⟨by decide +kernel, by decide +kernel, by decide +kernel⟩⟩
theorem cl_X5_90 : CLV RX5 90 yX0_heldBy cX0_heldBy 7 (some .int) 1 := ⟨wt2_209, wt2_210, wt2_211, wt1_3, wt2_212, ⟨by decide +kernel, by decide +kernel, by decide +kernel⟩⟩
theorem cl_X5_94 : CLV RX5 94 yX0_holderOf cX0_holderOf 2 (some .int) 1 := ⟨wt2_226, wt2_227, wt2_228, wt1_3, wt2_229, ⟨by decide +kernel, by decide +kernel, by decide +kernel⟩⟩
theorem cl_X5_100 : CLS RX5 100 yJ9_floorMod_7cf53 cJ9_floorMod_7cf53 3 (some .int) 2 := ⟨wt3_6, wt3_7, wt1_14, wt3_8, ⟨by decide +kernel, by decide +kernel, by decide +kernel⟩⟩
theorem cl_X5_106 : CLV RX5 106 yX5_drivenRow cX5_drivenRow 1 (some .int) 0 := ⟨wt3_2, wt3_3, wt3_4, wt1_2, wt3_5, ⟨by decide +kernel, by decide +kernel, by decide +kernel⟩⟩
theorem cl_X5_114 : CLS RX5 114 yX1_at cX1_at 2 (some .int) 2 := ⟨wt3_9, wt2_126, wt1_11, wt2_127, ⟨by decide +kernel, by decide +kernel, by decide +kernel⟩⟩
theorem cl_X5_120 : CLV RX5 120 yX0_sensed cX0_sensed 8 (some .int) 2 := ⟨wt3_10, wt3_11, wt3_12, wt1_3, wt3_13, ⟨by decide +kernel, by decide +kernel, by decide +kernel⟩⟩
theorem cl_X5_126 : CLV RX5 126 yX5_endStroke cX5_endStroke 3 none 1 := ⟨wt3_18, wt3_19, wt3_20, wt1_2, wt3_21, ⟨by decide +kernel, by decide +kernel, by decide +kernel⟩⟩
theorem cl_X5_130 : CLV RX5 130 yX0_see cX0_see 7 none 3 := ⟨wt3_121, wt3_122, wt3_123, wt1_3, wt3_124, ⟨by decide +kernel, by decide +kernel, by decide +kernel⟩⟩
theorem cl_X5_134 : CLV RX5 134 yX0_isDoubtful cX0_isDoubtful 2 (some .boolean) 1 := ⟨wt3_26, wt3_27, wt3_28, wt1_3, wt3_29, ⟨by decide +kernel, by decide +kernel, by decide +kernel⟩⟩
theorem cl_X5_137 : CLV RX5 137 yX0_shiftOwner cX0_shiftOwner 2 (some .int) 1 := ⟨wt3_30, wt2_129, wt2_130, wt1_3, wt2_131, ⟨by decide +kernel, by decide +kernel, by decide +kernel⟩⟩
theorem cl_X5_140 : CLV RX5 140 yX0_sinceOf cX0_sinceOf 2 (some .int) 1 := ⟨wt3_31, wt3_32, wt3_33, wt1_3, wt3_34, ⟨by decide +kernel, by decide +kernel, by decide +kernel⟩⟩
theorem cl_X5_143 : CLV RX5 143 yX7_distanceOf cX7_distanceOf 4 (some .float) 2 := ⟨wt3_35, wt3_36, wt3_37, wt1_5, wt3_38, ⟨by decide +kernel, by decide +kernel, by decide +kernel⟩⟩
theorem cl_X5_151 : CLS RX5 151 yX7_unsigned cX7_unsigned 1 (some .float) 1 := ⟨wt3_46, wt3_40, wt1_5, wt3_41, ⟨by decide +kernel, by decide +kernel, by decide +kernel⟩⟩
theorem cl_X5_158 : CLV RX5 158 yX5_fateNow cX5_fateNow 9 (some .int) 1 := ⟨wt3_22, wt3_23, wt3_24, wt1_2, wt3_25, ⟨by decide +kernel, by decide +kernel, by decide +kernel⟩⟩
theorem cl_X5_161 : CLV RX5 161 yX6_addFrom cX6_addFrom 6 none 4 := ⟨wt3_47, wt3_48, wt3_49, wt1_6, wt3_50, ⟨by decide +kernel, by decide +kernel, by decide +kernel⟩⟩
theorem cl_X5_165 : CLV RX5 165 yX0_loseSight cX0_loseSight 3 none 1 := ⟨wt3_64, wt3_65, wt3_66, wt1_3, wt3_67, ⟨by decide +kernel, by decide +kernel, by decide +kernel⟩⟩
theorem cl_X5_168 : CLV RX5 168 yX6_addLatestOf cX6_addLatestOf 4 none 1 := ⟨wt3_68, wt3_69, wt3_70, wt1_6, wt3_71, ⟨by decide +kernel, by decide +kernel, by decide +kernel⟩⟩
theorem cl_X5_171 : CLV RX5 171 yX5_finish cX5_finish 10 none 4 := ⟨wt3_97, wt3_98, wt3_99, wt1_2, wt3_100, ⟨by decide +kernel, by decide +kernel, by decide +kernel⟩⟩
theorem cl_X5_175 : CLV RX5 175 yX6_changeFate cX6_changeFate 3 none 2 := ⟨wt3_152, wt3_153, wt3_154, wt1_6, wt3_155, ⟨by decide +kernel, by decide +kernel, by decide +kernel⟩⟩
theorem cl_X5_179 : CLV RX5 179 yX6_originOf cX6_originOf 2 (some .int) 1 := ⟨wt3_160, wt3_161, wt3_162, wt1_6, wt3_163, ⟨by decide +kernel, by decide +kernel, by decide +kernel⟩⟩
theorem cl_X5_182 : CLV RX5 182 yX6_holderOf cX6_holderOf 2 (some .int) 1 := ⟨wt3_101, wt3_90, wt3_91, wt1_6, wt3_92, ⟨by decide +kernel, by decide +kernel, by decide +kernel⟩⟩
theorem cl_X5_183 : CLV RX5 183 yX5_typistOf cX5_typistOf 2 (some (.object "BlanketKeys$Typist")) 1 := ⟨wt3_102, wt2_160, wt2_161, wt1_2, wt2_162, ⟨by decide +kernel, by decide +kernel, by decide +kernel⟩⟩
theorem cl_X5_193 : CLV RX5 193 yX6_sinceOf cX6_sinceOf 2 (some .int) 1 := ⟨wt3_103, wt3_78, wt3_79, wt1_6, wt3_80, ⟨by decide +kernel, by decide +kernel, by decide +kernel⟩⟩
theorem cl_X5_194 : CLV RX5 194 yX6_dwellOf cX6_dwellOf 2 (some .int) 1 := ⟨wt3_104, wt3_82, wt3_83, wt1_6, wt3_84, ⟨by decide +kernel, by decide +kernel, by decide +kernel⟩⟩
theorem cl_X5_200 : CLV RX5 200 yX7_learn cX7_learn 4 none 3 := ⟨wt3_105, wt3_106, wt3_107, wt1_5, wt3_108, ⟨by decide +kernel, by decide +kernel, by decide +kernel⟩⟩
theorem cl_X5_204 : CLV RX5 204 yX6_keyOf cX6_keyOf 2 (some .int) 1 := ⟨wt3_112, wt3_73, wt3_74, wt1_6, wt3_75, ⟨by decide +kernel, by decide +kernel, by decide +kernel⟩⟩
theorem cl_X5_207 : CLV RX5 207 yX0_signOf cX0_signOf 2 (some .int) 1 := ⟨wt3_113, wt2_121, wt2_122, wt1_3, wt2_123, ⟨by decide +kernel, by decide +kernel, by decide +kernel⟩⟩
theorem cl_X5_214 : CLV RX5 214 yX6_notedOf cX6_notedOf 2 (some .int) 1 := ⟨wt3_114, wt3_94, wt3_95, wt1_6, wt3_96, ⟨by decide +kernel, by decide +kernel, by decide +kernel⟩⟩
theorem cl_X5_217 : CLV RX5 217 yX7_addSign cX7_addSign 2 none 1 := ⟨wt3_115, wt3_116, wt3_117, wt1_5, wt3_118, ⟨by decide +kernel, by decide +kernel, by decide +kernel⟩⟩
theorem cl_X6_37 : CLS RX6 37 yX1_copy cX1_copy 2 none 2 := ⟨wt2_97, wt2_80, wt1_11, wt2_81, ⟨by decide +kernel, by decide +kernel, by decide +kernel⟩⟩
theorem cl_X6_43 : CLS RX6 43 yX6_slot cX6_slot 1 (some .int) 1 := ⟨wt3_51, wt3_52, wt1_6, wt3_53, ⟨by decide +kernel, by decide +kernel, by decide +kernel⟩⟩
theorem cl_X6_47 : CLS RX6 47 yX1_put cX1_put 3 none 3 := ⟨wt3_54, wt2_138, wt1_11, wt2_139, ⟨by decide +kernel, by decide +kernel, by decide +kernel⟩⟩
theorem cl_X6_51 : CLV RX6 51 yX0_sinceOf cX0_sinceOf 2 (some .int) 1 := ⟨wt3_55, wt3_32, wt3_33, wt1_3, wt3_34, ⟨by decide +kernel, by decide +kernel, by decide +kernel⟩⟩
theorem cl_X6_56 : CLV RX6 56 yX0_trueHolderOf cX0_trueHolderOf 2 (some .int) 1 := ⟨wt3_56, wt3_57, wt3_58, wt1_3, wt3_59, ⟨by decide +kernel, by decide +kernel, by decide +kernel⟩⟩
theorem cl_X6_59 : CLV RX6 59 yX0_notedFor cX0_notedFor 2 (some .int) 1 := ⟨wt3_60, wt3_61, wt3_62, wt1_3, wt3_63, ⟨by decide +kernel, by decide +kernel, by decide +kernel⟩⟩
theorem cl_X6_62 : CLV RX6 62 yX6_keyOf cX6_keyOf 2 (some .int) 1 := ⟨wt3_72, wt3_73, wt3_74, wt1_6, wt3_75, ⟨by decide +kernel, by decide +kernel, by decide +kernel⟩⟩
theorem cl_X6_65 : CLV RX6 65 yX6_sinceOf cX6_sinceOf 2 (some .int) 1 := ⟨wt3_77, wt3_78, wt3_79, wt1_6, wt3_80, ⟨by decide +kernel, by decide +kernel, by decide +kernel⟩⟩
theorem cl_X6_66 : CLV RX6 66 yX6_dwellOf cX6_dwellOf 2 (some .int) 1 := ⟨wt3_81, wt3_82, wt3_83, wt1_6, wt3_84, ⟨by decide +kernel, by decide +kernel, by decide +kernel⟩⟩
theorem cl_X6_69 : CLV RX6 69 yX6_fateOf cX6_fateOf 2 (some .int) 1 := ⟨wt3_85, wt3_86, wt3_87, wt1_6, wt3_88, ⟨by decide +kernel, by decide +kernel, by decide +kernel⟩⟩
theorem cl_X6_72 : CLV RX6 72 yX6_holderOf cX6_holderOf 2 (some .int) 1 := ⟨wt3_89, wt3_90, wt3_91, wt1_6, wt3_92, ⟨by decide +kernel, by decide +kernel, by decide +kernel⟩⟩
theorem cl_X6_75 : CLV RX6 75 yX6_notedOf cX6_notedOf 2 (some .int) 1 := ⟨wt3_93, wt3_94, wt3_95, wt1_6, wt3_96, ⟨by decide +kernel, by decide +kernel, by decide +kernel⟩⟩
theorem cl_X6_78 : CLS RX6 78 yX1_at cX1_at 2 (some .int) 2 := ⟨wt3_76, wt2_126, wt1_11, wt2_127, ⟨by decide +kernel, by decide +kernel, by decide +kernel⟩⟩
theorem cl_X6_82 : CLV RX6 82 yX6_holds cX6_holds 2 (some .boolean) 1 := ⟨wt3_156, wt3_157, wt3_158, wt1_6, wt3_159, ⟨by decide +kernel, by decide +kernel, by decide +kernel⟩⟩
theorem cl_X7_39 : CLS RX7 39 yX1_copy cX1_copy 2 none 2 := ⟨wt2_92, wt2_80, wt1_11, wt2_81, ⟨by decide +kernel, by decide +kernel, by decide +kernel⟩⟩
theorem cl_X7_45 : CLS RX7 45 yX7_unsigned cX7_unsigned 1 (some .float) 1 := ⟨wt3_39, wt3_40, wt1_5, wt3_41, ⟨by decide +kernel, by decide +kernel, by decide +kernel⟩⟩
theorem cl_X7_49 : CLS RX7 49 yJ9_abs_0f7a4 cJ9_abs_0f7a4 1 (some .int) 1 := ⟨wt3_42, wt3_43, wt1_14, wt3_44, ⟨by decide +kernel, by decide +kernel, by decide +kernel⟩⟩
theorem cl_X7_56 : CLS RX7 56 yX7_atLeastHalf cX7_atLeastHalf 1 (some .float) 1 := ⟨wt3_109, wt3_110, wt1_5, wt3_111, ⟨by decide +kernel, by decide +kernel, by decide +kernel⟩⟩
theorem cl_X7_59 : CLS RX7 59 yJ9_floorMod_7cf53 cJ9_floorMod_7cf53 3 (some .int) 2 := ⟨wt3_119, wt3_7, wt1_14, wt3_8, ⟨by decide +kernel, by decide +kernel, by decide +kernel⟩⟩
theorem cl_X7_63 : CLS RX7 63 yX1_put cX1_put 3 none 3 := ⟨wt3_120, wt2_138, wt1_11, wt2_139, ⟨by decide +kernel, by decide +kernel, by decide +kernel⟩⟩
theorem cl_X7_67 : CLS RX7 67 yX1_at cX1_at 2 (some .int) 2 := ⟨wt4_29, wt2_126, wt1_11, wt2_127, ⟨by decide +kernel, by decide +kernel, by decide +kernel⟩⟩
theorem cl_X8_44 : CLV RX8 44 yX0_downKeys cX0_downKeys 1 (some .int) 0 := ⟨wt2_50, wt2_51, wt2_52, wt1_3, wt2_53, ⟨by decide +kernel, by decide +kernel, by decide +kernel⟩⟩
theorem cl_X8_50 : CLV RX8 50 yX0_seenKeys cX0_seenKeys 1 (some .int) 0 := ⟨wt2_63, wt2_64, wt2_65, wt1_3, wt2_66, ⟨by decide +kernel, by decide +kernel, by decide +kernel⟩⟩
theorem cl_X8_60 : CLV RX8 60 yX2_remember cX2_remember 3 none 1 := ⟨wt2_67, wt2_68, wt2_69, wt1_8, wt2_70, ⟨by decide +kernel, by decide +kernel, by decide +kernel⟩⟩
theorem cl_X8_64 : CLV RX8 64 yX0_rebuild cX0_rebuild 3 none 2 := ⟨wt2_104, wt2_105, wt2_106, wt1_3, wt2_107, ⟨by decide +kernel, by decide +kernel, by decide +kernel⟩⟩
theorem cl_X8_68 : CLV RX8 68 yX0_size cX0_size 1 (some .int) 0 := ⟨wt2_108, wt2_109, wt2_110, wt1_3, wt2_111, ⟨by decide +kernel, by decide +kernel, by decide +kernel⟩⟩
theorem cl_X8_71 : CLV RX8 71 yX0_has cX0_has 2 (some .boolean) 1 := ⟨wt2_116, wt2_117, wt2_118, wt1_3, wt2_119, ⟨by decide +kernel, by decide +kernel, by decide +kernel⟩⟩
theorem cl_X8_75 : CLV RX8 75 yX0_signOf cX0_signOf 2 (some .int) 1 := ⟨wt2_120, wt2_121, wt2_122, wt1_3, wt2_123, ⟨by decide +kernel, by decide +kernel, by decide +kernel⟩⟩
theorem cl_X8_79 : CLV RX8 79 yX0_shiftOwner cX0_shiftOwner 2 (some .int) 1 := ⟨wt2_128, wt2_129, wt2_130, wt1_3, wt2_131, ⟨by decide +kernel, by decide +kernel, by decide +kernel⟩⟩
theorem cl_X8_82 : CLV RX8 82 yX0_giveSign cX0_giveSign 4 none 2 := ⟨wt2_132, wt2_133, wt2_134, wt1_3, wt2_135, ⟨by decide +kernel, by decide +kernel, by decide +kernel⟩⟩
theorem cl_X8_86 : CLS RX8 86 yX5_isTypist cX5_isTypist 1 (some .boolean) 1 := ⟨wt2_144, wt2_145, wt1_2, wt2_146, ⟨by decide +kernel, by decide +kernel, by decide +kernel⟩⟩
theorem cl_X8_89 : CLV RX8 89 yX0_shiftOf cX0_shiftOf 2 (some .int) 1 := ⟨wt2_147, wt2_148, wt2_149, wt1_3, wt2_150, ⟨by decide +kernel, by decide +kernel, by decide +kernel⟩⟩
theorem cl_X8_92 : CLV RX8 92 yX0_giveShift cX0_giveShift 3 none 2 := ⟨wt2_151, wt2_152, wt2_153, wt1_3, wt2_154, ⟨by decide +kernel, by decide +kernel, by decide +kernel⟩⟩
theorem cl_X8_95 : CLV RX8 95 yX5_typistOf cX5_typistOf 2 (some (.object "BlanketKeys$Typist")) 1 := ⟨wt2_159, wt2_160, wt2_161, wt1_2, wt2_162, ⟨by decide +kernel, by decide +kernel, by decide +kernel⟩⟩
theorem cl_X8_111 : CLS RX8 111 yX4_accepts cX4_accepts 2 (some .boolean) 2 := ⟨wt2_167, wt2_168, wt1_7, wt2_169, ⟨by decide +kernel, by decide +kernel, by decide +kernel⟩⟩
theorem cl_X8_121 : CLV RX8 121 yX4_bitsOf cX4_bitsOf 2 (some .int) 1 := ⟨wt2_172, wt2_173, wt2_174, wt1_7, wt2_175, ⟨by decide +kernel, by decide +kernel, by decide +kernel⟩⟩
theorem cl_X8_124 : CLV RX8 124 yX4_change cX4_change 4 none 2 := ⟨wt2_177, wt2_178, wt2_179, wt1_7, wt2_180, ⟨by decide +kernel, by decide +kernel, by decide +kernel⟩⟩
theorem cl_X8_127 : CLV RX8 127 yX5_pressError cX5_pressError 3 (some .int) 2 := ⟨wt2_191, wt2_192, wt2_193, wt1_2, wt2_194, ⟨by decide +kernel, by decide +kernel, by decide +kernel⟩⟩
theorem cl_X8_131 : CLV RX8 131 yX0_putDown cX0_putDown 4 none 2 := ⟨wt2_213, wt2_214, wt2_215, wt1_3, wt2_216, ⟨by decide +kernel, by decide +kernel, by decide +kernel⟩⟩
theorem cl_X8_134 : CLV RX8 134 yX0_heldBy cX0_heldBy 7 (some .int) 1 := ⟨wt2_217, wt2_210, wt2_211, wt1_3, wt2_212, ⟨by decide +kernel, by decide +kernel, by decide +kernel⟩⟩
theorem cl_X8_137 : CLV RX8 137 yX5_releaseError cX5_releaseError 3 (some .int) 2 := ⟨wt2_222, wt2_223, wt2_224, wt1_2, wt2_225, ⟨by decide +kernel, by decide +kernel, by decide +kernel⟩⟩
theorem cl_X8_140 : CLV RX8 140 yX0_liftUp cX0_liftUp 3 none 1 := ⟨wt2_230, wt2_231, wt2_232, wt1_3, wt2_233, ⟨by decide +kernel, by decide +kernel, by decide +kernel⟩⟩
theorem cl_X8_144 : CLV RX8 144 yX5_pass cX5_pass 8 (some .int) 1 := ⟨wt2_238, wt2_239, wt3_0, wt1_2, wt3_1, ⟨by decide +kernel, by decide +kernel, by decide +kernel⟩⟩
theorem cl_X8_147 : CLV RX8 147 yX5_hasDispute cX5_hasDispute 2 (some .boolean) 1 := ⟨wt3_143, wt3_144, wt3_145, wt1_2, wt3_146, ⟨by decide +kernel, by decide +kernel, by decide +kernel⟩⟩
theorem cl_X8_154 : CLV RX8 154 yX6_fateOf cX6_fateOf 2 (some .int) 1 := ⟨wt3_147, wt3_86, wt3_87, wt1_6, wt3_88, ⟨by decide +kernel, by decide +kernel, by decide +kernel⟩⟩
theorem cl_X8_159 : CLV RX8 159 yX5_settleByHand cX5_settleByHand 3 none 2 := ⟨wt3_148, wt3_149, wt3_150, wt1_2, wt3_151, ⟨by decide +kernel, by decide +kernel, by decide +kernel⟩⟩
theorem cl_X8_162 : CLV RX8 162 yX6_keyOf cX6_keyOf 2 (some .int) 1 := ⟨wt3_164, wt3_73, wt3_74, wt1_6, wt3_75, ⟨by decide +kernel, by decide +kernel, by decide +kernel⟩⟩
theorem cl_X8_165 : CLV RX8 165 yX3_append cX3_append 2 (some .boolean) 1 := ⟨wt3_169, wt3_170, wt3_171, wt1_9, wt3_172, ⟨by decide +kernel, by decide +kernel, by decide +kernel⟩⟩
theorem cl_X8_172 : CLV RX8 172 yX3_fault cX3_fault 3 (some .int) 0 := ⟨wt3_181, wt3_182, wt3_183, wt1_9, wt3_184, ⟨by decide +kernel, by decide +kernel, by decide +kernel⟩⟩
theorem cl_X8_175 : CLV RX8 175 yX5_copyFrom cX5_copyFrom 2 none 1 := ⟨wt3_195, wt2_72, wt2_73, wt1_2, wt2_74, ⟨by decide +kernel, by decide +kernel, by decide +kernel⟩⟩
theorem cl_X8_178 : CLV RX8 178 yX3_isMoveEnd cX3_isMoveEnd 2 (some .boolean) 1 := ⟨wt3_196, wt3_197, wt3_198, wt1_9, wt3_199, ⟨by decide +kernel, by decide +kernel, by decide +kernel⟩⟩
theorem cl_X8_181 : CLV RX8 181 yX8_move cX8_move 8 (some .int) 2 := ⟨wt3_200, wt3_202, wt0_0, wt1_1, wt3_203, ⟨by decide +kernel, by decide +kernel, by decide +kernel⟩⟩
theorem cl_X8_184 : CLV RX8 184 yX3_characterAt cX3_characterAt 2 (some .char) 1 := ⟨wt3_204, wt3_186, wt3_187, wt1_9, wt3_188, ⟨by decide +kernel, by decide +kernel, by decide +kernel⟩⟩
theorem cl_X8_188 : CLV RX8 188 yX3_number cX3_number 5 (some .int) 2 := ⟨wt3_205, wt3_206, wt3_207, wt1_9, wt3_208, ⟨by decide +kernel, by decide +kernel, by decide +kernel⟩⟩
theorem cl_X8_194 : CLV RX8 194 yX2_takeBack cX2_takeBack 3 none 1 := ⟨wt3_213, wt3_214, wt3_215, wt1_8, wt3_216, ⟨by decide +kernel, by decide +kernel, by decide +kernel⟩⟩
theorem cl_X8_200 : CLV RX8 200 yX0_holderOf cX0_holderOf 2 (some .int) 1 := ⟨wt3_229, wt2_227, wt2_228, wt1_3, wt2_229, ⟨by decide +kernel, by decide +kernel, by decide +kernel⟩⟩
theorem cl_X8_203 : CLS RX8 203 yX8_orNone cX8_orNone 1 (some .int) 1 := ⟨wt3_230, wt3_231, wt1_1, wt3_232, ⟨by decide +kernel, by decide +kernel, by decide +kernel⟩⟩
theorem cl_X8_206 : CLV RX8 206 yX0_isSeen cX0_isSeen 2 (some .boolean) 1 := ⟨wt3_233, wt3_135, wt3_136, wt1_3, wt3_137, ⟨by decide +kernel, by decide +kernel, by decide +kernel⟩⟩
theorem cl_X8_209 : CLV RX8 209 yX0_sinceOf cX0_sinceOf 2 (some .int) 1 := ⟨wt3_234, wt3_32, wt3_33, wt1_3, wt3_34, ⟨by decide +kernel, by decide +kernel, by decide +kernel⟩⟩
theorem cl_X8_212 : CLV RX8 212 yX0_isDoubtful cX0_isDoubtful 2 (some .boolean) 1 := ⟨wt3_235, wt3_27, wt3_28, wt1_3, wt3_29, ⟨by decide +kernel, by decide +kernel, by decide +kernel⟩⟩
theorem cl_X8_215 : CLV RX8 215 yX0_rowOf cX0_rowOf 2 (some .int) 1 := ⟨wt3_236, wt2_202, wt2_203, wt1_3, wt2_204, ⟨by decide +kernel, by decide +kernel, by decide +kernel⟩⟩
theorem cl_X8_218 : CLV RX8 218 yX0_sensed cX0_sensed 8 (some .int) 2 := ⟨wt3_237, wt3_11, wt3_12, wt1_3, wt3_13, ⟨by decide +kernel, by decide +kernel, by decide +kernel⟩⟩
theorem cl_X8_221 : CLV RX8 221 yX0_bitOf cX0_bitOf 2 (some .int) 1 := ⟨wt3_238, wt2_206, wt2_207, wt1_3, wt2_208, ⟨by decide +kernel, by decide +kernel, by decide +kernel⟩⟩
theorem cl_X8_224 : CLV RX8 224 yX0_isShiftOn cX0_isShiftOn 3 (some .boolean) 1 := ⟨wt4_3, wt3_130, wt3_131, wt1_3, wt3_132, ⟨by decide +kernel, by decide +kernel, by decide +kernel⟩⟩
theorem cl_X8_239 : CLS RX8 239 yX8_isMean cX8_isMean 1 (some .boolean) 1 := ⟨wt4_8, wt4_9, wt1_1, wt4_10, ⟨by decide +kernel, by decide +kernel, by decide +kernel⟩⟩
theorem cl_X8_243 : CLV RX8 243 yX8_meanOf cX8_meanOf 4 (some .float) 2 := ⟨wt4_12, wt4_14, wt0_1, wt1_1, wt4_15, ⟨by decide +kernel, by decide +kernel, by decide +kernel⟩⟩
theorem cl_X8_248 : CLV RX8 248 yX7_signBack cX7_signBack 2 (some .int) 1 := ⟨wt4_25, wt4_26, wt4_27, wt1_5, wt4_28, ⟨by decide +kernel, by decide +kernel, by decide +kernel⟩⟩
theorem cl_X8_257 : CLV RX8 257 yX6_sinceOf cX6_sinceOf 2 (some .int) 1 := ⟨wt4_34, wt3_78, wt3_79, wt1_6, wt3_80, ⟨by decide +kernel, by decide +kernel, by decide +kernel⟩⟩
theorem cl_X8_258 : CLV RX8 258 yX6_dwellOf cX6_dwellOf 2 (some .int) 1 := ⟨wt4_35, wt3_82, wt3_83, wt1_6, wt3_84, ⟨by decide +kernel, by decide +kernel, by decide +kernel⟩⟩
theorem cl_X8_261 : CLV RX8 261 yX6_holderOf cX6_holderOf 2 (some .int) 1 := ⟨wt4_36, wt3_90, wt3_91, wt1_6, wt3_92, ⟨by decide +kernel, by decide +kernel, by decide +kernel⟩⟩
theorem cl_X8_262 : CLV RX8 262 yX6_notedOf cX6_notedOf 2 (some .int) 1 := ⟨wt4_37, wt3_94, wt3_95, wt1_6, wt3_96, ⟨by decide +kernel, by decide +kernel, by decide +kernel⟩⟩
theorem cl_X8_265 : CLV RX8 265 yX7_distanceOf cX7_distanceOf 4 (some .float) 2 := ⟨wt4_46, wt3_36, wt3_37, wt1_5, wt3_38, ⟨by decide +kernel, by decide +kernel, by decide +kernel⟩⟩
theorem cl_X8_268 : CLV RX8 268 yX5_fateNow cX5_fateNow 9 (some .int) 1 := ⟨wt4_51, wt3_23, wt3_24, wt1_2, wt3_25, ⟨by decide +kernel, by decide +kernel, by decide +kernel⟩⟩
theorem cl_X8_271 : CLV RX8 271 yX0_ghostsBeside cX0_ghostsBeside 6 (some .int) 2 := ⟨wt4_56, wt4_57, wt4_58, wt1_3, wt4_59, ⟨by decide +kernel, by decide +kernel, by decide +kernel⟩⟩
theorem cl_X8_274 : CLV RX8 274 yX0_doubtfulKeys cX0_doubtfulKeys 1 (some .int) 0 := ⟨wt4_66, wt4_67, wt4_68, wt1_3, wt4_69, ⟨by decide +kernel, by decide +kernel, by decide +kernel⟩⟩
theorem cl_X8_286 : CLV RX8 286 yX5_drivenRow cX5_drivenRow 1 (some .int) 0 := ⟨wt4_70, wt3_3, wt3_4, wt1_2, wt3_5, ⟨by decide +kernel, by decide +kernel, by decide +kernel⟩⟩
theorem cl_X9_44 : CLV RX9 44 yX9_clearKeys cX9_clearKeys 2 none 0 := ⟨wt4_82, wt4_84, wt0_2, wt1_10, wt4_85, ⟨by decide +kernel, by decide +kernel, by decide +kernel⟩⟩
theorem cl_X9_51 : CLV RX9 51 yX9_remember cX9_remember 2 none 0 := ⟨wt4_149, wt4_151, wt0_4, wt1_10, wt4_152, ⟨by decide +kernel, by decide +kernel, by decide +kernel⟩⟩
theorem cl_X9_54 : CLV RX9 54 yX9_record cX9_record 2 none 0 := ⟨wt4_153, wt4_155, wt0_5, wt1_10, wt4_156, ⟨by decide +kernel, by decide +kernel, by decide +kernel⟩⟩
theorem cl_X9_61 : CLV RX9 61 yX9_begin cX9_begin 1 none 0 := ⟨wt4_145, wt4_147, wt0_3, wt1_10, wt4_148, ⟨by decide +kernel, by decide +kernel, by decide +kernel⟩⟩
theorem cl_X9_64 : CLV RX9 64 yX9_keys cX9_keys 1 (some .int) 0 := ⟨wt4_164, wt4_166, wt0_6, wt1_10, wt4_167, ⟨by decide +kernel, by decide +kernel, by decide +kernel⟩⟩
theorem cl_X9_68 : CLS RX9 68 yX9_in cX9_in 3 (some .boolean) 3 := ⟨wt4_161, wt4_162, wt1_10, wt4_163, ⟨by decide +kernel, by decide +kernel, by decide +kernel⟩⟩
theorem cl_X9_72 : CLV RX9 72 yX9_isDown cX9_isDown 2 (some .boolean) 1 := ⟨wt4_168, wt4_170, wt0_7, wt1_10, wt4_171, ⟨by decide +kernel, by decide +kernel, by decide +kernel⟩⟩
theorem cl_X9_76 : CLV RX9 76 yX9_isSeen cX9_isSeen 2 (some .boolean) 1 := ⟨wt4_172, wt4_174, wt0_8, wt1_10, wt4_175, ⟨by decide +kernel, by decide +kernel, by decide +kernel⟩⟩
theorem cl_X9_79 : CLV RX9 79 yX9_noKey cX9_noKey 2 (some .boolean) 1 := ⟨wt4_180, wt4_182, wt0_9, wt1_10, wt4_183, ⟨by decide +kernel, by decide +kernel, by decide +kernel⟩⟩
theorem cl_X9_82 : CLV RX9 82 yX9_shiftOf cX9_shiftOf 2 (some .int) 1 := ⟨wt4_184, wt4_186, wt0_10, wt1_10, wt4_187, ⟨by decide +kernel, by decide +kernel, by decide +kernel⟩⟩
theorem cl_X9_86 : CLV RX9 86 yX9_noTypist cX9_noTypist 2 (some .boolean) 1 := ⟨wt4_192, wt4_194, wt0_11, wt1_10, wt4_195, ⟨by decide +kernel, by decide +kernel, by decide +kernel⟩⟩
theorem cl_X9_97 : CLS RX9 97 yJxf58ca_floatToIntBits_5c35a cJxf58ca_floatToIntBits_5c35a 1 (some .int) 1 := ⟨wt4_209, wt4_210, wt1_16, wt4_211, ⟨by decide +kernel, by decide +kernel, by decide +kernel⟩⟩
theorem cl_X9_107 : CLV RX9 107 yX9_drive cX9_drive 9 none 1 := ⟨wt5_11, wt5_13, wt0_17, wt1_10, wt5_14, ⟨by decide +kernel, by decide +kernel, by decide +kernel⟩⟩
theorem cl_X9_111 : CLV RX9 111 yX9_endStroke cX9_endStroke 9 none 1 := ⟨wt5_15, wt5_17, wt0_18, wt1_10, wt5_18, ⟨by decide +kernel, by decide +kernel, by decide +kernel⟩⟩
theorem cl_X9_114 : CLV RX9 114 yX9_closesCorner cX9_closesCorner 7 (some .boolean) 1 := ⟨wt5_50, wt5_52, wt0_26, wt1_10, wt5_53, ⟨by decide +kernel, by decide +kernel, by decide +kernel⟩⟩
theorem cl_X9_117 : CLV RX9 117 yX9_isOn cX9_isOn 3 (some .boolean) 1 := ⟨wt5_54, wt5_56, wt0_27, wt1_10, wt5_57, ⟨by decide +kernel, by decide +kernel, by decide +kernel⟩⟩
theorem cl_X9_120 : CLS RX9 120 yX9_size cX9_size 1 (some .float) 1 := ⟨wt5_27, wt5_28, wt1_10, wt5_29, ⟨by decide +kernel, by decide +kernel, by decide +kernel⟩⟩
theorem cl_X9_124 : CLV RX9 124 yX9_gap cX9_gap 4 (some .int) 2 := ⟨wt5_30, wt5_32, wt0_21, wt1_10, wt5_33, ⟨by decide +kernel, by decide +kernel, by decide +kernel⟩⟩
theorem cl_X9_128 : CLV RX9 128 yX9_learned cX9_learned 4 (some .float) 2 := ⟨wt5_42, wt5_44, wt0_24, wt1_10, wt5_45, ⟨by decide +kernel, by decide +kernel, by decide +kernel⟩⟩
theorem cl_X9_132 : CLV RX9 132 yX9_off cX9_off 8 (some .float) 3 := ⟨wt5_23, wt5_25, wt0_20, wt1_10, wt5_26, ⟨by decide +kernel, by decide +kernel, by decide +kernel⟩⟩
theorem cl_X9_136 : CLV RX9 136 yX9_judged cX9_judged 9 (some .int) 1 := ⟨wt5_19, wt5_21, wt0_19, wt1_10, wt5_22, ⟨by decide +kernel, by decide +kernel, by decide +kernel⟩⟩
theorem cl_X9_139 : CLV RX9 139 yX9_countIt cX9_countIt 3 none 2 := ⟨wt5_34, wt5_36, wt0_22, wt1_10, wt5_37, ⟨by decide +kernel, by decide +kernel, by decide +kernel⟩⟩
theorem cl_X9_143 : CLV RX9 143 yX9_learn cX9_learn 5 none 3 := ⟨wt5_38, wt5_40, wt0_23, wt1_10, wt5_41, ⟨by decide +kernel, by decide +kernel, by decide +kernel⟩⟩
theorem cl_X9_147 : CLV RX9 147 yX9_giveSign cX9_giveSign 5 none 3 := ⟨wt5_46, wt5_48, wt0_25, wt1_10, wt5_49, ⟨by decide +kernel, by decide +kernel, by decide +kernel⟩⟩
theorem cl_X9_150 : CLV RX9 150 yX9_held cX9_held 4 (some .int) 1 := ⟨wt4_227, wt4_229, wt0_13, wt1_10, wt4_230, ⟨by decide +kernel, by decide +kernel, by decide +kernel⟩⟩
theorem cl_X9_153 : CLV RX9 153 yX9_againstPress cX9_againstPress 3 (some .int) 2 := ⟨wt4_223, wt4_225, wt0_12, wt1_10, wt4_226, ⟨by decide +kernel, by decide +kernel, by decide +kernel⟩⟩
theorem cl_X9_156 : CLV RX9 156 yX9_againstRelease cX9_againstRelease 3 (some .int) 2 := ⟨wt4_235, wt4_237, wt0_14, wt1_10, wt4_238, ⟨by decide +kernel, by decide +kernel, by decide +kernel⟩⟩
theorem cl_X9_159 : CLV RX9 159 yX9_step cX9_step 7 (some .int) 0 := ⟨wt5_7, wt5_9, wt0_16, wt1_10, wt5_10, ⟨by decide +kernel, by decide +kernel, by decide +kernel⟩⟩
theorem cl_X9_162 : CLV RX9 162 yX9_steps cX9_steps 4 (some .int) 1 := ⟨wt5_3, wt5_5, wt0_15, wt1_10, wt5_6, ⟨by decide +kernel, by decide +kernel, by decide +kernel⟩⟩
theorem cl_X9_165 : CLV RX9 165 yX9_noDispute cX9_noDispute 2 (some .boolean) 1 := ⟨wt5_62, wt5_64, wt0_28, wt1_10, wt5_65, ⟨by decide +kernel, by decide +kernel, by decide +kernel⟩⟩
theorem cl_X9_174 : CLV RX9 174 yX9_sees cX9_sees 3 (some .boolean) 2 := ⟨wt5_86, wt5_88, wt0_31, wt1_10, wt5_89, ⟨by decide +kernel, by decide +kernel, by decide +kernel⟩⟩
theorem cl_X9_178 : CLV RX9 178 yX9_readsNumber cX9_readsNumber 3 (some .int) 1 := ⟨wt5_90, wt5_92, wt0_32, wt1_10, wt5_93, ⟨by decide +kernel, by decide +kernel, by decide +kernel⟩⟩
theorem cl_X9_181 : CLV RX9 181 yX9_move cX9_move 6 (some .int) 1 := ⟨wt5_82, wt5_84, wt0_30, wt1_10, wt5_85, ⟨by decide +kernel, by decide +kernel, by decide +kernel⟩⟩
theorem cl_X9_185 : CLV RX9 185 yX9_moves cX9_moves 5 (some .int) 1 := ⟨wt5_78, wt5_80, wt0_29, wt1_10, wt5_81, ⟨by decide +kernel, by decide +kernel, by decide +kernel⟩⟩
theorem cl_X9_188 : CLV RX9 188 yX9_goBack cX9_goBack 2 none 0 := ⟨wt5_94, wt5_96, wt0_33, wt1_10, wt5_97, ⟨by decide +kernel, by decide +kernel, by decide +kernel⟩⟩
theorem cl_X9_191 : CLV RX9 191 yX9_wouldSense cX9_wouldSense 2 (some .boolean) 1 := ⟨wt5_102, wt5_104, wt0_34, wt1_10, wt5_105, ⟨by decide +kernel, by decide +kernel, by decide +kernel⟩⟩
theorem cl_X9_196 : CLV RX9 196 yX9_keysThat cX9_keysThat 5 (some .int) 1 := ⟨wt5_148, wt5_150, wt0_35, wt1_10, wt5_151, ⟨by decide +kernel, by decide +kernel, by decide +kernel⟩⟩
theorem cl_X9_199 : CLV RX9 199 yX9_openDisputes cX9_openDisputes 3 (some .int) 0 := ⟨wt5_152, wt5_154, wt0_36, wt1_10, wt5_155, ⟨by decide +kernel, by decide +kernel, by decide +kernel⟩⟩
theorem bc_m100 : (Int8.ofInt (-100)).toInt32 = (-100 : Int32) := by decide
theorem bc_m5 : (Int8.ofInt (-5)).toInt32 = (-5 : Int32) := by decide
theorem bc_m4 : (Int8.ofInt (-4)).toInt32 = (-4 : Int32) := by decide
theorem bc_m3 : (Int8.ofInt (-3)).toInt32 = (-3 : Int32) := by decide
theorem bc_m2 : (Int8.ofInt (-2)).toInt32 = (-2 : Int32) := by decide
theorem bc_6 : (Int8.ofInt 6).toInt32 = (6 : Int32) := by decide
theorem bc_7 : (Int8.ofInt 7).toInt32 = (7 : Int32) := by decide
theorem bc_8 : (Int8.ofInt 8).toInt32 = (8 : Int32) := by decide
theorem bc_9 : (Int8.ofInt 9).toInt32 = (9 : Int32) := by decide
theorem bc_10 : (Int8.ofInt 10).toInt32 = (10 : Int32) := by decide
theorem bc_11 : (Int8.ofInt 11).toInt32 = (11 : Int32) := by decide
theorem bc_12 : (Int8.ofInt 12).toInt32 = (12 : Int32) := by decide
theorem bc_13 : (Int8.ofInt 13).toInt32 = (13 : Int32) := by decide
theorem bc_14 : (Int8.ofInt 14).toInt32 = (14 : Int32) := by decide
theorem bc_15 : (Int8.ofInt 15).toInt32 = (15 : Int32) := by decide
theorem bc_16 : (Int8.ofInt 16).toInt32 = (16 : Int32) := by decide
theorem bc_17 : (Int8.ofInt 17).toInt32 = (17 : Int32) := by decide
theorem bc_20 : (Int8.ofInt 20).toInt32 = (20 : Int32) := by decide
theorem bc_21 : (Int8.ofInt 21).toInt32 = (21 : Int32) := by decide
theorem bc_23 : (Int8.ofInt 23).toInt32 = (23 : Int32) := by decide
theorem bc_24 : (Int8.ofInt 24).toInt32 = (24 : Int32) := by decide
theorem bc_32 : (Int8.ofInt 32).toInt32 = (32 : Int32) := by decide
theorem bc_46 : (Int8.ofInt 46).toInt32 = (46 : Int32) := by decide
theorem bc_48 : (Int8.ofInt 48).toInt32 = (48 : Int32) := by decide
theorem bc_49 : (Int8.ofInt 49).toInt32 = (49 : Int32) := by decide
theorem bc_57 : (Int8.ofInt 57).toInt32 = (57 : Int32) := by decide
theorem bc_59 : (Int8.ofInt 59).toInt32 = (59 : Int32) := by decide
theorem bc_60 : (Int8.ofInt 60).toInt32 = (60 : Int32) := by decide
theorem bc_63 : (Int8.ofInt 63).toInt32 = (63 : Int32) := by decide
theorem bc_68 : (Int8.ofInt 68).toInt32 = (68 : Int32) := by decide
theorem bc_97 : (Int8.ofInt 97).toInt32 = (97 : Int32) := by decide
theorem bc_99 : (Int8.ofInt 99).toInt32 = (99 : Int32) := by decide
theorem bc_100 : (Int8.ofInt 100).toInt32 = (100 : Int32) := by decide
theorem bc_116 : (Int8.ofInt 116).toInt32 = (116 : Int32) := by decide
theorem bc_117 : (Int8.ofInt 117).toInt32 = (117 : Int32) := by decide
theorem bc_122 : (Int8.ofInt 122).toInt32 = (122 : Int32) := by decide
theorem ic_m1 : Int32.ofInt (-1) = (-1 : Int32) := by decide
theorem ic_0 : Int32.ofInt 0 = (0 : Int32) := by decide
theorem ic_1 : Int32.ofInt 1 = (1 : Int32) := by decide
theorem ic_2 : Int32.ofInt 2 = (2 : Int32) := by decide
theorem ic_3 : Int32.ofInt 3 = (3 : Int32) := by decide
theorem ic_4 : Int32.ofInt 4 = (4 : Int32) := by decide
theorem ic_5 : Int32.ofInt 5 = (5 : Int32) := by decide
theorem sc_150 : (Int16.ofInt 150).toInt32 = (150 : Int32) := by decide
theorem sc_164 : (Int16.ofInt 164).toInt32 = (164 : Int32) := by decide
theorem sc_212 : (Int16.ofInt 212).toInt32 = (212 : Int32) := by decide
theorem sc_260 : (Int16.ofInt 260).toInt32 = (260 : Int32) := by decide
theorem sc_308 : (Int16.ofInt 308).toInt32 = (308 : Int32) := by decide
theorem sc_404 : (Int16.ofInt 404).toInt32 = (404 : Int32) := by decide
theorem sc_544 : (Int16.ofInt 544).toInt32 = (544 : Int32) := by decide
theorem sc_592 : (Int16.ofInt 592).toInt32 = (592 : Int32) := by decide
theorem sc_1776 : (Int16.ofInt 1776).toInt32 = (1776 : Int32) := by decide
theorem sc_9999 : (Int16.ofInt 9999).toInt32 = (9999 : Int32) := by decide
theorem nat_Jxf58ca_74 : Cond.methodLink RJxf58ca 74 ⟨"java/lang/Float", "floatToRawIntBits", "(F)I"⟩ ∈ TT ∧ Cond.native ⟨"java/lang/Float", "floatToRawIntBits", "(F)I"⟩ ∈ TT ∧ Cond.static ⟨"java/lang/Float", "floatToRawIntBits", "(F)I"⟩ ∈ TT ∧ Cond.initialized "java/lang/Float" ∈ TT := ⟨wt4_215, wt4_217, wt4_216, wt1_16⟩
theorem nat_X1_13 : Cond.methodLink RX1 13 arraycopyName ∈ TT ∧ Cond.native arraycopyName ∈ TT ∧ Cond.static arraycopyName ∈ TT ∧ Cond.initialized "java/lang/System" ∈ TT := ⟨wt2_85, wt2_87, wt2_86, wt1_15⟩
theorem nat_X9_91 : Cond.methodLink RX9 91 ⟨"java/lang/Float", "intBitsToFloat", "(I)F"⟩ ∈ TT ∧ Cond.native ⟨"java/lang/Float", "intBitsToFloat", "(I)F"⟩ ∈ TT ∧ Cond.static ⟨"java/lang/Float", "intBitsToFloat", "(I)F"⟩ ∈ TT ∧ Cond.initialized "java/lang/Float" ∈ TT := ⟨wt4_206, wt4_208, wt4_207, wt1_16⟩
