theorem ff_X0_18 : rFl RX0 18 0 0 := ⟨RX0, TX0, 6, rfl, fw_X0, by decide, fl_X0_18, rfl⟩
theorem ff_X1_51 : rFl RX1 51 0 0 := ⟨RX0, TX0, 6, rfl, fw_X0, by decide, fl_X1_51, rfl⟩
theorem ff_X2_75 : rFl RX2 75 0 0 := ⟨RX0, TX0, 6, rfl, fw_X0, by decide, fl_X2_75, rfl⟩
theorem ff_X5_96 : rFl RX5 96 0 0 := ⟨RX0, TX0, 6, rfl, fw_X0, by decide, fl_X5_96, rfl⟩
theorem ff_X0_22 : rFl RX0 22 0 1 := ⟨RX0, TX0, 6, rfl, fw_X0, by decide, fl_X0_22, rfl⟩
theorem ff_X8_25 : rFl RX8 25 0 1 := ⟨RX0, TX0, 6, rfl, fw_X0, by decide, fl_X8_25, rfl⟩
theorem ff_X2_44 : rFl RX2 44 0 1 := ⟨RX0, TX0, 6, rfl, fw_X0, by decide, fl_X2_44, rfl⟩
theorem ff_X9_230 : rFl RX9 230 0 1 := ⟨RX0, TX0, 6, rfl, fw_X0, by decide, fl_X9_230, rfl⟩
theorem ff_X5_117 : rFl RX5 117 0 1 := ⟨RX0, TX0, 6, rfl, fw_X0, by decide, fl_X5_117, rfl⟩
theorem ff_X8_20 : rFl RX8 20 0 2 := ⟨RX0, TX0, 6, rfl, fw_X0, by decide, fl_X8_20, rfl⟩
theorem ff_X0_25 : rFl RX0 25 0 2 := ⟨RX0, TX0, 6, rfl, fw_X0, by decide, fl_X0_25, rfl⟩
theorem ff_X2_41 : rFl RX2 41 0 2 := ⟨RX0, TX0, 6, rfl, fw_X0, by decide, fl_X2_41, rfl⟩
theorem ff_X9_217 : rFl RX9 217 0 2 := ⟨RX0, TX0, 6, rfl, fw_X0, by decide, fl_X9_217, rfl⟩
theorem ff_X5_90 : rFl RX5 90 0 2 := ⟨RX0, TX0, 6, rfl, fw_X0, by decide, fl_X5_90, rfl⟩
theorem ff_X0_28 : rFl RX0 28 0 3 := ⟨RX0, TX0, 6, rfl, fw_X0, by decide, fl_X0_28, rfl⟩
theorem ff_X2_38 : rFl RX2 38 0 3 := ⟨RX0, TX0, 6, rfl, fw_X0, by decide, fl_X2_38, rfl⟩
theorem ff_X5_35 : rFl RX5 35 0 3 := ⟨RX0, TX0, 6, rfl, fw_X0, by decide, fl_X5_35, rfl⟩
theorem ff_X9_202 : rFl RX9 202 0 3 := ⟨RX0, TX0, 6, rfl, fw_X0, by decide, fl_X9_202, rfl⟩
theorem ff_X0_9 : rFl RX0 9 0 4 := ⟨RX0, TX0, 6, rfl, fw_X0, by decide, fl_X0_9, rfl⟩
theorem ff_X5_66 : rFl RX5 66 0 4 := ⟨RX0, TX0, 6, rfl, fw_X0, by decide, fl_X5_66, rfl⟩
theorem ff_X9_220 : rFl RX9 220 0 4 := ⟨RX0, TX0, 6, rfl, fw_X0, by decide, fl_X9_220, rfl⟩
theorem ff_X0_15 : rFl RX0 15 0 5 := ⟨RX0, TX0, 6, rfl, fw_X0, by decide, fl_X0_15, rfl⟩
theorem ff_X5_22 : rFl RX5 22 5 0 := ⟨RX5, TX5, 4, rfl, fw_X5, by decide, fl_X5_22, rfl⟩
theorem ff_X1_26 : rFl RX1 26 5 0 := ⟨RX5, TX5, 4, rfl, fw_X5, by decide, fl_X1_26, rfl⟩
theorem ff_X5_9 : rFl RX5 9 5 1 := ⟨RX5, TX5, 4, rfl, fw_X5, by decide, fl_X5_9, rfl⟩
theorem ff_X9_96 : rFl RX9 96 5 1 := ⟨RX5, TX5, 4, rfl, fw_X5, by decide, fl_X9_96, rfl⟩
theorem ff_X5_15 : rFl RX5 15 5 2 := ⟨RX5, TX5, 4, rfl, fw_X5, by decide, fl_X5_15, rfl⟩
theorem ff_X1_67 : rFl RX1 67 5 2 := ⟨RX5, TX5, 4, rfl, fw_X5, by decide, fl_X1_67, rfl⟩
theorem ff_X9_120 : rFl RX9 120 5 2 := ⟨RX5, TX5, 4, rfl, fw_X5, by decide, fl_X9_120, rfl⟩
theorem ff_X5_19 : rFl RX5 19 5 3 := ⟨RX5, TX5, 4, rfl, fw_X5, by decide, fl_X5_19, rfl⟩
theorem ff_X9_143 : rFl RX9 143 5 3 := ⟨RX5, TX5, 4, rfl, fw_X5, by decide, fl_X9_143, rfl⟩
theorem ff_X3_21 : rFl RX3 21 3 0 := ⟨RX3, TX3, 3, rfl, fw_X3, by decide, fl_X3_21, rfl⟩
theorem ff_X9_289 : rFl RX9 289 3 0 := ⟨RX3, TX3, 3, rfl, fw_X3, by decide, fl_X9_289, rfl⟩
theorem ff_X3_25 : rFl RX3 25 3 1 := ⟨RX3, TX3, 3, rfl, fw_X3, by decide, fl_X3_25, rfl⟩
theorem ff_X9_292 : rFl RX9 292 3 1 := ⟨RX3, TX3, 3, rfl, fw_X3, by decide, fl_X9_292, rfl⟩
theorem ff_X3_9 : rFl RX3 9 3 2 := ⟨RX3, TX3, 3, rfl, fw_X3, by decide, fl_X3_9, rfl⟩
theorem ff_X9_288 : rFl RX9 288 3 2 := ⟨RX3, TX3, 3, rfl, fw_X3, by decide, fl_X9_288, rfl⟩
theorem ff_X6_10 : rFl RX6 10 6 0 := ⟨RX6, TX6, 5, rfl, fw_X6, by decide, fl_X6_10, rfl⟩
theorem ff_X9_27 : rFl RX9 27 6 0 := ⟨RX6, TX6, 5, rfl, fw_X6, by decide, fl_X9_27, rfl⟩
theorem ff_X6_21 : rFl RX6 21 6 1 := ⟨RX6, TX6, 5, rfl, fw_X6, by decide, fl_X6_21, rfl⟩
theorem ff_X9_83 : rFl RX9 83 6 1 := ⟨RX6, TX6, 5, rfl, fw_X6, by decide, fl_X9_83, rfl⟩
theorem ff_X6_30 : rFl RX6 30 6 2 := ⟨RX6, TX6, 5, rfl, fw_X6, by decide, fl_X6_30, rfl⟩
theorem ff_X9_277 : rFl RX9 277 6 2 := ⟨RX6, TX6, 5, rfl, fw_X6, by decide, fl_X9_277, rfl⟩
theorem ff_X6_34 : rFl RX6 34 6 3 := ⟨RX6, TX6, 5, rfl, fw_X6, by decide, fl_X6_34, rfl⟩
theorem ff_X9_315 : rFl RX9 315 6 3 := ⟨RX6, TX6, 5, rfl, fw_X6, by decide, fl_X9_315, rfl⟩
theorem ff_X6_37 : rFl RX6 37 6 4 := ⟨RX6, TX6, 5, rfl, fw_X6, by decide, fl_X6_37, rfl⟩
theorem ff_X9_324 : rFl RX9 324 6 4 := ⟨RX6, TX6, 5, rfl, fw_X6, by decide, fl_X9_324, rfl⟩
theorem ff_X8_9 : rFl RX8 9 8 0 := ⟨RX8, TX8, 3, rfl, fw_X8, by decide, fl_X8_9, rfl⟩
theorem ff_X1_56 : rFl RX1 56 8 0 := ⟨RX8, TX8, 3, rfl, fw_X8, by decide, fl_X1_56, rfl⟩
theorem ff_X8_13 : rFl RX8 13 8 1 := ⟨RX8, TX8, 3, rfl, fw_X8, by decide, fl_X8_13, rfl⟩
theorem ff_X1_60 : rFl RX1 60 8 1 := ⟨RX8, TX8, 3, rfl, fw_X8, by decide, fl_X1_60, rfl⟩
theorem ff_X8_17 : rFl RX8 17 8 2 := ⟨RX8, TX8, 3, rfl, fw_X8, by decide, fl_X8_17, rfl⟩
theorem ff_X1_40 : rFl RX1 40 8 2 := ⟨RX8, TX8, 3, rfl, fw_X8, by decide, fl_X1_40, rfl⟩
theorem ff_X1_10 : rFl RX1 10 1 0 := ⟨RX1, TX1, 4, rfl, fw_X1, by decide, fl_X1_10, rfl⟩
theorem ff_X1_16 : rFl RX1 16 1 1 := ⟨RX1, TX1, 4, rfl, fw_X1, by decide, fl_X1_16, rfl⟩
theorem ff_X9_249 : rFl RX9 249 1 1 := ⟨RX1, TX1, 4, rfl, fw_X1, by decide, fl_X9_249, rfl⟩
theorem ff_X1_20 : rFl RX1 20 1 2 := ⟨RX1, TX1, 4, rfl, fw_X1, by decide, fl_X1_20, rfl⟩
theorem ff_X9_252 : rFl RX9 252 1 2 := ⟨RX1, TX1, 4, rfl, fw_X1, by decide, fl_X9_252, rfl⟩
theorem ff_X1_23 : rFl RX1 23 1 3 := ⟨RX1, TX1, 4, rfl, fw_X1, by decide, fl_X1_23, rfl⟩
theorem ff_X9_255 : rFl RX9 255 1 3 := ⟨RX1, TX1, 4, rfl, fw_X1, by decide, fl_X9_255, rfl⟩
theorem ff_X2_9 : rFl RX2 9 2 0 := ⟨RX2, TX2, 8, rfl, fw_X2, by decide, fl_X2_9, rfl⟩
theorem ff_X9_268 : rFl RX9 268 2 0 := ⟨RX2, TX2, 8, rfl, fw_X2, by decide, fl_X9_268, rfl⟩
theorem ff_X2_15 : rFl RX2 15 2 1 := ⟨RX2, TX2, 8, rfl, fw_X2, by decide, fl_X2_15, rfl⟩
theorem ff_X2_18 : rFl RX2 18 2 2 := ⟨RX2, TX2, 8, rfl, fw_X2, by decide, fl_X2_18, rfl⟩
theorem ff_X2_21 : rFl RX2 21 2 3 := ⟨RX2, TX2, 8, rfl, fw_X2, by decide, fl_X2_21, rfl⟩
theorem ff_X2_24 : rFl RX2 24 2 4 := ⟨RX2, TX2, 8, rfl, fw_X2, by decide, fl_X2_24, rfl⟩
theorem ff_X2_28 : rFl RX2 28 2 5 := ⟨RX2, TX2, 8, rfl, fw_X2, by decide, fl_X2_28, rfl⟩
theorem ff_X2_31 : rFl RX2 31 2 6 := ⟨RX2, TX2, 8, rfl, fw_X2, by decide, fl_X2_31, rfl⟩
theorem ff_X2_35 : rFl RX2 35 2 7 := ⟨RX2, TX2, 8, rfl, fw_X2, by decide, fl_X2_35, rfl⟩
theorem ff_X4_9 : rFl RX4 9 4 0 := ⟨RX4, TX4, 6, rfl, fw_X4, by decide, fl_X4_9, rfl⟩
theorem ff_X4_13 : rFl RX4 13 4 1 := ⟨RX4, TX4, 6, rfl, fw_X4, by decide, fl_X4_13, rfl⟩
theorem ff_X9_159 : rFl RX9 159 4 1 := ⟨RX4, TX4, 6, rfl, fw_X4, by decide, fl_X9_159, rfl⟩
theorem ff_X4_17 : rFl RX4 17 4 2 := ⟨RX4, TX4, 6, rfl, fw_X4, by decide, fl_X4_17, rfl⟩
theorem ff_X9_169 : rFl RX9 169 4 2 := ⟨RX4, TX4, 6, rfl, fw_X4, by decide, fl_X9_169, rfl⟩
theorem ff_X4_20 : rFl RX4 20 4 3 := ⟨RX4, TX4, 6, rfl, fw_X4, by decide, fl_X4_20, rfl⟩
theorem ff_X4_23 : rFl RX4 23 4 4 := ⟨RX4, TX4, 6, rfl, fw_X4, by decide, fl_X4_23, rfl⟩
theorem ff_X9_166 : rFl RX9 166 4 4 := ⟨RX4, TX4, 6, rfl, fw_X4, by decide, fl_X9_166, rfl⟩
theorem ff_X4_26 : rFl RX4 26 4 5 := ⟨RX4, TX4, 6, rfl, fw_X4, by decide, fl_X4_26, rfl⟩
theorem ff_X7_9 : rFl RX7 9 7 0 := ⟨RX7, TX7, 3, rfl, fw_X7, by decide, fl_X7_9, rfl⟩
theorem ff_X9_333 : rFl RX9 333 7 0 := ⟨RX7, TX7, 3, rfl, fw_X7, by decide, fl_X9_333, rfl⟩
theorem ff_X7_13 : rFl RX7 13 7 1 := ⟨RX7, TX7, 3, rfl, fw_X7, by decide, fl_X7_13, rfl⟩
theorem ff_X9_336 : rFl RX9 336 7 1 := ⟨RX7, TX7, 3, rfl, fw_X7, by decide, fl_X9_336, rfl⟩
theorem ff_X7_16 : rFl RX7 16 7 2 := ⟨RX7, TX7, 3, rfl, fw_X7, by decide, fl_X7_16, rfl⟩
theorem ff_X9_337 : rFl RX9 337 7 2 := ⟨RX7, TX7, 3, rfl, fw_X7, by decide, fl_X9_337, rfl⟩
theorem ff_X9_12 : rFl RX9 12 9 0 := ⟨RX9, TX9, 9, rfl, fw_X9, by decide, fl_X9_12, rfl⟩
theorem ff_X9_18 : rFl RX9 18 9 1 := ⟨RX9, TX9, 9, rfl, fw_X9, by decide, fl_X9_18, rfl⟩
theorem ff_X9_21 : rFl RX9 21 9 2 := ⟨RX9, TX9, 9, rfl, fw_X9, by decide, fl_X9_21, rfl⟩
theorem ff_X9_34 : rFl RX9 34 9 3 := ⟨RX9, TX9, 9, rfl, fw_X9, by decide, fl_X9_34, rfl⟩
theorem ff_X9_41 : rFl RX9 41 9 4 := ⟨RX9, TX9, 9, rfl, fw_X9, by decide, fl_X9_41, rfl⟩
theorem ff_X9_48 : rFl RX9 48 9 5 := ⟨RX9, TX9, 9, rfl, fw_X9, by decide, fl_X9_48, rfl⟩
theorem ff_X9_55 : rFl RX9 55 9 6 := ⟨RX9, TX9, 9, rfl, fw_X9, by decide, fl_X9_55, rfl⟩
theorem ff_X9_62 : rFl RX9 62 9 7 := ⟨RX9, TX9, 9, rfl, fw_X9, by decide, fl_X9_62, rfl⟩
theorem ff_X9_68 : rFl RX9 68 9 8 := ⟨RX9, TX9, 9, rfl, fw_X9, by decide, fl_X9_68, rfl⟩
theorem ff_X10_9 : rFl RX10 9 10 0 := ⟨RX10, TX10, 42, rfl, fw_X10, by decide, fl_X10_9, rfl⟩
theorem ff_X10_15 : rFl RX10 15 10 1 := ⟨RX10, TX10, 42, rfl, fw_X10, by decide, fl_X10_15, rfl⟩
theorem ff_X10_18 : rFl RX10 18 10 2 := ⟨RX10, TX10, 42, rfl, fw_X10, by decide, fl_X10_18, rfl⟩
theorem ff_X10_110 : rFl RX10 110 10 3 := ⟨RX10, TX10, 42, rfl, fw_X10, by decide, fl_X10_110, rfl⟩
theorem ff_X10_21 : rFl RX10 21 10 4 := ⟨RX10, TX10, 42, rfl, fw_X10, by decide, fl_X10_21, rfl⟩
theorem ff_X10_25 : rFl RX10 25 10 5 := ⟨RX10, TX10, 42, rfl, fw_X10, by decide, fl_X10_25, rfl⟩
theorem ff_X10_28 : rFl RX10 28 10 6 := ⟨RX10, TX10, 42, rfl, fw_X10, by decide, fl_X10_28, rfl⟩
theorem ff_X10_31 : rFl RX10 31 10 7 := ⟨RX10, TX10, 42, rfl, fw_X10, by decide, fl_X10_31, rfl⟩
theorem ff_X10_34 : rFl RX10 34 10 8 := ⟨RX10, TX10, 42, rfl, fw_X10, by decide, fl_X10_34, rfl⟩
theorem ff_X10_37 : rFl RX10 37 10 9 := ⟨RX10, TX10, 42, rfl, fw_X10, by decide, fl_X10_37, rfl⟩
theorem ff_X10_40 : rFl RX10 40 10 10 := ⟨RX10, TX10, 42, rfl, fw_X10, by decide, fl_X10_40, rfl⟩
theorem ff_X10_333 : rFl RX10 333 10 11 := ⟨RX10, TX10, 42, rfl, fw_X10, by decide, fl_X10_333, rfl⟩
theorem ff_X10_43 : rFl RX10 43 10 12 := ⟨RX10, TX10, 42, rfl, fw_X10, by decide, fl_X10_43, rfl⟩
theorem ff_X10_46 : rFl RX10 46 10 13 := ⟨RX10, TX10, 42, rfl, fw_X10, by decide, fl_X10_46, rfl⟩
theorem ff_X10_349 : rFl RX10 349 10 14 := ⟨RX10, TX10, 42, rfl, fw_X10, by decide, fl_X10_349, rfl⟩
theorem ff_X10_49 : rFl RX10 49 10 15 := ⟨RX10, TX10, 42, rfl, fw_X10, by decide, fl_X10_49, rfl⟩
theorem ff_X10_52 : rFl RX10 52 10 16 := ⟨RX10, TX10, 42, rfl, fw_X10, by decide, fl_X10_52, rfl⟩
theorem ff_X10_363 : rFl RX10 363 10 17 := ⟨RX10, TX10, 42, rfl, fw_X10, by decide, fl_X10_363, rfl⟩
theorem ff_X10_55 : rFl RX10 55 10 18 := ⟨RX10, TX10, 42, rfl, fw_X10, by decide, fl_X10_55, rfl⟩
theorem ff_X10_197 : rFl RX10 197 10 19 := ⟨RX10, TX10, 42, rfl, fw_X10, by decide, fl_X10_197, rfl⟩
theorem ff_X10_200 : rFl RX10 200 10 20 := ⟨RX10, TX10, 42, rfl, fw_X10, by decide, fl_X10_200, rfl⟩
theorem ff_X10_58 : rFl RX10 58 10 21 := ⟨RX10, TX10, 42, rfl, fw_X10, by decide, fl_X10_58, rfl⟩
theorem ff_X10_61 : rFl RX10 61 10 22 := ⟨RX10, TX10, 42, rfl, fw_X10, by decide, fl_X10_61, rfl⟩
theorem ff_X10_239 : rFl RX10 239 10 23 := ⟨RX10, TX10, 42, rfl, fw_X10, by decide, fl_X10_239, rfl⟩
theorem ff_X10_64 : rFl RX10 64 10 24 := ⟨RX10, TX10, 42, rfl, fw_X10, by decide, fl_X10_64, rfl⟩
theorem ff_X10_68 : rFl RX10 68 10 25 := ⟨RX10, TX10, 42, rfl, fw_X10, by decide, fl_X10_68, rfl⟩
theorem ff_X10_71 : rFl RX10 71 10 26 := ⟨RX10, TX10, 42, rfl, fw_X10, by decide, fl_X10_71, rfl⟩
theorem ff_X10_74 : rFl RX10 74 10 27 := ⟨RX10, TX10, 42, rfl, fw_X10, by decide, fl_X10_74, rfl⟩
theorem ff_X10_77 : rFl RX10 77 10 28 := ⟨RX10, TX10, 42, rfl, fw_X10, by decide, fl_X10_77, rfl⟩
theorem ff_X10_368 : rFl RX10 368 10 29 := ⟨RX10, TX10, 42, rfl, fw_X10, by decide, fl_X10_368, rfl⟩
theorem ff_X10_80 : rFl RX10 80 10 30 := ⟨RX10, TX10, 42, rfl, fw_X10, by decide, fl_X10_80, rfl⟩
theorem ff_X10_83 : rFl RX10 83 10 31 := ⟨RX10, TX10, 42, rfl, fw_X10, by decide, fl_X10_83, rfl⟩
theorem ff_X10_86 : rFl RX10 86 10 32 := ⟨RX10, TX10, 42, rfl, fw_X10, by decide, fl_X10_86, rfl⟩
theorem ff_X10_89 : rFl RX10 89 10 33 := ⟨RX10, TX10, 42, rfl, fw_X10, by decide, fl_X10_89, rfl⟩
theorem ff_X10_288 : rFl RX10 288 10 34 := ⟨RX10, TX10, 42, rfl, fw_X10, by decide, fl_X10_288, rfl⟩
theorem ff_X10_92 : rFl RX10 92 10 35 := ⟨RX10, TX10, 42, rfl, fw_X10, by decide, fl_X10_92, rfl⟩
theorem ff_X10_95 : rFl RX10 95 10 36 := ⟨RX10, TX10, 42, rfl, fw_X10, by decide, fl_X10_95, rfl⟩
theorem ff_X10_98 : rFl RX10 98 10 37 := ⟨RX10, TX10, 42, rfl, fw_X10, by decide, fl_X10_98, rfl⟩
theorem ff_X10_315 : rFl RX10 315 10 38 := ⟨RX10, TX10, 42, rfl, fw_X10, by decide, fl_X10_315, rfl⟩
theorem ff_X10_304 : rFl RX10 304 10 39 := ⟨RX10, TX10, 42, rfl, fw_X10, by decide, fl_X10_304, rfl⟩
theorem ff_X10_307 : rFl RX10 307 10 40 := ⟨RX10, TX10, 42, rfl, fw_X10, by decide, fl_X10_307, rfl⟩
theorem ff_X10_310 : rFl RX10 310 10 41 := ⟨RX10, TX10, 42, rfl, fw_X10, by decide, fl_X10_310, rfl⟩
theorem fp_X0_0 (own : String) : rFp 0 0 .int false own := ⟨RX0, TX0, 6, tyX0, rfl, tyX0_ok, nmX0, rfl, by decide +kernel, fun h => by cases h⟩
theorem fp_X0_1 (own : String) : rFp 0 1 .int false own := ⟨RX0, TX0, 6, tyX0, rfl, tyX0_ok, nmX0, rfl, by decide +kernel, fun h => by cases h⟩
theorem fp_X0_2 (own : String) : rFp 0 2 .int false own := ⟨RX0, TX0, 6, tyX0, rfl, tyX0_ok, nmX0, rfl, by decide +kernel, fun h => by cases h⟩
theorem fp_X0_3 (own : String) : rFp 0 3 .int false own := ⟨RX0, TX0, 6, tyX0, rfl, tyX0_ok, nmX0, rfl, by decide +kernel, fun h => by cases h⟩
theorem fp_X0_4 : rFp 0 4 (.array .int) true RX0 := ⟨RX0, TX0, 6, tyX0, rfl, tyX0_ok, nmX0, rfl, by decide +kernel, fun _ => rfl⟩
theorem fp_X0_5 : rFp 0 5 (.array .int) true RX0 := ⟨RX0, TX0, 6, tyX0, rfl, tyX0_ok, nmX0, rfl, by decide +kernel, fun _ => rfl⟩
theorem fp_X1_0 : rFp 1 0 (.object "TradedDesigns$Twist") true RX1 := ⟨RX1, TX1, 4, tyX1, rfl, tyX1_ok, nmX1, rfl, by decide +kernel, fun _ => rfl⟩
theorem fp_X1_1 (own : String) : rFp 1 1 .int false own := ⟨RX1, TX1, 4, tyX1, rfl, tyX1_ok, nmX1, rfl, by decide +kernel, fun h => by cases h⟩
theorem fp_X1_2 (own : String) : rFp 1 2 .int false own := ⟨RX1, TX1, 4, tyX1, rfl, tyX1_ok, nmX1, rfl, by decide +kernel, fun h => by cases h⟩
theorem fp_X1_3 (own : String) : rFp 1 3 .int false own := ⟨RX1, TX1, 4, tyX1, rfl, tyX1_ok, nmX1, rfl, by decide +kernel, fun h => by cases h⟩
theorem fp_X2_0 (own : String) : rFp 2 0 .int false own := ⟨RX2, TX2, 8, tyX2, rfl, tyX2_ok, nmX2, rfl, by decide +kernel, fun h => by cases h⟩
theorem fp_X2_1 (own : String) : rFp 2 1 .int false own := ⟨RX2, TX2, 8, tyX2, rfl, tyX2_ok, nmX2, rfl, by decide +kernel, fun h => by cases h⟩
theorem fp_X2_2 (own : String) : rFp 2 2 .int false own := ⟨RX2, TX2, 8, tyX2, rfl, tyX2_ok, nmX2, rfl, by decide +kernel, fun h => by cases h⟩
theorem fp_X2_3 (own : String) : rFp 2 3 .int false own := ⟨RX2, TX2, 8, tyX2, rfl, tyX2_ok, nmX2, rfl, by decide +kernel, fun h => by cases h⟩
theorem fp_X2_4 : rFp 2 4 (.array .long) true RX2 := ⟨RX2, TX2, 8, tyX2, rfl, tyX2_ok, nmX2, rfl, by decide +kernel, fun _ => rfl⟩
theorem fp_X2_5 : rFp 2 5 (.array .long) true RX2 := ⟨RX2, TX2, 8, tyX2, rfl, tyX2_ok, nmX2, rfl, by decide +kernel, fun _ => rfl⟩
theorem fp_X2_6 : rFp 2 6 (.array .int) true RX2 := ⟨RX2, TX2, 8, tyX2, rfl, tyX2_ok, nmX2, rfl, by decide +kernel, fun _ => rfl⟩
theorem fp_X2_7 : rFp 2 7 (.array .int) true RX2 := ⟨RX2, TX2, 8, tyX2, rfl, tyX2_ok, nmX2, rfl, by decide +kernel, fun _ => rfl⟩
theorem fp_X3_0 : rFp 3 0 (.array .int) true RX3 := ⟨RX3, TX3, 3, tyX3, rfl, tyX3_ok, nmX3, rfl, by decide +kernel, fun _ => rfl⟩
theorem fp_X3_1 : rFp 3 1 (.array .int) true RX3 := ⟨RX3, TX3, 3, tyX3, rfl, tyX3_ok, nmX3, rfl, by decide +kernel, fun _ => rfl⟩
theorem fp_X3_2 (own : String) : rFp 3 2 .int false own := ⟨RX3, TX3, 3, tyX3, rfl, tyX3_ok, nmX3, rfl, by decide +kernel, fun h => by cases h⟩
theorem fp_X4_0 : rFp 4 0 (.array .int) true RX4 := ⟨RX4, TX4, 6, tyX4, rfl, tyX4_ok, nmX4, rfl, by decide +kernel, fun _ => rfl⟩
theorem fp_X4_1 (own : String) : rFp 4 1 .int false own := ⟨RX4, TX4, 6, tyX4, rfl, tyX4_ok, nmX4, rfl, by decide +kernel, fun h => by cases h⟩
theorem fp_X4_2 : rFp 4 2 (.array .int) true RX4 := ⟨RX4, TX4, 6, tyX4, rfl, tyX4_ok, nmX4, rfl, by decide +kernel, fun _ => rfl⟩
theorem fp_X4_3 : rFp 4 3 (.array .int) true RX4 := ⟨RX4, TX4, 6, tyX4, rfl, tyX4_ok, nmX4, rfl, by decide +kernel, fun _ => rfl⟩
theorem fp_X4_4 (own : String) : rFp 4 4 .int false own := ⟨RX4, TX4, 6, tyX4, rfl, tyX4_ok, nmX4, rfl, by decide +kernel, fun h => by cases h⟩
theorem fp_X4_5 (own : String) : rFp 4 5 .int false own := ⟨RX4, TX4, 6, tyX4, rfl, tyX4_ok, nmX4, rfl, by decide +kernel, fun h => by cases h⟩
theorem fp_X5_0 : rFp 5 0 (.object "TradedDesigns$Blocks") true RX5 := ⟨RX5, TX5, 4, tyX5, rfl, tyX5_ok, nmX5, rfl, by decide +kernel, fun _ => rfl⟩
theorem fp_X5_1 : rFp 5 1 (.array .int) true RX5 := ⟨RX5, TX5, 4, tyX5, rfl, tyX5_ok, nmX5, rfl, by decide +kernel, fun _ => rfl⟩
theorem fp_X5_2 (own : String) : rFp 5 2 .long false own := ⟨RX5, TX5, 4, tyX5, rfl, tyX5_ok, nmX5, rfl, by decide +kernel, fun h => by cases h⟩
theorem fp_X5_3 (own : String) : rFp 5 3 .long false own := ⟨RX5, TX5, 4, tyX5, rfl, tyX5_ok, nmX5, rfl, by decide +kernel, fun h => by cases h⟩
theorem fp_X6_0 : rFp 6 0 (.object "TradedDesigns$Blocks") true RX6 := ⟨RX6, TX6, 5, tyX6, rfl, tyX6_ok, nmX6, rfl, by decide +kernel, fun _ => rfl⟩
theorem fp_X6_1 : rFp 6 1 (.object "TradedDesigns$Standing") true RX6 := ⟨RX6, TX6, 5, tyX6, rfl, tyX6_ok, nmX6, rfl, by decide +kernel, fun _ => rfl⟩
theorem fp_X6_2 : rFp 6 2 (.object "TradedDesigns$Rows") true RX6 := ⟨RX6, TX6, 5, tyX6, rfl, tyX6_ok, nmX6, rfl, by decide +kernel, fun _ => rfl⟩
theorem fp_X6_3 : rFp 6 3 (.object "TradedDesigns$Rows") true RX6 := ⟨RX6, TX6, 5, tyX6, rfl, tyX6_ok, nmX6, rfl, by decide +kernel, fun _ => rfl⟩
theorem fp_X6_4 : rFp 6 4 (.object "TradedDesigns$Rows") true RX6 := ⟨RX6, TX6, 5, tyX6, rfl, tyX6_ok, nmX6, rfl, by decide +kernel, fun _ => rfl⟩
theorem fp_X7_0 (own : String) : rFp 7 0 .int false own := ⟨RX7, TX7, 3, tyX7, rfl, tyX7_ok, nmX7, rfl, by decide +kernel, fun h => by cases h⟩
theorem fp_X7_1 (own : String) : rFp 7 1 .int false own := ⟨RX7, TX7, 3, tyX7, rfl, tyX7_ok, nmX7, rfl, by decide +kernel, fun h => by cases h⟩
theorem fp_X7_2 : rFp 7 2 (.array .long) true RX7 := ⟨RX7, TX7, 3, tyX7, rfl, tyX7_ok, nmX7, rfl, by decide +kernel, fun _ => rfl⟩
theorem fp_X8_0 : rFp 8 0 (.array .int) true RX8 := ⟨RX8, TX8, 3, tyX8, rfl, tyX8_ok, nmX8, rfl, by decide +kernel, fun _ => rfl⟩
theorem fp_X8_1 (own : String) : rFp 8 1 .int false own := ⟨RX8, TX8, 3, tyX8, rfl, tyX8_ok, nmX8, rfl, by decide +kernel, fun h => by cases h⟩
theorem fp_X8_2 (own : String) : rFp 8 2 .int false own := ⟨RX8, TX8, 3, tyX8, rfl, tyX8_ok, nmX8, rfl, by decide +kernel, fun h => by cases h⟩
theorem fp_X9_0 : rFp 9 0 (.object "TradedDesigns$State") true RX9 := ⟨RX9, TX9, 9, tyX9, rfl, tyX9_ok, nmX9, rfl, by decide +kernel, fun _ => rfl⟩
theorem fp_X9_1 : rFp 9 1 (.object "TradedDesigns$State") true RX9 := ⟨RX9, TX9, 9, tyX9, rfl, tyX9_ok, nmX9, rfl, by decide +kernel, fun _ => rfl⟩
theorem fp_X9_2 (own : String) : rFp 9 2 .boolean false own := ⟨RX9, TX9, 9, tyX9, rfl, tyX9_ok, nmX9, rfl, by decide +kernel, fun h => by cases h⟩
theorem fp_X9_3 : rFp 9 3 (.object "TradedDesigns$Standing") true RX9 := ⟨RX9, TX9, 9, tyX9, rfl, tyX9_ok, nmX9, rfl, by decide +kernel, fun _ => rfl⟩
theorem fp_X9_4 : rFp 9 4 (.object "TradedDesigns$Twist") true RX9 := ⟨RX9, TX9, 9, tyX9, rfl, tyX9_ok, nmX9, rfl, by decide +kernel, fun _ => rfl⟩
theorem fp_X9_5 : rFp 9 5 (.object "TradedDesigns$OpenTwists") true RX9 := ⟨RX9, TX9, 9, tyX9, rfl, tyX9_ok, nmX9, rfl, by decide +kernel, fun _ => rfl⟩
theorem fp_X9_6 : rFp 9 6 (.object "TradedDesigns$Parting") true RX9 := ⟨RX9, TX9, 9, tyX9, rfl, tyX9_ok, nmX9, rfl, by decide +kernel, fun _ => rfl⟩
theorem fp_X9_7 : rFp 9 7 (.object "TradedDesigns$SetUp") true RX9 := ⟨RX9, TX9, 9, tyX9, rfl, tyX9_ok, nmX9, rfl, by decide +kernel, fun _ => rfl⟩
theorem fp_X9_8 : rFp 9 8 (.array (.object "TradedDesigns$Tape")) true RX9 := ⟨RX9, TX9, 9, tyX9, rfl, tyX9_ok, nmX9, rfl, by decide +kernel, fun _ => rfl⟩
theorem fp_X10_0 (own : String) : rFp 10 0 .int false own := ⟨RX10, TX10, 42, tyX10, rfl, tyX10_ok, nmX10, rfl, by decide +kernel, fun h => by cases h⟩
theorem fp_X10_1 (own : String) : rFp 10 1 .int false own := ⟨RX10, TX10, 42, tyX10, rfl, tyX10_ok, nmX10, rfl, by decide +kernel, fun h => by cases h⟩
theorem fp_X10_2 (own : String) : rFp 10 2 .int false own := ⟨RX10, TX10, 42, tyX10, rfl, tyX10_ok, nmX10, rfl, by decide +kernel, fun h => by cases h⟩
theorem fp_X10_3 (own : String) : rFp 10 3 .int false own := ⟨RX10, TX10, 42, tyX10, rfl, tyX10_ok, nmX10, rfl, by decide +kernel, fun h => by cases h⟩
theorem fp_X10_4 : rFp 10 4 (.array .int) true RX10 := ⟨RX10, TX10, 42, tyX10, rfl, tyX10_ok, nmX10, rfl, by decide +kernel, fun _ => rfl⟩
theorem fp_X10_5 : rFp 10 5 (.array .int) true RX10 := ⟨RX10, TX10, 42, tyX10, rfl, tyX10_ok, nmX10, rfl, by decide +kernel, fun _ => rfl⟩
theorem fp_X10_6 : rFp 10 6 (.array .int) true RX10 := ⟨RX10, TX10, 42, tyX10, rfl, tyX10_ok, nmX10, rfl, by decide +kernel, fun _ => rfl⟩
theorem fp_X10_7 : rFp 10 7 (.array .int) true RX10 := ⟨RX10, TX10, 42, tyX10, rfl, tyX10_ok, nmX10, rfl, by decide +kernel, fun _ => rfl⟩
theorem fp_X10_8 : rFp 10 8 (.array .int) true RX10 := ⟨RX10, TX10, 42, tyX10, rfl, tyX10_ok, nmX10, rfl, by decide +kernel, fun _ => rfl⟩
theorem fp_X10_9 : rFp 10 9 (.array .int) true RX10 := ⟨RX10, TX10, 42, tyX10, rfl, tyX10_ok, nmX10, rfl, by decide +kernel, fun _ => rfl⟩
theorem fp_X10_10 : rFp 10 10 (.array .int) true RX10 := ⟨RX10, TX10, 42, tyX10, rfl, tyX10_ok, nmX10, rfl, by decide +kernel, fun _ => rfl⟩
theorem fp_X10_11 (own : String) : rFp 10 11 .int false own := ⟨RX10, TX10, 42, tyX10, rfl, tyX10_ok, nmX10, rfl, by decide +kernel, fun h => by cases h⟩
theorem fp_X10_12 : rFp 10 12 (.array .int) true RX10 := ⟨RX10, TX10, 42, tyX10, rfl, tyX10_ok, nmX10, rfl, by decide +kernel, fun _ => rfl⟩
theorem fp_X10_13 : rFp 10 13 (.array .int) true RX10 := ⟨RX10, TX10, 42, tyX10, rfl, tyX10_ok, nmX10, rfl, by decide +kernel, fun _ => rfl⟩
theorem fp_X10_14 (own : String) : rFp 10 14 .int false own := ⟨RX10, TX10, 42, tyX10, rfl, tyX10_ok, nmX10, rfl, by decide +kernel, fun h => by cases h⟩
theorem fp_X10_15 : rFp 10 15 (.array .int) true RX10 := ⟨RX10, TX10, 42, tyX10, rfl, tyX10_ok, nmX10, rfl, by decide +kernel, fun _ => rfl⟩
theorem fp_X10_16 : rFp 10 16 (.array .int) true RX10 := ⟨RX10, TX10, 42, tyX10, rfl, tyX10_ok, nmX10, rfl, by decide +kernel, fun _ => rfl⟩
theorem fp_X10_17 (own : String) : rFp 10 17 .int false own := ⟨RX10, TX10, 42, tyX10, rfl, tyX10_ok, nmX10, rfl, by decide +kernel, fun h => by cases h⟩
theorem fp_X10_18 : rFp 10 18 (.array .int) true RX10 := ⟨RX10, TX10, 42, tyX10, rfl, tyX10_ok, nmX10, rfl, by decide +kernel, fun _ => rfl⟩
theorem fp_X10_19 (own : String) : rFp 10 19 .int false own := ⟨RX10, TX10, 42, tyX10, rfl, tyX10_ok, nmX10, rfl, by decide +kernel, fun h => by cases h⟩
theorem fp_X10_20 (own : String) : rFp 10 20 .int false own := ⟨RX10, TX10, 42, tyX10, rfl, tyX10_ok, nmX10, rfl, by decide +kernel, fun h => by cases h⟩
theorem fp_X10_21 : rFp 10 21 (.array .int) true RX10 := ⟨RX10, TX10, 42, tyX10, rfl, tyX10_ok, nmX10, rfl, by decide +kernel, fun _ => rfl⟩
theorem fp_X10_22 : rFp 10 22 (.array .int) true RX10 := ⟨RX10, TX10, 42, tyX10, rfl, tyX10_ok, nmX10, rfl, by decide +kernel, fun _ => rfl⟩
theorem fp_X10_23 (own : String) : rFp 10 23 .int false own := ⟨RX10, TX10, 42, tyX10, rfl, tyX10_ok, nmX10, rfl, by decide +kernel, fun h => by cases h⟩
theorem fp_X10_24 : rFp 10 24 (.array .long) true RX10 := ⟨RX10, TX10, 42, tyX10, rfl, tyX10_ok, nmX10, rfl, by decide +kernel, fun _ => rfl⟩
theorem fp_X10_25 : rFp 10 25 (.array .int) true RX10 := ⟨RX10, TX10, 42, tyX10, rfl, tyX10_ok, nmX10, rfl, by decide +kernel, fun _ => rfl⟩
theorem fp_X10_26 : rFp 10 26 (.array .int) true RX10 := ⟨RX10, TX10, 42, tyX10, rfl, tyX10_ok, nmX10, rfl, by decide +kernel, fun _ => rfl⟩
theorem fp_X10_27 : rFp 10 27 (.array .int) true RX10 := ⟨RX10, TX10, 42, tyX10, rfl, tyX10_ok, nmX10, rfl, by decide +kernel, fun _ => rfl⟩
theorem fp_X10_28 : rFp 10 28 (.array .int) true RX10 := ⟨RX10, TX10, 42, tyX10, rfl, tyX10_ok, nmX10, rfl, by decide +kernel, fun _ => rfl⟩
theorem fp_X10_29 (own : String) : rFp 10 29 .boolean false own := ⟨RX10, TX10, 42, tyX10, rfl, tyX10_ok, nmX10, rfl, by decide +kernel, fun h => by cases h⟩
theorem fp_X10_30 : rFp 10 30 (.array .int) true RX10 := ⟨RX10, TX10, 42, tyX10, rfl, tyX10_ok, nmX10, rfl, by decide +kernel, fun _ => rfl⟩
theorem fp_X10_31 : rFp 10 31 (.array .int) true RX10 := ⟨RX10, TX10, 42, tyX10, rfl, tyX10_ok, nmX10, rfl, by decide +kernel, fun _ => rfl⟩
theorem fp_X10_32 : rFp 10 32 (.array .int) true RX10 := ⟨RX10, TX10, 42, tyX10, rfl, tyX10_ok, nmX10, rfl, by decide +kernel, fun _ => rfl⟩
theorem fp_X10_33 : rFp 10 33 (.array .int) true RX10 := ⟨RX10, TX10, 42, tyX10, rfl, tyX10_ok, nmX10, rfl, by decide +kernel, fun _ => rfl⟩
theorem fp_X10_34 (own : String) : rFp 10 34 .int false own := ⟨RX10, TX10, 42, tyX10, rfl, tyX10_ok, nmX10, rfl, by decide +kernel, fun h => by cases h⟩
theorem fp_X10_35 : rFp 10 35 (.array .int) true RX10 := ⟨RX10, TX10, 42, tyX10, rfl, tyX10_ok, nmX10, rfl, by decide +kernel, fun _ => rfl⟩
theorem fp_X10_36 : rFp 10 36 (.array .int) true RX10 := ⟨RX10, TX10, 42, tyX10, rfl, tyX10_ok, nmX10, rfl, by decide +kernel, fun _ => rfl⟩
theorem fp_X10_37 : rFp 10 37 (.array .int) true RX10 := ⟨RX10, TX10, 42, tyX10, rfl, tyX10_ok, nmX10, rfl, by decide +kernel, fun _ => rfl⟩
theorem fp_X10_38 (own : String) : rFp 10 38 .int false own := ⟨RX10, TX10, 42, tyX10, rfl, tyX10_ok, nmX10, rfl, by decide +kernel, fun h => by cases h⟩
theorem fp_X10_39 (own : String) : rFp 10 39 .int false own := ⟨RX10, TX10, 42, tyX10, rfl, tyX10_ok, nmX10, rfl, by decide +kernel, fun h => by cases h⟩
theorem fp_X10_40 (own : String) : rFp 10 40 .int false own := ⟨RX10, TX10, 42, tyX10, rfl, tyX10_ok, nmX10, rfl, by decide +kernel, fun h => by cases h⟩
theorem fp_X10_41 (own : String) : rFp 10 41 .int false own := ⟨RX10, TX10, 42, tyX10, rfl, tyX10_ok, nmX10, rfl, by decide +kernel, fun h => by cases h⟩
abbrev mX0_init : rM := (yX0_init, cX0_init, 1, (Option.none : Option Jvm.ClassFile.FieldType))
theorem caX0_init : rCal mX0_init 0 := ⟨co_X0_init, in_X0, ⟨by decide, by decide, by decide +kernel⟩, rfl⟩
theorem ciX0_init : rCi mX0_init := ⟨im_X0_init, rfl, rfl⟩
abbrev mX0_become : rM := (yX0_become, cX0_become, 5, (Option.none : Option Jvm.ClassFile.FieldType))
theorem caX0_become : rCal mX0_become 3 := ⟨co_X0_become, in_X0, ⟨by decide, by decide, by decide +kernel⟩, rfl⟩
theorem cvX0_become : rCv mX0_become 0 := ⟨im_X0_become, se_X0_become, rfl⟩
abbrev mX0_copyFrom : rM := (yX0_copyFrom, cX0_copyFrom, 2, (Option.none : Option Jvm.ClassFile.FieldType))
theorem caX0_copyFrom : rCal mX0_copyFrom 1 := ⟨co_X0_copyFrom, in_X0, ⟨by decide, by decide, by decide +kernel⟩, rfl⟩
theorem cvX0_copyFrom : rCv mX0_copyFrom 0 := ⟨im_X0_copyFrom, se_X0_copyFrom, rfl⟩
abbrev mX0_sizes : rM := (yX0_sizes, cX0_sizes, 1, (Option.some Jvm.ClassFile.FieldType.int))
theorem caX0_sizes : rCal mX0_sizes 0 := ⟨co_X0_sizes, in_X0, ⟨by decide, by decide, by decide +kernel⟩, rfl⟩
theorem cvX0_sizes : rCv mX0_sizes 0 := ⟨im_X0_sizes, se_X0_sizes, rfl⟩
abbrev mX0_has : rM := (yX0_has, cX0_has, 2, (Option.some Jvm.ClassFile.FieldType.boolean))
theorem caX0_has : rCal mX0_has 1 := ⟨co_X0_has, in_X0, ⟨by decide, by decide, by decide +kernel⟩, rfl⟩
theorem cvX0_has : rCv mX0_has 0 := ⟨im_X0_has, se_X0_has, rfl⟩
abbrev mX0_hasPoint : rM := (yX0_hasPoint, cX0_hasPoint, 2, (Option.some Jvm.ClassFile.FieldType.boolean))
theorem caX0_hasPoint : rCal mX0_hasPoint 1 := ⟨co_X0_hasPoint, in_X0, ⟨by decide, by decide, by decide +kernel⟩, rfl⟩
theorem cvX0_hasPoint : rCv mX0_hasPoint 0 := ⟨im_X0_hasPoint, se_X0_hasPoint, rfl⟩
abbrev mX0_isSet : rM := (yX0_isSet, cX0_isSet, 3, (Option.some Jvm.ClassFile.FieldType.boolean))
theorem caX0_isSet : rCal mX0_isSet 2 := ⟨co_X0_isSet, in_X0, ⟨by decide, by decide, by decide +kernel⟩, rfl⟩
theorem cvX0_isSet : rCv mX0_isSet 0 := ⟨im_X0_isSet, se_X0_isSet, rfl⟩
abbrev mX0_numberOf : rM := (yX0_numberOf, cX0_numberOf, 2, (Option.some Jvm.ClassFile.FieldType.int))
theorem caX0_numberOf : rCal mX0_numberOf 1 := ⟨co_X0_numberOf, in_X0, ⟨by decide, by decide, by decide +kernel⟩, rfl⟩
theorem cvX0_numberOf : rCv mX0_numberOf 0 := ⟨im_X0_numberOf, se_X0_numberOf, rfl⟩
abbrev mX0_holds : rM := (yX0_holds, cX0_holds, 3, (Option.some Jvm.ClassFile.FieldType.boolean))
theorem caX0_holds : rCal mX0_holds 2 := ⟨co_X0_holds, in_X0, ⟨by decide, by decide, by decide +kernel⟩, rfl⟩
theorem cvX0_holds : rCv mX0_holds 0 := ⟨im_X0_holds, se_X0_holds, rfl⟩
abbrev mX0_holding : rM := (yX0_holding, cX0_holding, 4, (Option.some Jvm.ClassFile.FieldType.int))
theorem caX0_holding : rCal mX0_holding 1 := ⟨co_X0_holding, in_X0, ⟨by decide, by decide, by decide +kernel⟩, rfl⟩
theorem cvX0_holding : rCv mX0_holding 0 := ⟨im_X0_holding, se_X0_holding, rfl⟩
abbrev mX1_init : rM := (yX1_init, cX1_init, 1, (Option.none : Option Jvm.ClassFile.FieldType))
theorem caX1_init : rCal mX1_init 0 := ⟨co_X1_init, in_X1, ⟨by decide, by decide, by decide +kernel⟩, rfl⟩
theorem ciX1_init : rCi mX1_init := ⟨im_X1_init, rfl, rfl⟩
abbrev mX1_look : rM := (yX1_look, cX1_look, 2, (Option.none : Option Jvm.ClassFile.FieldType))
theorem caX1_look : rCal mX1_look 1 := ⟨co_X1_look, in_X1, ⟨by decide, by decide, by decide +kernel⟩, rfl⟩
theorem cvX1_look : rCv mX1_look 1 := ⟨im_X1_look, se_X1_look, rfl⟩
abbrev mX1_choosePoints : rM := (yX1_choosePoints, cX1_choosePoints, 6, (Option.none : Option Jvm.ClassFile.FieldType))
theorem caX1_choosePoints : rCal mX1_choosePoints 5 := ⟨co_X1_choosePoints, in_X1, ⟨by decide, by decide, by decide +kernel⟩, rfl⟩
theorem csX1_choosePoints : rCs mX1_choosePoints := sm_X1_choosePoints
abbrev mX1_leastPoint : rM := (yX1_leastPoint, cX1_leastPoint, 4, (Option.some Jvm.ClassFile.FieldType.int))
theorem caX1_leastPoint : rCal mX1_leastPoint 1 := ⟨co_X1_leastPoint, in_X1, ⟨by decide, by decide, by decide +kernel⟩, rfl⟩
theorem cvX1_leastPoint : rCv mX1_leastPoint 1 := ⟨im_X1_leastPoint, se_X1_leastPoint, rfl⟩
abbrev mX1_judgeTwist : rM := (yX1_judgeTwist, cX1_judgeTwist, 7, (Option.none : Option Jvm.ClassFile.FieldType))
theorem caX1_judgeTwist : rCal mX1_judgeTwist 2 := ⟨co_X1_judgeTwist, in_X1, ⟨by decide, by decide, by decide +kernel⟩, rfl⟩
theorem cvX1_judgeTwist : rCv mX1_judgeTwist 1 := ⟨im_X1_judgeTwist, se_X1_judgeTwist, rfl⟩
abbrev mX2_init : rM := (yX2_init, cX2_init, 1, (Option.none : Option Jvm.ClassFile.FieldType))
theorem caX2_init : rCal mX2_init 0 := ⟨co_X2_init, in_X2, ⟨by decide, by decide, by decide +kernel⟩, rfl⟩
theorem ciX2_init : rCi mX2_init := ⟨im_X2_init, rfl, rfl⟩
abbrev mX2_isParts : rM := (yX2_isParts, cX2_isParts, 1, (Option.some Jvm.ClassFile.FieldType.boolean))
theorem caX2_isParts : rCal mX2_isParts 1 := ⟨co_X2_isParts, in_X2, ⟨by decide, by decide, by decide +kernel⟩, rfl⟩
theorem csX2_isParts : rCs mX2_isParts := sm_X2_isParts
abbrev mX2_isLookedFor : rM := (yX2_isLookedFor, cX2_isLookedFor, 1, (Option.some Jvm.ClassFile.FieldType.boolean))
theorem caX2_isLookedFor : rCal mX2_isLookedFor 1 := ⟨co_X2_isLookedFor, in_X2, ⟨by decide, by decide, by decide +kernel⟩, rfl⟩
theorem csX2_isLookedFor : rCs mX2_isLookedFor := sm_X2_isLookedFor
abbrev mX2_firstOf : rM := (yX2_firstOf, cX2_firstOf, 2, (Option.some Jvm.ClassFile.FieldType.int))
theorem caX2_firstOf : rCal mX2_firstOf 1 := ⟨co_X2_firstOf, in_X2, ⟨by decide, by decide, by decide +kernel⟩, rfl⟩
theorem cvX2_firstOf : rCv mX2_firstOf 2 := ⟨im_X2_firstOf, se_X2_firstOf, rfl⟩
abbrev mX2_look : rM := (yX2_look, cX2_look, 6, (Option.none : Option Jvm.ClassFile.FieldType))
theorem caX2_look : rCal mX2_look 2 := ⟨co_X2_look, in_X2, ⟨by decide, by decide, by decide +kernel⟩, rfl⟩
theorem cvX2_look : rCv mX2_look 2 := ⟨im_X2_look, se_X2_look, rfl⟩
abbrev mX2_startTallies : rM := (yX2_startTallies, cX2_startTallies, 5, (Option.none : Option Jvm.ClassFile.FieldType))
theorem caX2_startTallies : rCal mX2_startTallies 1 := ⟨co_X2_startTallies, in_X2, ⟨by decide, by decide, by decide +kernel⟩, rfl⟩
theorem cvX2_startTallies : rCv mX2_startTallies 2 := ⟨im_X2_startTallies, se_X2_startTallies, rfl⟩
abbrev mX2_stepOf : rM := (yX2_stepOf, cX2_stepOf, 5, (Option.some Jvm.ClassFile.FieldType.long))
theorem caX2_stepOf : rCal mX2_stepOf 2 := ⟨co_X2_stepOf, in_X2, ⟨by decide, by decide, by decide +kernel⟩, rfl⟩
theorem csX2_stepOf : rCs mX2_stepOf := sm_X2_stepOf
abbrev mX2_stepOfPairs : rM := (yX2_stepOfPairs, cX2_stepOfPairs, 6, (Option.some Jvm.ClassFile.FieldType.long))
theorem caX2_stepOfPairs : rCal mX2_stepOfPairs 3 := ⟨co_X2_stepOfPairs, in_X2, ⟨by decide, by decide, by decide +kernel⟩, rfl⟩
theorem csX2_stepOfPairs : rCs mX2_stepOfPairs := sm_X2_stepOfPairs
abbrev mX2_placeBlock : rM := (yX2_placeBlock, cX2_placeBlock, 9, (Option.none : Option Jvm.ClassFile.FieldType))
theorem caX2_placeBlock : rCal mX2_placeBlock 3 := ⟨co_X2_placeBlock, in_X2, ⟨by decide, by decide, by decide +kernel⟩, rfl⟩
theorem csX2_placeBlock : rCs mX2_placeBlock := sm_X2_placeBlock
abbrev mX2_addWay : rM := (yX2_addWay, cX2_addWay, 1, (Option.none : Option Jvm.ClassFile.FieldType))
theorem caX2_addWay : rCal mX2_addWay 0 := ⟨co_X2_addWay, in_X2, ⟨by decide, by decide, by decide +kernel⟩, rfl⟩
theorem cvX2_addWay : rCv mX2_addWay 2 := ⟨im_X2_addWay, se_X2_addWay, rfl⟩
abbrev mX3_init : rM := (yX3_init, cX3_init, 2, (Option.none : Option Jvm.ClassFile.FieldType))
theorem caX3_init : rCal mX3_init 1 := ⟨co_X3_init, in_X3, ⟨by decide, by decide, by decide +kernel⟩, rfl⟩
theorem ciX3_init : rCi mX3_init := ⟨im_X3_init, rfl, rfl⟩
abbrev mX3_becomeEmpty : rM := (yX3_becomeEmpty, cX3_becomeEmpty, 1, (Option.some Jvm.ClassFile.FieldType.int))
theorem caX3_becomeEmpty : rCal mX3_becomeEmpty 0 := ⟨co_X3_becomeEmpty, in_X3, ⟨by decide, by decide, by decide +kernel⟩, rfl⟩
theorem cvX3_becomeEmpty : rCv mX3_becomeEmpty 3 := ⟨im_X3_becomeEmpty, se_X3_becomeEmpty, rfl⟩
abbrev mX3_addRow : rM := (yX3_addRow, cX3_addRow, 3, (Option.some Jvm.ClassFile.FieldType.int))
theorem caX3_addRow : rCal mX3_addRow 2 := ⟨co_X3_addRow, in_X3, ⟨by decide, by decide, by decide +kernel⟩, rfl⟩
theorem cvX3_addRow : rCv mX3_addRow 3 := ⟨im_X3_addRow, se_X3_addRow, rfl⟩
abbrev mX3_copyFrom : rM := (yX3_copyFrom, cX3_copyFrom, 3, (Option.none : Option Jvm.ClassFile.FieldType))
theorem caX3_copyFrom : rCal mX3_copyFrom 1 := ⟨co_X3_copyFrom, in_X3, ⟨by decide, by decide, by decide +kernel⟩, rfl⟩
theorem cvX3_copyFrom : rCv mX3_copyFrom 3 := ⟨im_X3_copyFrom, se_X3_copyFrom, rfl⟩
abbrev mX4_init : rM := (yX4_init, cX4_init, 1, (Option.none : Option Jvm.ClassFile.FieldType))
theorem caX4_init : rCal mX4_init 0 := ⟨co_X4_init, in_X4, ⟨by decide, by decide, by decide +kernel⟩, rfl⟩
theorem ciX4_init : rCi mX4_init := ⟨im_X4_init, rfl, rfl⟩
abbrev mX4_addSign : rM := (yX4_addSign, cX4_addSign, 2, (Option.some Jvm.ClassFile.FieldType.boolean))
theorem caX4_addSign : rCal mX4_addSign 1 := ⟨co_X4_addSign, in_X4, ⟨by decide, by decide, by decide +kernel⟩, rfl⟩
theorem cvX4_addSign : rCv mX4_addSign 4 := ⟨im_X4_addSign, se_X4_addSign, rfl⟩
abbrev mX4_numberOf : rM := (yX4_numberOf, cX4_numberOf, 4, (Option.some Jvm.ClassFile.FieldType.int))
theorem caX4_numberOf : rCal mX4_numberOf 2 := ⟨co_X4_numberOf, in_X4, ⟨by decide, by decide, by decide +kernel⟩, rfl⟩
theorem cvX4_numberOf : rCv mX4_numberOf 4 := ⟨im_X4_numberOf, se_X4_numberOf, rfl⟩
abbrev mX4_parse : rM := (yX4_parse, cX4_parse, 2, (Option.some Jvm.ClassFile.FieldType.int))
theorem caX4_parse : rCal mX4_parse 0 := ⟨co_X4_parse, in_X4, ⟨by decide, by decide, by decide +kernel⟩, rfl⟩
theorem cvX4_parse : rCv mX4_parse 4 := ⟨im_X4_parse, se_X4_parse, rfl⟩
abbrev mX4_parseClause : rM := (yX4_parseClause, cX4_parseClause, 4, (Option.some Jvm.ClassFile.FieldType.boolean))
theorem caX4_parseClause : rCal mX4_parseClause 1 := ⟨co_X4_parseClause, in_X4, ⟨by decide, by decide, by decide +kernel⟩, rfl⟩
theorem cvX4_parseClause : rCv mX4_parseClause 4 := ⟨im_X4_parseClause, se_X4_parseClause, rfl⟩
abbrev mX4_parseWord : rM := (yX4_parseWord, cX4_parseWord, 5, (Option.some Jvm.ClassFile.FieldType.int))
theorem caX4_parseWord : rCal mX4_parseWord 0 := ⟨co_X4_parseWord, in_X4, ⟨by decide, by decide, by decide +kernel⟩, rfl⟩
theorem cvX4_parseWord : rCv mX4_parseWord 4 := ⟨im_X4_parseWord, se_X4_parseWord, rfl⟩
abbrev mX4_signsAlike : rM := (yX4_signsAlike, cX4_signsAlike, 3, (Option.some Jvm.ClassFile.FieldType.int))
theorem caX4_signsAlike : rCal mX4_signsAlike 1 := ⟨co_X4_signsAlike, in_X4, ⟨by decide, by decide, by decide +kernel⟩, rfl⟩
theorem cvX4_signsAlike : rCv mX4_signsAlike 4 := ⟨im_X4_signsAlike, se_X4_signsAlike, rfl⟩
abbrev mX4_parseNumber : rM := (yX4_parseNumber, cX4_parseNumber, 5, (Option.some Jvm.ClassFile.FieldType.boolean))
theorem caX4_parseNumber : rCal mX4_parseNumber 1 := ⟨co_X4_parseNumber, in_X4, ⟨by decide, by decide, by decide +kernel⟩, rfl⟩
theorem cvX4_parseNumber : rCv mX4_parseNumber 4 := ⟨im_X4_parseNumber, se_X4_parseNumber, rfl⟩
abbrev mX4_passSign : rM := (yX4_passSign, cX4_passSign, 2, (Option.some Jvm.ClassFile.FieldType.boolean))
theorem caX4_passSign : rCal mX4_passSign 1 := ⟨co_X4_passSign, in_X4, ⟨by decide, by decide, by decide +kernel⟩, rfl⟩
theorem cvX4_passSign : rCv mX4_passSign 4 := ⟨im_X4_passSign, se_X4_passSign, rfl⟩
abbrev mX4_nameOf : rM := (yX4_nameOf, cX4_nameOf, 1, (Option.some (Jvm.ClassFile.FieldType.object "java/lang/String")))
theorem caX4_nameOf : rCal mX4_nameOf 1 := ⟨co_X4_nameOf, in_X4, ⟨by decide, by decide, by decide +kernel⟩, rfl⟩
theorem csX4_nameOf : rCs mX4_nameOf := sm_X4_nameOf
abbrev mX4_numbersBehind : rM := (yX4_numbersBehind, cX4_numbersBehind, 1, (Option.some Jvm.ClassFile.FieldType.int))
theorem caX4_numbersBehind : rCal mX4_numbersBehind 1 := ⟨co_X4_numbersBehind, in_X4, ⟨by decide, by decide, by decide +kernel⟩, rfl⟩
theorem csX4_numbersBehind : rCs mX4_numbersBehind := sm_X4_numbersBehind
abbrev mX5_init : rM := (yX5_init, cX5_init, 2, (Option.none : Option Jvm.ClassFile.FieldType))
theorem caX5_init : rCal mX5_init 1 := ⟨co_X5_init, in_X5, ⟨by decide, by decide, by decide +kernel⟩, rfl⟩
theorem ciX5_init : rCi mX5_init := ⟨im_X5_init, rfl, rfl⟩
abbrev mX5_becomeEmpty : rM := (yX5_becomeEmpty, cX5_becomeEmpty, 1, (Option.none : Option Jvm.ClassFile.FieldType))
theorem caX5_becomeEmpty : rCal mX5_becomeEmpty 0 := ⟨co_X5_becomeEmpty, in_X5, ⟨by decide, by decide, by decide +kernel⟩, rfl⟩
theorem cvX5_becomeEmpty : rCv mX5_becomeEmpty 5 := ⟨im_X5_becomeEmpty, se_X5_becomeEmpty, rfl⟩
abbrev mX5_copyFrom : rM := (yX5_copyFrom, cX5_copyFrom, 2, (Option.none : Option Jvm.ClassFile.FieldType))
theorem caX5_copyFrom : rCal mX5_copyFrom 1 := ⟨co_X5_copyFrom, in_X5, ⟨by decide, by decide, by decide +kernel⟩, rfl⟩
theorem cvX5_copyFrom : rCv mX5_copyFrom 5 := ⟨im_X5_copyFrom, se_X5_copyFrom, rfl⟩
abbrev mX5_clearCounts : rM := (yX5_clearCounts, cX5_clearCounts, 2, (Option.none : Option Jvm.ClassFile.FieldType))
theorem caX5_clearCounts : rCal mX5_clearCounts 0 := ⟨co_X5_clearCounts, in_X5, ⟨by decide, by decide, by decide +kernel⟩, rfl⟩
theorem cvX5_clearCounts : rCv mX5_clearCounts 5 := ⟨im_X5_clearCounts, se_X5_clearCounts, rfl⟩
abbrev mX5_changeSigns : rM := (yX5_changeSigns, cX5_changeSigns, 2, (Option.none : Option Jvm.ClassFile.FieldType))
theorem caX5_changeSigns : rCal mX5_changeSigns 0 := ⟨co_X5_changeSigns, in_X5, ⟨by decide, by decide, by decide +kernel⟩, rfl⟩
theorem cvX5_changeSigns : rCv mX5_changeSigns 5 := ⟨im_X5_changeSigns, se_X5_changeSigns, rfl⟩
abbrev mX5_toggle : rM := (yX5_toggle, cX5_toggle, 2, (Option.none : Option Jvm.ClassFile.FieldType))
theorem caX5_toggle : rCal mX5_toggle 1 := ⟨co_X5_toggle, in_X5, ⟨by decide, by decide, by decide +kernel⟩, rfl⟩
theorem cvX5_toggle : rCv mX5_toggle 5 := ⟨im_X5_toggle, se_X5_toggle, rfl⟩
abbrev mX5_addTwist : rM := (yX5_addTwist, cX5_addTwist, 5, (Option.some Jvm.ClassFile.FieldType.boolean))
theorem caX5_addTwist : rCal mX5_addTwist 2 := ⟨co_X5_addTwist, in_X5, ⟨by decide, by decide, by decide +kernel⟩, rfl⟩
theorem cvX5_addTwist : rCv mX5_addTwist 5 := ⟨im_X5_addTwist, se_X5_addTwist, rfl⟩
abbrev mX5_takeDifference : rM := (yX5_takeDifference, cX5_takeDifference, 2, (Option.none : Option Jvm.ClassFile.FieldType))
theorem caX5_takeDifference : rCal mX5_takeDifference 0 := ⟨co_X5_takeDifference, in_X5, ⟨by decide, by decide, by decide +kernel⟩, rfl⟩
theorem cvX5_takeDifference : rCv mX5_takeDifference 5 := ⟨im_X5_takeDifference, se_X5_takeDifference, rfl⟩
abbrev mX5_exchangePoints : rM := (yX5_exchangePoints, cX5_exchangePoints, 6, (Option.none : Option Jvm.ClassFile.FieldType))
theorem caX5_exchangePoints : rCal mX5_exchangePoints 2 := ⟨co_X5_exchangePoints, in_X5, ⟨by decide, by decide, by decide +kernel⟩, rfl⟩
theorem cvX5_exchangePoints : rCv mX5_exchangePoints 5 := ⟨im_X5_exchangePoints, se_X5_exchangePoints, rfl⟩
abbrev mX5_mayBeSwapped : rM := (yX5_mayBeSwapped, cX5_mayBeSwapped, 4, (Option.some Jvm.ClassFile.FieldType.boolean))
theorem caX5_mayBeSwapped : rCal mX5_mayBeSwapped 0 := ⟨co_X5_mayBeSwapped, in_X5, ⟨by decide, by decide, by decide +kernel⟩, rfl⟩
theorem cvX5_mayBeSwapped : rCv mX5_mayBeSwapped 5 := ⟨im_X5_mayBeSwapped, se_X5_mayBeSwapped, rfl⟩
abbrev mX5_swapByRow : rM := (yX5_swapByRow, cX5_swapByRow, 2, (Option.none : Option Jvm.ClassFile.FieldType))
theorem caX5_swapByRow : rCal mX5_swapByRow 0 := ⟨co_X5_swapByRow, in_X5, ⟨by decide, by decide, by decide +kernel⟩, rfl⟩
theorem cvX5_swapByRow : rCv mX5_swapByRow 5 := ⟨im_X5_swapByRow, se_X5_swapByRow, rfl⟩
abbrev mX5_volume : rM := (yX5_volume, cX5_volume, 3, (Option.some Jvm.ClassFile.FieldType.int))
theorem caX5_volume : rCal mX5_volume 0 := ⟨co_X5_volume, in_X5, ⟨by decide, by decide, by decide +kernel⟩, rfl⟩
theorem cvX5_volume : rCv mX5_volume 5 := ⟨im_X5_volume, se_X5_volume, rfl⟩
abbrev mX5_countsNotZero : rM := (yX5_countsNotZero, cX5_countsNotZero, 3, (Option.some Jvm.ClassFile.FieldType.int))
theorem caX5_countsNotZero : rCal mX5_countsNotZero 0 := ⟨co_X5_countsNotZero, in_X5, ⟨by decide, by decide, by decide +kernel⟩, rfl⟩
theorem cvX5_countsNotZero : rCv mX5_countsNotZero 5 := ⟨im_X5_countsNotZero, se_X5_countsNotZero, rfl⟩
abbrev mX5_foundation : rM := (yX5_foundation, cX5_foundation, 3, (Option.some Jvm.ClassFile.FieldType.int))
theorem caX5_foundation : rCal mX5_foundation 0 := ⟨co_X5_foundation, in_X5, ⟨by decide, by decide, by decide +kernel⟩, rfl⟩
theorem cvX5_foundation : rCv mX5_foundation 5 := ⟨im_X5_foundation, se_X5_foundation, rfl⟩
abbrev mX5_isPlain : rM := (yX5_isPlain, cX5_isPlain, 2, (Option.some Jvm.ClassFile.FieldType.boolean))
theorem caX5_isPlain : rCal mX5_isPlain 0 := ⟨co_X5_isPlain, in_X5, ⟨by decide, by decide, by decide +kernel⟩, rfl⟩
theorem cvX5_isPlain : rCv mX5_isPlain 5 := ⟨im_X5_isPlain, se_X5_isPlain, rfl⟩
abbrev mX5_isTrade : rM := (yX5_isTrade, cX5_isTrade, 1, (Option.some Jvm.ClassFile.FieldType.boolean))
theorem caX5_isTrade : rCal mX5_isTrade 0 := ⟨co_X5_isTrade, in_X5, ⟨by decide, by decide, by decide +kernel⟩, rfl⟩
theorem cvX5_isTrade : rCv mX5_isTrade 5 := ⟨im_X5_isTrade, se_X5_isTrade, rfl⟩
abbrev mX5_firstAmiss : rM := (yX5_firstAmiss, cX5_firstAmiss, 5, (Option.some Jvm.ClassFile.FieldType.int))
theorem caX5_firstAmiss : rCal mX5_firstAmiss 2 := ⟨co_X5_firstAmiss, in_X5, ⟨by decide, by decide, by decide +kernel⟩, rfl⟩
theorem cvX5_firstAmiss : rCv mX5_firstAmiss 5 := ⟨im_X5_firstAmiss, se_X5_firstAmiss, rfl⟩
abbrev mX5_sumOf : rM := (yX5_sumOf, cX5_sumOf, 4, (Option.some Jvm.ClassFile.FieldType.int))
theorem caX5_sumOf : rCal mX5_sumOf 1 := ⟨co_X5_sumOf, in_X5, ⟨by decide, by decide, by decide +kernel⟩, rfl⟩
theorem cvX5_sumOf : rCv mX5_sumOf 5 := ⟨im_X5_sumOf, se_X5_sumOf, rfl⟩
abbrev mX5_coverOf : rM := (yX5_coverOf, cX5_coverOf, 4, (Option.some Jvm.ClassFile.FieldType.int))
theorem caX5_coverOf : rCal mX5_coverOf 1 := ⟨co_X5_coverOf, in_X5, ⟨by decide, by decide, by decide +kernel⟩, rfl⟩
theorem cvX5_coverOf : rCv mX5_coverOf 5 := ⟨im_X5_coverOf, se_X5_coverOf, rfl⟩
abbrev mX5_index : rM := (yX5_index, cX5_index, 4, (Option.some Jvm.ClassFile.FieldType.int))
theorem caX5_index : rCal mX5_index 0 := ⟨co_X5_index, in_X5, ⟨by decide, by decide, by decide +kernel⟩, rfl⟩
theorem cvX5_index : rCv mX5_index 5 := ⟨im_X5_index, se_X5_index, rfl⟩
abbrev mX5_signWritten : rM := (yX5_signWritten, cX5_signWritten, 5, (Option.some Jvm.ClassFile.FieldType.int))
theorem caX5_signWritten : rCal mX5_signWritten 1 := ⟨co_X5_signWritten, in_X5, ⟨by decide, by decide, by decide +kernel⟩, rfl⟩
theorem cvX5_signWritten : rCv mX5_signWritten 5 := ⟨im_X5_signWritten, se_X5_signWritten, rfl⟩
abbrev mX5_signOfTerm : rM := (yX5_signOfTerm, cX5_signOfTerm, 6, (Option.some Jvm.ClassFile.FieldType.int))
theorem caX5_signOfTerm : rCal mX5_signOfTerm 2 := ⟨co_X5_signOfTerm, in_X5, ⟨by decide, by decide, by decide +kernel⟩, rfl⟩
theorem cvX5_signOfTerm : rCv mX5_signOfTerm 5 := ⟨im_X5_signOfTerm, se_X5_signOfTerm, rfl⟩
abbrev mX5_factorLength : rM := (yX5_factorLength, cX5_factorLength, 2, (Option.some Jvm.ClassFile.FieldType.int))
theorem caX5_factorLength : rCal mX5_factorLength 1 := ⟨co_X5_factorLength, in_X5, ⟨by decide, by decide, by decide +kernel⟩, rfl⟩
theorem csX5_factorLength : rCs mX5_factorLength := sm_X5_factorLength
abbrev mX5_pointOf : rM := (yX5_pointOf, cX5_pointOf, 4, (Option.some Jvm.ClassFile.FieldType.int))
theorem caX5_pointOf : rCal mX5_pointOf 2 := ⟨co_X5_pointOf, in_X5, ⟨by decide, by decide, by decide +kernel⟩, rfl⟩
theorem csX5_pointOf : rCs mX5_pointOf := sm_X5_pointOf
abbrev mX6_init : rM := (yX6_init, cX6_init, 1, (Option.none : Option Jvm.ClassFile.FieldType))
theorem caX6_init : rCal mX6_init 0 := ⟨co_X6_init, in_X6, ⟨by decide, by decide, by decide +kernel⟩, rfl⟩
theorem ciX6_init : rCi mX6_init := ⟨im_X6_init, rfl, rfl⟩
abbrev mX6_copyFrom : rM := (yX6_copyFrom, cX6_copyFrom, 2, (Option.none : Option Jvm.ClassFile.FieldType))
theorem caX6_copyFrom : rCal mX6_copyFrom 1 := ⟨co_X6_copyFrom, in_X6, ⟨by decide, by decide, by decide +kernel⟩, rfl⟩
theorem cvX6_copyFrom : rCv mX6_copyFrom 6 := ⟨im_X6_copyFrom, se_X6_copyFrom, rfl⟩
abbrev mX7_init : rM := (yX7_init, cX7_init, 1, (Option.none : Option Jvm.ClassFile.FieldType))
theorem caX7_init : rCal mX7_init 0 := ⟨co_X7_init, in_X7, ⟨by decide, by decide, by decide +kernel⟩, rfl⟩
theorem ciX7_init : rCi mX7_init := ⟨im_X7_init, rfl, rfl⟩
abbrev mX7_become : rM := (yX7_become, cX7_become, 4, (Option.none : Option Jvm.ClassFile.FieldType))
theorem caX7_become : rCal mX7_become 2 := ⟨co_X7_become, in_X7, ⟨by decide, by decide, by decide +kernel⟩, rfl⟩
theorem cvX7_become : rCv mX7_become 7 := ⟨im_X7_become, se_X7_become, rfl⟩
abbrev mX7_isEmpty : rM := (yX7_isEmpty, cX7_isEmpty, 1, (Option.some Jvm.ClassFile.FieldType.boolean))
theorem caX7_isEmpty : rCal mX7_isEmpty 0 := ⟨co_X7_isEmpty, in_X7, ⟨by decide, by decide, by decide +kernel⟩, rfl⟩
theorem cvX7_isEmpty : rCv mX7_isEmpty 7 := ⟨im_X7_isEmpty, se_X7_isEmpty, rfl⟩
abbrev mX7_hasPlace : rM := (yX7_hasPlace, cX7_hasPlace, 2, (Option.some Jvm.ClassFile.FieldType.boolean))
theorem caX7_hasPlace : rCal mX7_hasPlace 1 := ⟨co_X7_hasPlace, in_X7, ⟨by decide, by decide, by decide +kernel⟩, rfl⟩
theorem cvX7_hasPlace : rCv mX7_hasPlace 7 := ⟨im_X7_hasPlace, se_X7_hasPlace, rfl⟩
abbrev mX7_hasPlaces : rM := (yX7_hasPlaces, cX7_hasPlaces, 3, (Option.some Jvm.ClassFile.FieldType.boolean))
theorem caX7_hasPlaces : rCal mX7_hasPlaces 2 := ⟨co_X7_hasPlaces, in_X7, ⟨by decide, by decide, by decide +kernel⟩, rfl⟩
theorem cvX7_hasPlaces : rCv mX7_hasPlaces 7 := ⟨im_X7_hasPlaces, se_X7_hasPlaces, rfl⟩
abbrev mX7_asItem : rM := (yX7_asItem, cX7_asItem, 3, (Option.some Jvm.ClassFile.FieldType.long))
theorem caX7_asItem : rCal mX7_asItem 1 := ⟨co_X7_asItem, in_X7, ⟨by decide, by decide, by decide +kernel⟩, rfl⟩
theorem cvX7_asItem : rCv mX7_asItem 7 := ⟨im_X7_asItem, se_X7_asItem, rfl⟩
abbrev mX8_init : rM := (yX8_init, cX8_init, 1, (Option.none : Option Jvm.ClassFile.FieldType))
theorem caX8_init : rCal mX8_init 0 := ⟨co_X8_init, in_X8, ⟨by decide, by decide, by decide +kernel⟩, rfl⟩
theorem ciX8_init : rCi mX8_init := ⟨im_X8_init, rfl, rfl⟩
abbrev mX8_becomeFor : rM := (yX8_becomeFor, cX8_becomeFor, 2, (Option.none : Option Jvm.ClassFile.FieldType))
theorem caX8_becomeFor : rCal mX8_becomeFor 1 := ⟨co_X8_becomeFor, in_X8, ⟨by decide, by decide, by decide +kernel⟩, rfl⟩
theorem cvX8_becomeFor : rCv mX8_becomeFor 8 := ⟨im_X8_becomeFor, se_X8_becomeFor, rfl⟩
abbrev mX8_take : rM := (yX8_take, cX8_take, 7, (Option.some Jvm.ClassFile.FieldType.boolean))
theorem caX8_take : rCal mX8_take 2 := ⟨co_X8_take, in_X8, ⟨by decide, by decide, by decide +kernel⟩, rfl⟩
theorem cvX8_take : rCv mX8_take 8 := ⟨im_X8_take, se_X8_take, rfl⟩
abbrev mX8_choices : rM := (yX8_choices, cX8_choices, 1, (Option.some Jvm.ClassFile.FieldType.int))
theorem caX8_choices : rCal mX8_choices 0 := ⟨co_X8_choices, in_X8, ⟨by decide, by decide, by decide +kernel⟩, rfl⟩
theorem cvX8_choices : rCv mX8_choices 8 := ⟨im_X8_choices, se_X8_choices, rfl⟩
abbrev mX8_blockOf : rM := (yX8_blockOf, cX8_blockOf, 5, (Option.some Jvm.ClassFile.FieldType.int))
theorem caX8_blockOf : rCal mX8_blockOf 2 := ⟨co_X8_blockOf, in_X8, ⟨by decide, by decide, by decide +kernel⟩, rfl⟩
theorem cvX8_blockOf : rCv mX8_blockOf 8 := ⟨im_X8_blockOf, se_X8_blockOf, rfl⟩
abbrev mX8_signOf : rM := (yX8_signOf, cX8_signOf, 1, (Option.some Jvm.ClassFile.FieldType.int))
theorem caX8_signOf : rCal mX8_signOf 1 := ⟨co_X8_signOf, in_X8, ⟨by decide, by decide, by decide +kernel⟩, rfl⟩
theorem csX8_signOf : rCs mX8_signOf := sm_X8_signOf
abbrev mX9_init : rM := (yX9_init, cX9_init, 2, (Option.none : Option Jvm.ClassFile.FieldType))
theorem caX9_init : rCal mX9_init 0 := ⟨co_X9_init, in_X9, ⟨by decide, by decide, by decide +kernel⟩, rfl⟩
theorem ciX9_init : rCi mX9_init := ⟨im_X9_init, rfl, rfl⟩
abbrev mX9_size : rM := (yX9_size, cX9_size, 5, (Option.some Jvm.ClassFile.FieldType.int))
theorem caX9_size : rCal mX9_size 3 := ⟨co_X9_size, in_X9, ⟨by decide, by decide, by decide +kernel⟩, rfl⟩
theorem cvX9_size : rCv mX9_size 9 := ⟨im_X9_size, se_X9_size, rfl⟩
abbrev mX9_count : rM := (yX9_count, cX9_count, 4, (Option.some Jvm.ClassFile.FieldType.int))
theorem caX9_count : rCal mX9_count 2 := ⟨co_X9_count, in_X9, ⟨by decide, by decide, by decide +kernel⟩, rfl⟩
theorem cvX9_count : rCv mX9_count 9 := ⟨im_X9_count, se_X9_count, rfl⟩
abbrev mX9_twist : rM := (yX9_twist, cX9_twist, 3, (Option.some Jvm.ClassFile.FieldType.int))
theorem caX9_twist : rCal mX9_twist 2 := ⟨co_X9_twist, in_X9, ⟨by decide, by decide, by decide +kernel⟩, rfl⟩
theorem cvX9_twist : rCv mX9_twist 9 := ⟨im_X9_twist, se_X9_twist, rfl⟩
abbrev mX9_turn : rM := (yX9_turn, cX9_turn, 1, (Option.some Jvm.ClassFile.FieldType.int))
theorem caX9_turn : rCal mX9_turn 0 := ⟨co_X9_turn, in_X9, ⟨by decide, by decide, by decide +kernel⟩, rfl⟩
theorem cvX9_turn : rCv mX9_turn 9 := ⟨im_X9_turn, se_X9_turn, rfl⟩
abbrev mX9_clear : rM := (yX9_clear, cX9_clear, 2, (Option.some Jvm.ClassFile.FieldType.int))
theorem caX9_clear : rCal mX9_clear 0 := ⟨co_X9_clear, in_X9, ⟨by decide, by decide, by decide +kernel⟩, rfl⟩
theorem cvX9_clear : rCv mX9_clear 9 := ⟨im_X9_clear, se_X9_clear, rfl⟩
abbrev mX9_put : rM := (yX9_put, cX9_put, 4, (Option.some Jvm.ClassFile.FieldType.int))
theorem caX9_put : rCal mX9_put 2 := ⟨co_X9_put, in_X9, ⟨by decide, by decide, by decide +kernel⟩, rfl⟩
theorem cvX9_put : rCv mX9_put 9 := ⟨im_X9_put, se_X9_put, rfl⟩
abbrev mX9_swap : rM := (yX9_swap, cX9_swap, 1, (Option.some Jvm.ClassFile.FieldType.int))
theorem caX9_swap : rCal mX9_swap 0 := ⟨co_X9_swap, in_X9, ⟨by decide, by decide, by decide +kernel⟩, rfl⟩
theorem cvX9_swap : rCv mX9_swap 9 := ⟨im_X9_swap, se_X9_swap, rfl⟩
abbrev mX9_keep : rM := (yX9_keep, cX9_keep, 1, (Option.some Jvm.ClassFile.FieldType.int))
theorem caX9_keep : rCal mX9_keep 0 := ⟨co_X9_keep, in_X9, ⟨by decide, by decide, by decide +kernel⟩, rfl⟩
theorem cvX9_keep : rCv mX9_keep 9 := ⟨im_X9_keep, se_X9_keep, rfl⟩
abbrev mX9_differ : rM := (yX9_differ, cX9_differ, 1, (Option.some Jvm.ClassFile.FieldType.int))
theorem caX9_differ : rCal mX9_differ 0 := ⟨co_X9_differ, in_X9, ⟨by decide, by decide, by decide +kernel⟩, rfl⟩
theorem cvX9_differ : rCv mX9_differ 9 := ⟨im_X9_differ, se_X9_differ, rfl⟩
abbrev mX9_exchange : rM := (yX9_exchange, cX9_exchange, 3, (Option.some Jvm.ClassFile.FieldType.int))
theorem caX9_exchange : rCal mX9_exchange 2 := ⟨co_X9_exchange, in_X9, ⟨by decide, by decide, by decide +kernel⟩, rfl⟩
theorem cvX9_exchange : rCv mX9_exchange 9 := ⟨im_X9_exchange, se_X9_exchange, rfl⟩
abbrev mX9_feed : rM := (yX9_feed, cX9_feed, 2, (Option.some Jvm.ClassFile.FieldType.int))
theorem caX9_feed : rCal mX9_feed 1 := ⟨co_X9_feed, in_X9, ⟨by decide, by decide, by decide +kernel⟩, rfl⟩
theorem cvX9_feed : rCv mX9_feed 9 := ⟨im_X9_feed, se_X9_feed, rfl⟩
abbrev mX9_read : rM := (yX9_read, cX9_read, 5, (Option.some Jvm.ClassFile.FieldType.int))
theorem caX9_read : rCal mX9_read 0 := ⟨co_X9_read, in_X9, ⟨by decide, by decide, by decide +kernel⟩, rfl⟩
theorem cvX9_read : rCv mX9_read 9 := ⟨im_X9_read, se_X9_read, rfl⟩
abbrev mX9_doClause : rM := (yX9_doClause, cX9_doClause, 5, (Option.some Jvm.ClassFile.FieldType.int))
theorem caX9_doClause : rCal mX9_doClause 4 := ⟨co_X9_doClause, in_X9, ⟨by decide, by decide, by decide +kernel⟩, rfl⟩
theorem cvX9_doClause : rCv mX9_doClause 9 := ⟨im_X9_doClause, se_X9_doClause, rfl⟩
abbrev mX9_told : rM := (yX9_told, cX9_told, 2, (Option.some Jvm.ClassFile.FieldType.int))
theorem caX9_told : rCal mX9_told 1 := ⟨co_X9_told, in_X9, ⟨by decide, by decide, by decide +kernel⟩, rfl⟩
theorem cvX9_told : rCv mX9_told 9 := ⟨im_X9_told, se_X9_told, rfl⟩
abbrev mX9_block : rM := (yX9_block, cX9_block, 2, (Option.some Jvm.ClassFile.FieldType.int))
theorem caX9_block : rCal mX9_block 1 := ⟨co_X9_block, in_X9, ⟨by decide, by decide, by decide +kernel⟩, rfl⟩
theorem cvX9_block : rCv mX9_block 9 := ⟨im_X9_block, se_X9_block, rfl⟩
abbrev mX9_number : rM := (yX9_number, cX9_number, 2, (Option.some Jvm.ClassFile.FieldType.int))
theorem caX9_number : rCal mX9_number 1 := ⟨co_X9_number, in_X9, ⟨by decide, by decide, by decide +kernel⟩, rfl⟩
theorem cvX9_number : rCv mX9_number 9 := ⟨im_X9_number, se_X9_number, rfl⟩
abbrev mX9_of : rM := (yX9_of, cX9_of, 3, (Option.some Jvm.ClassFile.FieldType.int))
theorem caX9_of : rCal mX9_of 2 := ⟨co_X9_of, in_X9, ⟨by decide, by decide, by decide +kernel⟩, rfl⟩
theorem cvX9_of : rCv mX9_of 9 := ⟨im_X9_of, se_X9_of, rfl⟩
abbrev mX9_sum : rM := (yX9_sum, cX9_sum, 2, (Option.some Jvm.ClassFile.FieldType.int))
theorem caX9_sum : rCal mX9_sum 1 := ⟨co_X9_sum, in_X9, ⟨by decide, by decide, by decide +kernel⟩, rfl⟩
theorem cvX9_sum : rCv mX9_sum 9 := ⟨im_X9_sum, se_X9_sum, rfl⟩
abbrev mX9_amiss : rM := (yX9_amiss, cX9_amiss, 1, (Option.some Jvm.ClassFile.FieldType.int))
theorem caX9_amiss : rCal mX9_amiss 0 := ⟨co_X9_amiss, in_X9, ⟨by decide, by decide, by decide +kernel⟩, rfl⟩
theorem cvX9_amiss : rCv mX9_amiss 9 := ⟨im_X9_amiss, se_X9_amiss, rfl⟩
abbrev mX9_cover : rM := (yX9_cover, cX9_cover, 2, (Option.some Jvm.ClassFile.FieldType.int))
theorem caX9_cover : rCal mX9_cover 1 := ⟨co_X9_cover, in_X9, ⟨by decide, by decide, by decide +kernel⟩, rfl⟩
theorem cvX9_cover : rCv mX9_cover 9 := ⟨im_X9_cover, se_X9_cover, rfl⟩
abbrev mX9_written : rM := (yX9_written, cX9_written, 2, (Option.some Jvm.ClassFile.FieldType.int))
theorem caX9_written : rCal mX9_written 1 := ⟨co_X9_written, in_X9, ⟨by decide, by decide, by decide +kernel⟩, rfl⟩
theorem cvX9_written : rCv mX9_written 9 := ⟨im_X9_written, se_X9_written, rfl⟩
abbrev mX9_open : rM := (yX9_open, cX9_open, 2, (Option.some Jvm.ClassFile.FieldType.int))
theorem caX9_open : rCal mX9_open 1 := ⟨co_X9_open, in_X9, ⟨by decide, by decide, by decide +kernel⟩, rfl⟩
theorem cvX9_open : rCv mX9_open 9 := ⟨im_X9_open, se_X9_open, rfl⟩
abbrev mX9_parted : rM := (yX9_parted, cX9_parted, 2, (Option.some Jvm.ClassFile.FieldType.int))
theorem caX9_parted : rCal mX9_parted 1 := ⟨co_X9_parted, in_X9, ⟨by decide, by decide, by decide +kernel⟩, rfl⟩
theorem cvX9_parted : rCv mX9_parted 9 := ⟨im_X9_parted, se_X9_parted, rfl⟩
abbrev mX9_part : rM := (yX9_part, cX9_part, 4, (Option.some Jvm.ClassFile.FieldType.int))
theorem caX9_part : rCal mX9_part 2 := ⟨co_X9_part, in_X9, ⟨by decide, by decide, by decide +kernel⟩, rfl⟩
theorem cvX9_part : rCv mX9_part 9 := ⟨im_X9_part, se_X9_part, rfl⟩
abbrev mX9_see : rM := (yX9_see, cX9_see, 3, (Option.some Jvm.ClassFile.FieldType.int))
theorem caX9_see : rCal mX9_see 2 := ⟨co_X9_see, in_X9, ⟨by decide, by decide, by decide +kernel⟩, rfl⟩
theorem cvX9_see : rCv mX9_see 9 := ⟨im_X9_see, se_X9_see, rfl⟩
abbrev mX9_fits : rM := (yX9_fits, cX9_fits, 9, (Option.some Jvm.ClassFile.FieldType.int))
theorem caX9_fits : rCal mX9_fits 2 := ⟨co_X9_fits, in_X9, ⟨by decide, by decide, by decide +kernel⟩, rfl⟩
theorem cvX9_fits : rCv mX9_fits 9 := ⟨im_X9_fits, se_X9_fits, rfl⟩
abbrev mX9_odds : rM := (yX9_odds, cX9_odds, 3, (Option.some Jvm.ClassFile.FieldType.long))
theorem caX9_odds : rCal mX9_odds 2 := ⟨co_X9_odds, in_X9, ⟨by decide, by decide, by decide +kernel⟩, rfl⟩
theorem cvX9_odds : rCv mX9_odds 9 := ⟨im_X9_odds, se_X9_odds, rfl⟩
abbrev mX9_mean : rM := (yX9_mean, cX9_mean, 2, (Option.some Jvm.ClassFile.FieldType.long))
theorem caX9_mean : rCal mX9_mean 1 := ⟨co_X9_mean, in_X9, ⟨by decide, by decide, by decide +kernel⟩, rfl⟩
theorem cvX9_mean : rCv mX9_mean 9 := ⟨im_X9_mean, se_X9_mean, rfl⟩
abbrev mX9_event : rM := (yX9_event, cX9_event, 3, (Option.some Jvm.ClassFile.FieldType.int))
theorem caX9_event : rCal mX9_event 2 := ⟨co_X9_event, in_X9, ⟨by decide, by decide, by decide +kernel⟩, rfl⟩
theorem cvX9_event : rCv mX9_event 9 := ⟨im_X9_event, se_X9_event, rfl⟩
abbrev mX9_after : rM := (yX9_after, cX9_after, 3, (Option.some Jvm.ClassFile.FieldType.int))
theorem caX9_after : rCal mX9_after 1 := ⟨co_X9_after, in_X9, ⟨by decide, by decide, by decide +kernel⟩, rfl⟩
theorem cvX9_after : rCv mX9_after 9 := ⟨im_X9_after, se_X9_after, rfl⟩
abbrev mX9_happen : rM := (yX9_happen, cX9_happen, 3, (Option.none : Option Jvm.ClassFile.FieldType))
theorem caX9_happen : rCal mX9_happen 2 := ⟨co_X9_happen, in_X9, ⟨by decide, by decide, by decide +kernel⟩, rfl⟩
theorem cvX9_happen : rCv mX9_happen 9 := ⟨im_X9_happen, se_X9_happen, rfl⟩
abbrev mX9_book : rM := (yX9_book, cX9_book, 3, (Option.some Jvm.ClassFile.FieldType.int))
theorem caX9_book : rCal mX9_book 2 := ⟨co_X9_book, in_X9, ⟨by decide, by decide, by decide +kernel⟩, rfl⟩
theorem cvX9_book : rCv mX9_book 9 := ⟨im_X9_book, se_X9_book, rfl⟩
abbrev mX9_looked : rM := (yX9_looked, cX9_looked, 3, (Option.some Jvm.ClassFile.FieldType.int))
theorem caX9_looked : rCal mX9_looked 0 := ⟨co_X9_looked, in_X9, ⟨by decide, by decide, by decide +kernel⟩, rfl⟩
theorem cvX9_looked : rCv mX9_looked 9 := ⟨im_X9_looked, se_X9_looked, rfl⟩
abbrev mX9_judge : rM := (yX9_judge, cX9_judge, 6, (Option.some Jvm.ClassFile.FieldType.int))
theorem caX9_judge : rCal mX9_judge 2 := ⟨co_X9_judge, in_X9, ⟨by decide, by decide, by decide +kernel⟩, rfl⟩
theorem cvX9_judge : rCv mX9_judge 9 := ⟨im_X9_judge, se_X9_judge, rfl⟩
abbrev mX9_image : rM := (yX9_image, cX9_image, 1, (Option.some Jvm.ClassFile.FieldType.int))
theorem caX9_image : rCal mX9_image 0 := ⟨co_X9_image, in_X9, ⟨by decide, by decide, by decide +kernel⟩, rfl⟩
theorem cvX9_image : rCv mX9_image 9 := ⟨im_X9_image, se_X9_image, rfl⟩
abbrev mX9_undo : rM := (yX9_undo, cX9_undo, 1, (Option.some Jvm.ClassFile.FieldType.int))
theorem caX9_undo : rCal mX9_undo 0 := ⟨co_X9_undo, in_X9, ⟨by decide, by decide, by decide +kernel⟩, rfl⟩
theorem cvX9_undo : rCv mX9_undo 9 := ⟨im_X9_undo, se_X9_undo, rfl⟩
abbrev mX9_counted : rM := (yX9_counted, cX9_counted, 2, (Option.some Jvm.ClassFile.FieldType.int))
theorem caX9_counted : rCal mX9_counted 1 := ⟨co_X9_counted, in_X9, ⟨by decide, by decide, by decide +kernel⟩, rfl⟩
theorem cvX9_counted : rCv mX9_counted 9 := ⟨im_X9_counted, se_X9_counted, rfl⟩
abbrev mX9_tape : rM := (yX9_tape, cX9_tape, 4, (Option.some Jvm.ClassFile.FieldType.int))
theorem caX9_tape : rCal mX9_tape 3 := ⟨co_X9_tape, in_X9, ⟨by decide, by decide, by decide +kernel⟩, rfl⟩
theorem cvX9_tape : rCv mX9_tape 9 := ⟨im_X9_tape, se_X9_tape, rfl⟩
abbrev mX9_item : rM := (yX9_item, cX9_item, 6, (Option.some Jvm.ClassFile.FieldType.int))
theorem caX9_item : rCal mX9_item 3 := ⟨co_X9_item, in_X9, ⟨by decide, by decide, by decide +kernel⟩, rfl⟩
theorem cvX9_item : rCv mX9_item 9 := ⟨im_X9_item, se_X9_item, rfl⟩
abbrev mX9_peek : rM := (yX9_peek, cX9_peek, 3, (Option.some Jvm.ClassFile.FieldType.long))
theorem caX9_peek : rCal mX9_peek 2 := ⟨co_X9_peek, in_X9, ⟨by decide, by decide, by decide +kernel⟩, rfl⟩
theorem cvX9_peek : rCv mX9_peek 9 := ⟨im_X9_peek, se_X9_peek, rfl⟩
abbrev mX9_shift : rM := (yX9_shift, cX9_shift, 8, (Option.some Jvm.ClassFile.FieldType.int))
theorem caX9_shift : rCal mX9_shift 5 := ⟨co_X9_shift, in_X9, ⟨by decide, by decide, by decide +kernel⟩, rfl⟩
theorem cvX9_shift : rCv mX9_shift 9 := ⟨im_X9_shift, se_X9_shift, rfl⟩
abbrev mX9_isCount : rM := (yX9_isCount, cX9_isCount, 1, (Option.some Jvm.ClassFile.FieldType.boolean))
theorem caX9_isCount : rCal mX9_isCount 1 := ⟨co_X9_isCount, in_X9, ⟨by decide, by decide, by decide +kernel⟩, rfl⟩
theorem csX9_isCount : rCs mX9_isCount := sm_X9_isCount
abbrev mX9_isTape : rM := (yX9_isTape, cX9_isTape, 1, (Option.some Jvm.ClassFile.FieldType.boolean))
theorem caX9_isTape : rCal mX9_isTape 1 := ⟨co_X9_isTape, in_X9, ⟨by decide, by decide, by decide +kernel⟩, rfl⟩
theorem csX9_isTape : rCs mX9_isTape := sm_X9_isTape
abbrev mX9_isIn : rM := (yX9_isIn, cX9_isIn, 3, (Option.some Jvm.ClassFile.FieldType.boolean))
theorem caX9_isIn : rCal mX9_isIn 2 := ⟨co_X9_isIn, in_X9, ⟨by decide, by decide, by decide +kernel⟩, rfl⟩
theorem csX9_isIn : rCs mX9_isIn := sm_X9_isIn
abbrev mX9_withPlacesExchanged : rM := (yX9_withPlacesExchanged, cX9_withPlacesExchanged, 5, (Option.some Jvm.ClassFile.FieldType.long))
theorem caX9_withPlacesExchanged : rCal mX9_withPlacesExchanged 3 := ⟨co_X9_withPlacesExchanged, in_X9, ⟨by decide, by decide, by decide +kernel⟩, rfl⟩
theorem csX9_withPlacesExchanged : rCs mX9_withPlacesExchanged := sm_X9_withPlacesExchanged
abbrev mX9_lowestTerm : rM := (yX9_lowestTerm, cX9_lowestTerm, 4, (Option.some Jvm.ClassFile.FieldType.long))
theorem caX9_lowestTerm : rCal mX9_lowestTerm 3 := ⟨co_X9_lowestTerm, in_X9, ⟨by decide, by decide, by decide +kernel⟩, rfl⟩
theorem csX9_lowestTerm : rCs mX9_lowestTerm := sm_X9_lowestTerm
abbrev mX9_greatestDivisor : rM := (yX9_greatestDivisor, cX9_greatestDivisor, 6, (Option.some Jvm.ClassFile.FieldType.int))
theorem caX9_greatestDivisor : rCal mX9_greatestDivisor 2 := ⟨co_X9_greatestDivisor, in_X9, ⟨by decide, by decide, by decide +kernel⟩, rfl⟩
theorem csX9_greatestDivisor : rCs mX9_greatestDivisor := sm_X9_greatestDivisor
abbrev mX10_init : rM := (yX10_init, cX10_init, 1, (Option.none : Option Jvm.ClassFile.FieldType))
theorem caX10_init : rCal mX10_init 0 := ⟨co_X10_init, in_X10, ⟨by decide, by decide, by decide +kernel⟩, rfl⟩
theorem ciX10_init : rCi mX10_init := ⟨im_X10_init, rfl, rfl⟩
abbrev mX10_in : rM := (yX10_in, cX10_in, 6, (Option.some Jvm.ClassFile.FieldType.boolean))
theorem caX10_in : rCal mX10_in 3 := ⟨co_X10_in, in_X10, ⟨by decide, by decide, by decide +kernel⟩, rfl⟩
theorem csX10_in : rCs mX10_in := sm_X10_in
abbrev mX10_size : rM := (yX10_size, cX10_size, 1, (Option.some Jvm.ClassFile.FieldType.int))
theorem caX10_size : rCal mX10_size 1 := ⟨co_X10_size, in_X10, ⟨by decide, by decide, by decide +kernel⟩, rfl⟩
theorem csX10_size : rCs mX10_size := sm_X10_size
abbrev mX10_lists : rM := (yX10_lists, cX10_lists, 2, (Option.none : Option Jvm.ClassFile.FieldType))
theorem caX10_lists : rCal mX10_lists 0 := ⟨co_X10_lists, in_X10, ⟨by decide, by decide, by decide +kernel⟩, rfl⟩
theorem cvX10_lists : rCv mX10_lists 10 := ⟨im_X10_lists, se_X10_lists, rfl⟩
abbrev mX10_isBlock : rM := (yX10_isBlock, cX10_isBlock, 2, (Option.some Jvm.ClassFile.FieldType.boolean))
theorem caX10_isBlock : rCal mX10_isBlock 1 := ⟨co_X10_isBlock, in_X10, ⟨by decide, by decide, by decide +kernel⟩, rfl⟩
theorem cvX10_isBlock : rCv mX10_isBlock 10 := ⟨im_X10_isBlock, se_X10_isBlock, rfl⟩
abbrev mX10_isPoint : rM := (yX10_isPoint, cX10_isPoint, 2, (Option.some Jvm.ClassFile.FieldType.boolean))
theorem caX10_isPoint : rCal mX10_isPoint 1 := ⟨co_X10_isPoint, in_X10, ⟨by decide, by decide, by decide +kernel⟩, rfl⟩
theorem cvX10_isPoint : rCv mX10_isPoint 10 := ⟨im_X10_isPoint, se_X10_isPoint, rfl⟩
abbrev mX10_isSet : rM := (yX10_isSet, cX10_isSet, 3, (Option.some Jvm.ClassFile.FieldType.boolean))
theorem caX10_isSet : rCal mX10_isSet 2 := ⟨co_X10_isSet, in_X10, ⟨by decide, by decide, by decide +kernel⟩, rfl⟩
theorem cvX10_isSet : rCv mX10_isSet 10 := ⟨im_X10_isSet, se_X10_isSet, rfl⟩
abbrev mX10_isSize : rM := (yX10_isSize, cX10_isSize, 3, (Option.some Jvm.ClassFile.FieldType.boolean))
theorem caX10_isSize : rCal mX10_isSize 3 := ⟨co_X10_isSize, in_X10, ⟨by decide, by decide, by decide +kernel⟩, rfl⟩
theorem csX10_isSize : rCs mX10_isSize := sm_X10_isSize
abbrev mX10_shape : rM := (yX10_shape, cX10_shape, 1, (Option.some Jvm.ClassFile.FieldType.int))
theorem caX10_shape : rCal mX10_shape 0 := ⟨co_X10_shape, in_X10, ⟨by decide, by decide, by decide +kernel⟩, rfl⟩
theorem cvX10_shape : rCv mX10_shape 10 := ⟨im_X10_shape, se_X10_shape, rfl⟩
abbrev mX10_becomes : rM := (yX10_becomes, cX10_becomes, 5, (Option.none : Option Jvm.ClassFile.FieldType))
theorem caX10_becomes : rCal mX10_becomes 3 := ⟨co_X10_becomes, in_X10, ⟨by decide, by decide, by decide +kernel⟩, rfl⟩
theorem cvX10_becomes : rCv mX10_becomes 10 := ⟨im_X10_becomes, se_X10_becomes, rfl⟩
abbrev mX10_size_ : rM := (yX10_size_, cX10_size_, 5, (Option.some Jvm.ClassFile.FieldType.int))
theorem caX10_size_ : rCal mX10_size_ 3 := ⟨co_X10_size_, in_X10, ⟨by decide, by decide, by decide +kernel⟩, rfl⟩
theorem cvX10_size_ : rCv mX10_size_ 10 := ⟨im_X10_size_, se_X10_size_, rfl⟩
abbrev mX10_count : rM := (yX10_count, cX10_count, 4, (Option.some Jvm.ClassFile.FieldType.int))
theorem caX10_count : rCal mX10_count 2 := ⟨co_X10_count, in_X10, ⟨by decide, by decide, by decide +kernel⟩, rfl⟩
theorem cvX10_count : rCv mX10_count 10 := ⟨im_X10_count, se_X10_count, rfl⟩
abbrev mX10_volume : rM := (yX10_volume, cX10_volume, 3, (Option.some Jvm.ClassFile.FieldType.int))
theorem caX10_volume : rCal mX10_volume 0 := ⟨co_X10_volume, in_X10, ⟨by decide, by decide, by decide +kernel⟩, rfl⟩
theorem cvX10_volume : rCv mX10_volume 10 := ⟨im_X10_volume, se_X10_volume, rfl⟩
abbrev mX10_twists : rM := (yX10_twists, cX10_twists, 9, (Option.some Jvm.ClassFile.FieldType.boolean))
theorem caX10_twists : rCal mX10_twists 1 := ⟨co_X10_twists, in_X10, ⟨by decide, by decide, by decide +kernel⟩, rfl⟩
theorem cvX10_twists : rCv mX10_twists 10 := ⟨im_X10_twists, se_X10_twists, rfl⟩
abbrev mX10_adds : rM := (yX10_adds, cX10_adds, 3, (Option.some Jvm.ClassFile.FieldType.boolean))
theorem caX10_adds : rCal mX10_adds 1 := ⟨co_X10_adds, in_X10, ⟨by decide, by decide, by decide +kernel⟩, rfl⟩
theorem cvX10_adds : rCv mX10_adds 10 := ⟨im_X10_adds, se_X10_adds, rfl⟩
abbrev mX10_twist : rM := (yX10_twist, cX10_twist, 3, (Option.some Jvm.ClassFile.FieldType.int))
theorem caX10_twist : rCal mX10_twist 2 := ⟨co_X10_twist, in_X10, ⟨by decide, by decide, by decide +kernel⟩, rfl⟩
theorem cvX10_twist : rCv mX10_twist 10 := ⟨im_X10_twist, se_X10_twist, rfl⟩
abbrev mX10_turn : rM := (yX10_turn, cX10_turn, 2, (Option.some Jvm.ClassFile.FieldType.int))
theorem caX10_turn : rCal mX10_turn 0 := ⟨co_X10_turn, in_X10, ⟨by decide, by decide, by decide +kernel⟩, rfl⟩
theorem cvX10_turn : rCv mX10_turn 10 := ⟨im_X10_turn, se_X10_turn, rfl⟩
abbrev mX10_clear : rM := (yX10_clear, cX10_clear, 3, (Option.some Jvm.ClassFile.FieldType.int))
theorem caX10_clear : rCal mX10_clear 0 := ⟨co_X10_clear, in_X10, ⟨by decide, by decide, by decide +kernel⟩, rfl⟩
theorem cvX10_clear : rCv mX10_clear 10 := ⟨im_X10_clear, se_X10_clear, rfl⟩
abbrev mX10_put : rM := (yX10_put, cX10_put, 4, (Option.some Jvm.ClassFile.FieldType.int))
theorem caX10_put : rCal mX10_put 2 := ⟨co_X10_put, in_X10, ⟨by decide, by decide, by decide +kernel⟩, rfl⟩
theorem cvX10_put : rCv mX10_put 10 := ⟨im_X10_put, se_X10_put, rfl⟩
abbrev mX10_inDesign : rM := (yX10_inDesign, cX10_inDesign, 3, (Option.some Jvm.ClassFile.FieldType.int))
theorem caX10_inDesign : rCal mX10_inDesign 0 := ⟨co_X10_inDesign, in_X10, ⟨by decide, by decide, by decide +kernel⟩, rfl⟩
theorem cvX10_inDesign : rCv mX10_inDesign 10 := ⟨im_X10_inDesign, se_X10_inDesign, rfl⟩
abbrev mX10_sumOf : rM := (yX10_sumOf, cX10_sumOf, 4, (Option.some Jvm.ClassFile.FieldType.int))
theorem caX10_sumOf : rCal mX10_sumOf 1 := ⟨co_X10_sumOf, in_X10, ⟨by decide, by decide, by decide +kernel⟩, rfl⟩
theorem cvX10_sumOf : rCv mX10_sumOf 10 := ⟨im_X10_sumOf, se_X10_sumOf, rfl⟩
abbrev mX10_isTrade : rM := (yX10_isTrade, cX10_isTrade, 2, (Option.some Jvm.ClassFile.FieldType.boolean))
theorem caX10_isTrade : rCal mX10_isTrade 0 := ⟨co_X10_isTrade, in_X10, ⟨by decide, by decide, by decide +kernel⟩, rfl⟩
theorem cvX10_isTrade : rCv mX10_isTrade 10 := ⟨im_X10_isTrade, se_X10_isTrade, rfl⟩
abbrev mX10_isPlain : rM := (yX10_isPlain, cX10_isPlain, 2, (Option.some Jvm.ClassFile.FieldType.boolean))
theorem caX10_isPlain : rCal mX10_isPlain 0 := ⟨co_X10_isPlain, in_X10, ⟨by decide, by decide, by decide +kernel⟩, rfl⟩
theorem cvX10_isPlain : rCv mX10_isPlain 10 := ⟨im_X10_isPlain, se_X10_isPlain, rfl⟩
abbrev mX10_maySwap : rM := (yX10_maySwap, cX10_maySwap, 3, (Option.some Jvm.ClassFile.FieldType.boolean))
theorem caX10_maySwap : rCal mX10_maySwap 0 := ⟨co_X10_maySwap, in_X10, ⟨by decide, by decide, by decide +kernel⟩, rfl⟩
theorem cvX10_maySwap : rCv mX10_maySwap 10 := ⟨im_X10_maySwap, se_X10_maySwap, rfl⟩
abbrev mX10_swaps : rM := (yX10_swaps, cX10_swaps, 2, (Option.none : Option Jvm.ClassFile.FieldType))
theorem caX10_swaps : rCal mX10_swaps 0 := ⟨co_X10_swaps, in_X10, ⟨by decide, by decide, by decide +kernel⟩, rfl⟩
theorem cvX10_swaps : rCv mX10_swaps 10 := ⟨im_X10_swaps, se_X10_swaps, rfl⟩
abbrev mX10_swap : rM := (yX10_swap, cX10_swap, 1, (Option.some Jvm.ClassFile.FieldType.int))
theorem caX10_swap : rCal mX10_swap 0 := ⟨co_X10_swap, in_X10, ⟨by decide, by decide, by decide +kernel⟩, rfl⟩
theorem cvX10_swap : rCv mX10_swap 10 := ⟨im_X10_swap, se_X10_swap, rfl⟩
abbrev mX10_keep : rM := (yX10_keep, cX10_keep, 2, (Option.some Jvm.ClassFile.FieldType.int))
theorem caX10_keep : rCal mX10_keep 0 := ⟨co_X10_keep, in_X10, ⟨by decide, by decide, by decide +kernel⟩, rfl⟩
theorem cvX10_keep : rCv mX10_keep 10 := ⟨im_X10_keep, se_X10_keep, rfl⟩
abbrev mX10_differ : rM := (yX10_differ, cX10_differ, 2, (Option.some Jvm.ClassFile.FieldType.int))
theorem caX10_differ : rCal mX10_differ 0 := ⟨co_X10_differ, in_X10, ⟨by decide, by decide, by decide +kernel⟩, rfl⟩
theorem cvX10_differ : rCv mX10_differ 10 := ⟨im_X10_differ, se_X10_differ, rfl⟩
abbrev mX10_exchanges : rM := (yX10_exchanges, cX10_exchanges, 7, (Option.none : Option Jvm.ClassFile.FieldType))
theorem caX10_exchanges : rCal mX10_exchanges 3 := ⟨co_X10_exchanges, in_X10, ⟨by decide, by decide, by decide +kernel⟩, rfl⟩
theorem cvX10_exchanges : rCv mX10_exchanges 10 := ⟨im_X10_exchanges, se_X10_exchanges, rfl⟩
abbrev mX10_exchange : rM := (yX10_exchange, cX10_exchange, 3, (Option.some Jvm.ClassFile.FieldType.int))
theorem caX10_exchange : rCal mX10_exchange 2 := ⟨co_X10_exchange, in_X10, ⟨by decide, by decide, by decide +kernel⟩, rfl⟩
theorem cvX10_exchange : rCv mX10_exchange 10 := ⟨im_X10_exchange, se_X10_exchange, rfl⟩
abbrev mX10_feed : rM := (yX10_feed, cX10_feed, 2, (Option.some Jvm.ClassFile.FieldType.int))
theorem caX10_feed : rCal mX10_feed 1 := ⟨co_X10_feed, in_X10, ⟨by decide, by decide, by decide +kernel⟩, rfl⟩
theorem cvX10_feed : rCv mX10_feed 10 := ⟨im_X10_feed, se_X10_feed, rfl⟩
abbrev mX10_sign : rM := (yX10_sign, cX10_sign, 1, (Option.some Jvm.ClassFile.FieldType.int))
theorem caX10_sign : rCal mX10_sign 0 := ⟨co_X10_sign, in_X10, ⟨by decide, by decide, by decide +kernel⟩, rfl⟩
theorem cvX10_sign : rCv mX10_sign 10 := ⟨im_X10_sign, se_X10_sign, rfl⟩
abbrev mX10_word : rM := (yX10_word, cX10_word, 3, (Option.some Jvm.ClassFile.FieldType.boolean))
theorem caX10_word : rCal mX10_word 1 := ⟨co_X10_word, in_X10, ⟨by decide, by decide, by decide +kernel⟩, rfl⟩
theorem cvX10_word : rCv mX10_word 10 := ⟨im_X10_word, se_X10_word, rfl⟩
abbrev mX10_what : rM := (yX10_what, cX10_what, 1, (Option.some Jvm.ClassFile.FieldType.int))
theorem caX10_what : rCal mX10_what 0 := ⟨co_X10_what, in_X10, ⟨by decide, by decide, by decide +kernel⟩, rfl⟩
theorem cvX10_what : rCv mX10_what 10 := ⟨im_X10_what, se_X10_what, rfl⟩
abbrev mX10_numbersOf : rM := (yX10_numbersOf, cX10_numbersOf, 1, (Option.some Jvm.ClassFile.FieldType.int))
theorem caX10_numbersOf : rCal mX10_numbersOf 1 := ⟨co_X10_numbersOf, in_X10, ⟨by decide, by decide, by decide +kernel⟩, rfl⟩
theorem csX10_numbersOf : rCs mX10_numbersOf := sm_X10_numbersOf
abbrev mX10_numeral : rM := (yX10_numeral, cX10_numeral, 5, (Option.some Jvm.ClassFile.FieldType.boolean))
theorem caX10_numeral : rCal mX10_numeral 1 := ⟨co_X10_numeral, in_X10, ⟨by decide, by decide, by decide +kernel⟩, rfl⟩
theorem cvX10_numeral : rCv mX10_numeral 10 := ⟨im_X10_numeral, se_X10_numeral, rfl⟩
abbrev mX10_reads : rM := (yX10_reads, cX10_reads, 3, (Option.some Jvm.ClassFile.FieldType.boolean))
theorem caX10_reads : rCal mX10_reads 0 := ⟨co_X10_reads, in_X10, ⟨by decide, by decide, by decide +kernel⟩, rfl⟩
theorem cvX10_reads : rCv mX10_reads 10 := ⟨im_X10_reads, se_X10_reads, rfl⟩
abbrev mX10_does : rM := (yX10_does, cX10_does, 4, (Option.some Jvm.ClassFile.FieldType.boolean))
theorem caX10_does : rCal mX10_does 1 := ⟨co_X10_does, in_X10, ⟨by decide, by decide, by decide +kernel⟩, rfl⟩
theorem cvX10_does : rCv mX10_does 10 := ⟨im_X10_does, se_X10_does, rfl⟩
abbrev mX10_read : rM := (yX10_read, cX10_read, 4, (Option.some Jvm.ClassFile.FieldType.int))
theorem caX10_read : rCal mX10_read 0 := ⟨co_X10_read, in_X10, ⟨by decide, by decide, by decide +kernel⟩, rfl⟩
theorem cvX10_read : rCv mX10_read 10 := ⟨im_X10_read, se_X10_read, rfl⟩
abbrev mX10_coverOf : rM := (yX10_coverOf, cX10_coverOf, 4, (Option.some Jvm.ClassFile.FieldType.int))
theorem caX10_coverOf : rCal mX10_coverOf 1 := ⟨co_X10_coverOf, in_X10, ⟨by decide, by decide, by decide +kernel⟩, rfl⟩
theorem cvX10_coverOf : rCv mX10_coverOf 10 := ⟨im_X10_coverOf, se_X10_coverOf, rfl⟩
abbrev mX10_index : rM := (yX10_index, cX10_index, 4, (Option.some Jvm.ClassFile.FieldType.int))
theorem caX10_index : rCal mX10_index 0 := ⟨co_X10_index, in_X10, ⟨by decide, by decide, by decide +kernel⟩, rfl⟩
theorem cvX10_index : rCv mX10_index 10 := ⟨im_X10_index, se_X10_index, rfl⟩
abbrev mX10_foundation : rM := (yX10_foundation, cX10_foundation, 3, (Option.some Jvm.ClassFile.FieldType.int))
theorem caX10_foundation : rCal mX10_foundation 0 := ⟨co_X10_foundation, in_X10, ⟨by decide, by decide, by decide +kernel⟩, rfl⟩
theorem cvX10_foundation : rCv mX10_foundation 10 := ⟨im_X10_foundation, se_X10_foundation, rfl⟩
abbrev mX10_told : rM := (yX10_told, cX10_told, 4, (Option.some Jvm.ClassFile.FieldType.int))
theorem caX10_told : rCal mX10_told 1 := ⟨co_X10_told, in_X10, ⟨by decide, by decide, by decide +kernel⟩, rfl⟩
theorem cvX10_told : rCv mX10_told 10 := ⟨im_X10_told, se_X10_told, rfl⟩
abbrev mX10_block : rM := (yX10_block, cX10_block, 2, (Option.some Jvm.ClassFile.FieldType.int))
theorem caX10_block : rCal mX10_block 1 := ⟨co_X10_block, in_X10, ⟨by decide, by decide, by decide +kernel⟩, rfl⟩
theorem cvX10_block : rCv mX10_block 10 := ⟨im_X10_block, se_X10_block, rfl⟩
abbrev mX10_number : rM := (yX10_number, cX10_number, 2, (Option.some Jvm.ClassFile.FieldType.int))
theorem caX10_number : rCal mX10_number 1 := ⟨co_X10_number, in_X10, ⟨by decide, by decide, by decide +kernel⟩, rfl⟩
theorem cvX10_number : rCv mX10_number 10 := ⟨im_X10_number, se_X10_number, rfl⟩
abbrev mX10_of : rM := (yX10_of, cX10_of, 3, (Option.some Jvm.ClassFile.FieldType.int))
theorem caX10_of : rCal mX10_of 2 := ⟨co_X10_of, in_X10, ⟨by decide, by decide, by decide +kernel⟩, rfl⟩
theorem cvX10_of : rCv mX10_of 10 := ⟨im_X10_of, se_X10_of, rfl⟩
abbrev mX10_sum : rM := (yX10_sum, cX10_sum, 2, (Option.some Jvm.ClassFile.FieldType.int))
theorem caX10_sum : rCal mX10_sum 1 := ⟨co_X10_sum, in_X10, ⟨by decide, by decide, by decide +kernel⟩, rfl⟩
theorem cvX10_sum : rCv mX10_sum 10 := ⟨im_X10_sum, se_X10_sum, rfl⟩
abbrev mX10_amiss : rM := (yX10_amiss, cX10_amiss, 3, (Option.some Jvm.ClassFile.FieldType.int))
theorem caX10_amiss : rCal mX10_amiss 0 := ⟨co_X10_amiss, in_X10, ⟨by decide, by decide, by decide +kernel⟩, rfl⟩
theorem cvX10_amiss : rCv mX10_amiss 10 := ⟨im_X10_amiss, se_X10_amiss, rfl⟩
abbrev mX10_cover : rM := (yX10_cover, cX10_cover, 2, (Option.some Jvm.ClassFile.FieldType.int))
theorem caX10_cover : rCal mX10_cover 1 := ⟨co_X10_cover, in_X10, ⟨by decide, by decide, by decide +kernel⟩, rfl⟩
theorem cvX10_cover : rCv mX10_cover 10 := ⟨im_X10_cover, se_X10_cover, rfl⟩
abbrev mX10_write : rM := (yX10_write, cX10_write, 2, (Option.none : Option Jvm.ClassFile.FieldType))
theorem caX10_write : rCal mX10_write 1 := ⟨co_X10_write, in_X10, ⟨by decide, by decide, by decide +kernel⟩, rfl⟩
theorem cvX10_write : rCv mX10_write 10 := ⟨im_X10_write, se_X10_write, rfl⟩
abbrev mX10_writes : rM := (yX10_writes, cX10_writes, 5, (Option.none : Option Jvm.ClassFile.FieldType))
theorem caX10_writes : rCal mX10_writes 0 := ⟨co_X10_writes, in_X10, ⟨by decide, by decide, by decide +kernel⟩, rfl⟩
theorem cvX10_writes : rCv mX10_writes 10 := ⟨im_X10_writes, se_X10_writes, rfl⟩
abbrev mX10_written : rM := (yX10_written, cX10_written, 2, (Option.some Jvm.ClassFile.FieldType.int))
theorem caX10_written : rCal mX10_written 1 := ⟨co_X10_written, in_X10, ⟨by decide, by decide, by decide +kernel⟩, rfl⟩
theorem cvX10_written : rCv mX10_written 10 := ⟨im_X10_written, se_X10_written, rfl⟩
abbrev mX10_isOpen : rM := (yX10_isOpen, cX10_isOpen, 4, (Option.some Jvm.ClassFile.FieldType.boolean))
theorem caX10_isOpen : rCal mX10_isOpen 1 := ⟨co_X10_isOpen, in_X10, ⟨by decide, by decide, by decide +kernel⟩, rfl⟩
theorem cvX10_isOpen : rCv mX10_isOpen 10 := ⟨im_X10_isOpen, se_X10_isOpen, rfl⟩
abbrev mX10_opens : rM := (yX10_opens, cX10_opens, 7, (Option.none : Option Jvm.ClassFile.FieldType))
theorem caX10_opens : rCal mX10_opens 3 := ⟨co_X10_opens, in_X10, ⟨by decide, by decide, by decide +kernel⟩, rfl⟩
theorem cvX10_opens : rCv mX10_opens 10 := ⟨im_X10_opens, se_X10_opens, rfl⟩
abbrev mX10_open : rM := (yX10_open, cX10_open, 2, (Option.some Jvm.ClassFile.FieldType.int))
theorem caX10_open : rCal mX10_open 1 := ⟨co_X10_open, in_X10, ⟨by decide, by decide, by decide +kernel⟩, rfl⟩
theorem cvX10_open : rCv mX10_open 10 := ⟨im_X10_open, se_X10_open, rfl⟩
abbrev mX10_isLookedFor : rM := (yX10_isLookedFor, cX10_isLookedFor, 1, (Option.some Jvm.ClassFile.FieldType.boolean))
theorem caX10_isLookedFor : rCal mX10_isLookedFor 0 := ⟨co_X10_isLookedFor, in_X10, ⟨by decide, by decide, by decide +kernel⟩, rfl⟩
theorem cvX10_isLookedFor : rCv mX10_isLookedFor 10 := ⟨im_X10_isLookedFor, se_X10_isLookedFor, rfl⟩
abbrev mX10_deals : rM := (yX10_deals, cX10_deals, 7, (Option.none : Option Jvm.ClassFile.FieldType))
theorem caX10_deals : rCal mX10_deals 4 := ⟨co_X10_deals, in_X10, ⟨by decide, by decide, by decide +kernel⟩, rfl⟩
theorem cvX10_deals : rCv mX10_deals 10 := ⟨im_X10_deals, se_X10_deals, rfl⟩
abbrev mX10_takes : rM := (yX10_takes, cX10_takes, 5, (Option.some Jvm.ClassFile.FieldType.boolean))
theorem caX10_takes : rCal mX10_takes 3 := ⟨co_X10_takes, in_X10, ⟨by decide, by decide, by decide +kernel⟩, rfl⟩
theorem cvX10_takes : rCv mX10_takes 10 := ⟨im_X10_takes, se_X10_takes, rfl⟩
abbrev mX10_parts : rM := (yX10_parts, cX10_parts, 3, (Option.none : Option Jvm.ClassFile.FieldType))
theorem caX10_parts : rCal mX10_parts 1 := ⟨co_X10_parts, in_X10, ⟨by decide, by decide, by decide +kernel⟩, rfl⟩
theorem cvX10_parts : rCv mX10_parts 10 := ⟨im_X10_parts, se_X10_parts, rfl⟩
abbrev mX10_parted : rM := (yX10_parted, cX10_parted, 2, (Option.some Jvm.ClassFile.FieldType.int))
theorem caX10_parted : rCal mX10_parted 1 := ⟨co_X10_parted, in_X10, ⟨by decide, by decide, by decide +kernel⟩, rfl⟩
theorem cvX10_parted : rCv mX10_parted 10 := ⟨im_X10_parted, se_X10_parted, rfl⟩
abbrev mX10_part : rM := (yX10_part, cX10_part, 3, (Option.some Jvm.ClassFile.FieldType.int))
theorem caX10_part : rCal mX10_part 2 := ⟨co_X10_part, in_X10, ⟨by decide, by decide, by decide +kernel⟩, rfl⟩
theorem cvX10_part : rCv mX10_part 10 := ⟨im_X10_part, se_X10_part, rfl⟩
abbrev mX10_see : rM := (yX10_see, cX10_see, 3, (Option.some Jvm.ClassFile.FieldType.int))
theorem caX10_see : rCal mX10_see 2 := ⟨co_X10_see, in_X10, ⟨by decide, by decide, by decide +kernel⟩, rfl⟩
theorem cvX10_see : rCv mX10_see 10 := ⟨im_X10_see, se_X10_see, rfl⟩
abbrev mX10_isSeen : rM := (yX10_isSeen, cX10_isSeen, 2, (Option.some Jvm.ClassFile.FieldType.boolean))
theorem caX10_isSeen : rCal mX10_isSeen 0 := ⟨co_X10_isSeen, in_X10, ⟨by decide, by decide, by decide +kernel⟩, rfl⟩
theorem cvX10_isSeen : rCv mX10_isSeen 10 := ⟨im_X10_isSeen, se_X10_isSeen, rfl⟩
abbrev mX10_fits : rM := (yX10_fits, cX10_fits, 7, (Option.some Jvm.ClassFile.FieldType.int))
theorem caX10_fits : rCal mX10_fits 2 := ⟨co_X10_fits, in_X10, ⟨by decide, by decide, by decide +kernel⟩, rfl⟩
theorem cvX10_fits : rCv mX10_fits 10 := ⟨im_X10_fits, se_X10_fits, rfl⟩
abbrev mX10_lowest : rM := (yX10_lowest, cX10_lowest, 6, (Option.some Jvm.ClassFile.FieldType.long))
theorem caX10_lowest : rCal mX10_lowest 3 := ⟨co_X10_lowest, in_X10, ⟨by decide, by decide, by decide +kernel⟩, rfl⟩
theorem csX10_lowest : rCs mX10_lowest := sm_X10_lowest
abbrev mX10_odds : rM := (yX10_odds, cX10_odds, 5, (Option.some Jvm.ClassFile.FieldType.long))
theorem caX10_odds : rCal mX10_odds 2 := ⟨co_X10_odds, in_X10, ⟨by decide, by decide, by decide +kernel⟩, rfl⟩
theorem cvX10_odds : rCv mX10_odds 10 := ⟨im_X10_odds, se_X10_odds, rfl⟩
abbrev mX10_mean : rM := (yX10_mean, cX10_mean, 4, (Option.some Jvm.ClassFile.FieldType.long))
theorem caX10_mean : rCal mX10_mean 1 := ⟨co_X10_mean, in_X10, ⟨by decide, by decide, by decide +kernel⟩, rfl⟩
theorem cvX10_mean : rCv mX10_mean 10 := ⟨im_X10_mean, se_X10_mean, rfl⟩
abbrev mX10_event : rM := (yX10_event, cX10_event, 3, (Option.some Jvm.ClassFile.FieldType.int))
theorem caX10_event : rCal mX10_event 2 := ⟨co_X10_event, in_X10, ⟨by decide, by decide, by decide +kernel⟩, rfl⟩
theorem cvX10_event : rCv mX10_event 10 := ⟨im_X10_event, se_X10_event, rfl⟩
abbrev mX10_happens : rM := (yX10_happens, cX10_happens, 4, (Option.none : Option Jvm.ClassFile.FieldType))
theorem caX10_happens : rCal mX10_happens 2 := ⟨co_X10_happens, in_X10, ⟨by decide, by decide, by decide +kernel⟩, rfl⟩
theorem cvX10_happens : rCv mX10_happens 10 := ⟨im_X10_happens, se_X10_happens, rfl⟩
abbrev mX10_after : rM := (yX10_after, cX10_after, 3, (Option.some Jvm.ClassFile.FieldType.int))
theorem caX10_after : rCal mX10_after 1 := ⟨co_X10_after, in_X10, ⟨by decide, by decide, by decide +kernel⟩, rfl⟩
theorem cvX10_after : rCv mX10_after 10 := ⟨im_X10_after, se_X10_after, rfl⟩
abbrev mX10_book : rM := (yX10_book, cX10_book, 3, (Option.some Jvm.ClassFile.FieldType.int))
theorem caX10_book : rCal mX10_book 2 := ⟨co_X10_book, in_X10, ⟨by decide, by decide, by decide +kernel⟩, rfl⟩
theorem cvX10_book : rCv mX10_book 10 := ⟨im_X10_book, se_X10_book, rfl⟩
abbrev mX10_looked : rM := (yX10_looked, cX10_looked, 2, (Option.some Jvm.ClassFile.FieldType.int))
theorem caX10_looked : rCal mX10_looked 0 := ⟨co_X10_looked, in_X10, ⟨by decide, by decide, by decide +kernel⟩, rfl⟩
theorem cvX10_looked : rCv mX10_looked 10 := ⟨im_X10_looked, se_X10_looked, rfl⟩
abbrev mX10_judge : rM := (yX10_judge, cX10_judge, 4, (Option.some Jvm.ClassFile.FieldType.int))
theorem caX10_judge : rCal mX10_judge 2 := ⟨co_X10_judge, in_X10, ⟨by decide, by decide, by decide +kernel⟩, rfl⟩
theorem cvX10_judge : rCv mX10_judge 10 := ⟨im_X10_judge, se_X10_judge, rfl⟩
abbrev mX10_keepTo : rM := (yX10_keepTo, cX10_keepTo, 3, (Option.none : Option Jvm.ClassFile.FieldType))
theorem caX10_keepTo : rCal mX10_keepTo 1 := ⟨co_X10_keepTo, in_X10, ⟨by decide, by decide, by decide +kernel⟩, rfl⟩
theorem cvX10_keepTo : rCv mX10_keepTo 10 := ⟨im_X10_keepTo, se_X10_keepTo, rfl⟩
abbrev mX10_again : rM := (yX10_again, cX10_again, 3, (Option.none : Option Jvm.ClassFile.FieldType))
theorem caX10_again : rCal mX10_again 1 := ⟨co_X10_again, in_X10, ⟨by decide, by decide, by decide +kernel⟩, rfl⟩
theorem cvX10_again : rCv mX10_again 10 := ⟨im_X10_again, se_X10_again, rfl⟩
abbrev mX10_image : rM := (yX10_image, cX10_image, 1, (Option.some Jvm.ClassFile.FieldType.int))
theorem caX10_image : rCal mX10_image 0 := ⟨co_X10_image, in_X10, ⟨by decide, by decide, by decide +kernel⟩, rfl⟩
theorem cvX10_image : rCv mX10_image 10 := ⟨im_X10_image, se_X10_image, rfl⟩
abbrev mX10_undo : rM := (yX10_undo, cX10_undo, 1, (Option.some Jvm.ClassFile.FieldType.int))
theorem caX10_undo : rCal mX10_undo 0 := ⟨co_X10_undo, in_X10, ⟨by decide, by decide, by decide +kernel⟩, rfl⟩
theorem cvX10_undo : rCv mX10_undo 10 := ⟨im_X10_undo, se_X10_undo, rfl⟩
abbrev mX10_counted : rM := (yX10_counted, cX10_counted, 2, (Option.some Jvm.ClassFile.FieldType.int))
theorem caX10_counted : rCal mX10_counted 1 := ⟨co_X10_counted, in_X10, ⟨by decide, by decide, by decide +kernel⟩, rfl⟩
theorem cvX10_counted : rCv mX10_counted 10 := ⟨im_X10_counted, se_X10_counted, rfl⟩
abbrev mX10_isTape : rM := (yX10_isTape, cX10_isTape, 1, (Option.some Jvm.ClassFile.FieldType.boolean))
theorem caX10_isTape : rCal mX10_isTape 1 := ⟨co_X10_isTape, in_X10, ⟨by decide, by decide, by decide +kernel⟩, rfl⟩
theorem csX10_isTape : rCs mX10_isTape := sm_X10_isTape
abbrev mX10_tape : rM := (yX10_tape, cX10_tape, 5, (Option.some Jvm.ClassFile.FieldType.int))
theorem caX10_tape : rCal mX10_tape 3 := ⟨co_X10_tape, in_X10, ⟨by decide, by decide, by decide +kernel⟩, rfl⟩
theorem cvX10_tape : rCv mX10_tape 10 := ⟨im_X10_tape, se_X10_tape, rfl⟩
abbrev mX10_hasItem : rM := (yX10_hasItem, cX10_hasItem, 3, (Option.some Jvm.ClassFile.FieldType.boolean))
theorem caX10_hasItem : rCal mX10_hasItem 2 := ⟨co_X10_hasItem, in_X10, ⟨by decide, by decide, by decide +kernel⟩, rfl⟩
theorem cvX10_hasItem : rCv mX10_hasItem 10 := ⟨im_X10_hasItem, se_X10_hasItem, rfl⟩
abbrev mX10_item : rM := (yX10_item, cX10_item, 7, (Option.some Jvm.ClassFile.FieldType.int))
theorem caX10_item : rCal mX10_item 3 := ⟨co_X10_item, in_X10, ⟨by decide, by decide, by decide +kernel⟩, rfl⟩
theorem cvX10_item : rCv mX10_item 10 := ⟨im_X10_item, se_X10_item, rfl⟩
abbrev mX10_peek : rM := (yX10_peek, cX10_peek, 3, (Option.some Jvm.ClassFile.FieldType.long))
theorem caX10_peek : rCal mX10_peek 2 := ⟨co_X10_peek, in_X10, ⟨by decide, by decide, by decide +kernel⟩, rfl⟩
theorem cvX10_peek : rCv mX10_peek 10 := ⟨im_X10_peek, se_X10_peek, rfl⟩
abbrev mX10_shift : rM := (yX10_shift, cX10_shift, 9, (Option.some Jvm.ClassFile.FieldType.int))
theorem caX10_shift : rCal mX10_shift 5 := ⟨co_X10_shift, in_X10, ⟨by decide, by decide, by decide +kernel⟩, rfl⟩
theorem cvX10_shift : rCv mX10_shift 10 := ⟨im_X10_shift, se_X10_shift, rfl⟩
abbrev mJ6_bitCount_0f7a4 : rM := (yJ6_bitCount_0f7a4, cJ6_bitCount_0f7a4, 1, (Option.some Jvm.ClassFile.FieldType.int))
theorem caJ6_bitCount_0f7a4 : rCal mJ6_bitCount_0f7a4 1 := ⟨co_J6_bitCount_0f7a4, in_J6, ⟨by decide, by decide, by decide +kernel⟩, rfl⟩
theorem csJ6_bitCount_0f7a4 : rCs mJ6_bitCount_0f7a4 := sm_J6_bitCount_0f7a4
abbrev mJ13_bitCount_95d88 : rM := (yJ13_bitCount_95d88, cJ13_bitCount_95d88, 2, (Option.some Jvm.ClassFile.FieldType.int))
theorem caJ13_bitCount_95d88 : rCal mJ13_bitCount_95d88 1 := ⟨co_J13_bitCount_95d88, in_J13, ⟨by decide, by decide, by decide +kernel⟩, rfl⟩
theorem csJ13_bitCount_95d88 : rCs mJ13_bitCount_95d88 := sm_J13_bitCount_95d88
abbrev mJ9_abs_0f7a4 : rM := (yJ9_abs_0f7a4, cJ9_abs_0f7a4, 1, (Option.some Jvm.ClassFile.FieldType.int))
theorem caJ9_abs_0f7a4 : rCal mJ9_abs_0f7a4 1 := ⟨co_J9_abs_0f7a4, in_J9, ⟨by decide, by decide, by decide +kernel⟩, rfl⟩
theorem csJ9_abs_0f7a4 : rCs mJ9_abs_0f7a4 := sm_J9_abs_0f7a4
abbrev mJ9_max_7cf53 : rM := (yJ9_max_7cf53, cJ9_max_7cf53, 2, (Option.some Jvm.ClassFile.FieldType.int))
theorem caJ9_max_7cf53 : rCal mJ9_max_7cf53 2 := ⟨co_J9_max_7cf53, in_J9, ⟨by decide, by decide, by decide +kernel⟩, rfl⟩
theorem csJ9_max_7cf53 : rCs mJ9_max_7cf53 := sm_J9_max_7cf53
abbrev mJ9_min_7cf53 : rM := (yJ9_min_7cf53, cJ9_min_7cf53, 2, (Option.some Jvm.ClassFile.FieldType.int))
theorem caJ9_min_7cf53 : rCal mJ9_min_7cf53 2 := ⟨co_J9_min_7cf53, in_J9, ⟨by decide, by decide, by decide +kernel⟩, rfl⟩
theorem csJ9_min_7cf53 : rCs mJ9_min_7cf53 := sm_J9_min_7cf53
abbrev mJ0_length_8abf5 : rM := (yJ0_length_8abf5, cJ0_length_8abf5, 1, (Option.some Jvm.ClassFile.FieldType.int))
theorem caJ0_length_8abf5 : rCal mJ0_length_8abf5 0 := ⟨co_J0_length_8abf5, in_J0, ⟨by decide, by decide, by decide +kernel⟩, rfl⟩
theorem cvJ0_length_8abf5 : rCt mJ0_length_8abf5 := ⟨im_J0_length_8abf5, se_J0_length_8abf5, rfl⟩
abbrev mJ0_charAt_5068e : rM := (yJ0_charAt_5068e, cJ0_charAt_5068e, 2, (Option.some Jvm.ClassFile.FieldType.char))
theorem caJ0_charAt_5068e : rCal mJ0_charAt_5068e 1 := ⟨co_J0_charAt_5068e, in_J0, ⟨by decide, by decide, by decide +kernel⟩, rfl⟩
theorem cvJ0_charAt_5068e : rCt mJ0_charAt_5068e := ⟨im_J0_charAt_5068e, se_J0_charAt_5068e, rfl⟩
abbrev mJ0_coder_7d493 : rM := (yJ0_coder_7d493, cJ0_coder_7d493, 1, (Option.some Jvm.ClassFile.FieldType.byte))
theorem caJ0_coder_7d493 : rCal mJ0_coder_7d493 0 := ⟨co_J0_coder_7d493, in_J0, ⟨by decide, by decide, by decide +kernel⟩, rfl⟩
theorem cvJ0_coder_7d493 : rCt mJ0_coder_7d493 := ⟨im_J0_coder_7d493, se_J0_coder_7d493, rfl⟩
abbrev mJ0_isLatin1_aae02 : rM := (yJ0_isLatin1_aae02, cJ0_isLatin1_aae02, 1, (Option.some Jvm.ClassFile.FieldType.boolean))
theorem caJ0_isLatin1_aae02 : rCal mJ0_isLatin1_aae02 0 := ⟨co_J0_isLatin1_aae02, in_J0, ⟨by decide, by decide, by decide +kernel⟩, rfl⟩
theorem cvJ0_isLatin1_aae02 : rCt mJ0_isLatin1_aae02 := ⟨im_J0_isLatin1_aae02, se_J0_isLatin1_aae02, rfl⟩
abbrev mJ0_checkIndex_df160 : rM := (yJ0_checkIndex_df160, cJ0_checkIndex_df160, 2, (Option.none : Option Jvm.ClassFile.FieldType))
theorem caJ0_checkIndex_df160 : rCal mJ0_checkIndex_df160 2 := ⟨co_J0_checkIndex_df160, in_J0, ⟨by decide, by decide, by decide +kernel⟩, rfl⟩
theorem csJ0_checkIndex_df160 : rCs mJ0_checkIndex_df160 := sm_J0_checkIndex_df160
abbrev mJ1_charAt_3b067 : rM := (yJ1_charAt_3b067, cJ1_charAt_3b067, 2, (Option.some Jvm.ClassFile.FieldType.char))
theorem caJ1_charAt_3b067 : rCal mJ1_charAt_3b067 2 := ⟨co_J1_charAt_3b067, in_J1, ⟨by decide, by decide, by decide +kernel⟩, rfl⟩
theorem csJ1_charAt_3b067 : rCs mJ1_charAt_3b067 := sm_J1_charAt_3b067
abbrev mJ3_checkIndex_8e157 : rM := (yJ3_checkIndex_8e157, cJ3_checkIndex_8e157, 3, (Option.some Jvm.ClassFile.FieldType.int))
theorem caJ3_checkIndex_8e157 : rCal mJ3_checkIndex_8e157 3 := ⟨co_J3_checkIndex_8e157, in_J3, ⟨by decide, by decide, by decide +kernel⟩, rfl⟩
theorem csJ3_checkIndex_8e157 : rCs mJ3_checkIndex_8e157 := sm_J3_checkIndex_8e157
