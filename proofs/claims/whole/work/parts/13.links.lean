theorem f_X2_11 : FL RX2 11 2 0 := ⟨RX2, TX2, 13, tyX2, rfl, by decide, kl_2, k_25, tyX2_ok, nmX2⟩
theorem f_X4_211 : FL RX4 211 2 0 := ⟨RX2, TX2, 13, tyX2, rfl, by decide, kl_2, k_26, tyX2_ok, nmX2⟩
theorem f_X2_15 : FL RX2 15 2 1 := ⟨RX2, TX2, 13, tyX2, rfl, by decide, kl_2, k_27, tyX2_ok, nmX2⟩
theorem f_X2_19 : FL RX2 19 2 2 := ⟨RX2, TX2, 13, tyX2, rfl, by decide, kl_2, k_28, tyX2_ok, nmX2⟩
theorem f_X2_22 : FL RX2 22 2 3 := ⟨RX2, TX2, 13, tyX2, rfl, by decide, kl_2, k_29, tyX2_ok, nmX2⟩
theorem f_X4_155 : FL RX4 155 2 3 := ⟨RX2, TX2, 13, tyX2, rfl, by decide, kl_2, k_30, tyX2_ok, nmX2⟩
theorem f_X2_25 : FL RX2 25 2 4 := ⟨RX2, TX2, 13, tyX2, rfl, by decide, kl_2, k_31, tyX2_ok, nmX2⟩
theorem f_X4_143 : FL RX4 143 2 4 := ⟨RX2, TX2, 13, tyX2, rfl, by decide, kl_2, k_32, tyX2_ok, nmX2⟩
theorem f_X2_29 : FL RX2 29 2 5 := ⟨RX2, TX2, 13, tyX2, rfl, by decide, kl_2, k_33, tyX2_ok, nmX2⟩
theorem f_X2_32 : FL RX2 32 2 6 := ⟨RX2, TX2, 13, tyX2, rfl, by decide, kl_2, k_34, tyX2_ok, nmX2⟩
theorem f_X2_35 : FL RX2 35 2 7 := ⟨RX2, TX2, 13, tyX2, rfl, by decide, kl_2, k_35, tyX2_ok, nmX2⟩
theorem f_X2_38 : FL RX2 38 2 8 := ⟨RX2, TX2, 13, tyX2, rfl, by decide, kl_2, k_36, tyX2_ok, nmX2⟩
theorem f_X2_41 : FL RX2 41 2 9 := ⟨RX2, TX2, 13, tyX2, rfl, by decide, kl_2, k_37, tyX2_ok, nmX2⟩
theorem f_X4_164 : FL RX4 164 2 9 := ⟨RX2, TX2, 13, tyX2, rfl, by decide, kl_2, k_38, tyX2_ok, nmX2⟩
theorem f_X2_44 : FL RX2 44 2 10 := ⟨RX2, TX2, 13, tyX2, rfl, by decide, kl_2, k_39, tyX2_ok, nmX2⟩
theorem f_X2_47 : FL RX2 47 2 11 := ⟨RX2, TX2, 13, tyX2, rfl, by decide, kl_2, k_40, tyX2_ok, nmX2⟩
theorem f_X2_50 : FL RX2 50 2 12 := ⟨RX2, TX2, 13, tyX2, rfl, by decide, kl_2, k_41, tyX2_ok, nmX2⟩
theorem f_X1_9 : FL RX1 9 1 0 := ⟨RX1, TX1, 2, tyX1, rfl, by decide, kl_1, k_76, tyX1_ok, nmX1⟩
theorem f_X4_215 : FL RX4 215 1 0 := ⟨RX1, TX1, 2, tyX1, rfl, by decide, kl_1, k_77, tyX1_ok, nmX1⟩
theorem f_X1_15 : FL RX1 15 1 1 := ⟨RX1, TX1, 2, tyX1, rfl, by decide, kl_1, k_78, tyX1_ok, nmX1⟩
theorem f_X4_134 : FL RX4 134 1 1 := ⟨RX1, TX1, 2, tyX1, rfl, by decide, kl_1, k_79, tyX1_ok, nmX1⟩
theorem f_X3_9 : FL RX3 9 3 0 := ⟨RX3, TX3, 5, tyX3, rfl, by decide, kl_3, k_91, tyX3_ok, nmX3⟩
theorem f_X4_173 : FL RX4 173 3 0 := ⟨RX3, TX3, 5, tyX3, rfl, by decide, kl_3, k_92, tyX3_ok, nmX3⟩
theorem f_X3_15 : FL RX3 15 3 1 := ⟨RX3, TX3, 5, tyX3, rfl, by decide, kl_3, k_93, tyX3_ok, nmX3⟩
theorem f_X4_179 : FL RX4 179 3 1 := ⟨RX3, TX3, 5, tyX3, rfl, by decide, kl_3, k_94, tyX3_ok, nmX3⟩
theorem f_X3_18 : FL RX3 18 3 2 := ⟨RX3, TX3, 5, tyX3, rfl, by decide, kl_3, k_95, tyX3_ok, nmX3⟩
theorem f_X3_22 : FL RX3 22 3 3 := ⟨RX3, TX3, 5, tyX3, rfl, by decide, kl_3, k_96, tyX3_ok, nmX3⟩
theorem f_X3_25 : FL RX3 25 3 4 := ⟨RX3, TX3, 5, tyX3, rfl, by decide, kl_3, k_97, tyX3_ok, nmX3⟩
theorem f_X0_9 : FL RX0 9 0 0 := ⟨RX0, TX0, 12, tyX0, rfl, by decide, kl_0, k_114, tyX0_ok, nmX0⟩
theorem f_X4_231 : FL RX4 231 0 0 := ⟨RX0, TX0, 12, tyX0, rfl, by decide, kl_0, k_115, tyX0_ok, nmX0⟩
theorem f_X0_15 : FL RX0 15 0 1 := ⟨RX0, TX0, 12, tyX0, rfl, by decide, kl_0, k_116, tyX0_ok, nmX0⟩
theorem f_X4_234 : FL RX4 234 0 1 := ⟨RX0, TX0, 12, tyX0, rfl, by decide, kl_0, k_117, tyX0_ok, nmX0⟩
theorem f_X0_18 : FL RX0 18 0 2 := ⟨RX0, TX0, 12, tyX0, rfl, by decide, kl_0, k_118, tyX0_ok, nmX0⟩
theorem f_X1_28 : FL RX1 28 0 2 := ⟨RX0, TX0, 12, tyX0, rfl, by decide, kl_0, k_119, tyX0_ok, nmX0⟩
theorem f_X2_92 : FL RX2 92 0 2 := ⟨RX0, TX0, 12, tyX0, rfl, by decide, kl_0, k_120, tyX0_ok, nmX0⟩
theorem f_X4_237 : FL RX4 237 0 2 := ⟨RX0, TX0, 12, tyX0, rfl, by decide, kl_0, k_121, tyX0_ok, nmX0⟩
theorem f_X0_21 : FL RX0 21 0 3 := ⟨RX0, TX0, 12, tyX0, rfl, by decide, kl_0, k_122, tyX0_ok, nmX0⟩
theorem f_X1_24 : FL RX1 24 0 3 := ⟨RX0, TX0, 12, tyX0, rfl, by decide, kl_0, k_123, tyX0_ok, nmX0⟩
theorem f_X4_117 : FL RX4 117 0 3 := ⟨RX0, TX0, 12, tyX0, rfl, by decide, kl_0, k_124, tyX0_ok, nmX0⟩
theorem f_X0_24 : FL RX0 24 0 4 := ⟨RX0, TX0, 12, tyX0, rfl, by decide, kl_0, k_125, tyX0_ok, nmX0⟩
theorem f_X1_19 : FL RX1 19 0 4 := ⟨RX0, TX0, 12, tyX0, rfl, by decide, kl_0, k_126, tyX0_ok, nmX0⟩
theorem f_X2_57 : FL RX2 57 0 4 := ⟨RX0, TX0, 12, tyX0, rfl, by decide, kl_0, k_127, tyX0_ok, nmX0⟩
theorem f_X0_28 : FL RX0 28 0 5 := ⟨RX0, TX0, 12, tyX0, rfl, by decide, kl_0, k_128, tyX0_ok, nmX0⟩
theorem f_X1_52 : FL RX1 52 0 5 := ⟨RX0, TX0, 12, tyX0, rfl, by decide, kl_0, k_129, tyX0_ok, nmX0⟩
theorem f_X2_123 : FL RX2 123 0 5 := ⟨RX0, TX0, 12, tyX0, rfl, by decide, kl_0, k_130, tyX0_ok, nmX0⟩
theorem f_X4_146 : FL RX4 146 0 5 := ⟨RX0, TX0, 12, tyX0, rfl, by decide, kl_0, k_131, tyX0_ok, nmX0⟩
theorem f_X0_31 : FL RX0 31 0 6 := ⟨RX0, TX0, 12, tyX0, rfl, by decide, kl_0, k_132, tyX0_ok, nmX0⟩
theorem f_X4_93 : FL RX4 93 0 6 := ⟨RX0, TX0, 12, tyX0, rfl, by decide, kl_0, k_133, tyX0_ok, nmX0⟩
theorem f_X2_130 : FL RX2 130 0 6 := ⟨RX0, TX0, 12, tyX0, rfl, by decide, kl_0, k_134, tyX0_ok, nmX0⟩
theorem f_X0_34 : FL RX0 34 0 7 := ⟨RX0, TX0, 12, tyX0, rfl, by decide, kl_0, k_135, tyX0_ok, nmX0⟩
theorem f_X2_86 : FL RX2 86 0 7 := ⟨RX0, TX0, 12, tyX0, rfl, by decide, kl_0, k_136, tyX0_ok, nmX0⟩
theorem f_X4_97 : FL RX4 97 0 7 := ⟨RX0, TX0, 12, tyX0, rfl, by decide, kl_0, k_137, tyX0_ok, nmX0⟩
theorem f_X0_37 : FL RX0 37 0 8 := ⟨RX0, TX0, 12, tyX0, rfl, by decide, kl_0, k_138, tyX0_ok, nmX0⟩
theorem f_X1_35 : FL RX1 35 0 8 := ⟨RX0, TX0, 12, tyX0, rfl, by decide, kl_0, k_139, tyX0_ok, nmX0⟩
theorem f_X2_95 : FL RX2 95 0 8 := ⟨RX0, TX0, 12, tyX0, rfl, by decide, kl_0, k_140, tyX0_ok, nmX0⟩
theorem f_X4_216 : FL RX4 216 0 8 := ⟨RX0, TX0, 12, tyX0, rfl, by decide, kl_0, k_141, tyX0_ok, nmX0⟩
theorem f_X0_40 : FL RX0 40 0 9 := ⟨RX0, TX0, 12, tyX0, rfl, by decide, kl_0, k_142, tyX0_ok, nmX0⟩
theorem f_X1_38 : FL RX1 38 0 9 := ⟨RX0, TX0, 12, tyX0, rfl, by decide, kl_0, k_143, tyX0_ok, nmX0⟩
theorem f_X2_113 : FL RX2 113 0 9 := ⟨RX0, TX0, 12, tyX0, rfl, by decide, kl_0, k_144, tyX0_ok, nmX0⟩
theorem f_X4_219 : FL RX4 219 0 9 := ⟨RX0, TX0, 12, tyX0, rfl, by decide, kl_0, k_145, tyX0_ok, nmX0⟩
theorem f_X0_43 : FL RX0 43 0 10 := ⟨RX0, TX0, 12, tyX0, rfl, by decide, kl_0, k_146, tyX0_ok, nmX0⟩
theorem f_X1_41 : FL RX1 41 0 10 := ⟨RX0, TX0, 12, tyX0, rfl, by decide, kl_0, k_147, tyX0_ok, nmX0⟩
theorem f_X2_98 : FL RX2 98 0 10 := ⟨RX0, TX0, 12, tyX0, rfl, by decide, kl_0, k_148, tyX0_ok, nmX0⟩
theorem f_X4_140 : FL RX4 140 0 10 := ⟨RX0, TX0, 12, tyX0, rfl, by decide, kl_0, k_149, tyX0_ok, nmX0⟩
theorem f_X0_46 : FL RX0 46 0 11 := ⟨RX0, TX0, 12, tyX0, rfl, by decide, kl_0, k_150, tyX0_ok, nmX0⟩
theorem f_X4_11 : FL RX4 11 4 0 := ⟨RX4, TX4, 9, tyX4, rfl, by decide, kl_4, k_185, tyX4_ok, nmX4⟩
theorem f_X4_15 : FL RX4 15 4 1 := ⟨RX4, TX4, 9, tyX4, rfl, by decide, kl_4, k_186, tyX4_ok, nmX4⟩
theorem f_X4_19 : FL RX4 19 4 2 := ⟨RX4, TX4, 9, tyX4, rfl, by decide, kl_4, k_187, tyX4_ok, nmX4⟩
theorem f_X4_25 : FL RX4 25 4 3 := ⟨RX4, TX4, 9, tyX4, rfl, by decide, kl_4, k_188, tyX4_ok, nmX4⟩
theorem f_X4_32 : FL RX4 32 4 4 := ⟨RX4, TX4, 9, tyX4, rfl, by decide, kl_4, k_189, tyX4_ok, nmX4⟩
theorem f_X4_39 : FL RX4 39 4 5 := ⟨RX4, TX4, 9, tyX4, rfl, by decide, kl_4, k_190, tyX4_ok, nmX4⟩
theorem f_X4_43 : FL RX4 43 4 6 := ⟨RX4, TX4, 9, tyX4, rfl, by decide, kl_4, k_191, tyX4_ok, nmX4⟩
theorem f_X4_46 : FL RX4 46 4 7 := ⟨RX4, TX4, 9, tyX4, rfl, by decide, kl_4, k_192, tyX4_ok, nmX4⟩
theorem f_X4_49 : FL RX4 49 4 8 := ⟨RX4, TX4, 9, tyX4, rfl, by decide, kl_4, k_193, tyX4_ok, nmX4⟩
theorem f_X5_7 : FL RX5 7 5 0 := ⟨RX5, TX5, 27, tyX5, rfl, by decide, kl_5, k_568, tyX5_ok, nmX5⟩
theorem f_X5_13 : FL RX5 13 5 1 := ⟨RX5, TX5, 27, tyX5, rfl, by decide, kl_5, k_569, tyX5_ok, nmX5⟩
theorem f_X5_16 : FL RX5 16 5 2 := ⟨RX5, TX5, 27, tyX5, rfl, by decide, kl_5, k_570, tyX5_ok, nmX5⟩
theorem f_X5_81 : FL RX5 81 5 3 := ⟨RX5, TX5, 27, tyX5, rfl, by decide, kl_5, k_571, tyX5_ok, nmX5⟩
theorem f_X5_19 : FL RX5 19 5 4 := ⟨RX5, TX5, 27, tyX5, rfl, by decide, kl_5, k_572, tyX5_ok, nmX5⟩
theorem f_X5_22 : FL RX5 22 5 5 := ⟨RX5, TX5, 27, tyX5, rfl, by decide, kl_5, k_573, tyX5_ok, nmX5⟩
theorem f_X5_25 : FL RX5 25 5 6 := ⟨RX5, TX5, 27, tyX5, rfl, by decide, kl_5, k_574, tyX5_ok, nmX5⟩
theorem f_X5_28 : FL RX5 28 5 7 := ⟨RX5, TX5, 27, tyX5, rfl, by decide, kl_5, k_575, tyX5_ok, nmX5⟩
theorem f_X5_31 : FL RX5 31 5 8 := ⟨RX5, TX5, 27, tyX5, rfl, by decide, kl_5, k_576, tyX5_ok, nmX5⟩
theorem f_X5_34 : FL RX5 34 5 9 := ⟨RX5, TX5, 27, tyX5, rfl, by decide, kl_5, k_577, tyX5_ok, nmX5⟩
theorem f_X5_155 : FL RX5 155 5 10 := ⟨RX5, TX5, 27, tyX5, rfl, by decide, kl_5, k_578, tyX5_ok, nmX5⟩
theorem f_X5_37 : FL RX5 37 5 11 := ⟨RX5, TX5, 27, tyX5, rfl, by decide, kl_5, k_579, tyX5_ok, nmX5⟩
theorem f_X5_40 : FL RX5 40 5 12 := ⟨RX5, TX5, 27, tyX5, rfl, by decide, kl_5, k_580, tyX5_ok, nmX5⟩
theorem f_X5_43 : FL RX5 43 5 13 := ⟨RX5, TX5, 27, tyX5, rfl, by decide, kl_5, k_581, tyX5_ok, nmX5⟩
theorem f_X5_46 : FL RX5 46 5 14 := ⟨RX5, TX5, 27, tyX5, rfl, by decide, kl_5, k_582, tyX5_ok, nmX5⟩
theorem f_X5_158 : FL RX5 158 5 15 := ⟨RX5, TX5, 27, tyX5, rfl, by decide, kl_5, k_583, tyX5_ok, nmX5⟩
theorem f_X5_77 : FL RX5 77 5 16 := ⟨RX5, TX5, 27, tyX5, rfl, by decide, kl_5, k_584, tyX5_ok, nmX5⟩
theorem f_X5_49 : FL RX5 49 5 17 := ⟨RX5, TX5, 27, tyX5, rfl, by decide, kl_5, k_585, tyX5_ok, nmX5⟩
theorem f_X5_52 : FL RX5 52 5 18 := ⟨RX5, TX5, 27, tyX5, rfl, by decide, kl_5, k_586, tyX5_ok, nmX5⟩
theorem f_X5_212 : FL RX5 212 5 19 := ⟨RX5, TX5, 27, tyX5, rfl, by decide, kl_5, k_587, tyX5_ok, nmX5⟩
theorem f_X5_55 : FL RX5 55 5 20 := ⟨RX5, TX5, 27, tyX5, rfl, by decide, kl_5, k_588, tyX5_ok, nmX5⟩
theorem f_X5_209 : FL RX5 209 5 21 := ⟨RX5, TX5, 27, tyX5, rfl, by decide, kl_5, k_589, tyX5_ok, nmX5⟩
theorem f_X5_58 : FL RX5 58 5 22 := ⟨RX5, TX5, 27, tyX5, rfl, by decide, kl_5, k_590, tyX5_ok, nmX5⟩
theorem f_X5_218 : FL RX5 218 5 23 := ⟨RX5, TX5, 27, tyX5, rfl, by decide, kl_5, k_591, tyX5_ok, nmX5⟩
theorem f_X5_61 : FL RX5 61 5 24 := ⟨RX5, TX5, 27, tyX5, rfl, by decide, kl_5, k_592, tyX5_ok, nmX5⟩
theorem f_X5_236 : FL RX5 236 5 25 := ⟨RX5, TX5, 27, tyX5, rfl, by decide, kl_5, k_593, tyX5_ok, nmX5⟩
theorem f_X5_224 : FL RX5 224 5 26 := ⟨RX5, TX5, 27, tyX5, rfl, by decide, kl_5, k_594, tyX5_ok, nmX5⟩
theorem fp_0_0 : FP 0 0 .int := by
  intro C T N h
  cases h
  exact ⟨rfl, by decide +kernel⟩
theorem fp_0_1 : FP 0 1 .int := by
  intro C T N h
  cases h
  exact ⟨rfl, by decide +kernel⟩
theorem fp_0_2 : FP 0 2 .int := by
  intro C T N h
  cases h
  exact ⟨rfl, by decide +kernel⟩
theorem fp_0_3 : FP 0 3 .int := by
  intro C T N h
  cases h
  exact ⟨rfl, by decide +kernel⟩
theorem fp_1_0 : FP 1 0 .boolean := by
  intro C T N h
  cases h
  exact ⟨rfl, by decide +kernel⟩
theorem fp_2_0 : FP 2 0 .boolean := by
  intro C T N h
  cases h
  exact ⟨rfl, by decide +kernel⟩
theorem fp_2_1 : FP 2 1 .int := by
  intro C T N h
  cases h
  exact ⟨rfl, by decide +kernel⟩
theorem fp_2_2 : FP 2 2 .int := by
  intro C T N h
  cases h
  exact ⟨rfl, by decide +kernel⟩
theorem fp_2_3 : FP 2 3 .int := by
  intro C T N h
  cases h
  exact ⟨rfl, by decide +kernel⟩
theorem fp_2_12 : FP 2 12 .int := by
  intro C T N h
  cases h
  exact ⟨rfl, by decide +kernel⟩
theorem fp_3_0 : FP 3 0 .int := by
  intro C T N h
  cases h
  exact ⟨rfl, by decide +kernel⟩
theorem fp_3_1 : FP 3 1 .int := by
  intro C T N h
  cases h
  exact ⟨rfl, by decide +kernel⟩
theorem fp_3_4 : FP 3 4 .int := by
  intro C T N h
  cases h
  exact ⟨rfl, by decide +kernel⟩
theorem fp_4_1 : FP 4 1 .int := by
  intro C T N h
  cases h
  exact ⟨rfl, by decide +kernel⟩
theorem fp_4_2 : FP 4 2 .int := by
  intro C T N h
  cases h
  exact ⟨rfl, by decide +kernel⟩
theorem fp_4_6 : FP 4 6 .int := by
  intro C T N h
  cases h
  exact ⟨rfl, by decide +kernel⟩
theorem fp_4_7 : FP 4 7 .int := by
  intro C T N h
  cases h
  exact ⟨rfl, by decide +kernel⟩
theorem fp_4_8 : FP 4 8 .int := by
  intro C T N h
  cases h
  exact ⟨rfl, by decide +kernel⟩
theorem fp_5_3 : FP 5 3 .int := by
  intro C T N h
  cases h
  exact ⟨rfl, by decide +kernel⟩
theorem fp_5_10 : FP 5 10 .int := by
  intro C T N h
  cases h
  exact ⟨rfl, by decide +kernel⟩
theorem fp_5_15 : FP 5 15 .int := by
  intro C T N h
  cases h
  exact ⟨rfl, by decide +kernel⟩
theorem fp_5_16 : FP 5 16 .boolean := by
  intro C T N h
  cases h
  exact ⟨rfl, by decide +kernel⟩
theorem fp_5_19 : FP 5 19 .int := by
  intro C T N h
  cases h
  exact ⟨rfl, by decide +kernel⟩
theorem fp_5_21 : FP 5 21 .int := by
  intro C T N h
  cases h
  exact ⟨rfl, by decide +kernel⟩
theorem fp_5_23 : FP 5 23 .int := by
  intro C T N h
  cases h
  exact ⟨rfl, by decide +kernel⟩
theorem fp_5_25 : FP 5 25 .int := by
  intro C T N h
  cases h
  exact ⟨rfl, by decide +kernel⟩
theorem fp_5_26 : FP 5 26 .int := by
  intro C T N h
  cases h
  exact ⟨rfl, by decide +kernel⟩
theorem v_X4_53 : VL RX4 53 yX0_addProc cX0_addProc 1 (some .int) 0 := ⟨k_177, k_178, k_179, k_5, k_180, by decide, by decide, by decide +kernel⟩
theorem v_X0_75 : VL RX0 75 yX0_placeNode cX0_placeNode 3 (some .int) 2 := ⟨k_181, k_183, ks_yX0_placeNode, k_5, k_184, by decide, by decide, by decide +kernel⟩
theorem v_L_13 : VL RL 13 yX4_proc cX4_proc 1 (some .int) 0 := ⟨k_213, k_214, k_215, k_1, k_216, by decide, by decide, by decide +kernel⟩
theorem v_X4_57 : VL RX4 57 yX4_draft cX4_draft 2 (some (.object "MatchedFlows$Program")) 0 := ⟨k_217, k_219, ks_yX4_draft, k_1, k_220, by decide, by decide, by decide +kernel⟩
theorem v_X4_203 : VL RX4 203 yX0_copy cX0_copy 2 none 1 := ⟨k_221, k_222, k_223, k_5, k_224, by decide, by decide, by decide +kernel⟩
theorem v_X4_61 : VL RX4 61 yX4_settled cX4_settled 2 (some .int) 1 := ⟨k_228, k_230, ks_yX4_settled, k_1, k_231, by decide, by decide, by decide +kernel⟩
theorem v_X4_90 : VL RX4 90 yX4_refused cX4_refused 2 (some .int) 1 := ⟨k_232, k_234, ks_yX4_refused, k_1, k_235, by decide, by decide, by decide +kernel⟩
theorem v_X4_185 : VL RX4 185 yX4_moveTo cX4_moveTo 2 none 1 := ⟨k_239, k_241, ks_yX4_moveTo, k_1, k_242, by decide, by decide, by decide +kernel⟩
theorem v_L_18 : VL RL 18 yX4_node cX4_node 2 (some .int) 1 := ⟨k_243, k_244, k_245, k_1, k_246, by decide, by decide, by decide +kernel⟩
theorem v_X4_65 : VL RX4 65 yX0_addNode cX0_addNode 2 (some .int) 1 := ⟨k_247, k_248, k_249, k_5, k_250, by decide, by decide, by decide +kernel⟩
theorem v_X0_79 : VL RX0 79 yX0_isProc cX0_isProc 2 (some .boolean) 1 := ⟨k_251, k_252, k_253, k_5, k_254, by decide, by decide, by decide +kernel⟩
theorem v_L_23 : VL RL 23 yX4_edge cX4_edge 3 (some .int) 2 := ⟨k_255, k_256, k_257, k_1, k_258, by decide, by decide, by decide +kernel⟩
theorem v_X4_68 : VL RX4 68 yX0_addPlain cX0_addPlain 3 (some .int) 2 := ⟨k_259, k_260, k_261, k_5, k_262, by decide, by decide, by decide +kernel⟩
theorem v_X0_82 : VL RX0 82 yX0_joins cX0_joins 3 (some .boolean) 2 := ⟨k_263, k_264, k_265, k_5, k_266, by decide, by decide, by decide +kernel⟩
theorem v_X0_56 : VL RX0 56 yX0_isNode cX0_isNode 2 (some .boolean) 1 := ⟨k_267, k_268, k_269, k_5, k_270, by decide, by decide, by decide +kernel⟩
theorem v_X0_85 : VL RX0 85 yX0_addEdge cX0_addEdge 5 (some .int) 3 := ⟨k_271, k_273, ks_yX0_addEdge, k_5, k_274, by decide, by decide, by decide +kernel⟩
theorem v_L_28 : VL RL 28 yX4_call cX4_call 4 (some .int) 3 := ⟨k_276, k_277, k_278, k_1, k_279, by decide, by decide, by decide +kernel⟩
theorem v_X4_72 : VL RX4 72 yX0_addCall cX0_addCall 4 (some .int) 3 := ⟨k_280, k_281, k_282, k_5, k_283, by decide, by decide, by decide +kernel⟩
theorem v_L_33 : VL RL 33 yX4_flows cX4_flows 5 (some .int) 4 := ⟨k_284, k_285, k_286, k_1, k_287, by decide, by decide, by decide +kernel⟩
theorem v_X4_76 : VL RX4 76 yX0_setFlow cX0_setFlow 9 (some .int) 4 := ⟨k_288, k_289, k_290, k_5, k_291, by decide, by decide, by decide +kernel⟩
theorem v_X0_90 : VL RX0 90 yX0_hasFlow cX0_hasFlow 3 (some .boolean) 2 := ⟨k_292, k_293, k_294, k_5, k_295, by decide, by decide, by decide +kernel⟩
theorem v_X0_60 : VL RX0 60 yX0_isEdge cX0_isEdge 2 (some .boolean) 1 := ⟨k_296, k_297, k_298, k_5, k_299, by decide, by decide, by decide +kernel⟩
theorem v_X0_63 : VL RX0 63 yX0_flowsOf cX0_flowsOf 2 (some .int) 1 := ⟨k_300, k_301, k_302, k_5, k_303, by decide, by decide, by decide +kernel⟩
theorem v_X0_71 : VL RX0 71 yX0_reach cX0_reach 4 (some .int) 3 := ⟨k_313, k_314, k_315, k_5, k_316, by decide, by decide, by decide +kernel⟩
theorem v_L_38 : VL RL 38 yX4_starts cX4_starts 2 (some .int) 1 := ⟨k_319, k_320, k_321, k_1, k_322, by decide, by decide, by decide +kernel⟩
theorem v_X4_80 : VL RX4 80 yX0_setStart cX0_setStart 3 (some .int) 1 := ⟨k_323, k_324, k_325, k_5, k_326, by decide, by decide, by decide +kernel⟩
theorem v_L_42 : VL RL 42 yX4_cuts cX4_cuts 2 (some .int) 1 := ⟨k_327, k_328, k_329, k_1, k_330, by decide, by decide, by decide +kernel⟩
theorem v_X4_83 : VL RX4 83 yX0_cutEdge cX0_cutEdge 4 (some .int) 1 := ⟨k_331, k_332, k_333, k_5, k_334, by decide, by decide, by decide +kernel⟩
theorem v_L_46 : VL RL 46 yX4_at cX4_at 4 (some .int) 2 := ⟨k_335, k_336, k_337, k_1, k_338, by decide, by decide, by decide +kernel⟩
theorem v_X4_86 : VL RX4 86 yX0_isNode cX0_isNode 2 (some .boolean) 1 := ⟨k_339, k_268, k_269, k_5, k_270, by decide, by decide, by decide +kernel⟩
theorem v_L_50 : VL RL 50 yX4_about cX4_about 4 (some .int) 2 := ⟨k_340, k_341, k_342, k_1, k_343, by decide, by decide, by decide +kernel⟩
theorem v_X4_100 : VL RX4 100 yX0_isEdge cX0_isEdge 2 (some .boolean) 1 := ⟨k_344, k_297, k_298, k_5, k_299, by decide, by decide, by decide +kernel⟩
theorem v_X4_103 : VL RX4 103 yX4_partOfEdge cX4_partOfEdge 4 (some .int) 3 := ⟨k_345, k_347, ks_yX4_partOfEdge, k_1, k_348, by decide, by decide, by decide +kernel⟩
theorem v_L_54 : VL RL 54 yX4_goes cX4_goes 5 (some .int) 3 := ⟨k_349, k_350, k_351, k_1, k_352, by decide, by decide, by decide +kernel⟩
theorem v_X4_107 : VL RX4 107 yX0_hasFlow cX0_hasFlow 3 (some .boolean) 2 := ⟨k_353, k_293, k_294, k_5, k_295, by decide, by decide, by decide +kernel⟩
theorem v_X4_111 : SL RX4 111 yX4_isFact cX4_isFact 1 (some .boolean) 1 := ⟨k_354, k_305, k_1, k_306, rfl, by decide, by decide, by decide +kernel⟩
theorem v_X4_114 : VL RX4 114 yX0_reach cX0_reach 4 (some .int) 3 := ⟨k_355, k_314, k_315, k_5, k_316, by decide, by decide, by decide +kernel⟩
theorem v_L_58 : VL RL 58 yX4_count cX4_count 3 (some .int) 1 := ⟨k_356, k_357, k_358, k_1, k_359, by decide, by decide, by decide +kernel⟩
theorem v_X4_120 : VL RX4 120 yX2_fill cX2_fill 5 none 3 := ⟨k_360, k_361, k_362, k_2, k_363, by decide, by decide, by decide +kernel⟩
theorem v_X2_66 : VL RX2 66 yX2_come cX2_come 13 none 5 := ⟨k_368, k_370, ks_yX2_come, k_2, k_371, by decide, by decide, by decide +kernel⟩
theorem v_X2_70 : VL RX2 70 yX2_take cX2_take 5 none 2 := ⟨k_373, k_375, ks_yX2_take, k_2, k_376, by decide, by decide, by decide +kernel⟩
theorem v_X2_79 : VL RX2 79 yX2_nodeOf cX2_nodeOf 2 (some .int) 1 := ⟨k_377, k_378, k_379, k_2, k_380, by decide, by decide, by decide +kernel⟩
theorem v_X2_89 : VL RX2 89 yX2_returnToCallers cX2_returnToCallers 8 none 2 := ⟨k_381, k_383, ks_yX2_returnToCallers, k_2, k_384, by decide, by decide, by decide +kernel⟩
theorem v_X2_116 : VL RX2 116 yX2_factAtEntry cX2_factAtEntry 2 (some .int) 1 := ⟨k_385, k_386, k_387, k_2, k_388, by decide, by decide, by decide +kernel⟩
theorem v_X2_83 : VL RX2 83 yX2_factOf cX2_factOf 2 (some .int) 1 := ⟨k_389, k_390, k_391, k_2, k_392, by decide, by decide, by decide +kernel⟩
theorem v_X2_109 : VL RX2 109 yX0_reach cX0_reach 4 (some .int) 3 := ⟨k_393, k_314, k_315, k_5, k_316, by decide, by decide, by decide +kernel⟩
theorem v_X2_105 : VL RX2 105 yX2_landing cX2_landing 4 (some .int) 3 := ⟨k_394, k_396, ks_yX2_landing, k_2, k_397, by decide, by decide, by decide +kernel⟩
theorem v_X2_101 : VL RX2 101 yX2_enter cX2_enter 7 none 3 := ⟨k_398, k_400, ks_yX2_enter, k_2, k_401, by decide, by decide, by decide +kernel⟩
theorem v_X2_119 : VL RX2 119 yX2_noteSite cX2_noteSite 3 none 2 := ⟨k_402, k_404, ks_yX2_noteSite, k_2, k_405, by decide, by decide, by decide +kernel⟩
theorem v_X2_126 : VL RX2 126 yX2_leaveAsKnown cX2_leaveAsKnown 7 none 4 := ⟨k_406, k_408, ks_yX2_leaveAsKnown, k_2, k_409, by decide, by decide, by decide +kernel⟩
theorem v_X4_124 : VL RX4 124 yX4_counted cX4_counted 3 (some .int) 2 := ⟨k_410, k_412, ks_yX4_counted, k_1, k_413, by decide, by decide, by decide +kernel⟩
theorem v_X4_240 : VL RX4 240 yX4_nodesReached cX4_nodesReached 4 (some .int) 1 := ⟨k_414, k_416, ks_yX4_nodesReached, k_1, k_417, by decide, by decide, by decide +kernel⟩
theorem v_X4_128 : VL RX4 128 yX2_factsAt cX2_factsAt 4 (some .int) 1 := ⟨k_418, k_419, k_420, k_2, k_421, by decide, by decide, by decide +kernel⟩
theorem v_L_62 : VL RL 62 yX4_holds cX4_holds 3 (some .int) 1 := ⟨k_422, k_423, k_424, k_1, k_425, by decide, by decide, by decide +kernel⟩
theorem v_L_66 : VL RL 66 yX4_loose cX4_loose 3 (some .int) 1 := ⟨k_426, k_427, k_428, k_1, k_429, by decide, by decide, by decide +kernel⟩
theorem v_X4_131 : VL RX4 131 yX1_fill cX1_fill 5 none 1 := ⟨k_430, k_431, k_432, k_3, k_433, by decide, by decide, by decide +kernel⟩
theorem v_X1_31 : VL RX1 31 yX1_stepAlong cX1_stepAlong 7 (some .boolean) 2 := ⟨k_434, k_436, ks_yX1_stepAlong, k_3, k_437, by decide, by decide, by decide +kernel⟩
theorem v_X1_44 : VL RX1 44 yX0_carry cX0_carry 6 (some .int) 3 := ⟨k_438, k_439, k_440, k_5, k_441, by decide, by decide, by decide +kernel⟩
theorem v_X1_48 : VL RX1 48 yX1_addTo cX1_addTo 4 (some .boolean) 2 := ⟨k_442, k_444, ks_yX1_addTo, k_3, k_445, by decide, by decide, by decide +kernel⟩
theorem v_L_70 : VL RL 70 yX4_origins cX4_origins 6 (some .int) 2 := ⟨k_446, k_447, k_448, k_1, k_449, by decide, by decide, by decide +kernel⟩
theorem v_X4_137 : SL RX4 137 yX4_has cX4_has 2 (some .boolean) 2 := ⟨k_450, k_311, k_1, k_312, rfl, by decide, by decide, by decide +kernel⟩
theorem v_L_74 : VL RL 74 yX4_summary cX4_summary 8 (some .int) 2 := ⟨k_451, k_452, k_453, k_1, k_454, by decide, by decide, by decide +kernel⟩
theorem v_X4_149 : SL RX4 149 yX4_cell cX4_cell 2 (some .int) 2 := ⟨k_455, k_366, k_1, k_367, rfl, by decide, by decide, by decide +kernel⟩
theorem v_X4_152 : VL RX4 152 yX0_carry cX0_carry 6 (some .int) 3 := ⟨k_456, k_439, k_440, k_5, k_441, by decide, by decide, by decide +kernel⟩
theorem v_L_78 : VL RL 78 yX4_entry cX4_entry 4 (some .int) 2 := ⟨k_457, k_458, k_459, k_1, k_460, by decide, by decide, by decide +kernel⟩
theorem v_X4_158 : VL RX4 158 yX4_partOfEntry cX4_partOfEntry 4 (some .int) 3 := ⟨k_461, k_463, ks_yX4_partOfEntry, k_1, k_464, by decide, by decide, by decide +kernel⟩
theorem v_X4_222 : VL RX4 222 yX2_nodeOf cX2_nodeOf 2 (some .int) 1 := ⟨k_465, k_378, k_379, k_2, k_380, by decide, by decide, by decide +kernel⟩
theorem v_X4_225 : VL RX4 225 yX2_factAtEntry cX2_factAtEntry 2 (some .int) 1 := ⟨k_466, k_386, k_387, k_2, k_388, by decide, by decide, by decide +kernel⟩
theorem v_X4_228 : VL RX4 228 yX2_factOf cX2_factOf 2 (some .int) 1 := ⟨k_467, k_390, k_391, k_2, k_392, by decide, by decide, by decide +kernel⟩
theorem v_L_82 : VL RL 82 yX4_witness cX4_witness 6 (some .int) 3 := ⟨k_468, k_469, k_470, k_1, k_471, by decide, by decide, by decide +kernel⟩
theorem v_X4_161 : VL RX4 161 yX2_firstWith cX2_firstWith 6 (some .int) 2 := ⟨k_472, k_473, k_474, k_2, k_475, by decide, by decide, by decide +kernel⟩
theorem v_X4_167 : VL RX4 167 yX2_pairOfWay cX2_pairOfWay 9 (some .int) 2 := ⟨k_476, k_477, k_478, k_2, k_479, by decide, by decide, by decide +kernel⟩
theorem v_L_86 : VL RL 86 yX4_type cX4_type 2 (some .int) 1 := ⟨k_480, k_481, k_482, k_1, k_483, by decide, by decide, by decide +kernel⟩
theorem v_X4_170 : VL RX4 170 yX3_append cX3_append 2 (some .boolean) 1 := ⟨k_484, k_485, k_486, k_4, k_487, by decide, by decide, by decide +kernel⟩
theorem v_L_90 : VL RL 90 yX4_clear cX4_clear 2 (some .int) 0 := ⟨k_488, k_489, k_490, k_1, k_491, by decide, by decide, by decide +kernel⟩
theorem v_L_94 : VL RL 94 yX4_does cX4_does 4 (some .int) 0 := ⟨k_492, k_493, k_494, k_1, k_495, by decide, by decide, by decide +kernel⟩
theorem v_X4_176 : VL RX4 176 yX3_read cX3_read 2 (some .int) 0 := ⟨k_496, k_497, k_498, k_4, k_499, by decide, by decide, by decide +kernel⟩
theorem v_X3_28 : VL RX3 28 yX3_skipBlanks cX3_skipBlanks 1 none 0 := ⟨k_500, k_502, ks_yX3_skipBlanks, k_4, k_503, by decide, by decide, by decide +kernel⟩
theorem v_X3_31 : VL RX3 31 yX3_readOrder cX3_readOrder 5 (some .boolean) 1 := ⟨k_504, k_506, ks_yX3_readOrder, k_4, k_507, by decide, by decide, by decide +kernel⟩
theorem v_X3_35 : SL RX3 35 yX3_numbersBehind cX3_numbersBehind 1 (some .int) 1 := ⟨k_508, k_509, k_4, k_510, rfl, by decide, by decide, by decide +kernel⟩
theorem v_X3_39 : VL RX3 39 yX3_readNumber cX3_readNumber 4 (some .boolean) 1 := ⟨k_511, k_513, ks_yX3_readNumber, k_4, k_514, by decide, by decide, by decide +kernel⟩
theorem v_X3_42 : VL RX3 42 yX3_isFigure cX3_isFigure 1 (some .boolean) 0 := ⟨k_515, k_517, ks_yX3_isFigure, k_4, k_518, by decide, by decide, by decide +kernel⟩
theorem v_X4_182 : VL RX4 182 yX4_obeyed cX4_obeyed 6 (some .int) 2 := ⟨k_519, k_521, ks_yX4_obeyed, k_1, k_522, by decide, by decide, by decide +kernel⟩
theorem v_X4_244 : VL RX4 244 yX3_part cX3_part 3 (some .int) 2 := ⟨k_523, k_524, k_525, k_4, k_526, by decide, by decide, by decide +kernel⟩
theorem v_L_98 : VL RL 98 yX4_back cX4_back 1 (some .int) 0 := ⟨k_527, k_528, k_529, k_1, k_530, by decide, by decide, by decide +kernel⟩
theorem v_L_102 : VL RL 102 yX4_told cX4_told 2 (some .int) 1 := ⟨k_531, k_532, k_533, k_1, k_534, by decide, by decide, by decide +kernel⟩
theorem v_X4_189 : VL RX4 189 yX4_tally cX4_tally 2 (some .int) 1 := ⟨k_535, k_537, ks_yX4_tally, k_1, k_538, by decide, by decide, by decide +kernel⟩
theorem v_L_106 : VL RL 106 yX4_digest cX4_digest 5 (some .long) 0 := ⟨k_539, k_540, k_541, k_1, k_542, by decide, by decide, by decide +kernel⟩
theorem v_X4_196 : VL RX4 196 yX4_digestOfNodes cX4_digestOfNodes 7 (some .long) 2 := ⟨k_545, k_547, ks_yX4_digestOfNodes, k_1, k_548, by decide, by decide, by decide +kernel⟩
theorem v_X4_200 : VL RX4 200 yX4_digestOfEdges cX4_digestOfEdges 9 (some .long) 2 := ⟨k_549, k_551, ks_yX4_digestOfEdges, k_1, k_552, by decide, by decide, by decide +kernel⟩
theorem v_X4_247 : VL RX4 247 yX0_flowsOf cX0_flowsOf 2 (some .int) 1 := ⟨k_553, k_301, k_302, k_5, k_303, by decide, by decide, by decide +kernel⟩
theorem v_X5_64 : VL RX5 64 yX5_addProc cX5_addProc 2 (some .int) 0 := ⟨k_560, k_562, ks_yX5_addProc, k_6, k_563, by decide, by decide, by decide +kernel⟩
theorem v_X5_93 : VL RX5 93 yX5_addNode cX5_addNode 4 (some .int) 2 := ⟨k_564, k_566, ks_yX5_addNode, k_6, k_567, by decide, by decide, by decide +kernel⟩
theorem v_L_101 : VL RL 101 yX5_back cX5_back 1 (some .int) 0 := ⟨k_650, k_651, k_652, k_6, k_653, by decide, by decide, by decide +kernel⟩
theorem v_X5_71 : VL RX5 71 yX5_no cX5_no 1 (some .int) 0 := ⟨k_654, k_656, ks_yX5_no, k_6, k_657, by decide, by decide, by decide +kernel⟩
theorem v_X5_85 : VL RX5 85 yX5_takes cX5_takes 3 none 1 := ⟨k_658, k_660, ks_yX5_takes, k_6, k_661, by decide, by decide, by decide +kernel⟩
theorem v_L_17 : VL RL 17 yX5_proc cX5_proc 1 (some .int) 0 := ⟨k_662, k_663, k_664, k_6, k_665, by decide, by decide, by decide +kernel⟩
theorem v_X5_133 : VL RX5 133 yX5_puts cX5_puts 3 none 1 := ⟨k_666, k_668, ks_yX5_puts, k_6, k_669, by decide, by decide, by decide +kernel⟩
theorem v_X5_136 : VL RX5 136 yX5_done cX5_done 2 (some .int) 1 := ⟨k_670, k_672, ks_yX5_done, k_6, k_673, by decide, by decide, by decide +kernel⟩
theorem v_X5_127 : VL RX5 127 yX5_counted cX5_counted 2 (some .int) 1 := ⟨k_674, k_676, ks_yX5_counted, k_6, k_677, by decide, by decide, by decide +kernel⟩
theorem v_X5_68 : VL RX5 68 yX5_bad cX5_bad 1 (some .int) 0 := ⟨k_678, k_680, ks_yX5_bad, k_6, k_681, by decide, by decide, by decide +kernel⟩
theorem v_X5_74 : VL RX5 74 yX5_full cX5_full 1 (some .int) 0 := ⟨k_682, k_684, ks_yX5_full, k_6, k_685, by decide, by decide, by decide +kernel⟩
theorem v_X5_130 : VL RX5 130 yX5_leavesState cX5_leavesState 2 none 0 := ⟨k_686, k_688, ks_yX5_leavesState, k_6, k_689, by decide, by decide, by decide +kernel⟩
theorem v_L_22 : VL RL 22 yX5_node cX5_node 2 (some .int) 1 := ⟨k_690, k_691, k_692, k_6, k_693, by decide, by decide, by decide +kernel⟩
theorem v_X5_139 : VL RX5 139 yX5_addAny cX5_addAny 2 (some .int) 1 := ⟨k_694, k_696, ks_yX5_addAny, k_6, k_697, by decide, by decide, by decide +kernel⟩
theorem v_X5_97 : VL RX5 97 yX5_isProc cX5_isProc 2 (some .boolean) 1 := ⟨k_698, k_700, ks_yX5_isProc, k_6, k_701, by decide, by decide, by decide +kernel⟩
theorem v_X5_89 : SL RX5 89 yX5_in cX5_in 3 (some .boolean) 3 := ⟨k_702, k_703, k_6, k_704, rfl, by decide, by decide, by decide +kernel⟩
theorem v_L_27 : VL RL 27 yX5_edge cX5_edge 3 (some .int) 2 := ⟨k_705, k_706, k_707, k_6, k_708, by decide, by decide, by decide +kernel⟩
theorem v_X5_111 : VL RX5 111 yX5_addEdge cX5_addEdge 6 (some .int) 3 := ⟨k_709, k_711, ks_yX5_addEdge, k_6, k_712, by decide, by decide, by decide +kernel⟩
theorem v_X5_101 : VL RX5 101 yX5_isNode cX5_isNode 2 (some .boolean) 1 := ⟨k_713, k_715, ks_yX5_isNode, k_6, k_716, by decide, by decide, by decide +kernel⟩
theorem v_X5_104 : VL RX5 104 yX5_procOf cX5_procOf 2 (some .int) 1 := ⟨k_717, k_719, ks_yX5_procOf, k_6, k_720, by decide, by decide, by decide +kernel⟩
theorem v_X5_108 : VL RX5 108 yX5_sortOf cX5_sortOf 2 (some .int) 1 := ⟨k_721, k_723, ks_yX5_sortOf, k_6, k_724, by decide, by decide, by decide +kernel⟩
theorem v_L_32 : VL RL 32 yX5_call cX5_call 4 (some .int) 3 := ⟨k_725, k_726, k_727, k_6, k_728, by decide, by decide, by decide +kernel⟩
theorem v_X5_142 : VL RX5 142 yX5_addCall cX5_addCall 4 (some .int) 3 := ⟨k_729, k_731, ks_yX5_addCall, k_6, k_732, by decide, by decide, by decide +kernel⟩
theorem v_L_37 : VL RL 37 yX5_flows cX5_flows 5 (some .int) 4 := ⟨k_733, k_734, k_735, k_6, k_736, by decide, by decide, by decide +kernel⟩
theorem v_X5_145 : VL RX5 145 yX5_setFlow cX5_setFlow 6 (some .int) 4 := ⟨k_737, k_739, ks_yX5_setFlow, k_6, k_740, by decide, by decide, by decide +kernel⟩
theorem v_X5_121 : VL RX5 121 yX5_isFlow cX5_isFlow 4 (some .boolean) 3 := ⟨k_741, k_743, ks_yX5_isFlow, k_6, k_744, by decide, by decide, by decide +kernel⟩
theorem v_X5_115 : VL RX5 115 yX5_isEdge cX5_isEdge 2 (some .boolean) 1 := ⟨k_745, k_747, ks_yX5_isEdge, k_6, k_748, by decide, by decide, by decide +kernel⟩
theorem v_X5_118 : VL RX5 118 yX5_edgeOf cX5_edgeOf 3 (some .int) 2 := ⟨k_749, k_751, ks_yX5_edgeOf, k_6, k_752, by decide, by decide, by decide +kernel⟩
theorem v_X5_124 : VL RX5 124 yX5_flowOf cX5_flowOf 4 (some .int) 3 := ⟨k_753, k_755, ks_yX5_flowOf, k_6, k_756, by decide, by decide, by decide +kernel⟩
theorem v_L_41 : VL RL 41 yX5_starts cX5_starts 2 (some .int) 1 := ⟨k_757, k_758, k_759, k_6, k_760, by decide, by decide, by decide +kernel⟩
theorem v_X5_149 : VL RX5 149 yX5_setStart cX5_setStart 3 (some .int) 1 := ⟨k_761, k_763, ks_yX5_setStart, k_6, k_764, by decide, by decide, by decide +kernel⟩
theorem v_L_45 : VL RL 45 yX5_cuts cX5_cuts 2 (some .int) 1 := ⟨k_765, k_766, k_767, k_6, k_768, by decide, by decide, by decide +kernel⟩
theorem v_X5_152 : VL RX5 152 yX5_cutEdge cX5_cutEdge 3 (some .int) 1 := ⟨k_769, k_771, ks_yX5_cutEdge, k_6, k_772, by decide, by decide, by decide +kernel⟩
theorem v_L_49 : VL RL 49 yX5_at cX5_at 3 (some .int) 2 := ⟨k_773, k_774, k_775, k_6, k_776, by decide, by decide, by decide +kernel⟩
theorem v_L_53 : VL RL 53 yX5_about cX5_about 3 (some .int) 2 := ⟨k_777, k_778, k_779, k_6, k_780, by decide, by decide, by decide +kernel⟩
theorem v_L_57 : VL RL 57 yX5_goes cX5_goes 4 (some .int) 3 := ⟨k_781, k_782, k_783, k_6, k_784, by decide, by decide, by decide +kernel⟩
theorem v_L_61 : VL RL 61 yX5_count cX5_count 2 (some .int) 1 := ⟨k_785, k_786, k_787, k_6, k_788, by decide, by decide, by decide +kernel⟩
theorem v_X5_194 : VL RX5 194 yX5_countOf cX5_countOf 4 (some .int) 1 := ⟨k_789, k_791, ks_yX5_countOf, k_6, k_792, by decide, by decide, by decide +kernel⟩
theorem v_X5_188 : VL RX5 188 yX5_knows cX5_knows 2 none 0 := ⟨k_793, k_795, ks_yX5_knows, k_6, k_796, by decide, by decide, by decide +kernel⟩
theorem v_X5_182 : VL RX5 182 yX5_clearTable cX5_clearTable 2 none 0 := ⟨k_797, k_799, ks_yX5_clearTable, k_6, k_800, by decide, by decide, by decide +kernel⟩
theorem v_X5_164 : VL RX5 164 yX5_comes cX5_comes 7 none 5 := ⟨k_801, k_803, ks_yX5_comes, k_6, k_804, by decide, by decide, by decide +kernel⟩
theorem v_X5_161 : SL RX5 161 yX5_key cX5_key 3 (some .int) 3 := ⟨k_805, k_806, k_6, k_807, rfl, by decide, by decide, by decide +kernel⟩
theorem v_X5_185 : VL RX5 185 yX5_fills cX5_fills 2 none 0 := ⟨k_808, k_810, ks_yX5_fills, k_6, k_811, by decide, by decide, by decide +kernel⟩
theorem v_X5_179 : VL RX5 179 yX5_takesEntry cX5_takesEntry 6 none 1 := ⟨k_812, k_814, ks_yX5_takesEntry, k_6, k_815, by decide, by decide, by decide +kernel⟩
theorem v_X5_172 : VL RX5 172 yX5_allCome cX5_allCome 7 none 5 := ⟨k_816, k_818, ks_yX5_allCome, k_6, k_819, by decide, by decide, by decide +kernel⟩
theorem v_X5_175 : VL RX5 175 yX5_takesCall cX5_takesCall 8 none 2 := ⟨k_820, k_822, ks_yX5_takesCall, k_6, k_823, by decide, by decide, by decide +kernel⟩
theorem v_X5_168 : VL RX5 168 yX5_notes cX5_notes 6 none 4 := ⟨k_824, k_826, ks_yX5_notes, k_6, k_827, by decide, by decide, by decide +kernel⟩
theorem v_X5_191 : VL RX5 191 yX5_held cX5_held 5 (some .int) 1 := ⟨k_828, k_830, ks_yX5_held, k_6, k_831, by decide, by decide, by decide +kernel⟩
theorem v_L_65 : VL RL 65 yX5_holds cX5_holds 2 (some .int) 1 := ⟨k_832, k_833, k_834, k_6, k_835, by decide, by decide, by decide +kernel⟩
theorem v_X5_197 : VL RX5 197 yX5_holdsAt cX5_holdsAt 2 (some .int) 1 := ⟨k_836, k_838, ks_yX5_holdsAt, k_6, k_839, by decide, by decide, by decide +kernel⟩
theorem v_L_69 : VL RL 69 yX5_loose cX5_loose 2 (some .int) 1 := ⟨k_840, k_841, k_842, k_6, k_843, by decide, by decide, by decide +kernel⟩
theorem v_X5_206 : VL RX5 206 yX5_looseAt cX5_looseAt 2 (some .int) 1 := ⟨k_844, k_846, ks_yX5_looseAt, k_6, k_847, by decide, by decide, by decide +kernel⟩
theorem v_X5_203 : VL RX5 203 yX5_loosens cX5_loosens 9 none 0 := ⟨k_848, k_850, ks_yX5_loosens, k_6, k_851, by decide, by decide, by decide +kernel⟩
theorem v_X5_200 : VL RX5 200 yX5_carried cX5_carried 6 (some .int) 3 := ⟨k_852, k_854, ks_yX5_carried, k_6, k_855, by decide, by decide, by decide +kernel⟩
theorem v_L_73 : VL RL 73 yX5_origins cX5_origins 5 (some .int) 2 := ⟨k_856, k_857, k_858, k_6, k_859, by decide, by decide, by decide +kernel⟩
theorem v_L_77 : VL RL 77 yX5_summary cX5_summary 8 (some .int) 2 := ⟨k_860, k_861, k_862, k_6, k_863, by decide, by decide, by decide +kernel⟩
theorem v_L_81 : VL RL 81 yX5_entry cX5_entry 3 (some .int) 2 := ⟨k_864, k_865, k_866, k_6, k_867, by decide, by decide, by decide +kernel⟩
theorem v_L_85 : VL RL 85 yX5_witness cX5_witness 7 (some .int) 3 := ⟨k_868, k_869, k_870, k_6, k_871, by decide, by decide, by decide +kernel⟩
theorem v_X5_215 : VL RX5 215 yX5_spells cX5_spells 5 none 1 := ⟨k_872, k_874, ks_yX5_spells, k_6, k_875, by decide, by decide, by decide +kernel⟩
theorem v_L_89 : VL RL 89 yX5_type cX5_type 2 (some .int) 1 := ⟨k_876, k_877, k_878, k_6, k_879, by decide, by decide, by decide +kernel⟩
theorem v_L_93 : VL RL 93 yX5_clear cX5_clear 2 (some .int) 0 := ⟨k_880, k_881, k_882, k_6, k_883, by decide, by decide, by decide +kernel⟩
theorem v_L_97 : VL RL 97 yX5_does cX5_does 4 (some .int) 0 := ⟨k_884, k_885, k_886, k_6, k_887, by decide, by decide, by decide +kernel⟩
theorem v_X5_230 : VL RX5 230 yX5_blanks cX5_blanks 1 none 0 := ⟨k_888, k_890, ks_yX5_blanks, k_6, k_891, by decide, by decide, by decide +kernel⟩
theorem v_X5_221 : VL RX5 221 yX5_byteAt cX5_byteAt 2 (some .int) 1 := ⟨k_892, k_894, ks_yX5_byteAt, k_6, k_895, by decide, by decide, by decide +kernel⟩
theorem v_X5_242 : VL RX5 242 yX5_reads cX5_reads 5 (some .boolean) 0 := ⟨k_896, k_898, ks_yX5_reads, k_6, k_899, by decide, by decide, by decide +kernel⟩
theorem v_X5_233 : SL RX5 233 yX5_wants cX5_wants 1 (some .int) 1 := ⟨k_900, k_901, k_6, k_902, rfl, by decide, by decide, by decide +kernel⟩
theorem v_X5_239 : VL RX5 239 yX5_number cX5_number 3 (some .int) 0 := ⟨k_903, k_905, ks_yX5_number, k_6, k_906, by decide, by decide, by decide +kernel⟩
theorem v_X5_227 : VL RX5 227 yX5_isFigure cX5_isFigure 2 (some .boolean) 1 := ⟨k_907, k_909, ks_yX5_isFigure, k_6, k_910, by decide, by decide, by decide +kernel⟩
theorem v_X5_246 : VL RX5 246 yX5_acted cX5_acted 6 (some .int) 1 := ⟨k_911, k_913, ks_yX5_acted, k_6, k_914, by decide, by decide, by decide +kernel⟩
theorem v_L_105 : VL RL 105 yX5_told cX5_told 2 (some .int) 1 := ⟨k_915, k_916, k_917, k_6, k_918, by decide, by decide, by decide +kernel⟩
theorem v_X5_249 : VL RX5 249 yX5_toldOf cX5_toldOf 2 (some .int) 1 := ⟨k_919, k_921, ks_yX5_toldOf, k_6, k_922, by decide, by decide, by decide +kernel⟩
theorem v_L_110 : VL RL 110 yX5_digest cX5_digest 5 (some .long) 0 := ⟨k_923, k_924, k_925, k_6, k_926, by decide, by decide, by decide +kernel⟩
theorem v_X0_93 : NL RX0 93 yX4_isFact cX4_isFact 1 (some .boolean) 1 := ⟨⟨"MatchedFlows", by simp [nestW]⟩, k_305, k_1, k_306, by decide, by decide, by decide +kernel⟩
theorem v_X0_96 : NL RX0 96 yX4_isFacts cX4_isFacts 1 (some .boolean) 1 := ⟨⟨"MatchedFlows", by simp [nestW]⟩, k_308, k_1, k_309, by decide, by decide, by decide +kernel⟩
theorem v_X0_67 : NL RX0 67 yX4_has cX4_has 2 (some .boolean) 2 := ⟨⟨"MatchedFlows", by simp [nestW]⟩, k_311, k_1, k_312, by decide, by decide, by decide +kernel⟩
theorem v_X2_53 : NL RX2 53 yX4_has cX4_has 2 (some .boolean) 2 := ⟨⟨"MatchedFlows", by simp [nestW]⟩, k_311, k_1, k_312, by decide, by decide, by decide +kernel⟩
theorem v_X2_62 : NL RX2 62 yX4_cell cX4_cell 2 (some .int) 2 := ⟨⟨"MatchedFlows", by simp [nestW]⟩, k_366, k_1, k_367, by decide, by decide, by decide +kernel⟩
theorem kc_275 : Cond.constantLong RX0 88 (lI (-9205322385119247871)) ∈ TT := by
  have h := k_275
  have e : (-9205322385119247871 : Int64) = lI (-9205322385119247871) := by decide
  rw [e] at h; exact h
theorem kc_317 : Cond.constantLong RX0 99 (lI (255)) ∈ TT := by
  have h := k_317
  have e : (255 : Int64) = lI (255) := by decide
  rw [e] at h; exact h
theorem kc_318 : Cond.constantLong RX0 101 (lI (-1)) ∈ TT := by
  have h := k_318
  have e : (-1 : Int64) = lI (-1) := by decide
  rw [e] at h; exact h
theorem kc_543 : Cond.constantLong RX4 192 (lI (1807)) ∈ TT := by
  have h := k_543
  have e : (1807 : Int64) = lI (1807) := by decide
  rw [e] at h; exact h
theorem kc_544 : Cond.constantLong RX4 194 (lI (31)) ∈ TT := by
  have h := k_544
  have e : (31 : Int64) = lI (31) := by decide
  rw [e] at h; exact h
theorem kc_927 : Cond.constantLong RX5 252 (lI (1807)) ∈ TT := by
  have h := k_927
  have e : (1807 : Int64) = lI (1807) := by decide
  rw [e] at h; exact h
theorem kc_928 : Cond.constantLong RX5 254 (lI (31)) ∈ TT := by
  have h := k_928
  have e : (31 : Int64) = lI (31) := by decide
  rw [e] at h; exact h
theorem km_static : Cond.static Lib.Math.min.name ∈ TT := k_237
theorem km_code : Cond.code Lib.Math.min.name Lib.Math.min.code 2 (some .int) ∈ TT := k_238
