theorem gd_X0 : ∀ w ∈ u_ws RX0 TX0 3, fx_good w = true := by decide +kernel
theorem fL_0 : fx_L 0 := fun C T N h => by cases h; exact ⟨nmX0, tyX0, tyX0_ok⟩
theorem fT_0_0 : fx_T 0 0 true "TapeEnd$Seeker" .int := fun q h => by cases h; exact ⟨rfl, rfl, by decide +kernel⟩
theorem fT_0_1 : fx_T 0 1 true "TapeEnd$Seeker" .int := fun q h => by cases h; exact ⟨rfl, rfl, by decide +kernel⟩
theorem fT_0_2 : fx_T 0 2 true "TapeEnd$Seeker" .int := fun q h => by cases h; exact ⟨rfl, rfl, by decide +kernel⟩
theorem gd_X1 : ∀ w ∈ u_ws RX1 TX1 3, fx_good w = true := by decide +kernel
theorem fL_1 : fx_L 1 := fun C T N h => by cases h; exact ⟨nmX1, tyX1, tyX1_ok⟩
theorem fT_1_0 : fx_T 1 0 true "TapeEnd$Seeker" .int := fun q h => by cases h; exact ⟨rfl, rfl, by decide +kernel⟩
theorem fT_1_1 : fx_T 1 1 true "TapeEnd$Seeker" .int := fun q h => by cases h; exact ⟨rfl, rfl, by decide +kernel⟩
theorem fT_1_2 : fx_T 1 2 true "TapeEnd$Seeker" .int := fun q h => by cases h; exact ⟨rfl, rfl, by decide +kernel⟩
theorem gd_X2 : ∀ w ∈ u_ws RX2 TX2 9, fx_good w = true := by decide +kernel
theorem fL_2 : fx_L 2 := fun C T N h => by cases h; exact ⟨nmX2, tyX2, tyX2_ok⟩
theorem fT_2_0 : fx_T 2 0 true "TapeEnd$Law" (.array .int) := fun q h => by cases h; exact ⟨rfl, rfl, by decide +kernel⟩
theorem fT_2_1 : fx_T 2 1 true "TapeEnd$Law" (.array .int) := fun q h => by cases h; exact ⟨rfl, rfl, by decide +kernel⟩
theorem fT_2_2 : fx_T 2 2 true "TapeEnd$Law" (.array (.object "TapeEnd$Seeker")) := fun q h => by cases h; exact ⟨rfl, rfl, by decide +kernel⟩
theorem fT_2_3 : fx_T 2 3 false "TapeEnd$Law" .int := fun q h => by cases h; exact ⟨rfl, rfl, by decide +kernel⟩
theorem fT_2_4 : fx_T 2 4 false "TapeEnd$Law" .int := fun q h => by cases h; exact ⟨rfl, rfl, by decide +kernel⟩
theorem fT_2_5 : fx_T 2 5 false "TapeEnd$Law" .int := fun q h => by cases h; exact ⟨rfl, rfl, by decide +kernel⟩
theorem fT_2_6 : fx_T 2 6 false "TapeEnd$Law" .int := fun q h => by cases h; exact ⟨rfl, rfl, by decide +kernel⟩
theorem fT_2_7 : fx_T 2 7 false "TapeEnd$Law" .int := fun q h => by cases h; exact ⟨rfl, rfl, by decide +kernel⟩
theorem fT_2_8 : fx_T 2 8 false "TapeEnd$Law" .int := fun q h => by cases h; exact ⟨rfl, rfl, by decide +kernel⟩
theorem gd_X3 : ∀ w ∈ u_ws RX3 TX3 3, fx_good w = true := by decide +kernel
theorem fL_3 : fx_L 3 := fun C T N h => by cases h; exact ⟨nmX3, tyX3, tyX3_ok⟩
theorem fT_3_0 : fx_T 3 0 true "TapeEnd$Seeker" .int := fun q h => by cases h; exact ⟨rfl, rfl, by decide +kernel⟩
theorem fT_3_1 : fx_T 3 1 true "TapeEnd$Seeker" .int := fun q h => by cases h; exact ⟨rfl, rfl, by decide +kernel⟩
theorem fT_3_2 : fx_T 3 2 true "TapeEnd$Seeker" .int := fun q h => by cases h; exact ⟨rfl, rfl, by decide +kernel⟩
theorem gd_X4 : ∀ w ∈ u_ws RX4 TX4 8, fx_good w = true := by decide +kernel
theorem fL_4 : fx_L 4 := fun C T N h => by cases h; exact ⟨nmX4, tyX4, tyX4_ok⟩
theorem fT_4_0 : fx_T 4 0 true "TapeEnd$Roll" (.array .long) := fun q h => by cases h; exact ⟨rfl, rfl, by decide +kernel⟩
theorem fT_4_1 : fx_T 4 1 false "TapeEnd$Roll" (.object "TapeEnd$Law") := fun q h => by cases h; exact ⟨rfl, rfl, by decide +kernel⟩
theorem fT_4_2 : fx_T 4 2 false "TapeEnd$Roll" .int := fun q h => by cases h; exact ⟨rfl, rfl, by decide +kernel⟩
theorem fT_4_3 : fx_T 4 3 false "TapeEnd$Roll" .int := fun q h => by cases h; exact ⟨rfl, rfl, by decide +kernel⟩
theorem fT_4_4 : fx_T 4 4 false "TapeEnd$Roll" .int := fun q h => by cases h; exact ⟨rfl, rfl, by decide +kernel⟩
theorem fT_4_5 : fx_T 4 5 false "TapeEnd$Roll" .int := fun q h => by cases h; exact ⟨rfl, rfl, by decide +kernel⟩
theorem fT_4_6 : fx_T 4 6 false "TapeEnd$Roll" .int := fun q h => by cases h; exact ⟨rfl, rfl, by decide +kernel⟩
theorem fT_4_7 : fx_T 4 7 false "TapeEnd$Roll" .int := fun q h => by cases h; exact ⟨rfl, rfl, by decide +kernel⟩
theorem gd_X5 : ∀ w ∈ u_ws RX5 TX5 3, fx_good w = true := by decide +kernel
theorem fL_5 : fx_L 5 := fun C T N h => by cases h; exact ⟨nmX5, tyX5, tyX5_ok⟩
theorem fT_5_0 : fx_T 5 0 true "TapeEnd$Seeker" .int := fun q h => by cases h; exact ⟨rfl, rfl, by decide +kernel⟩
theorem fT_5_1 : fx_T 5 1 true "TapeEnd$Seeker" .int := fun q h => by cases h; exact ⟨rfl, rfl, by decide +kernel⟩
theorem fT_5_2 : fx_T 5 2 true "TapeEnd$Seeker" .int := fun q h => by cases h; exact ⟨rfl, rfl, by decide +kernel⟩
theorem gd_X6 : ∀ w ∈ u_ws RX6 TX6 4, fx_good w = true := by decide +kernel
theorem fL_6 : fx_L 6 := fun C T N h => by cases h; exact ⟨nmX6, tyX6, tyX6_ok⟩
theorem fT_6_0 : fx_T 6 0 true "TapeEnd$Row" (.array .int) := fun q h => by cases h; exact ⟨rfl, rfl, by decide +kernel⟩
theorem fT_6_1 : fx_T 6 1 false "TapeEnd$Row" .boolean := fun q h => by cases h; exact ⟨rfl, rfl, by decide +kernel⟩
theorem fT_6_2 : fx_T 6 2 false "TapeEnd$Row" .int := fun q h => by cases h; exact ⟨rfl, rfl, by decide +kernel⟩
theorem fT_6_3 : fx_T 6 3 false "TapeEnd$Row" .int := fun q h => by cases h; exact ⟨rfl, rfl, by decide +kernel⟩
theorem gd_X8 : ∀ w ∈ u_ws RX8 TX8 3, fx_good w = true := by decide +kernel
theorem fL_7 : fx_L 7 := fun C T N h => by cases h; exact ⟨nmX8, tyX8, tyX8_ok⟩
theorem fT_7_0 : fx_T 7 0 true "TapeEnd$Seeker" .int := fun q h => by cases h; exact ⟨rfl, rfl, by decide +kernel⟩
theorem fT_7_1 : fx_T 7 1 true "TapeEnd$Seeker" .int := fun q h => by cases h; exact ⟨rfl, rfl, by decide +kernel⟩
theorem fT_7_2 : fx_T 7 2 true "TapeEnd$Seeker" .int := fun q h => by cases h; exact ⟨rfl, rfl, by decide +kernel⟩
theorem gd_X9 : ∀ w ∈ u_ws RX9 TX9 4, fx_good w = true := by decide +kernel
theorem fL_8 : fx_L 8 := fun C T N h => by cases h; exact ⟨nmX9, tyX9, tyX9_ok⟩
theorem fT_8_0 : fx_T 8 0 true "TapeEnd$Tape" (.array .int) := fun q h => by cases h; exact ⟨rfl, rfl, by decide +kernel⟩
theorem fT_8_1 : fx_T 8 1 false "TapeEnd$Tape" .int := fun q h => by cases h; exact ⟨rfl, rfl, by decide +kernel⟩
theorem fT_8_2 : fx_T 8 2 false "TapeEnd$Tape" .int := fun q h => by cases h; exact ⟨rfl, rfl, by decide +kernel⟩
theorem fT_8_3 : fx_T 8 3 false "TapeEnd$Tape" .int := fun q h => by cases h; exact ⟨rfl, rfl, by decide +kernel⟩
theorem gd_X10 : ∀ w ∈ u_ws RX10 TX10 2, fx_good w = true := by decide +kernel
theorem fL_9 : fx_L 9 := fun C T N h => by cases h; exact ⟨nmX10, tyX10, tyX10_ok⟩
theorem fT_9_0 : fx_T 9 0 true "TapeEnd$Trace" (.array .int) := fun q h => by cases h; exact ⟨rfl, rfl, by decide +kernel⟩
theorem fT_9_1 : fx_T 9 1 false "TapeEnd$Trace" .int := fun q h => by cases h; exact ⟨rfl, rfl, by decide +kernel⟩
theorem gd_X11 : ∀ w ∈ u_ws RX11 TX11 11, fx_good w = true := by decide +kernel
theorem fL_10 : fx_L 10 := fun C T N h => by cases h; exact ⟨nmX11, tyX11, tyX11_ok⟩
theorem fT_10_0 : fx_T 10 0 true "TapeEnd" (.array (.object "TapeEnd$Row")) := fun q h => by cases h; exact ⟨rfl, rfl, by decide +kernel⟩
theorem fT_10_1 : fx_T 10 1 true "TapeEnd" (.object "TapeEnd$Tape") := fun q h => by cases h; exact ⟨rfl, rfl, by decide +kernel⟩
theorem fT_10_2 : fx_T 10 2 true "TapeEnd" (.object "TapeEnd$Trace") := fun q h => by cases h; exact ⟨rfl, rfl, by decide +kernel⟩
theorem fT_10_3 : fx_T 10 3 true "TapeEnd" (.object "TapeEnd$Roll") := fun q h => by cases h; exact ⟨rfl, rfl, by decide +kernel⟩
theorem fT_10_4 : fx_T 10 4 true "TapeEnd" (.object "TapeEnd$Roll") := fun q h => by cases h; exact ⟨rfl, rfl, by decide +kernel⟩
theorem fT_10_5 : fx_T 10 5 true "TapeEnd" (.array (.object "TapeEnd$Roll")) := fun q h => by cases h; exact ⟨rfl, rfl, by decide +kernel⟩
theorem fT_10_6 : fx_T 10 6 true "TapeEnd" (.array (.object "TapeEnd$Roll")) := fun q h => by cases h; exact ⟨rfl, rfl, by decide +kernel⟩
theorem fT_10_7 : fx_T 10 7 false "TapeEnd" .int := fun q h => by cases h; exact ⟨rfl, rfl, by decide +kernel⟩
theorem fT_10_8 : fx_T 10 8 false "TapeEnd" .int := fun q h => by cases h; exact ⟨rfl, rfl, by decide +kernel⟩
theorem fT_10_9 : fx_T 10 9 false "TapeEnd" .int := fun q h => by cases h; exact ⟨rfl, rfl, by decide +kernel⟩
theorem fT_10_10 : fx_T 10 10 false "TapeEnd" .int := fun q h => by cases h; exact ⟨rfl, rfl, by decide +kernel⟩
theorem gd_X12 : ∀ w ∈ u_ws RX12 TX12 26, fx_good w = true := by decide +kernel
theorem fL_11 : fx_L 11 := fun C T N h => by cases h; exact ⟨nmX12, tyX12, tyX12_ok⟩
theorem fT_11_0 : fx_T 11 0 false "TapeEndModel" .int := fun q h => by cases h; exact ⟨rfl, rfl, by decide +kernel⟩
theorem fT_11_1 : fx_T 11 1 false "TapeEndModel" .int := fun q h => by cases h; exact ⟨rfl, rfl, by decide +kernel⟩
theorem fT_11_2 : fx_T 11 2 true "TapeEndModel" (.array .int) := fun q h => by cases h; exact ⟨rfl, rfl, by decide +kernel⟩
theorem fT_11_3 : fx_T 11 3 true "TapeEndModel" (.array .int) := fun q h => by cases h; exact ⟨rfl, rfl, by decide +kernel⟩
theorem fT_11_4 : fx_T 11 4 true "TapeEndModel" (.array .int) := fun q h => by cases h; exact ⟨rfl, rfl, by decide +kernel⟩
theorem fT_11_5 : fx_T 11 5 true "TapeEndModel" (.array .int) := fun q h => by cases h; exact ⟨rfl, rfl, by decide +kernel⟩
theorem fT_11_6 : fx_T 11 6 true "TapeEndModel" (.array .int) := fun q h => by cases h; exact ⟨rfl, rfl, by decide +kernel⟩
theorem fT_11_7 : fx_T 11 7 true "TapeEndModel" (.array .long) := fun q h => by cases h; exact ⟨rfl, rfl, by decide +kernel⟩
theorem fT_11_8 : fx_T 11 8 true "TapeEndModel" (.array .int) := fun q h => by cases h; exact ⟨rfl, rfl, by decide +kernel⟩
theorem fT_11_9 : fx_T 11 9 true "TapeEndModel" (.array .long) := fun q h => by cases h; exact ⟨rfl, rfl, by decide +kernel⟩
theorem fT_11_10 : fx_T 11 10 false "TapeEndModel" .int := fun q h => by cases h; exact ⟨rfl, rfl, by decide +kernel⟩
theorem fT_11_11 : fx_T 11 11 true "TapeEndModel" (.array .int) := fun q h => by cases h; exact ⟨rfl, rfl, by decide +kernel⟩
theorem fT_11_12 : fx_T 11 12 false "TapeEndModel" .int := fun q h => by cases h; exact ⟨rfl, rfl, by decide +kernel⟩
theorem fT_11_13 : fx_T 11 13 false "TapeEndModel" .int := fun q h => by cases h; exact ⟨rfl, rfl, by decide +kernel⟩
theorem fT_11_14 : fx_T 11 14 false "TapeEndModel" .int := fun q h => by cases h; exact ⟨rfl, rfl, by decide +kernel⟩
theorem fT_11_15 : fx_T 11 15 false "TapeEndModel" .int := fun q h => by cases h; exact ⟨rfl, rfl, by decide +kernel⟩
theorem fT_11_16 : fx_T 11 16 false "TapeEndModel" .int := fun q h => by cases h; exact ⟨rfl, rfl, by decide +kernel⟩
theorem fT_11_17 : fx_T 11 17 false "TapeEndModel" .int := fun q h => by cases h; exact ⟨rfl, rfl, by decide +kernel⟩
theorem fT_11_18 : fx_T 11 18 false "TapeEndModel" .int := fun q h => by cases h; exact ⟨rfl, rfl, by decide +kernel⟩
theorem fT_11_19 : fx_T 11 19 false "TapeEndModel" .int := fun q h => by cases h; exact ⟨rfl, rfl, by decide +kernel⟩
theorem fT_11_20 : fx_T 11 20 true "TapeEndModel" (.array .long) := fun q h => by cases h; exact ⟨rfl, rfl, by decide +kernel⟩
theorem fT_11_21 : fx_T 11 21 true "TapeEndModel" (.array .boolean) := fun q h => by cases h; exact ⟨rfl, rfl, by decide +kernel⟩
theorem fT_11_22 : fx_T 11 22 true "TapeEndModel" (.array .int) := fun q h => by cases h; exact ⟨rfl, rfl, by decide +kernel⟩
theorem fT_11_23 : fx_T 11 23 true "TapeEndModel" (.array .long) := fun q h => by cases h; exact ⟨rfl, rfl, by decide +kernel⟩
theorem fT_11_24 : fx_T 11 24 true "TapeEndModel" (.array .int) := fun q h => by cases h; exact ⟨rfl, rfl, by decide +kernel⟩
theorem fT_11_25 : fx_T 11 25 false "TapeEndModel" .int := fun q h => by cases h; exact ⟨rfl, rfl, by decide +kernel⟩
theorem ff_X9_9_8 : fx_F RX9 9 8 0 := ⟨RX9, TX9, 4, "TapeEnd$Tape", rfl, by decide, inX9, gd_X9, fl_X9_9, Or.inl rfl⟩
theorem ff_X9_15_8 : fx_F RX9 15 8 1 := ⟨RX9, TX9, 4, "TapeEnd$Tape", rfl, by decide, inX9, gd_X9, fl_X9_15, Or.inl rfl⟩
theorem ff_X11_101_8 : fx_F RX11 101 8 1 := ⟨RX9, TX9, 4, "TapeEnd$Tape", rfl, by decide, inX9, gd_X9, fl_X11_101, Or.inl rfl⟩
theorem ff_X9_19_8 : fx_F RX9 19 8 2 := ⟨RX9, TX9, 4, "TapeEnd$Tape", rfl, by decide, inX9, gd_X9, fl_X9_19, Or.inl rfl⟩
theorem ff_X11_118_8 : fx_F RX11 118 8 2 := ⟨RX9, TX9, 4, "TapeEnd$Tape", rfl, by decide, inX9, gd_X9, fl_X11_118, Or.inl rfl⟩
theorem ff_X9_22_8 : fx_F RX9 22 8 3 := ⟨RX9, TX9, 4, "TapeEnd$Tape", rfl, by decide, inX9, gd_X9, fl_X9_22, Or.inl rfl⟩
theorem ff_X11_111_8 : fx_F RX11 111 8 3 := ⟨RX9, TX9, 4, "TapeEnd$Tape", rfl, by decide, inX9, gd_X9, fl_X11_111, Or.inl rfl⟩
theorem ff_X10_9_9 : fx_F RX10 9 9 0 := ⟨RX10, TX10, 2, "TapeEnd$Trace", rfl, by decide, inX10, gd_X10, fl_X10_9, Or.inl rfl⟩
theorem ff_X11_303_9 : fx_F RX11 303 9 0 := ⟨RX10, TX10, 2, "TapeEnd$Trace", rfl, by decide, inX10, gd_X10, fl_X11_303, Or.inl rfl⟩
theorem ff_X10_15_9 : fx_F RX10 15 9 1 := ⟨RX10, TX10, 2, "TapeEnd$Trace", rfl, by decide, inX10, gd_X10, fl_X10_15, Or.inl rfl⟩
theorem ff_X11_295_9 : fx_F RX11 295 9 1 := ⟨RX10, TX10, 2, "TapeEnd$Trace", rfl, by decide, inX10, gd_X10, fl_X11_295, Or.inl rfl⟩
theorem ff_X2_9_2 : fx_F RX2 9 2 0 := ⟨RX2, TX2, 9, "TapeEnd$Law", rfl, by decide, inX2, gd_X2, fl_X2_9, Or.inl rfl⟩
theorem ff_X4_44_2 : fx_F RX4 44 2 0 := ⟨RX2, TX2, 9, "TapeEnd$Law", rfl, by decide, inX2, gd_X2, fl_X4_44, Or.inl rfl⟩
theorem ff_X9_72_2 : fx_F RX9 72 2 0 := ⟨RX2, TX2, 9, "TapeEnd$Law", rfl, by decide, inX2, gd_X2, fl_X9_72, Or.inl rfl⟩
theorem ff_X11_201_2 : fx_F RX11 201 2 0 := ⟨RX2, TX2, 9, "TapeEnd$Law", rfl, by decide, inX2, gd_X2, fl_X11_201, Or.inl rfl⟩
theorem ff_X2_15_2 : fx_F RX2 15 2 1 := ⟨RX2, TX2, 9, "TapeEnd$Law", rfl, by decide, inX2, gd_X2, fl_X2_15, Or.inl rfl⟩
theorem ff_X4_63_2 : fx_F RX4 63 2 1 := ⟨RX2, TX2, 9, "TapeEnd$Law", rfl, by decide, inX2, gd_X2, fl_X4_63, Or.inl rfl⟩
theorem ff_X9_78_2 : fx_F RX9 78 2 1 := ⟨RX2, TX2, 9, "TapeEnd$Law", rfl, by decide, inX2, gd_X2, fl_X9_78, Or.inl rfl⟩
theorem ff_X11_204_2 : fx_F RX11 204 2 1 := ⟨RX2, TX2, 9, "TapeEnd$Law", rfl, by decide, inX2, gd_X2, fl_X11_204, Or.inl rfl⟩
theorem ff_X2_20_2 : fx_F RX2 20 2 2 := ⟨RX2, TX2, 9, "TapeEnd$Law", rfl, by decide, inX2, gd_X2, fl_X2_20, Or.inl rfl⟩
theorem ff_X9_84_2 : fx_F RX9 84 2 2 := ⟨RX2, TX2, 9, "TapeEnd$Law", rfl, by decide, inX2, gd_X2, fl_X9_84, Or.inl rfl⟩
theorem ff_X11_313_2 : fx_F RX11 313 2 2 := ⟨RX2, TX2, 9, "TapeEnd$Law", rfl, by decide, inX2, gd_X2, fl_X11_313, Or.inl rfl⟩
theorem ff_X2_24_2 : fx_F RX2 24 2 3 := ⟨RX2, TX2, 9, "TapeEnd$Law", rfl, by decide, inX2, gd_X2, fl_X2_24, Or.inl rfl⟩
theorem ff_X4_39_2 : fx_F RX4 39 2 3 := ⟨RX2, TX2, 9, "TapeEnd$Law", rfl, by decide, inX2, gd_X2, fl_X4_39, Or.inl rfl⟩
theorem ff_X9_60_2 : fx_F RX9 60 2 3 := ⟨RX2, TX2, 9, "TapeEnd$Law", rfl, by decide, inX2, gd_X2, fl_X9_60, Or.inl rfl⟩
theorem ff_X11_127_2 : fx_F RX11 127 2 3 := ⟨RX2, TX2, 9, "TapeEnd$Law", rfl, by decide, inX2, gd_X2, fl_X11_127, Or.inl rfl⟩
theorem ff_X9_63_2 : fx_F RX9 63 2 4 := ⟨RX2, TX2, 9, "TapeEnd$Law", rfl, by decide, inX2, gd_X2, fl_X9_63, Or.inl rfl⟩
theorem ff_X4_73_2 : fx_F RX4 73 2 4 := ⟨RX2, TX2, 9, "TapeEnd$Law", rfl, by decide, inX2, gd_X2, fl_X4_73, Or.inl rfl⟩
theorem ff_X9_66_2 : fx_F RX9 66 2 5 := ⟨RX2, TX2, 9, "TapeEnd$Law", rfl, by decide, inX2, gd_X2, fl_X9_66, Or.inl rfl⟩
theorem ff_X4_76_2 : fx_F RX4 76 2 5 := ⟨RX2, TX2, 9, "TapeEnd$Law", rfl, by decide, inX2, gd_X2, fl_X4_76, Or.inl rfl⟩
theorem ff_X4_48_2 : fx_F RX4 48 2 6 := ⟨RX2, TX2, 9, "TapeEnd$Law", rfl, by decide, inX2, gd_X2, fl_X4_48, Or.inl rfl⟩
theorem ff_X2_34_2 : fx_F RX2 34 2 6 := ⟨RX2, TX2, 9, "TapeEnd$Law", rfl, by decide, inX2, gd_X2, fl_X2_34, Or.inl rfl⟩
theorem ff_X9_69_2 : fx_F RX9 69 2 6 := ⟨RX2, TX2, 9, "TapeEnd$Law", rfl, by decide, inX2, gd_X2, fl_X9_69, Or.inl rfl⟩
theorem ff_X9_75_2 : fx_F RX9 75 2 7 := ⟨RX2, TX2, 9, "TapeEnd$Law", rfl, by decide, inX2, gd_X2, fl_X9_75, Or.inl rfl⟩
theorem ff_X11_309_2 : fx_F RX11 309 2 7 := ⟨RX2, TX2, 9, "TapeEnd$Law", rfl, by decide, inX2, gd_X2, fl_X11_309, Or.inl rfl⟩
theorem ff_X9_81_2 : fx_F RX9 81 2 8 := ⟨RX2, TX2, 9, "TapeEnd$Law", rfl, by decide, inX2, gd_X2, fl_X9_81, Or.inl rfl⟩
theorem ff_X11_258_2 : fx_F RX11 258 2 8 := ⟨RX2, TX2, 9, "TapeEnd$Law", rfl, by decide, inX2, gd_X2, fl_X11_258, Or.inl rfl⟩
theorem ff_X4_9_4 : fx_F RX4 9 4 0 := ⟨RX4, TX4, 8, "TapeEnd$Roll", rfl, by decide, inX4, gd_X4, fl_X4_9, Or.inl rfl⟩
theorem ff_X11_221_4 : fx_F RX11 221 4 0 := ⟨RX4, TX4, 8, "TapeEnd$Roll", rfl, by decide, inX4, gd_X4, fl_X11_221, Or.inl rfl⟩
theorem ff_X4_23_4 : fx_F RX4 23 4 1 := ⟨RX4, TX4, 8, "TapeEnd$Roll", rfl, by decide, inX4, gd_X4, fl_X4_23, Or.inl rfl⟩
theorem ff_X5_7_4 : fx_F RX5 7 4 1 := ⟨RX4, TX4, 8, "TapeEnd$Roll", rfl, by decide, inX4, gd_X4, fl_X5_7, Or.inl rfl⟩
theorem ff_X0_13_4 : fx_F RX0 13 4 1 := ⟨RX4, TX4, 8, "TapeEnd$Roll", rfl, by decide, inX4, gd_X4, fl_X0_13, Or.inl rfl⟩
theorem ff_X11_197_4 : fx_F RX11 197 4 1 := ⟨RX4, TX4, 8, "TapeEnd$Roll", rfl, by decide, inX4, gd_X4, fl_X11_197, Or.inl rfl⟩
theorem ff_X4_27_4 : fx_F RX4 27 4 2 := ⟨RX4, TX4, 8, "TapeEnd$Roll", rfl, by decide, inX4, gd_X4, fl_X4_27, Or.inl rfl⟩
theorem ff_X3_7_4 : fx_F RX3 7 4 2 := ⟨RX4, TX4, 8, "TapeEnd$Roll", rfl, by decide, inX4, gd_X4, fl_X3_7, Or.inl rfl⟩
theorem ff_X5_13_4 : fx_F RX5 13 4 2 := ⟨RX4, TX4, 8, "TapeEnd$Roll", rfl, by decide, inX4, gd_X4, fl_X5_13, Or.inl rfl⟩
theorem ff_X0_17_4 : fx_F RX0 17 4 2 := ⟨RX4, TX4, 8, "TapeEnd$Roll", rfl, by decide, inX4, gd_X4, fl_X0_17, Or.inl rfl⟩
theorem ff_X8_16_4 : fx_F RX8 16 4 2 := ⟨RX4, TX4, 8, "TapeEnd$Roll", rfl, by decide, inX4, gd_X4, fl_X8_16, Or.inl rfl⟩
theorem ff_X11_166_4 : fx_F RX11 166 4 2 := ⟨RX4, TX4, 8, "TapeEnd$Roll", rfl, by decide, inX4, gd_X4, fl_X11_166, Or.inl rfl⟩
theorem ff_X4_15_4 : fx_F RX4 15 4 3 := ⟨RX4, TX4, 8, "TapeEnd$Roll", rfl, by decide, inX4, gd_X4, fl_X4_15, Or.inl rfl⟩
theorem ff_X5_17_4 : fx_F RX5 17 4 3 := ⟨RX4, TX4, 8, "TapeEnd$Roll", rfl, by decide, inX4, gd_X4, fl_X5_17, Or.inl rfl⟩
theorem ff_X0_20_4 : fx_F RX0 20 4 3 := ⟨RX4, TX4, 8, "TapeEnd$Roll", rfl, by decide, inX4, gd_X4, fl_X0_20, Or.inl rfl⟩
theorem ff_X11_172_4 : fx_F RX11 172 4 3 := ⟨RX4, TX4, 8, "TapeEnd$Roll", rfl, by decide, inX4, gd_X4, fl_X11_172, Or.inl rfl⟩
theorem ff_X4_30_4 : fx_F RX4 30 4 4 := ⟨RX4, TX4, 8, "TapeEnd$Roll", rfl, by decide, inX4, gd_X4, fl_X4_30, Or.inl rfl⟩
theorem ff_X11_191_4 : fx_F RX11 191 4 4 := ⟨RX4, TX4, 8, "TapeEnd$Roll", rfl, by decide, inX4, gd_X4, fl_X11_191, Or.inl rfl⟩
theorem ff_X4_33_4 : fx_F RX4 33 4 5 := ⟨RX4, TX4, 8, "TapeEnd$Roll", rfl, by decide, inX4, gd_X4, fl_X4_33, Or.inl rfl⟩
theorem ff_X11_153_4 : fx_F RX11 153 4 5 := ⟨RX4, TX4, 8, "TapeEnd$Roll", rfl, by decide, inX4, gd_X4, fl_X11_153, Or.inl rfl⟩
theorem ff_X4_36_4 : fx_F RX4 36 4 6 := ⟨RX4, TX4, 8, "TapeEnd$Roll", rfl, by decide, inX4, gd_X4, fl_X4_36, Or.inl rfl⟩
theorem ff_X0_7_4 : fx_F RX0 7 4 6 := ⟨RX4, TX4, 8, "TapeEnd$Roll", rfl, by decide, inX4, gd_X4, fl_X0_7, Or.inl rfl⟩
theorem ff_X11_194_4 : fx_F RX11 194 4 6 := ⟨RX4, TX4, 8, "TapeEnd$Roll", rfl, by decide, inX4, gd_X4, fl_X11_194, Or.inl rfl⟩
theorem ff_X4_20_4 : fx_F RX4 20 4 7 := ⟨RX4, TX4, 8, "TapeEnd$Roll", rfl, by decide, inX4, gd_X4, fl_X4_20, Or.inl rfl⟩
theorem ff_X8_9_4 : fx_F RX8 9 4 7 := ⟨RX4, TX4, 8, "TapeEnd$Roll", rfl, by decide, inX4, gd_X4, fl_X8_9, Or.inl rfl⟩
theorem ff_X11_188_4 : fx_F RX11 188 4 7 := ⟨RX4, TX4, 8, "TapeEnd$Roll", rfl, by decide, inX4, gd_X4, fl_X11_188, Or.inl rfl⟩
theorem ff_X6_9_6 : fx_F RX6 9 6 0 := ⟨RX6, TX6, 4, "TapeEnd$Row", rfl, by decide, inX6, gd_X6, fl_X6_9, Or.inl rfl⟩
theorem ff_X11_88_6 : fx_F RX11 88 6 0 := ⟨RX6, TX6, 4, "TapeEnd$Row", rfl, by decide, inX6, gd_X6, fl_X11_88, Or.inl rfl⟩
theorem ff_X6_15_6 : fx_F RX6 15 6 1 := ⟨RX6, TX6, 4, "TapeEnd$Row", rfl, by decide, inX6, gd_X6, fl_X6_15, Or.inl rfl⟩
theorem ff_X11_72_6 : fx_F RX11 72 6 1 := ⟨RX6, TX6, 4, "TapeEnd$Row", rfl, by decide, inX6, gd_X6, fl_X11_72, Or.inl rfl⟩
theorem ff_X6_19_6 : fx_F RX6 19 6 2 := ⟨RX6, TX6, 4, "TapeEnd$Row", rfl, by decide, inX6, gd_X6, fl_X6_19, Or.inl rfl⟩
theorem ff_X11_84_6 : fx_F RX11 84 6 2 := ⟨RX6, TX6, 4, "TapeEnd$Row", rfl, by decide, inX6, gd_X6, fl_X11_84, Or.inl rfl⟩
theorem ff_X6_23_6 : fx_F RX6 23 6 3 := ⟨RX6, TX6, 4, "TapeEnd$Row", rfl, by decide, inX6, gd_X6, fl_X6_23, Or.inl rfl⟩
theorem ff_X11_98_6 : fx_F RX11 98 6 3 := ⟨RX6, TX6, 4, "TapeEnd$Row", rfl, by decide, inX6, gd_X6, fl_X11_98, Or.inl rfl⟩
theorem ff_X11_11_10 : fx_F RX11 11 10 0 := ⟨RX11, TX11, 11, "TapeEnd", rfl, by decide, inX11, gd_X11, fl_X11_11, Or.inl rfl⟩
theorem ff_X11_18_10 : fx_F RX11 18 10 1 := ⟨RX11, TX11, 11, "TapeEnd", rfl, by decide, inX11, gd_X11, fl_X11_18, Or.inl rfl⟩
theorem ff_X11_25_10 : fx_F RX11 25 10 2 := ⟨RX11, TX11, 11, "TapeEnd", rfl, by decide, inX11, gd_X11, fl_X11_25, Or.inl rfl⟩
theorem ff_X11_44_10 : fx_F RX11 44 10 3 := ⟨RX11, TX11, 11, "TapeEnd", rfl, by decide, inX11, gd_X11, fl_X11_44, Or.inl rfl⟩
theorem ff_X11_48_10 : fx_F RX11 48 10 4 := ⟨RX11, TX11, 11, "TapeEnd", rfl, by decide, inX11, gd_X11, fl_X11_48, Or.inl rfl⟩
theorem ff_X11_31_10 : fx_F RX11 31 10 5 := ⟨RX11, TX11, 11, "TapeEnd", rfl, by decide, inX11, gd_X11, fl_X11_31, Or.inl rfl⟩
theorem ff_X11_35_10 : fx_F RX11 35 10 6 := ⟨RX11, TX11, 11, "TapeEnd", rfl, by decide, inX11, gd_X11, fl_X11_35, Or.inl rfl⟩
theorem ff_X11_134_10 : fx_F RX11 134 10 7 := ⟨RX11, TX11, 11, "TapeEnd", rfl, by decide, inX11, gd_X11, fl_X11_134, Or.inl rfl⟩
theorem ff_X11_130_10 : fx_F RX11 130 10 8 := ⟨RX11, TX11, 11, "TapeEnd", rfl, by decide, inX11, gd_X11, fl_X11_130, Or.inl rfl⟩
theorem ff_X11_114_10 : fx_F RX11 114 10 9 := ⟨RX11, TX11, 11, "TapeEnd", rfl, by decide, inX11, gd_X11, fl_X11_114, Or.inl rfl⟩
theorem ff_X11_265_10 : fx_F RX11 265 10 10 := ⟨RX11, TX11, 11, "TapeEnd", rfl, by decide, inX11, gd_X11, fl_X11_265, Or.inl rfl⟩
theorem ff_X7_7_0 : fx_F RX7 7 0 0 := ⟨RX0, TX0, 3, "TapeEnd$Seeker", rfl, by decide, inX0, gd_X0, fl_X7_7, Or.inl rfl⟩
theorem ff_X7_7_1 : fx_F RX7 7 1 0 := ⟨RX1, TX1, 3, "TapeEnd$Seeker", rfl, by decide, inX1, gd_X1, fl_X7_7, Or.inl rfl⟩
theorem ff_X7_7_3 : fx_F RX7 7 3 0 := ⟨RX3, TX3, 3, "TapeEnd$Seeker", rfl, by decide, inX3, gd_X3, fl_X7_7, Or.inl rfl⟩
theorem ff_X7_7_5 : fx_F RX7 7 5 0 := ⟨RX5, TX5, 3, "TapeEnd$Seeker", rfl, by decide, inX5, gd_X5, fl_X7_7, Or.inl rfl⟩
theorem ff_X7_7_7 : fx_F RX7 7 7 0 := ⟨RX8, TX8, 3, "TapeEnd$Seeker", rfl, by decide, inX8, gd_X8, fl_X7_7, Or.inl rfl⟩
theorem ff_X11_292_0 : fx_F RX11 292 0 0 := ⟨RX0, TX0, 3, "TapeEnd$Seeker", rfl, by decide, inX0, gd_X0, fl_X11_292, Or.inl rfl⟩
theorem ff_X11_292_1 : fx_F RX11 292 1 0 := ⟨RX1, TX1, 3, "TapeEnd$Seeker", rfl, by decide, inX1, gd_X1, fl_X11_292, Or.inl rfl⟩
theorem ff_X11_292_3 : fx_F RX11 292 3 0 := ⟨RX3, TX3, 3, "TapeEnd$Seeker", rfl, by decide, inX3, gd_X3, fl_X11_292, Or.inl rfl⟩
theorem ff_X11_292_5 : fx_F RX11 292 5 0 := ⟨RX5, TX5, 3, "TapeEnd$Seeker", rfl, by decide, inX5, gd_X5, fl_X11_292, Or.inl rfl⟩
theorem ff_X11_292_7 : fx_F RX11 292 7 0 := ⟨RX8, TX8, 3, "TapeEnd$Seeker", rfl, by decide, inX8, gd_X8, fl_X11_292, Or.inl rfl⟩
theorem ff_X7_13_0 : fx_F RX7 13 0 1 := ⟨RX0, TX0, 3, "TapeEnd$Seeker", rfl, by decide, inX0, gd_X0, fl_X7_13, Or.inl rfl⟩
theorem ff_X7_13_1 : fx_F RX7 13 1 1 := ⟨RX1, TX1, 3, "TapeEnd$Seeker", rfl, by decide, inX1, gd_X1, fl_X7_13, Or.inl rfl⟩
theorem ff_X7_13_3 : fx_F RX7 13 3 1 := ⟨RX3, TX3, 3, "TapeEnd$Seeker", rfl, by decide, inX3, gd_X3, fl_X7_13, Or.inl rfl⟩
theorem ff_X7_13_5 : fx_F RX7 13 5 1 := ⟨RX5, TX5, 3, "TapeEnd$Seeker", rfl, by decide, inX5, gd_X5, fl_X7_13, Or.inl rfl⟩
theorem ff_X7_13_7 : fx_F RX7 13 7 1 := ⟨RX8, TX8, 3, "TapeEnd$Seeker", rfl, by decide, inX8, gd_X8, fl_X7_13, Or.inl rfl⟩
theorem ff_X1_7_0 : fx_F RX1 7 0 1 := ⟨RX0, TX0, 3, "TapeEnd$Lamp", rfl, by decide, inX0, gd_X0, fl_X1_7, Or.inr sf_X1_with⟩
theorem ff_X1_7_1 : fx_F RX1 7 1 1 := ⟨RX1, TX1, 3, "TapeEnd$Lamp", rfl, by decide, inX1, gd_X1, fl_X1_7, Or.inr sf_X1_with⟩
theorem ff_X1_7_3 : fx_F RX1 7 3 1 := ⟨RX3, TX3, 3, "TapeEnd$Lamp", rfl, by decide, inX3, gd_X3, fl_X1_7, Or.inr sf_X1_with⟩
theorem ff_X1_7_5 : fx_F RX1 7 5 1 := ⟨RX5, TX5, 3, "TapeEnd$Lamp", rfl, by decide, inX5, gd_X5, fl_X1_7, Or.inr sf_X1_with⟩
theorem ff_X1_7_7 : fx_F RX1 7 7 1 := ⟨RX8, TX8, 3, "TapeEnd$Lamp", rfl, by decide, inX8, gd_X8, fl_X1_7, Or.inr sf_X1_with⟩
theorem ff_X11_207_0 : fx_F RX11 207 0 1 := ⟨RX0, TX0, 3, "TapeEnd$Seeker", rfl, by decide, inX0, gd_X0, fl_X11_207, Or.inl rfl⟩
theorem ff_X11_207_1 : fx_F RX11 207 1 1 := ⟨RX1, TX1, 3, "TapeEnd$Seeker", rfl, by decide, inX1, gd_X1, fl_X11_207, Or.inl rfl⟩
theorem ff_X11_207_3 : fx_F RX11 207 3 1 := ⟨RX3, TX3, 3, "TapeEnd$Seeker", rfl, by decide, inX3, gd_X3, fl_X11_207, Or.inl rfl⟩
theorem ff_X11_207_5 : fx_F RX11 207 5 1 := ⟨RX5, TX5, 3, "TapeEnd$Seeker", rfl, by decide, inX5, gd_X5, fl_X11_207, Or.inl rfl⟩
theorem ff_X11_207_7 : fx_F RX11 207 7 1 := ⟨RX8, TX8, 3, "TapeEnd$Seeker", rfl, by decide, inX8, gd_X8, fl_X11_207, Or.inl rfl⟩
theorem ff_X7_16_0 : fx_F RX7 16 0 2 := ⟨RX0, TX0, 3, "TapeEnd$Seeker", rfl, by decide, inX0, gd_X0, fl_X7_16, Or.inl rfl⟩
theorem ff_X7_16_1 : fx_F RX7 16 1 2 := ⟨RX1, TX1, 3, "TapeEnd$Seeker", rfl, by decide, inX1, gd_X1, fl_X7_16, Or.inl rfl⟩
theorem ff_X7_16_3 : fx_F RX7 16 3 2 := ⟨RX3, TX3, 3, "TapeEnd$Seeker", rfl, by decide, inX3, gd_X3, fl_X7_16, Or.inl rfl⟩
theorem ff_X7_16_5 : fx_F RX7 16 5 2 := ⟨RX5, TX5, 3, "TapeEnd$Seeker", rfl, by decide, inX5, gd_X5, fl_X7_16, Or.inl rfl⟩
theorem ff_X7_16_7 : fx_F RX7 16 7 2 := ⟨RX8, TX8, 3, "TapeEnd$Seeker", rfl, by decide, inX8, gd_X8, fl_X7_16, Or.inl rfl⟩
theorem ff_X1_13_0 : fx_F RX1 13 0 2 := ⟨RX0, TX0, 3, "TapeEnd$Lamp", rfl, by decide, inX0, gd_X0, fl_X1_13, Or.inr sf_X1_against⟩
theorem ff_X1_13_1 : fx_F RX1 13 1 2 := ⟨RX1, TX1, 3, "TapeEnd$Lamp", rfl, by decide, inX1, gd_X1, fl_X1_13, Or.inr sf_X1_against⟩
theorem ff_X1_13_3 : fx_F RX1 13 3 2 := ⟨RX3, TX3, 3, "TapeEnd$Lamp", rfl, by decide, inX3, gd_X3, fl_X1_13, Or.inr sf_X1_against⟩
theorem ff_X1_13_5 : fx_F RX1 13 5 2 := ⟨RX5, TX5, 3, "TapeEnd$Lamp", rfl, by decide, inX5, gd_X5, fl_X1_13, Or.inr sf_X1_against⟩
theorem ff_X1_13_7 : fx_F RX1 13 7 2 := ⟨RX8, TX8, 3, "TapeEnd$Lamp", rfl, by decide, inX8, gd_X8, fl_X1_13, Or.inr sf_X1_against⟩
theorem ff_X5_42_0 : fx_F RX5 42 0 2 := ⟨RX0, TX0, 3, "TapeEnd$Round", rfl, by decide, inX0, gd_X0, fl_X5_42, Or.inr sf_X5_against⟩
theorem ff_X5_42_1 : fx_F RX5 42 1 2 := ⟨RX1, TX1, 3, "TapeEnd$Round", rfl, by decide, inX1, gd_X1, fl_X5_42, Or.inr sf_X5_against⟩
theorem ff_X5_42_3 : fx_F RX5 42 3 2 := ⟨RX3, TX3, 3, "TapeEnd$Round", rfl, by decide, inX3, gd_X3, fl_X5_42, Or.inr sf_X5_against⟩
theorem ff_X5_42_5 : fx_F RX5 42 5 2 := ⟨RX5, TX5, 3, "TapeEnd$Round", rfl, by decide, inX5, gd_X5, fl_X5_42, Or.inr sf_X5_against⟩
theorem ff_X5_42_7 : fx_F RX5 42 7 2 := ⟨RX8, TX8, 3, "TapeEnd$Round", rfl, by decide, inX8, gd_X8, fl_X5_42, Or.inr sf_X5_against⟩
theorem ff_X11_210_0 : fx_F RX11 210 0 2 := ⟨RX0, TX0, 3, "TapeEnd$Seeker", rfl, by decide, inX0, gd_X0, fl_X11_210, Or.inl rfl⟩
theorem ff_X11_210_1 : fx_F RX11 210 1 2 := ⟨RX1, TX1, 3, "TapeEnd$Seeker", rfl, by decide, inX1, gd_X1, fl_X11_210, Or.inl rfl⟩
theorem ff_X11_210_3 : fx_F RX11 210 3 2 := ⟨RX3, TX3, 3, "TapeEnd$Seeker", rfl, by decide, inX3, gd_X3, fl_X11_210, Or.inl rfl⟩
theorem ff_X11_210_5 : fx_F RX11 210 5 2 := ⟨RX5, TX5, 3, "TapeEnd$Seeker", rfl, by decide, inX5, gd_X5, fl_X11_210, Or.inl rfl⟩
theorem ff_X11_210_7 : fx_F RX11 210 7 2 := ⟨RX8, TX8, 3, "TapeEnd$Seeker", rfl, by decide, inX8, gd_X8, fl_X11_210, Or.inl rfl⟩
theorem ff_X12_54_11 : fx_F RX12 54 11 0 := ⟨RX12, TX12, 26, "TapeEndModel", rfl, by decide, inX12, gd_X12, fl_X12_54, Or.inl rfl⟩
theorem ff_X12_58_11 : fx_F RX12 58 11 1 := ⟨RX12, TX12, 26, "TapeEndModel", rfl, by decide, inX12, gd_X12, fl_X12_58, Or.inl rfl⟩
theorem ff_X12_7_11 : fx_F RX12 7 11 2 := ⟨RX12, TX12, 26, "TapeEndModel", rfl, by decide, inX12, gd_X12, fl_X12_7, Or.inl rfl⟩
theorem ff_X12_13_11 : fx_F RX12 13 11 3 := ⟨RX12, TX12, 26, "TapeEndModel", rfl, by decide, inX12, gd_X12, fl_X12_13, Or.inl rfl⟩
theorem ff_X12_16_11 : fx_F RX12 16 11 4 := ⟨RX12, TX12, 26, "TapeEndModel", rfl, by decide, inX12, gd_X12, fl_X12_16, Or.inl rfl⟩
theorem ff_X12_19_11 : fx_F RX12 19 11 5 := ⟨RX12, TX12, 26, "TapeEndModel", rfl, by decide, inX12, gd_X12, fl_X12_19, Or.inl rfl⟩
theorem ff_X12_22_11 : fx_F RX12 22 11 6 := ⟨RX12, TX12, 26, "TapeEndModel", rfl, by decide, inX12, gd_X12, fl_X12_22, Or.inl rfl⟩
theorem ff_X12_25_11 : fx_F RX12 25 11 7 := ⟨RX12, TX12, 26, "TapeEndModel", rfl, by decide, inX12, gd_X12, fl_X12_25, Or.inl rfl⟩
theorem ff_X12_29_11 : fx_F RX12 29 11 8 := ⟨RX12, TX12, 26, "TapeEndModel", rfl, by decide, inX12, gd_X12, fl_X12_29, Or.inl rfl⟩
theorem ff_X12_32_11 : fx_F RX12 32 11 9 := ⟨RX12, TX12, 26, "TapeEndModel", rfl, by decide, inX12, gd_X12, fl_X12_32, Or.inl rfl⟩
theorem ff_X12_156_11 : fx_F RX12 156 11 10 := ⟨RX12, TX12, 26, "TapeEndModel", rfl, by decide, inX12, gd_X12, fl_X12_156, Or.inl rfl⟩
theorem ff_X12_35_11 : fx_F RX12 35 11 11 := ⟨RX12, TX12, 26, "TapeEndModel", rfl, by decide, inX12, gd_X12, fl_X12_35, Or.inl rfl⟩
theorem ff_X12_81_11 : fx_F RX12 81 11 12 := ⟨RX12, TX12, 26, "TapeEndModel", rfl, by decide, inX12, gd_X12, fl_X12_81, Or.inl rfl⟩
theorem ff_X12_94_11 : fx_F RX12 94 11 13 := ⟨RX12, TX12, 26, "TapeEndModel", rfl, by decide, inX12, gd_X12, fl_X12_94, Or.inl rfl⟩
theorem ff_X12_88_11 : fx_F RX12 88 11 14 := ⟨RX12, TX12, 26, "TapeEndModel", rfl, by decide, inX12, gd_X12, fl_X12_88, Or.inl rfl⟩
theorem ff_X12_109_11 : fx_F RX12 109 11 15 := ⟨RX12, TX12, 26, "TapeEndModel", rfl, by decide, inX12, gd_X12, fl_X12_109, Or.inl rfl⟩
theorem ff_X12_98_11 : fx_F RX12 98 11 16 := ⟨RX12, TX12, 26, "TapeEndModel", rfl, by decide, inX12, gd_X12, fl_X12_98, Or.inl rfl⟩
theorem ff_X12_85_11 : fx_F RX12 85 11 17 := ⟨RX12, TX12, 26, "TapeEndModel", rfl, by decide, inX12, gd_X12, fl_X12_85, Or.inl rfl⟩
theorem ff_X12_91_11 : fx_F RX12 91 11 18 := ⟨RX12, TX12, 26, "TapeEndModel", rfl, by decide, inX12, gd_X12, fl_X12_91, Or.inl rfl⟩
theorem ff_X12_123_11 : fx_F RX12 123 11 19 := ⟨RX12, TX12, 26, "TapeEndModel", rfl, by decide, inX12, gd_X12, fl_X12_123, Or.inl rfl⟩
theorem ff_X12_38_11 : fx_F RX12 38 11 20 := ⟨RX12, TX12, 26, "TapeEndModel", rfl, by decide, inX12, gd_X12, fl_X12_38, Or.inl rfl⟩
theorem ff_X12_41_11 : fx_F RX12 41 11 21 := ⟨RX12, TX12, 26, "TapeEndModel", rfl, by decide, inX12, gd_X12, fl_X12_41, Or.inl rfl⟩
theorem ff_X12_45_11 : fx_F RX12 45 11 22 := ⟨RX12, TX12, 26, "TapeEndModel", rfl, by decide, inX12, gd_X12, fl_X12_45, Or.inl rfl⟩
theorem ff_X12_48_11 : fx_F RX12 48 11 23 := ⟨RX12, TX12, 26, "TapeEndModel", rfl, by decide, inX12, gd_X12, fl_X12_48, Or.inl rfl⟩
theorem ff_X12_51_11 : fx_F RX12 51 11 24 := ⟨RX12, TX12, 26, "TapeEndModel", rfl, by decide, inX12, gd_X12, fl_X12_51, Or.inl rfl⟩
theorem ff_X12_261_11 : fx_F RX12 261 11 25 := ⟨RX12, TX12, 26, "TapeEndModel", rfl, by decide, inX12, gd_X12, fl_X12_261, Or.inl rfl⟩
theorem im_obj : Cond.instanceMethod ⟨"java/lang/Object", "<init>", "()V"⟩ ∈ lw_tbl := im_o77
theorem cd_obj : Cond.code ⟨"java/lang/Object", "<init>", "()V"⟩ object_method_1_code 1 none ∈ lw_tbl := cd_o78
theorem st_acp : Cond.static ⟨"java/lang/System", "arraycopy", "(Ljava/lang/Object;ILjava/lang/Object;II)V"⟩ ∈ lw_tbl := st_o322
theorem nt_acp : Cond.native ⟨"java/lang/System", "arraycopy", "(Ljava/lang/Object;ILjava/lang/Object;II)V"⟩ ∈ lw_tbl := nt_o323
theorem mY_X0_init : fx_Y yX0_init cX0_init 4 none 3 := ⟨cd_X0_init, ni_X0, ⟨by decide +kernel, by decide +kernel⟩, by decide +kernel⟩
theorem mY_X0_kindTold : fx_Y yX0_kindTold cX0_kindTold 1 (some .int) 0 := ⟨cd_X0_kindTold, ni_X0, ⟨by decide +kernel, by decide +kernel⟩, by decide +kernel⟩
theorem mY_X0_nextPlace : fx_Y yX0_nextPlace cX0_nextPlace 2 (some .int) 1 := ⟨cd_X0_nextPlace, ni_X0, ⟨by decide +kernel, by decide +kernel⟩, by decide +kernel⟩
theorem mY_X0_askSize : fx_Y yX0_askSize cX0_askSize 2 (some .int) 1 := ⟨cd_X0_askSize, ni_X0, ⟨by decide +kernel, by decide +kernel⟩, by decide +kernel⟩
theorem mY_X0_askMark : fx_Y yX0_askMark cX0_askMark 2 (some .int) 1 := ⟨cd_X0_askMark, ni_X0, ⟨by decide +kernel, by decide +kernel⟩, by decide +kernel⟩
theorem mY_X1_init : fx_Y yX1_init cX1_init 4 none 3 := ⟨cd_X1_init, ni_X1, ⟨by decide +kernel, by decide +kernel⟩, by decide +kernel⟩
theorem mY_X1_kindTold : fx_Y yX1_kindTold cX1_kindTold 1 (some .int) 0 := ⟨cd_X1_kindTold, ni_X1, ⟨by decide +kernel, by decide +kernel⟩, by decide +kernel⟩
theorem mY_X1_feel : fx_Y yX1_feel cX1_feel 2 (some .int) 1 := ⟨cd_X1_feel, ni_X1, ⟨by decide +kernel, by decide +kernel⟩, by decide +kernel⟩
theorem mY_X1_askMark : fx_Y yX1_askMark cX1_askMark 2 (some .int) 1 := ⟨cd_X1_askMark, ni_X1, ⟨by decide +kernel, by decide +kernel⟩, by decide +kernel⟩
theorem mY_X2_init : fx_Y yX2_init cX2_init 1 none 0 := ⟨cd_X2_init, ni_X2, ⟨by decide +kernel, by decide +kernel⟩, by decide +kernel⟩
theorem mY_X2_around : fx_Y yX2_around cX2_around 2 (some .int) 1 := ⟨cd_X2_around, ni_X2, ⟨by decide +kernel, by decide +kernel⟩, by decide +kernel⟩
theorem mY_X2_placeOfDraw : fx_Y yX2_placeOfDraw cX2_placeOfDraw 7 (some .int) 1 := ⟨cd_X2_placeOfDraw, ni_X2, ⟨by decide +kernel, by decide +kernel⟩, by decide +kernel⟩
theorem mY_X3_init : fx_Y yX3_init cX3_init 4 none 3 := ⟨cd_X3_init, ni_X3, ⟨by decide +kernel, by decide +kernel⟩, by decide +kernel⟩
theorem mY_X3_kindTold : fx_Y yX3_kindTold cX3_kindTold 1 (some .int) 0 := ⟨cd_X3_kindTold, ni_X3, ⟨by decide +kernel, by decide +kernel⟩, by decide +kernel⟩
theorem mY_X3_nextPlace : fx_Y yX3_nextPlace cX3_nextPlace 2 (some .int) 1 := ⟨cd_X3_nextPlace, ni_X3, ⟨by decide +kernel, by decide +kernel⟩, by decide +kernel⟩
theorem mY_X3_askSize : fx_Y yX3_askSize cX3_askSize 2 (some .int) 1 := ⟨cd_X3_askSize, ni_X3, ⟨by decide +kernel, by decide +kernel⟩, by decide +kernel⟩
theorem mY_X3_askMark : fx_Y yX3_askMark cX3_askMark 3 (some .int) 1 := ⟨cd_X3_askMark, ni_X3, ⟨by decide +kernel, by decide +kernel⟩, by decide +kernel⟩
theorem mY_X4_init : fx_Y yX4_init cX4_init 2 none 1 := ⟨cd_X4_init, ni_X4, ⟨by decide +kernel, by decide +kernel⟩, by decide +kernel⟩
theorem mY_X4_unwind : fx_Y yX4_unwind cX4_unwind 3 none 1 := ⟨cd_X4_unwind, ni_X4, ⟨by decide +kernel, by decide +kernel⟩, by decide +kernel⟩
theorem mY_X4_become : fx_Y yX4_become cX4_become 2 none 1 := ⟨cd_X4_become, ni_X4, ⟨by decide +kernel, by decide +kernel⟩, by decide +kernel⟩
theorem mY_X4_together : fx_Y yX4_together cX4_together 4 (some .long) 0 := ⟨cd_X4_together, ni_X4, ⟨by decide +kernel, by decide +kernel⟩, by decide +kernel⟩
theorem mY_X4_takeTouch : fx_Y yX4_takeTouch cX4_takeTouch 5 none 2 := ⟨cd_X4_takeTouch, ni_X4, ⟨by decide +kernel, by decide +kernel⟩, by decide +kernel⟩
theorem mY_X4_weigh : fx_Y yX4_weigh cX4_weigh 4 none 2 := ⟨cd_X4_weigh, ni_X4, ⟨by decide +kernel, by decide +kernel⟩, by decide +kernel⟩
theorem mY_X4_advance : fx_Y yX4_advance cX4_advance 2 none 1 := ⟨cd_X4_advance, ni_X4, ⟨by decide +kernel, by decide +kernel⟩, by decide +kernel⟩
theorem mY_X4_turn : fx_Y yX4_turn cX4_turn 1 none 0 := ⟨cd_X4_turn, ni_X4, ⟨by decide +kernel, by decide +kernel⟩, by decide +kernel⟩
theorem mY_X4_moveTo : fx_Y yX4_moveTo cX4_moveTo 3 none 1 := ⟨cd_X4_moveTo, ni_X4, ⟨by decide +kernel, by decide +kernel⟩, by decide +kernel⟩
theorem mY_X4_follow : fx_Y yX4_follow cX4_follow 2 none 1 := ⟨cd_X4_follow, ni_X4, ⟨by decide +kernel, by decide +kernel⟩, by decide +kernel⟩
theorem mY_X4_likeliestBut : fx_Y yX4_likeliestBut cX4_likeliestBut 6 (some .int) 1 := ⟨cd_X4_likeliestBut, ni_X4, ⟨by decide +kernel, by decide +kernel⟩, by decide +kernel⟩
theorem mY_X4_secondsOfAll : fx_Y yX4_secondsOfAll cX4_secondsOfAll 9 (some .long) 4 := ⟨cd_X4_secondsOfAll, ni_X4, ⟨by decide +kernel, by decide +kernel⟩, by decide +kernel⟩
theorem mY_X4_secondsIfAt : fx_Y yX4_secondsIfAt cX4_secondsIfAt 9 (some .long) 3 := ⟨cd_X4_secondsIfAt, ni_X4, ⟨by decide +kernel, by decide +kernel⟩, by decide +kernel⟩
theorem mY_X4_secondsTill : fx_Y yX4_secondsTill cX4_secondsTill 2 (some .int) 1 := ⟨cd_X4_secondsTill, ni_X4, ⟨by decide +kernel, by decide +kernel⟩, by decide +kernel⟩
theorem mY_X5_init : fx_Y yX5_init cX5_init 4 none 3 := ⟨cd_X5_init, ni_X5, ⟨by decide +kernel, by decide +kernel⟩, by decide +kernel⟩
theorem mY_X5_kindTold : fx_Y yX5_kindTold cX5_kindTold 1 (some .int) 0 := ⟨cd_X5_kindTold, ni_X5, ⟨by decide +kernel, by decide +kernel⟩, by decide +kernel⟩
theorem mY_X5_nextPlace : fx_Y yX5_nextPlace cX5_nextPlace 2 (some .int) 1 := ⟨cd_X5_nextPlace, ni_X5, ⟨by decide +kernel, by decide +kernel⟩, by decide +kernel⟩
theorem mY_X5_askSize : fx_Y yX5_askSize cX5_askSize 3 (some .int) 1 := ⟨cd_X5_askSize, ni_X5, ⟨by decide +kernel, by decide +kernel⟩, by decide +kernel⟩
theorem mY_X5_askMark : fx_Y yX5_askMark cX5_askMark 2 (some .int) 1 := ⟨cd_X5_askMark, ni_X5, ⟨by decide +kernel, by decide +kernel⟩, by decide +kernel⟩
theorem mY_X6_init : fx_Y yX6_init cX6_init 1 none 0 := ⟨cd_X6_init, ni_X6, ⟨by decide +kernel, by decide +kernel⟩, by decide +kernel⟩
theorem mY_X6_lay : fx_Y yX6_lay cX6_lay 4 none 2 := ⟨cd_X6_lay, ni_X6, ⟨by decide +kernel, by decide +kernel⟩, by decide +kernel⟩
theorem mY_X6_holds : fx_Y yX6_holds cX6_holds 3 (some .boolean) 2 := ⟨cd_X6_holds, ni_X6, ⟨by decide +kernel, by decide +kernel⟩, by decide +kernel⟩
theorem mY_X6_areUpTo : fx_Y yX6_areUpTo cX6_areUpTo 5 (some .boolean) 3 := ⟨cd_X6_areUpTo, ni_X6, ⟨by decide +kernel, by decide +kernel⟩, by decide +kernel⟩
theorem mY_X6_put : fx_Y yX6_put cX6_put 3 (some .int) 2 := ⟨cd_X6_put, ni_X6, ⟨by decide +kernel, by decide +kernel⟩, by decide +kernel⟩
theorem mY_X7_init : fx_Y yX7_init cX7_init 4 none 3 := ⟨cd_X7_init, ni_X7, ⟨by decide +kernel, by decide +kernel⟩, by decide +kernel⟩
theorem mY_X7_feel : fx_Y yX7_feel cX7_feel 2 (some .int) 1 := ⟨cd_X7_feel, ni_X7, ⟨by decide +kernel, by decide +kernel⟩, by decide +kernel⟩
theorem mY_X7_askSize : fx_Y yX7_askSize cX7_askSize 2 (some .int) 1 := ⟨cd_X7_askSize, ni_X7, ⟨by decide +kernel, by decide +kernel⟩, by decide +kernel⟩
theorem mY_X7_askMark : fx_Y yX7_askMark cX7_askMark 2 (some .int) 1 := ⟨cd_X7_askMark, ni_X7, ⟨by decide +kernel, by decide +kernel⟩, by decide +kernel⟩
theorem mY_X8_init : fx_Y yX8_init cX8_init 4 none 3 := ⟨cd_X8_init, ni_X8, ⟨by decide +kernel, by decide +kernel⟩, by decide +kernel⟩
theorem mY_X8_kindTold : fx_Y yX8_kindTold cX8_kindTold 1 (some .int) 0 := ⟨cd_X8_kindTold, ni_X8, ⟨by decide +kernel, by decide +kernel⟩, by decide +kernel⟩
theorem mY_X8_nextPlace : fx_Y yX8_nextPlace cX8_nextPlace 2 (some .int) 1 := ⟨cd_X8_nextPlace, ni_X8, ⟨by decide +kernel, by decide +kernel⟩, by decide +kernel⟩
theorem mY_X8_askSize : fx_Y yX8_askSize cX8_askSize 2 (some .int) 1 := ⟨cd_X8_askSize, ni_X8, ⟨by decide +kernel, by decide +kernel⟩, by decide +kernel⟩
theorem mY_X9_init : fx_Y yX9_init cX9_init 1 none 0 := ⟨cd_X9_init, ni_X9, ⟨by decide +kernel, by decide +kernel⟩, by decide +kernel⟩
theorem mY_X9_append : fx_Y yX9_append cX9_append 2 none 1 := ⟨cd_X9_append, ni_X9, ⟨by decide +kernel, by decide +kernel⟩, by decide +kernel⟩
theorem mY_X9_read : fx_Y yX9_read cX9_read 3 (some (.object "TapeEnd$Law")) 0 := ⟨cd_X9_read, ni_X9, ⟨by decide +kernel, by decide +kernel⟩, by decide +kernel⟩
theorem mY_X9_readLaw : fx_Y yX9_readLaw cX9_readLaw 2 none 1 := ⟨cd_X9_readLaw, ni_X9, ⟨by decide +kernel, by decide +kernel⟩, by decide +kernel⟩
theorem mY_X9_readPlaces : fx_Y yX9_readPlaces cX9_readPlaces 3 none 1 := ⟨cd_X9_readPlaces, ni_X9, ⟨by decide +kernel, by decide +kernel⟩, by decide +kernel⟩
theorem mY_X9_readRidge : fx_Y yX9_readRidge cX9_readRidge 5 none 1 := ⟨cd_X9_readRidge, ni_X9, ⟨by decide +kernel, by decide +kernel⟩, by decide +kernel⟩
theorem mY_X9_readSeeker : fx_Y yX9_readSeeker cX9_readSeeker 5 none 1 := ⟨cd_X9_readSeeker, ni_X9, ⟨by decide +kernel, by decide +kernel⟩, by decide +kernel⟩
theorem mY_X9_seekerOf : fx_Y yX9_seekerOf cX9_seekerOf 4 (some (.object "TapeEnd$Seeker")) 4 := ⟨cd_X9_seekerOf, ni_X9, ⟨by decide +kernel, by decide +kernel⟩, by decide +kernel⟩
theorem mY_X9_fail : fx_Y yX9_fail cX9_fail 2 none 1 := ⟨cd_X9_fail, ni_X9, ⟨by decide +kernel, by decide +kernel⟩, by decide +kernel⟩
theorem mY_X9_letterHere : fx_Y yX9_letterHere cX9_letterHere 1 (some .int) 0 := ⟨cd_X9_letterHere, ni_X9, ⟨by decide +kernel, by decide +kernel⟩, by decide +kernel⟩
theorem mY_X9_takeSign : fx_Y yX9_takeSign cX9_takeSign 2 none 1 := ⟨cd_X9_takeSign, ni_X9, ⟨by decide +kernel, by decide +kernel⟩, by decide +kernel⟩
theorem mY_X9_takeNumber : fx_Y yX9_takeNumber cX9_takeNumber 6 (some .int) 2 := ⟨cd_X9_takeNumber, ni_X9, ⟨by decide +kernel, by decide +kernel⟩, by decide +kernel⟩
theorem mY_X9_figuresHere : fx_Y yX9_figuresHere cX9_figuresHere 2 (some .int) 0 := ⟨cd_X9_figuresHere, ni_X9, ⟨by decide +kernel, by decide +kernel⟩, by decide +kernel⟩
theorem mY_X9_isSort : fx_Y yX9_isSort cX9_isSort 1 (some .boolean) 1 := ⟨cd_X9_isSort, ni_X9, ⟨by decide +kernel, by decide +kernel⟩, by decide +kernel⟩
theorem mY_X10_init : fx_Y yX10_init cX10_init 1 none 0 := ⟨cd_X10_init, ni_X10, ⟨by decide +kernel, by decide +kernel⟩, by decide +kernel⟩
theorem mY_X10_leave : fx_Y yX10_leave cX10_leave 2 none 1 := ⟨cd_X10_leave, ni_X10, ⟨by decide +kernel, by decide +kernel⟩, by decide +kernel⟩
theorem mY_X11_init : fx_Y yX11_init cX11_init 3 none 0 := ⟨cd_X11_init, ni_X11, ⟨by decide +kernel, by decide +kernel⟩, by decide +kernel⟩
theorem mY_X11_row : fx_Y yX11_row cX11_row 5 (some .int) 3 := ⟨cd_X11_row, ni_X11, ⟨by decide +kernel, by decide +kernel⟩, by decide +kernel⟩
theorem mY_X11_set : fx_Y yX11_set cX11_set 5 (some .int) 3 := ⟨cd_X11_set, ni_X11, ⟨by decide +kernel, by decide +kernel⟩, by decide +kernel⟩
theorem mY_X11_copy : fx_Y yX11_copy cX11_copy 8 (some .int) 5 := ⟨cd_X11_copy, ni_X11, ⟨by decide +kernel, by decide +kernel⟩, by decide +kernel⟩
theorem mY_X11_drop : fx_Y yX11_drop cX11_drop 3 (some .int) 1 := ⟨cd_X11_drop, ni_X11, ⟨by decide +kernel, by decide +kernel⟩, by decide +kernel⟩
theorem mY_X11_feed : fx_Y yX11_feed cX11_feed 2 (some .int) 1 := ⟨cd_X11_feed, ni_X11, ⟨by decide +kernel, by decide +kernel⟩, by decide +kernel⟩
theorem mY_X11_roll : fx_Y yX11_roll cX11_roll 2 (some .int) 0 := ⟨cd_X11_roll, ni_X11, ⟨by decide +kernel, by decide +kernel⟩, by decide +kernel⟩
theorem mY_X11_fault : fx_Y yX11_fault cX11_fault 1 (some .int) 0 := ⟨cd_X11_fault, ni_X11, ⟨by decide +kernel, by decide +kernel⟩, by decide +kernel⟩
theorem mY_X11_undo : fx_Y yX11_undo cX11_undo 1 (some .int) 0 := ⟨cd_X11_undo, ni_X11, ⟨by decide +kernel, by decide +kernel⟩, by decide +kernel⟩
theorem mY_X11_touch : fx_Y yX11_touch cX11_touch 4 (some .int) 2 := ⟨cd_X11_touch, ni_X11, ⟨by decide +kernel, by decide +kernel⟩, by decide +kernel⟩
theorem mY_X11_go : fx_Y yX11_go cX11_go 2 (some .int) 1 := ⟨cd_X11_go, ni_X11, ⟨by decide +kernel, by decide +kernel⟩, by decide +kernel⟩
theorem mY_X11_over : fx_Y yX11_over cX11_over 1 (some .int) 0 := ⟨cd_X11_over, ni_X11, ⟨by decide +kernel, by decide +kernel⟩, by decide +kernel⟩
theorem mY_X11_seek : fx_Y yX11_seek cX11_seek 3 (some .int) 1 := ⟨cd_X11_seek, ni_X11, ⟨by decide +kernel, by decide +kernel⟩, by decide +kernel⟩
theorem mY_X11_fold : fx_Y yX11_fold cX11_fold 3 (some .int) 1 := ⟨cd_X11_fold, ni_X11, ⟨by decide +kernel, by decide +kernel⟩, by decide +kernel⟩
theorem mY_X11_nail : fx_Y yX11_nail cX11_nail 2 (some .int) 1 := ⟨cd_X11_nail, ni_X11, ⟨by decide +kernel, by decide +kernel⟩, by decide +kernel⟩
theorem mY_X11_place : fx_Y yX11_place cX11_place 3 (some .int) 2 := ⟨cd_X11_place, ni_X11, ⟨by decide +kernel, by decide +kernel⟩, by decide +kernel⟩
theorem mY_X11_seeker : fx_Y yX11_seeker cX11_seeker 4 (some .int) 2 := ⟨cd_X11_seeker, ni_X11, ⟨by decide +kernel, by decide +kernel⟩, by decide +kernel⟩
theorem mY_X11_likelihood : fx_Y yX11_likelihood cX11_likelihood 2 (some .long) 1 := ⟨cd_X11_likelihood, ni_X11, ⟨by decide +kernel, by decide +kernel⟩, by decide +kernel⟩
theorem mY_X11_likely : fx_Y yX11_likely cX11_likely 3 (some .long) 2 := ⟨cd_X11_likely, ni_X11, ⟨by decide +kernel, by decide +kernel⟩, by decide +kernel⟩
theorem mY_X11_felt : fx_Y yX11_felt cX11_felt 10 (some .long) 2 := ⟨cd_X11_felt, ni_X11, ⟨by decide +kernel, by decide +kernel⟩, by decide +kernel⟩
theorem mY_X11_surest : fx_Y yX11_surest cX11_surest 1 (some .int) 0 := ⟨cd_X11_surest, ni_X11, ⟨by decide +kernel, by decide +kernel⟩, by decide +kernel⟩
theorem mY_X11_mean : fx_Y yX11_mean cX11_mean 7 (some .long) 5 := ⟨cd_X11_mean, ni_X11, ⟨by decide +kernel, by decide +kernel⟩, by decide +kernel⟩
theorem mY_X11_begin : fx_Y yX11_begin cX11_begin 10 (some .int) 2 := ⟨cd_X11_begin, ni_X11, ⟨by decide +kernel, by decide +kernel⟩, by decide +kernel⟩
theorem mY_X11_noEnd : fx_Y yX11_noEnd cX11_noEnd 11 (some .int) 3 := ⟨cd_X11_noEnd, ni_X11, ⟨by decide +kernel, by decide +kernel⟩, by decide +kernel⟩
theorem mY_X11_width : fx_Y yX11_width cX11_width 5 (some .int) 4 := ⟨cd_X11_width, ni_X11, ⟨by decide +kernel, by decide +kernel⟩, by decide +kernel⟩
theorem mY_X11_lost : fx_Y yX11_lost cX11_lost 7 (some .int) 3 := ⟨cd_X11_lost, ni_X11, ⟨by decide +kernel, by decide +kernel⟩, by decide +kernel⟩
theorem mY_X11_pays : fx_Y yX11_pays cX11_pays 9 (some .int) 2 := ⟨cd_X11_pays, ni_X11, ⟨by decide +kernel, by decide +kernel⟩, by decide +kernel⟩
theorem mY_X11_whose : fx_Y yX11_whose cX11_whose 7 (some .int) 3 := ⟨cd_X11_whose, ni_X11, ⟨by decide +kernel, by decide +kernel⟩, by decide +kernel⟩
theorem mY_X11_rule : fx_Y yX11_rule cX11_rule 10 (some .long) 5 := ⟨cd_X11_rule, ni_X11, ⟨by decide +kernel, by decide +kernel⟩, by decide +kernel⟩
theorem mY_X11_search : fx_Y yX11_search cX11_search 12 (some .int) 3 := ⟨cd_X11_search, ni_X11, ⟨by decide +kernel, by decide +kernel⟩, by decide +kernel⟩
theorem mY_X11_image : fx_Y yX11_image cX11_image 2 (some .int) 1 := ⟨cd_X11_image, ni_X11, ⟨by decide +kernel, by decide +kernel⟩, by decide +kernel⟩
theorem mY_X11_restore : fx_Y yX11_restore cX11_restore 2 (some .int) 1 := ⟨cd_X11_restore, ni_X11, ⟨by decide +kernel, by decide +kernel⟩, by decide +kernel⟩
theorem mY_X11_kind : fx_Y yX11_kind cX11_kind 3 (some .int) 1 := ⟨cd_X11_kind, ni_X11, ⟨by decide +kernel, by decide +kernel⟩, by decide +kernel⟩
theorem mY_X11_as : fx_Y yX11_as cX11_as 4 (some .int) 2 := ⟨cd_X11_as, ni_X11, ⟨by decide +kernel, by decide +kernel⟩, by decide +kernel⟩
theorem mY_X11_ask : fx_Y yX11_ask cX11_ask 4 (some .int) 2 := ⟨cd_X11_ask, ni_X11, ⟨by decide +kernel, by decide +kernel⟩, by decide +kernel⟩
theorem mY_X11_trace : fx_Y yX11_trace cX11_trace 2 (some .int) 1 := ⟨cd_X11_trace, ni_X11, ⟨by decide +kernel, by decide +kernel⟩, by decide +kernel⟩
theorem mY_X11_count : fx_Y yX11_count cX11_count 2 (some .int) 1 := ⟨cd_X11_count, ni_X11, ⟨by decide +kernel, by decide +kernel⟩, by decide +kernel⟩
theorem mY_X11_status : fx_Y yX11_status cX11_status 1 (some .int) 0 := ⟨cd_X11_status, ni_X11, ⟨by decide +kernel, by decide +kernel⟩, by decide +kernel⟩
theorem mY_X11_finding : fx_Y yX11_finding cX11_finding 2 (some .int) 1 := ⟨cd_X11_finding, ni_X11, ⟨by decide +kernel, by decide +kernel⟩, by decide +kernel⟩
theorem mY_X11_unfound : fx_Y yX11_unfound cX11_unfound 2 (some .int) 1 := ⟨cd_X11_unfound, ni_X11, ⟨by decide +kernel, by decide +kernel⟩, by decide +kernel⟩
theorem mY_X11_noRoll : fx_Y yX11_noRoll cX11_noRoll 1 (some .boolean) 0 := ⟨cd_X11_noRoll, ni_X11, ⟨by decide +kernel, by decide +kernel⟩, by decide +kernel⟩
theorem mY_X11_isPlace : fx_Y yX11_isPlace cX11_isPlace 2 (some .boolean) 1 := ⟨cd_X11_isPlace, ni_X11, ⟨by decide +kernel, by decide +kernel⟩, by decide +kernel⟩
theorem mY_X11_isPlaceOrNone : fx_Y yX11_isPlaceOrNone cX11_isPlaceOrNone 2 (some .boolean) 1 := ⟨cd_X11_isPlaceOrNone, ni_X11, ⟨by decide +kernel, by decide +kernel⟩, by decide +kernel⟩
theorem mY_X11_rowAt : fx_Y yX11_rowAt cX11_rowAt 2 (some (.object "TapeEnd$Row")) 1 := ⟨cd_X11_rowAt, ni_X11, ⟨by decide +kernel, by decide +kernel⟩, by decide +kernel⟩
theorem mY_X11_seekerAt : fx_Y yX11_seekerAt cX11_seekerAt 2 (some (.object "TapeEnd$Seeker")) 1 := ⟨cd_X11_seekerAt, ni_X11, ⟨by decide +kernel, by decide +kernel⟩, by decide +kernel⟩
theorem mY_X11_rowsThere : fx_Y yX11_rowsThere cX11_rowsThere 3 (some .int) 0 := ⟨cd_X11_rowsThere, ni_X11, ⟨by decide +kernel, by decide +kernel⟩, by decide +kernel⟩
theorem mY_X11_keepAct : fx_Y yX11_keepAct cX11_keepAct 1 none 0 := ⟨cd_X11_keepAct, ni_X11, ⟨by decide +kernel, by decide +kernel⟩, by decide +kernel⟩
theorem mY_X11_forgetActs : fx_Y yX11_forgetActs cX11_forgetActs 1 none 0 := ⟨cd_X11_forgetActs, ni_X11, ⟨by decide +kernel, by decide +kernel⟩, by decide +kernel⟩
theorem mY_X11_goesSo : fx_Y yX11_goesSo cX11_goesSo 7 (some .boolean) 4 := ⟨cd_X11_goesSo, ni_X11, ⟨by decide +kernel, by decide +kernel⟩, by decide +kernel⟩
theorem mY_X11_walkByWords : fx_Y yX11_walkByWords cX11_walkByWords 7 none 4 := ⟨cd_X11_walkByWords, ni_X11, ⟨by decide +kernel, by decide +kernel⟩, by decide +kernel⟩
theorem mY_X11_within : fx_Y yX11_within cX11_within 3 (some .boolean) 3 := ⟨cd_X11_within, ni_X11, ⟨by decide +kernel, by decide +kernel⟩, by decide +kernel⟩
theorem mY_X11_isWay : fx_Y yX11_isWay cX11_isWay 1 (some .boolean) 1 := ⟨cd_X11_isWay, ni_X11, ⟨by decide +kernel, by decide +kernel⟩, by decide +kernel⟩
theorem mY_X11_isSplinter : fx_Y yX11_isSplinter cX11_isSplinter 3 (some .boolean) 3 := ⟨cd_X11_isSplinter, ni_X11, ⟨by decide +kernel, by decide +kernel⟩, by decide +kernel⟩
theorem mY_X11_widthBehind : fx_Y yX11_widthBehind cX11_widthBehind 4 (some .int) 4 := ⟨cd_X11_widthBehind, ni_X11, ⟨by decide +kernel, by decide +kernel⟩, by decide +kernel⟩
theorem mY_X11_nextDraw : fx_Y yX11_nextDraw cX11_nextDraw 2 (some .long) 1 := ⟨cd_X11_nextDraw, ni_X11, ⟨by decide +kernel, by decide +kernel⟩, by decide +kernel⟩
theorem mY_X11_tens : fx_Y yX11_tens cX11_tens 4 (some .long) 1 := ⟨cd_X11_tens, ni_X11, ⟨by decide +kernel, by decide +kernel⟩, by decide +kernel⟩
theorem mY_X11_lowest : fx_Y yX11_lowest cX11_lowest 7 (some .long) 3 := ⟨cd_X11_lowest, ni_X11, ⟨by decide +kernel, by decide +kernel⟩, by decide +kernel⟩
theorem mY_X11_greatestDivisor : fx_Y yX11_greatestDivisor cX11_greatestDivisor 7 (some .long) 2 := ⟨cd_X11_greatestDivisor, ni_X11, ⟨by decide +kernel, by decide +kernel⟩, by decide +kernel⟩
theorem mY_X11_isOfKind : fx_Y yX11_isOfKind cX11_isOfKind 2 (some .boolean) 2 := ⟨cd_X11_isOfKind, ni_X11, ⟨by decide +kernel, by decide +kernel⟩, by decide +kernel⟩
theorem mY_X12_init : fx_Y yX12_init cX12_init 1 none 0 := ⟨cd_X12_init, ni_X12, ⟨by decide +kernel, by decide +kernel⟩, by decide +kernel⟩
theorem mY_X12_in : fx_Y yX12_in cX12_in 6 (some .boolean) 3 := ⟨cd_X12_in, ni_X12, ⟨by decide +kernel, by decide +kernel⟩, by decide +kernel⟩
theorem mY_X12_finding : fx_Y yX12_finding cX12_finding 2 (some .int) 1 := ⟨cd_X12_finding, ni_X12, ⟨by decide +kernel, by decide +kernel⟩, by decide +kernel⟩
theorem mY_X12_isRow : fx_Y yX12_isRow cX12_isRow 1 (some .boolean) 1 := ⟨cd_X12_isRow, ni_X12, ⟨by decide +kernel, by decide +kernel⟩, by decide +kernel⟩
theorem mY_X12_row : fx_Y yX12_row cX12_row 5 (some .int) 3 := ⟨cd_X12_row, ni_X12, ⟨by decide +kernel, by decide +kernel⟩, by decide +kernel⟩
theorem mY_X12_set : fx_Y yX12_set cX12_set 4 (some .int) 3 := ⟨cd_X12_set, ni_X12, ⟨by decide +kernel, by decide +kernel⟩, by decide +kernel⟩
theorem mY_X12_copy : fx_Y yX12_copy cX12_copy 9 (some .int) 5 := ⟨cd_X12_copy, ni_X12, ⟨by decide +kernel, by decide +kernel⟩, by decide +kernel⟩
theorem mY_X12_drop : fx_Y yX12_drop cX12_drop 2 (some .int) 1 := ⟨cd_X12_drop, ni_X12, ⟨by decide +kernel, by decide +kernel⟩, by decide +kernel⟩
theorem mY_X12_feed : fx_Y yX12_feed cX12_feed 2 (some .int) 1 := ⟨cd_X12_feed, ni_X12, ⟨by decide +kernel, by decide +kernel⟩, by decide +kernel⟩
theorem mY_X12_bad : fx_Y yX12_bad cX12_bad 2 none 1 := ⟨cd_X12_bad, ni_X12, ⟨by decide +kernel, by decide +kernel⟩, by decide +kernel⟩
theorem mY_X12_nextToken : fx_Y yX12_nextToken cX12_nextToken 1 none 0 := ⟨cd_X12_nextToken, ni_X12, ⟨by decide +kernel, by decide +kernel⟩, by decide +kernel⟩
theorem mY_X12_must : fx_Y yX12_must cX12_must 2 none 1 := ⟨cd_X12_must, ni_X12, ⟨by decide +kernel, by decide +kernel⟩, by decide +kernel⟩
theorem mY_X12_isLetter : fx_Y yX12_isLetter cX12_isLetter 2 (some .boolean) 1 := ⟨cd_X12_isLetter, ni_X12, ⟨by decide +kernel, by decide +kernel⟩, by decide +kernel⟩
theorem mY_X12_number : fx_Y yX12_number cX12_number 4 (some .int) 2 := ⟨cd_X12_number, ni_X12, ⟨by decide +kernel, by decide +kernel⟩, by decide +kernel⟩
theorem mY_X12_mustSign : fx_Y yX12_mustSign cX12_mustSign 2 none 1 := ⟨cd_X12_mustSign, ni_X12, ⟨by decide +kernel, by decide +kernel⟩, by decide +kernel⟩
theorem mY_X12_beginText : fx_Y yX12_beginText cX12_beginText 1 none 0 := ⟨cd_X12_beginText, ni_X12, ⟨by decide +kernel, by decide +kernel⟩, by decide +kernel⟩
theorem mY_X12_failed : fx_Y yX12_failed cX12_failed 1 (some .boolean) 0 := ⟨cd_X12_failed, ni_X12, ⟨by decide +kernel, by decide +kernel⟩, by decide +kernel⟩
theorem mY_X12_fault : fx_Y yX12_fault cX12_fault 1 (some .int) 0 := ⟨cd_X12_fault, ni_X12, ⟨by decide +kernel, by decide +kernel⟩, by decide +kernel⟩
theorem mY_X12_kindBy : fx_Y yX12_kindBy cX12_kindBy 1 (some .int) 1 := ⟨cd_X12_kindBy, ni_X12, ⟨by decide +kernel, by decide +kernel⟩, by decide +kernel⟩
theorem mY_X12_readPlaces : fx_Y yX12_readPlaces cX12_readPlaces 2 none 0 := ⟨cd_X12_readPlaces, ni_X12, ⟨by decide +kernel, by decide +kernel⟩, by decide +kernel⟩
theorem mY_X12_readRidge : fx_Y yX12_readRidge cX12_readRidge 3 none 0 := ⟨cd_X12_readRidge, ni_X12, ⟨by decide +kernel, by decide +kernel⟩, by decide +kernel⟩
theorem mY_X12_readSeeker : fx_Y yX12_readSeeker cX12_readSeeker 5 none 0 := ⟨cd_X12_readSeeker, ni_X12, ⟨by decide +kernel, by decide +kernel⟩, by decide +kernel⟩
theorem mY_X12_roll : fx_Y yX12_roll cX12_roll 2 (some .int) 0 := ⟨cd_X12_roll, ni_X12, ⟨by decide +kernel, by decide +kernel⟩, by decide +kernel⟩
theorem mY_X12_isThere : fx_Y yX12_isThere cX12_isThere 1 (some .boolean) 0 := ⟨cd_X12_isThere, ni_X12, ⟨by decide +kernel, by decide +kernel⟩, by decide +kernel⟩
theorem mY_X12_isPlace : fx_Y yX12_isPlace cX12_isPlace 2 (some .boolean) 1 := ⟨cd_X12_isPlace, ni_X12, ⟨by decide +kernel, by decide +kernel⟩, by decide +kernel⟩
theorem mY_X12_isSeeker : fx_Y yX12_isSeeker cX12_isSeeker 2 (some .boolean) 1 := ⟨cd_X12_isSeeker, ni_X12, ⟨by decide +kernel, by decide +kernel⟩, by decide +kernel⟩
theorem mY_X12_of : fx_Y yX12_of cX12_of 3 (some .int) 2 := ⟨cd_X12_of, ni_X12, ⟨by decide +kernel, by decide +kernel⟩, by decide +kernel⟩
theorem mY_X12_feel : fx_Y yX12_feel cX12_feel 6 (some .int) 2 := ⟨cd_X12_feel, ni_X12, ⟨by decide +kernel, by decide +kernel⟩, by decide +kernel⟩
theorem mY_X12_around : fx_Y yX12_around cX12_around 2 (some .int) 1 := ⟨cd_X12_around, ni_X12, ⟨by decide +kernel, by decide +kernel⟩, by decide +kernel⟩
theorem mY_X12_keep : fx_Y yX12_keep cX12_keep 2 none 0 := ⟨cd_X12_keep, ni_X12, ⟨by decide +kernel, by decide +kernel⟩, by decide +kernel⟩
theorem mY_X12_speaks : fx_Y yX12_speaks cX12_speaks 6 (some .int) 4 := ⟨cd_X12_speaks, ni_X12, ⟨by decide +kernel, by decide +kernel⟩, by decide +kernel⟩
theorem mY_X12_touch : fx_Y yX12_touch cX12_touch 6 (some .int) 2 := ⟨cd_X12_touch, ni_X12, ⟨by decide +kernel, by decide +kernel⟩, by decide +kernel⟩
theorem mY_X12_go : fx_Y yX12_go cX12_go 3 (some .int) 1 := ⟨cd_X12_go, ni_X12, ⟨by decide +kernel, by decide +kernel⟩, by decide +kernel⟩
theorem mY_X12_over : fx_Y yX12_over cX12_over 1 (some .int) 0 := ⟨cd_X12_over, ni_X12, ⟨by decide +kernel, by decide +kernel⟩, by decide +kernel⟩
theorem mY_X12_likeliestBut : fx_Y yX12_likeliestBut cX12_likeliestBut 4 (some .int) 1 := ⟨cd_X12_likeliestBut, ni_X12, ⟨by decide +kernel, by decide +kernel⟩, by decide +kernel⟩
theorem mY_X12_nextOf : fx_Y yX12_nextOf cX12_nextOf 4 (some .int) 3 := ⟨cd_X12_nextOf, ni_X12, ⟨by decide +kernel, by decide +kernel⟩, by decide +kernel⟩
theorem mY_X12_nextNow : fx_Y yX12_nextNow cX12_nextNow 3 (some .int) 1 := ⟨cd_X12_nextNow, ni_X12, ⟨by decide +kernel, by decide +kernel⟩, by decide +kernel⟩
theorem mY_X12_seek : fx_Y yX12_seek cX12_seek 4 (some .int) 1 := ⟨cd_X12_seek, ni_X12, ⟨by decide +kernel, by decide +kernel⟩, by decide +kernel⟩
theorem mY_X12_fold : fx_Y yX12_fold cX12_fold 3 (some .int) 1 := ⟨cd_X12_fold, ni_X12, ⟨by decide +kernel, by decide +kernel⟩, by decide +kernel⟩
theorem mY_X12_undo : fx_Y yX12_undo cX12_undo 2 (some .int) 0 := ⟨cd_X12_undo, ni_X12, ⟨by decide +kernel, by decide +kernel⟩, by decide +kernel⟩
theorem mY_X12_nail : fx_Y yX12_nail cX12_nail 2 (some .int) 1 := ⟨cd_X12_nail, ni_X12, ⟨by decide +kernel, by decide +kernel⟩, by decide +kernel⟩
theorem mY_X12_place : fx_Y yX12_place cX12_place 3 (some .int) 2 := ⟨cd_X12_place, ni_X12, ⟨by decide +kernel, by decide +kernel⟩, by decide +kernel⟩
theorem mY_X12_seeker : fx_Y yX12_seeker cX12_seeker 3 (some .int) 2 := ⟨cd_X12_seeker, ni_X12, ⟨by decide +kernel, by decide +kernel⟩, by decide +kernel⟩
theorem mY_X12_likelihood : fx_Y yX12_likelihood cX12_likelihood 2 (some .long) 1 := ⟨cd_X12_likelihood, ni_X12, ⟨by decide +kernel, by decide +kernel⟩, by decide +kernel⟩
theorem mY_X12_part : fx_Y yX12_part cX12_part 11 (some .long) 3 := ⟨cd_X12_part, ni_X12, ⟨by decide +kernel, by decide +kernel⟩, by decide +kernel⟩
theorem mY_X12_allLike : fx_Y yX12_allLike cX12_allLike 4 (some .long) 0 := ⟨cd_X12_allLike, ni_X12, ⟨by decide +kernel, by decide +kernel⟩, by decide +kernel⟩
theorem mY_X12_tens : fx_Y yX12_tens cX12_tens 4 (some .long) 1 := ⟨cd_X12_tens, ni_X12, ⟨by decide +kernel, by decide +kernel⟩, by decide +kernel⟩
theorem mY_X12_likely : fx_Y yX12_likely cX12_likely 3 (some .long) 2 := ⟨cd_X12_likely, ni_X12, ⟨by decide +kernel, by decide +kernel⟩, by decide +kernel⟩
theorem mY_X12_felt : fx_Y yX12_felt cX12_felt 6 (some .long) 2 := ⟨cd_X12_felt, ni_X12, ⟨by decide +kernel, by decide +kernel⟩, by decide +kernel⟩
theorem mY_X12_surest : fx_Y yX12_surest cX12_surest 3 (some .int) 0 := ⟨cd_X12_surest, ni_X12, ⟨by decide +kernel, by decide +kernel⟩, by decide +kernel⟩
theorem mY_X12_meanOf : fx_Y yX12_meanOf cX12_meanOf 20 (some .long) 4 := ⟨cd_X12_meanOf, ni_X12, ⟨by decide +kernel, by decide +kernel⟩, by decide +kernel⟩
theorem mY_X12_isWay : fx_Y yX12_isWay cX12_isWay 1 (some .boolean) 1 := ⟨cd_X12_isWay, ni_X12, ⟨by decide +kernel, by decide +kernel⟩, by decide +kernel⟩
theorem mY_X12_mean : fx_Y yX12_mean cX12_mean 6 (some .long) 5 := ⟨cd_X12_mean, ni_X12, ⟨by decide +kernel, by decide +kernel⟩, by decide +kernel⟩
theorem mY_X12_begin : fx_Y yX12_begin cX12_begin 9 (some .int) 2 := ⟨cd_X12_begin, ni_X12, ⟨by decide +kernel, by decide +kernel⟩, by decide +kernel⟩
theorem mY_X12_noEnd : fx_Y yX12_noEnd cX12_noEnd 9 (some .int) 3 := ⟨cd_X12_noEnd, ni_X12, ⟨by decide +kernel, by decide +kernel⟩, by decide +kernel⟩
theorem mY_X12_isSplinter : fx_Y yX12_isSplinter cX12_isSplinter 3 (some .boolean) 3 := ⟨cd_X12_isSplinter, ni_X12, ⟨by decide +kernel, by decide +kernel⟩, by decide +kernel⟩
theorem mY_X12_wide : fx_Y yX12_wide cX12_wide 5 (some .int) 4 := ⟨cd_X12_wide, ni_X12, ⟨by decide +kernel, by decide +kernel⟩, by decide +kernel⟩
theorem mY_X12_width : fx_Y yX12_width cX12_width 5 (some .int) 4 := ⟨cd_X12_width, ni_X12, ⟨by decide +kernel, by decide +kernel⟩, by decide +kernel⟩
theorem mY_X12_lost : fx_Y yX12_lost cX12_lost 6 (some .int) 3 := ⟨cd_X12_lost, ni_X12, ⟨by decide +kernel, by decide +kernel⟩, by decide +kernel⟩
theorem mY_X12_pays : fx_Y yX12_pays cX12_pays 8 (some .int) 2 := ⟨cd_X12_pays, ni_X12, ⟨by decide +kernel, by decide +kernel⟩, by decide +kernel⟩
theorem mY_X12_isHis : fx_Y yX12_isHis cX12_isHis 6 (some .boolean) 3 := ⟨cd_X12_isHis, ni_X12, ⟨by decide +kernel, by decide +kernel⟩, by decide +kernel⟩
theorem mY_X12_whose : fx_Y yX12_whose cX12_whose 7 (some .int) 3 := ⟨cd_X12_whose, ni_X12, ⟨by decide +kernel, by decide +kernel⟩, by decide +kernel⟩
theorem mY_X12_notBy : fx_Y yX12_notBy cX12_notBy 10 (some .long) 4 := ⟨cd_X12_notBy, ni_X12, ⟨by decide +kernel, by decide +kernel⟩, by decide +kernel⟩
theorem mY_X12_rule : fx_Y yX12_rule cX12_rule 10 (some .long) 5 := ⟨cd_X12_rule, ni_X12, ⟨by decide +kernel, by decide +kernel⟩, by decide +kernel⟩
theorem mY_X12_search : fx_Y yX12_search cX12_search 14 (some .int) 3 := ⟨cd_X12_search, ni_X12, ⟨by decide +kernel, by decide +kernel⟩, by decide +kernel⟩
theorem mY_X12_image : fx_Y yX12_image cX12_image 3 (some .int) 1 := ⟨cd_X12_image, ni_X12, ⟨by decide +kernel, by decide +kernel⟩, by decide +kernel⟩
theorem mY_X12_restore : fx_Y yX12_restore cX12_restore 3 (some .int) 1 := ⟨cd_X12_restore, ni_X12, ⟨by decide +kernel, by decide +kernel⟩, by decide +kernel⟩
theorem mY_X12_isOf : fx_Y yX12_isOf cX12_isOf 2 (some .boolean) 2 := ⟨cd_X12_isOf, ni_X12, ⟨by decide +kernel, by decide +kernel⟩, by decide +kernel⟩
theorem mY_X12_kind : fx_Y yX12_kind cX12_kind 2 (some .int) 1 := ⟨cd_X12_kind, ni_X12, ⟨by decide +kernel, by decide +kernel⟩, by decide +kernel⟩
theorem mY_X12_as : fx_Y yX12_as cX12_as 3 (some .int) 2 := ⟨cd_X12_as, ni_X12, ⟨by decide +kernel, by decide +kernel⟩, by decide +kernel⟩
theorem mY_X12_began : fx_Y yX12_began cX12_began 2 none 1 := ⟨cd_X12_began, ni_X12, ⟨by decide +kernel, by decide +kernel⟩, by decide +kernel⟩
theorem mY_X12_plainSize : fx_Y yX12_plainSize cX12_plainSize 2 (some .int) 1 := ⟨cd_X12_plainSize, ni_X12, ⟨by decide +kernel, by decide +kernel⟩, by decide +kernel⟩
theorem mY_X12_likeSize : fx_Y yX12_likeSize cX12_likeSize 3 (some .int) 1 := ⟨cd_X12_likeSize, ni_X12, ⟨by decide +kernel, by decide +kernel⟩, by decide +kernel⟩
theorem mY_X12_markOf : fx_Y yX12_markOf cX12_markOf 4 (some .int) 1 := ⟨cd_X12_markOf, ni_X12, ⟨by decide +kernel, by decide +kernel⟩, by decide +kernel⟩
theorem mY_X12_sizeOf : fx_Y yX12_sizeOf cX12_sizeOf 4 (some .int) 1 := ⟨cd_X12_sizeOf, ni_X12, ⟨by decide +kernel, by decide +kernel⟩, by decide +kernel⟩
theorem mY_X12_ask : fx_Y yX12_ask cX12_ask 3 (some .int) 2 := ⟨cd_X12_ask, ni_X12, ⟨by decide +kernel, by decide +kernel⟩, by decide +kernel⟩
theorem mY_X12_trace : fx_Y yX12_trace cX12_trace 2 (some .int) 1 := ⟨cd_X12_trace, ni_X12, ⟨by decide +kernel, by decide +kernel⟩, by decide +kernel⟩
theorem mY_X12_count : fx_Y yX12_count cX12_count 4 (some .int) 1 := ⟨cd_X12_count, ni_X12, ⟨by decide +kernel, by decide +kernel⟩, by decide +kernel⟩
theorem mY_X12_status : fx_Y yX12_status cX12_status 1 (some .int) 0 := ⟨cd_X12_status, ni_X12, ⟨by decide +kernel, by decide +kernel⟩, by decide +kernel⟩
theorem mY_J9_floorMod_7cf53 : fx_Y yJ9_floorMod_7cf53 cJ9_floorMod_7cf53 3 (some .int) 2 := ⟨cd_J9_floorMod_7cf53, ni_J9, ⟨by decide +kernel, by decide +kernel⟩, by decide +kernel⟩
theorem mY_J9_abs_0f7a4 : fx_Y yJ9_abs_0f7a4 cJ9_abs_0f7a4 1 (some .int) 1 := ⟨cd_J9_abs_0f7a4, ni_J9, ⟨by decide +kernel, by decide +kernel⟩, by decide +kernel⟩
theorem mY_J9_max_7cf53 : fx_Y yJ9_max_7cf53 cJ9_max_7cf53 2 (some .int) 2 := ⟨cd_J9_max_7cf53, ni_J9, ⟨by decide +kernel, by decide +kernel⟩, by decide +kernel⟩
theorem mY_J9_min_7cf53 : fx_Y yJ9_min_7cf53 cJ9_min_7cf53 2 (some .int) 2 := ⟨cd_J9_min_7cf53, ni_J9, ⟨by decide +kernel, by decide +kernel⟩, by decide +kernel⟩
