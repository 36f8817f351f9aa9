set_option maxRecDepth 100000 in
theorem kl_0 : ∀ w ∈ u_ws RX0 TX0 7, w ∈ gt := by decide +kernel
set_option maxRecDepth 100000 in
theorem kl_1 : ∀ w ∈ u_ws RX1 TX1 8, w ∈ gt := by decide +kernel
set_option maxRecDepth 100000 in
theorem kl_2 : ∀ w ∈ u_ws RX2 TX2 7, w ∈ gt := by decide +kernel
set_option maxRecDepth 100000 in
theorem kl_3 : ∀ w ∈ u_ws RX3 TX3 1, w ∈ gt := by decide +kernel
set_option maxRecDepth 100000 in
theorem kl_4 : ∀ w ∈ u_ws RX4 TX4 12, w ∈ gt := by decide +kernel
set_option maxRecDepth 100000 in
theorem kl_5 : ∀ w ∈ u_ws RX5 TX5 3, w ∈ gt := by decide +kernel
set_option maxRecDepth 100000 in
theorem kl_6 : ∀ w ∈ u_ws RX6 TX6 6, w ∈ gt := by decide +kernel
set_option maxRecDepth 100000 in
theorem kl_7 : ∀ w ∈ u_ws RX7 TX7 10, w ∈ gt := by decide +kernel
set_option maxRecDepth 100000 in
theorem kl_8 : ∀ w ∈ u_ws RX8 TX8 44, w ∈ gt := by decide +kernel
theorem ml_L_9 : Cond.methodLink RL 9 yX7_init ∈ gt := gt_of (List.mem_of_getElem? (i := 21) (by decide +kernel)) (by decide +kernel)
theorem ml_X7_11 : Cond.methodLink RX7 11 yX1_init ∈ gt := gt_of (List.mem_of_getElem? (i := 29) (by decide +kernel)) (by decide +kernel)
theorem fl_X1_32 : Fl RX1 32 1 0 (.int) false := ⟨RX1, TX1, 8, tyX1, rfl, kl_1, tyX1_ok, nmX1, by decide, gt_of (List.mem_of_getElem? (i := 33) (by decide +kernel)) (by decide +kernel), by decide +kernel, rfl⟩
theorem fl_X7_68 : Fl RX7 68 1 0 (.int) false := ⟨RX1, TX1, 8, tyX1, rfl, kl_1, tyX1_ok, nmX1, by decide, gt_of (List.mem_of_getElem? (i := 34) (by decide +kernel)) (by decide +kernel), by decide +kernel, rfl⟩
theorem fl_X2_32 : Fl RX2 32 1 0 (.int) false := ⟨RX1, TX1, 8, tyX1, rfl, kl_1, tyX1_ok, nmX1, by decide, gt_of (List.mem_of_getElem? (i := 35) (by decide +kernel)) (by decide +kernel), by decide +kernel, rfl⟩
theorem fl_X4_71 : Fl RX4 71 1 0 (.int) false := ⟨RX1, TX1, 8, tyX1, rfl, kl_1, tyX1_ok, nmX1, by decide, gt_of (List.mem_of_getElem? (i := 36) (by decide +kernel)) (by decide +kernel), by decide +kernel, rfl⟩
theorem fl_X6_64 : Fl RX6 64 1 0 (.int) false := ⟨RX1, TX1, 8, tyX1, rfl, kl_1, tyX1_ok, nmX1, by decide, gt_of (List.mem_of_getElem? (i := 37) (by decide +kernel)) (by decide +kernel), by decide +kernel, rfl⟩
theorem fl_X2_43 : Fl RX2 43 1 1 (.int) false := ⟨RX1, TX1, 8, tyX1, rfl, kl_1, tyX1_ok, nmX1, by decide, gt_of (List.mem_of_getElem? (i := 38) (by decide +kernel)) (by decide +kernel), by decide +kernel, rfl⟩
theorem fl_X1_35 : Fl RX1 35 1 1 (.int) false := ⟨RX1, TX1, 8, tyX1, rfl, kl_1, tyX1_ok, nmX1, by decide, gt_of (List.mem_of_getElem? (i := 39) (by decide +kernel)) (by decide +kernel), by decide +kernel, rfl⟩
theorem fl_X4_41 : Fl RX4 41 1 1 (.int) false := ⟨RX1, TX1, 8, tyX1, rfl, kl_1, tyX1_ok, nmX1, by decide, gt_of (List.mem_of_getElem? (i := 40) (by decide +kernel)) (by decide +kernel), by decide +kernel, rfl⟩
theorem fl_X7_90 : Fl RX7 90 1 1 (.int) false := ⟨RX1, TX1, 8, tyX1, rfl, kl_1, tyX1_ok, nmX1, by decide, gt_of (List.mem_of_getElem? (i := 41) (by decide +kernel)) (by decide +kernel), by decide +kernel, rfl⟩
theorem fl_X6_46 : Fl RX6 46 1 1 (.int) false := ⟨RX1, TX1, 8, tyX1, rfl, kl_1, tyX1_ok, nmX1, by decide, gt_of (List.mem_of_getElem? (i := 42) (by decide +kernel)) (by decide +kernel), by decide +kernel, rfl⟩
theorem fl_X1_9 : Fl RX1 9 1 2 (.int) false := ⟨RX1, TX1, 8, tyX1, rfl, kl_1, tyX1_ok, nmX1, by decide, gt_of (List.mem_of_getElem? (i := 43) (by decide +kernel)) (by decide +kernel), by decide +kernel, rfl⟩
theorem fl_X7_135 : Fl RX7 135 1 2 (.int) false := ⟨RX1, TX1, 8, tyX1, rfl, kl_1, tyX1_ok, nmX1, by decide, gt_of (List.mem_of_getElem? (i := 44) (by decide +kernel)) (by decide +kernel), by decide +kernel, rfl⟩
theorem fl_X1_15 : Fl RX1 15 1 3 (.array .int) true := ⟨RX1, TX1, 8, tyX1, rfl, kl_1, tyX1_ok, nmX1, by decide, gt_of (List.mem_of_getElem? (i := 45) (by decide +kernel)) (by decide +kernel), by decide +kernel, rfl⟩
theorem fl_X7_103 : Fl RX7 103 1 3 (.array .int) true := ⟨RX1, TX1, 8, tyX1, rfl, kl_1, tyX1_ok, nmX1, by decide, gt_of (List.mem_of_getElem? (i := 46) (by decide +kernel)) (by decide +kernel), by decide +kernel, rfl⟩
theorem fl_X1_19 : Fl RX1 19 1 4 (.array .int) true := ⟨RX1, TX1, 8, tyX1, rfl, kl_1, tyX1_ok, nmX1, by decide, gt_of (List.mem_of_getElem? (i := 47) (by decide +kernel)) (by decide +kernel), by decide +kernel, rfl⟩
theorem fl_X7_107 : Fl RX7 107 1 4 (.array .int) true := ⟨RX1, TX1, 8, tyX1, rfl, kl_1, tyX1_ok, nmX1, by decide, gt_of (List.mem_of_getElem? (i := 48) (by decide +kernel)) (by decide +kernel), by decide +kernel, rfl⟩
theorem fl_X1_22 : Fl RX1 22 1 5 (.array .int) true := ⟨RX1, TX1, 8, tyX1, rfl, kl_1, tyX1_ok, nmX1, by decide, gt_of (List.mem_of_getElem? (i := 49) (by decide +kernel)) (by decide +kernel), by decide +kernel, rfl⟩
theorem fl_X2_50 : Fl RX2 50 1 5 (.array .int) true := ⟨RX1, TX1, 8, tyX1, rfl, kl_1, tyX1_ok, nmX1, by decide, gt_of (List.mem_of_getElem? (i := 50) (by decide +kernel)) (by decide +kernel), by decide +kernel, rfl⟩
theorem fl_X4_55 : Fl RX4 55 1 5 (.array .int) true := ⟨RX1, TX1, 8, tyX1, rfl, kl_1, tyX1_ok, nmX1, by decide, gt_of (List.mem_of_getElem? (i := 51) (by decide +kernel)) (by decide +kernel), by decide +kernel, rfl⟩
theorem fl_X7_114 : Fl RX7 114 1 5 (.array .int) true := ⟨RX1, TX1, 8, tyX1, rfl, kl_1, tyX1_ok, nmX1, by decide, gt_of (List.mem_of_getElem? (i := 52) (by decide +kernel)) (by decide +kernel), by decide +kernel, rfl⟩
theorem fl_X1_25 : Fl RX1 25 1 6 (.array .int) true := ⟨RX1, TX1, 8, tyX1, rfl, kl_1, tyX1_ok, nmX1, by decide, gt_of (List.mem_of_getElem? (i := 53) (by decide +kernel)) (by decide +kernel), by decide +kernel, rfl⟩
theorem fl_X4_58 : Fl RX4 58 1 6 (.array .int) true := ⟨RX1, TX1, 8, tyX1, rfl, kl_1, tyX1_ok, nmX1, by decide, gt_of (List.mem_of_getElem? (i := 54) (by decide +kernel)) (by decide +kernel), by decide +kernel, rfl⟩
theorem fl_X2_77 : Fl RX2 77 1 6 (.array .int) true := ⟨RX1, TX1, 8, tyX1, rfl, kl_1, tyX1_ok, nmX1, by decide, gt_of (List.mem_of_getElem? (i := 55) (by decide +kernel)) (by decide +kernel), by decide +kernel, rfl⟩
theorem fl_X7_117 : Fl RX7 117 1 6 (.array .int) true := ⟨RX1, TX1, 8, tyX1, rfl, kl_1, tyX1_ok, nmX1, by decide, gt_of (List.mem_of_getElem? (i := 56) (by decide +kernel)) (by decide +kernel), by decide +kernel, rfl⟩
theorem fl_X1_28 : Fl RX1 28 1 7 (.array .long) true := ⟨RX1, TX1, 8, tyX1, rfl, kl_1, tyX1_ok, nmX1, by decide, gt_of (List.mem_of_getElem? (i := 57) (by decide +kernel)) (by decide +kernel), by decide +kernel, rfl⟩
theorem fl_X2_37 : Fl RX2 37 1 7 (.array .long) true := ⟨RX1, TX1, 8, tyX1, rfl, kl_1, tyX1_ok, nmX1, by decide, gt_of (List.mem_of_getElem? (i := 58) (by decide +kernel)) (by decide +kernel), by decide +kernel, rfl⟩
theorem fl_X7_127 : Fl RX7 127 1 7 (.array .long) true := ⟨RX1, TX1, 8, tyX1, rfl, kl_1, tyX1_ok, nmX1, by decide, gt_of (List.mem_of_getElem? (i := 59) (by decide +kernel)) (by decide +kernel), by decide +kernel, rfl⟩
theorem fl_X6_90 : Fl RX6 90 1 7 (.array .long) true := ⟨RX1, TX1, 8, tyX1, rfl, kl_1, tyX1_ok, nmX1, by decide, gt_of (List.mem_of_getElem? (i := 60) (by decide +kernel)) (by decide +kernel), by decide +kernel, rfl⟩
theorem ml_X7_24 : Cond.methodLink RX7 24 yX4_init ∈ gt := gt_of (List.mem_of_getElem? (i := 82) (by decide +kernel)) (by decide +kernel)
theorem fl_X4_37 : Fl RX4 37 4 0 (.int) false := ⟨RX4, TX4, 12, tyX4, rfl, kl_4, tyX4_ok, nmX4, by decide, gt_of (List.mem_of_getElem? (i := 86) (by decide +kernel)) (by decide +kernel), by decide +kernel, rfl⟩
theorem fl_X7_178 : Fl RX7 178 4 0 (.int) false := ⟨RX4, TX4, 12, tyX4, rfl, kl_4, tyX4_ok, nmX4, by decide, gt_of (List.mem_of_getElem? (i := 87) (by decide +kernel)) (by decide +kernel), by decide +kernel, rfl⟩
theorem fl_X4_11 : Fl RX4 11 4 1 (.array .int) true := ⟨RX4, TX4, 12, tyX4, rfl, kl_4, tyX4_ok, nmX4, by decide, gt_of (List.mem_of_getElem? (i := 88) (by decide +kernel)) (by decide +kernel), by decide +kernel, rfl⟩
theorem fl_X7_179 : Fl RX7 179 4 1 (.array .int) true := ⟨RX4, TX4, 12, tyX4, rfl, kl_4, tyX4_ok, nmX4, by decide, gt_of (List.mem_of_getElem? (i := 89) (by decide +kernel)) (by decide +kernel), by decide +kernel, rfl⟩
theorem fl_X4_15 : Fl RX4 15 4 2 (.array .int) true := ⟨RX4, TX4, 12, tyX4, rfl, kl_4, tyX4_ok, nmX4, by decide, gt_of (List.mem_of_getElem? (i := 90) (by decide +kernel)) (by decide +kernel), by decide +kernel, rfl⟩
theorem fl_X7_185 : Fl RX7 185 4 2 (.array .int) true := ⟨RX4, TX4, 12, tyX4, rfl, kl_4, tyX4_ok, nmX4, by decide, gt_of (List.mem_of_getElem? (i := 91) (by decide +kernel)) (by decide +kernel), by decide +kernel, rfl⟩
theorem fl_X4_97 : Fl RX4 97 4 3 (.int) false := ⟨RX4, TX4, 12, tyX4, rfl, kl_4, tyX4_ok, nmX4, by decide, gt_of (List.mem_of_getElem? (i := 92) (by decide +kernel)) (by decide +kernel), by decide +kernel, rfl⟩
theorem fl_X7_166 : Fl RX7 166 4 3 (.int) false := ⟨RX4, TX4, 12, tyX4, rfl, kl_4, tyX4_ok, nmX4, by decide, gt_of (List.mem_of_getElem? (i := 93) (by decide +kernel)) (by decide +kernel), by decide +kernel, rfl⟩
theorem fl_X4_100 : Fl RX4 100 4 4 (.int) false := ⟨RX4, TX4, 12, tyX4, rfl, kl_4, tyX4_ok, nmX4, by decide, gt_of (List.mem_of_getElem? (i := 94) (by decide +kernel)) (by decide +kernel), by decide +kernel, rfl⟩
theorem fl_X7_169 : Fl RX7 169 4 4 (.int) false := ⟨RX4, TX4, 12, tyX4, rfl, kl_4, tyX4_ok, nmX4, by decide, gt_of (List.mem_of_getElem? (i := 95) (by decide +kernel)) (by decide +kernel), by decide +kernel, rfl⟩
theorem fl_X4_30 : Fl RX4 30 4 5 (.boolean) false := ⟨RX4, TX4, 12, tyX4, rfl, kl_4, tyX4_ok, nmX4, by decide, gt_of (List.mem_of_getElem? (i := 96) (by decide +kernel)) (by decide +kernel), by decide +kernel, rfl⟩
theorem fl_X4_34 : Fl RX4 34 4 6 (.boolean) false := ⟨RX4, TX4, 12, tyX4, rfl, kl_4, tyX4_ok, nmX4, by decide, gt_of (List.mem_of_getElem? (i := 97) (by decide +kernel)) (by decide +kernel), by decide +kernel, rfl⟩
theorem fl_X4_46 : Fl RX4 46 4 7 (.int) false := ⟨RX4, TX4, 12, tyX4, rfl, kl_4, tyX4_ok, nmX4, by decide, gt_of (List.mem_of_getElem? (i := 98) (by decide +kernel)) (by decide +kernel), by decide +kernel, rfl⟩
theorem fl_X4_18 : Fl RX4 18 4 8 (.array .int) true := ⟨RX4, TX4, 12, tyX4, rfl, kl_4, tyX4_ok, nmX4, by decide, gt_of (List.mem_of_getElem? (i := 99) (by decide +kernel)) (by decide +kernel), by decide +kernel, rfl⟩
theorem fl_X4_21 : Fl RX4 21 4 9 (.array .int) true := ⟨RX4, TX4, 12, tyX4, rfl, kl_4, tyX4_ok, nmX4, by decide, gt_of (List.mem_of_getElem? (i := 100) (by decide +kernel)) (by decide +kernel), by decide +kernel, rfl⟩
theorem fl_X4_24 : Fl RX4 24 4 10 (.array .int) true := ⟨RX4, TX4, 12, tyX4, rfl, kl_4, tyX4_ok, nmX4, by decide, gt_of (List.mem_of_getElem? (i := 101) (by decide +kernel)) (by decide +kernel), by decide +kernel, rfl⟩
theorem fl_X4_27 : Fl RX4 27 4 11 (.array .int) true := ⟨RX4, TX4, 12, tyX4, rfl, kl_4, tyX4_ok, nmX4, by decide, gt_of (List.mem_of_getElem? (i := 102) (by decide +kernel)) (by decide +kernel), by decide +kernel, rfl⟩
theorem ml_X7_31 : Cond.methodLink RX7 31 yX2_init ∈ gt := gt_of (List.mem_of_getElem? (i := 130) (by decide +kernel)) (by decide +kernel)
theorem fl_X2_9 : Fl RX2 9 2 0 (.array .int) true := ⟨RX2, TX2, 7, tyX2, rfl, kl_2, tyX2_ok, nmX2, by decide, gt_of (List.mem_of_getElem? (i := 134) (by decide +kernel)) (by decide +kernel), by decide +kernel, rfl⟩
theorem fl_X7_159 : Fl RX7 159 2 0 (.array .int) true := ⟨RX2, TX2, 7, tyX2, rfl, kl_2, tyX2_ok, nmX2, by decide, gt_of (List.mem_of_getElem? (i := 135) (by decide +kernel)) (by decide +kernel), by decide +kernel, rfl⟩
theorem fl_X2_25 : Fl RX2 25 2 1 (.int) false := ⟨RX2, TX2, 7, tyX2, rfl, kl_2, tyX2_ok, nmX2, by decide, gt_of (List.mem_of_getElem? (i := 136) (by decide +kernel)) (by decide +kernel), by decide +kernel, rfl⟩
theorem fl_X2_29 : Fl RX2 29 2 2 (.int) false := ⟨RX2, TX2, 7, tyX2, rfl, kl_2, tyX2_ok, nmX2, by decide, gt_of (List.mem_of_getElem? (i := 137) (by decide +kernel)) (by decide +kernel), by decide +kernel, rfl⟩
theorem fl_X2_40 : Fl RX2 40 2 3 (.int) false := ⟨RX2, TX2, 7, tyX2, rfl, kl_2, tyX2_ok, nmX2, by decide, gt_of (List.mem_of_getElem? (i := 138) (by decide +kernel)) (by decide +kernel), by decide +kernel, rfl⟩
theorem fl_X2_15 : Fl RX2 15 2 4 (.array .int) true := ⟨RX2, TX2, 7, tyX2, rfl, kl_2, tyX2_ok, nmX2, by decide, gt_of (List.mem_of_getElem? (i := 139) (by decide +kernel)) (by decide +kernel), by decide +kernel, rfl⟩
theorem fl_X2_18 : Fl RX2 18 2 5 (.array .int) true := ⟨RX2, TX2, 7, tyX2, rfl, kl_2, tyX2_ok, nmX2, by decide, gt_of (List.mem_of_getElem? (i := 140) (by decide +kernel)) (by decide +kernel), by decide +kernel, rfl⟩
theorem fl_X2_21 : Fl RX2 21 2 6 (.array .long) true := ⟨RX2, TX2, 7, tyX2, rfl, kl_2, tyX2_ok, nmX2, by decide, gt_of (List.mem_of_getElem? (i := 141) (by decide +kernel)) (by decide +kernel), by decide +kernel, rfl⟩
theorem ml_X7_38 : Cond.methodLink RX7 38 yX6_init ∈ gt := gt_of (List.mem_of_getElem? (i := 159) (by decide +kernel)) (by decide +kernel)
theorem fl_X6_15 : Fl RX6 15 6 0 (.int) false := ⟨RX6, TX6, 6, tyX6, rfl, kl_6, tyX6_ok, nmX6, by decide, gt_of (List.mem_of_getElem? (i := 163) (by decide +kernel)) (by decide +kernel), by decide +kernel, rfl⟩
theorem fl_X7_138 : Fl RX7 138 6 0 (.int) false := ⟨RX6, TX6, 6, tyX6, rfl, kl_6, tyX6_ok, nmX6, by decide, gt_of (List.mem_of_getElem? (i := 164) (by decide +kernel)) (by decide +kernel), by decide +kernel, rfl⟩
theorem fl_X6_9 : Fl RX6 9 6 1 (.array .int) true := ⟨RX6, TX6, 6, tyX6, rfl, kl_6, tyX6_ok, nmX6, by decide, gt_of (List.mem_of_getElem? (i := 165) (by decide +kernel)) (by decide +kernel), by decide +kernel, rfl⟩
theorem fl_X6_32 : Fl RX6 32 6 2 (.int) false := ⟨RX6, TX6, 6, tyX6, rfl, kl_6, tyX6_ok, nmX6, by decide, gt_of (List.mem_of_getElem? (i := 166) (by decide +kernel)) (by decide +kernel), by decide +kernel, rfl⟩
theorem fl_X6_29 : Fl RX6 29 6 3 (.int) false := ⟨RX6, TX6, 6, tyX6, rfl, kl_6, tyX6_ok, nmX6, by decide, gt_of (List.mem_of_getElem? (i := 167) (by decide +kernel)) (by decide +kernel), by decide +kernel, rfl⟩
theorem fl_X6_19 : Fl RX6 19 6 4 (.int) false := ⟨RX6, TX6, 6, tyX6, rfl, kl_6, tyX6_ok, nmX6, by decide, gt_of (List.mem_of_getElem? (i := 168) (by decide +kernel)) (by decide +kernel), by decide +kernel, rfl⟩
theorem fl_X6_94 : Fl RX6 94 6 5 (.int) false := ⟨RX6, TX6, 6, tyX6, rfl, kl_6, tyX6_ok, nmX6, by decide, gt_of (List.mem_of_getElem? (i := 169) (by decide +kernel)) (by decide +kernel), by decide +kernel, rfl⟩
theorem fl_X3_30 : Fl RX3 30 3 0 (.boolean) false := ⟨RX3, TX3, 1, tyX3, rfl, kl_3, tyX3_ok, nmX3, by decide, gt_of (List.mem_of_getElem? (i := 189) (by decide +kernel)) (by decide +kernel), by decide +kernel, rfl⟩
theorem fl_X7_285 : Fl RX7 285 3 0 (.boolean) false := ⟨RX3, TX3, 1, tyX3, rfl, kl_3, tyX3_ok, nmX3, by decide, gt_of (List.mem_of_getElem? (i := 190) (by decide +kernel)) (by decide +kernel), by decide +kernel, rfl⟩
theorem fl_X0_11 : Fl RX0 11 0 0 (.int) false := ⟨RX0, TX0, 7, tyX0, rfl, kl_0, tyX0_ok, nmX0, by decide, gt_of (List.mem_of_getElem? (i := 201) (by decide +kernel)) (by decide +kernel), by decide +kernel, rfl⟩
theorem fl_X7_264 : Fl RX7 264 0 0 (.int) false := ⟨RX0, TX0, 7, tyX0, rfl, kl_0, tyX0_ok, nmX0, by decide, gt_of (List.mem_of_getElem? (i := 202) (by decide +kernel)) (by decide +kernel), by decide +kernel, rfl⟩
theorem fl_X3_9 : Fl RX3 9 0 1 (.long) false := ⟨RX0, TX0, 7, tyX0, rfl, kl_0, tyX0_ok, nmX0, by decide, gt_of (List.mem_of_getElem? (i := 203) (by decide +kernel)) (by decide +kernel), by decide +kernel, rfl⟩
theorem fl_X0_43 : Fl RX0 43 0 1 (.long) false := ⟨RX0, TX0, 7, tyX0, rfl, kl_0, tyX0_ok, nmX0, by decide, gt_of (List.mem_of_getElem? (i := 204) (by decide +kernel)) (by decide +kernel), by decide +kernel, rfl⟩
theorem fl_X7_282 : Fl RX7 282 0 1 (.long) false := ⟨RX0, TX0, 7, tyX0, rfl, kl_0, tyX0_ok, nmX0, by decide, gt_of (List.mem_of_getElem? (i := 205) (by decide +kernel)) (by decide +kernel), by decide +kernel, rfl⟩
theorem fl_X3_15 : Fl RX3 15 0 2 (.long) false := ⟨RX0, TX0, 7, tyX0, rfl, kl_0, tyX0_ok, nmX0, by decide, gt_of (List.mem_of_getElem? (i := 206) (by decide +kernel)) (by decide +kernel), by decide +kernel, rfl⟩
theorem fl_X0_46 : Fl RX0 46 0 2 (.long) false := ⟨RX0, TX0, 7, tyX0, rfl, kl_0, tyX0_ok, nmX0, by decide, gt_of (List.mem_of_getElem? (i := 207) (by decide +kernel)) (by decide +kernel), by decide +kernel, rfl⟩
theorem fl_X7_307 : Fl RX7 307 0 2 (.long) false := ⟨RX0, TX0, 7, tyX0, rfl, kl_0, tyX0_ok, nmX0, by decide, gt_of (List.mem_of_getElem? (i := 208) (by decide +kernel)) (by decide +kernel), by decide +kernel, rfl⟩
theorem fl_X0_15 : Fl RX0 15 0 3 (.int) false := ⟨RX0, TX0, 7, tyX0, rfl, kl_0, tyX0_ok, nmX0, by decide, gt_of (List.mem_of_getElem? (i := 209) (by decide +kernel)) (by decide +kernel), by decide +kernel, rfl⟩
theorem fl_X7_309 : Fl RX7 309 0 3 (.int) false := ⟨RX0, TX0, 7, tyX0, rfl, kl_0, tyX0_ok, nmX0, by decide, gt_of (List.mem_of_getElem? (i := 210) (by decide +kernel)) (by decide +kernel), by decide +kernel, rfl⟩
theorem fl_X0_18 : Fl RX0 18 0 4 (.int) false := ⟨RX0, TX0, 7, tyX0, rfl, kl_0, tyX0_ok, nmX0, by decide, gt_of (List.mem_of_getElem? (i := 211) (by decide +kernel)) (by decide +kernel), by decide +kernel, rfl⟩
theorem fl_X7_311 : Fl RX7 311 0 4 (.int) false := ⟨RX0, TX0, 7, tyX0, rfl, kl_0, tyX0_ok, nmX0, by decide, gt_of (List.mem_of_getElem? (i := 212) (by decide +kernel)) (by decide +kernel), by decide +kernel, rfl⟩
theorem fl_X0_26 : Fl RX0 26 0 5 (.int) false := ⟨RX0, TX0, 7, tyX0, rfl, kl_0, tyX0_ok, nmX0, by decide, gt_of (List.mem_of_getElem? (i := 213) (by decide +kernel)) (by decide +kernel), by decide +kernel, rfl⟩
theorem fl_X7_314 : Fl RX7 314 0 5 (.int) false := ⟨RX0, TX0, 7, tyX0, rfl, kl_0, tyX0_ok, nmX0, by decide, gt_of (List.mem_of_getElem? (i := 214) (by decide +kernel)) (by decide +kernel), by decide +kernel, rfl⟩
theorem fl_X0_27 : Fl RX0 27 0 6 (.long) false := ⟨RX0, TX0, 7, tyX0, rfl, kl_0, tyX0_ok, nmX0, by decide, gt_of (List.mem_of_getElem? (i := 215) (by decide +kernel)) (by decide +kernel), by decide +kernel, rfl⟩
theorem fl_X7_315 : Fl RX7 315 0 6 (.long) false := ⟨RX0, TX0, 7, tyX0, rfl, kl_0, tyX0_ok, nmX0, by decide, gt_of (List.mem_of_getElem? (i := 216) (by decide +kernel)) (by decide +kernel), by decide +kernel, rfl⟩
theorem ml_X7_63 : Cond.methodLink RX7 63 yX5_init ∈ gt := gt_of (List.mem_of_getElem? (i := 235) (by decide +kernel)) (by decide +kernel)
theorem fl_X5_9 : Fl RX5 9 5 0 (.int) false := ⟨RX5, TX5, 3, tyX5, rfl, kl_5, tyX5_ok, nmX5, by decide, gt_of (List.mem_of_getElem? (i := 239) (by decide +kernel)) (by decide +kernel), by decide +kernel, rfl⟩
theorem fl_X7_249 : Fl RX7 249 5 0 (.int) false := ⟨RX5, TX5, 3, tyX5, rfl, kl_5, tyX5_ok, nmX5, by decide, gt_of (List.mem_of_getElem? (i := 240) (by decide +kernel)) (by decide +kernel), by decide +kernel, rfl⟩
theorem fl_X5_19 : Fl RX5 19 5 1 (.int) false := ⟨RX5, TX5, 3, tyX5, rfl, kl_5, tyX5_ok, nmX5, by decide, gt_of (List.mem_of_getElem? (i := 241) (by decide +kernel)) (by decide +kernel), by decide +kernel, rfl⟩
theorem fl_X0_21 : Fl RX0 21 5 1 (.int) false := ⟨RX5, TX5, 3, tyX5, rfl, kl_5, tyX5_ok, nmX5, by decide, gt_of (List.mem_of_getElem? (i := 242) (by decide +kernel)) (by decide +kernel), by decide +kernel, rfl⟩
theorem fl_X7_252 : Fl RX7 252 5 1 (.int) false := ⟨RX5, TX5, 3, tyX5, rfl, kl_5, tyX5_ok, nmX5, by decide, gt_of (List.mem_of_getElem? (i := 243) (by decide +kernel)) (by decide +kernel), by decide +kernel, rfl⟩
theorem fl_X5_15 : Fl RX5 15 5 2 (.array .long) true := ⟨RX5, TX5, 3, tyX5, rfl, kl_5, tyX5_ok, nmX5, by decide, gt_of (List.mem_of_getElem? (i := 244) (by decide +kernel)) (by decide +kernel), by decide +kernel, rfl⟩
theorem fl_X0_31 : Fl RX0 31 5 2 (.array .long) true := ⟨RX5, TX5, 3, tyX5, rfl, kl_5, tyX5_ok, nmX5, by decide, gt_of (List.mem_of_getElem? (i := 245) (by decide +kernel)) (by decide +kernel), by decide +kernel, rfl⟩
theorem fl_X7_246 : Fl RX7 246 5 2 (.array .long) true := ⟨RX5, TX5, 3, tyX5, rfl, kl_5, tyX5_ok, nmX5, by decide, gt_of (List.mem_of_getElem? (i := 246) (by decide +kernel)) (by decide +kernel), by decide +kernel, rfl⟩
theorem fl_X7_12 : Fl RX7 12 7 0 (.object "CircleTints$Net") true := ⟨RX7, TX7, 10, tyX7, rfl, kl_7, tyX7_ok, nmX7, by decide, gt_of (List.mem_of_getElem? (i := 254) (by decide +kernel)) (by decide +kernel), by decide +kernel, rfl⟩
theorem fl_X7_16 : Fl RX7 16 7 1 (.object "CircleTints$Net") true := ⟨RX7, TX7, 10, tyX7, rfl, kl_7, tyX7_ok, nmX7, by decide, gt_of (List.mem_of_getElem? (i := 255) (by decide +kernel)) (by decide +kernel), by decide +kernel, rfl⟩
theorem fl_X7_19 : Fl RX7 19 7 2 (.object "CircleTints$Net") true := ⟨RX7, TX7, 10, tyX7, rfl, kl_7, tyX7_ok, nmX7, by decide, gt_of (List.mem_of_getElem? (i := 256) (by decide +kernel)) (by decide +kernel), by decide +kernel, rfl⟩
theorem fl_X7_348 : Fl RX7 348 7 3 (.boolean) false := ⟨RX7, TX7, 10, tyX7, rfl, kl_7, tyX7_ok, nmX7, by decide, gt_of (List.mem_of_getElem? (i := 257) (by decide +kernel)) (by decide +kernel), by decide +kernel, rfl⟩
theorem fl_X7_25 : Fl RX7 25 7 4 (.object "CircleTints$RingBook") true := ⟨RX7, TX7, 10, tyX7, rfl, kl_7, tyX7_ok, nmX7, by decide, gt_of (List.mem_of_getElem? (i := 258) (by decide +kernel)) (by decide +kernel), by decide +kernel, rfl⟩
theorem fl_X7_32 : Fl RX7 32 7 5 (.object "CircleTints$Painter") true := ⟨RX7, TX7, 10, tyX7, rfl, kl_7, tyX7_ok, nmX7, by decide, gt_of (List.mem_of_getElem? (i := 259) (by decide +kernel)) (by decide +kernel), by decide +kernel, rfl⟩
theorem fl_X7_39 : Fl RX7 39 7 6 (.object "CircleTints$TapeReader") true := ⟨RX7, TX7, 10, tyX7, rfl, kl_7, tyX7_ok, nmX7, by decide, gt_of (List.mem_of_getElem? (i := 260) (by decide +kernel)) (by decide +kernel), by decide +kernel, rfl⟩
theorem fl_X7_46 : Fl RX7 46 7 7 (.object "CircleTints$Reckoner") true := ⟨RX7, TX7, 10, tyX7, rfl, kl_7, tyX7_ok, nmX7, by decide, gt_of (List.mem_of_getElem? (i := 261) (by decide +kernel)) (by decide +kernel), by decide +kernel, rfl⟩
theorem fl_X7_52 : Fl RX7 52 7 8 (.array (.object "CircleTints$Hold")) true := ⟨RX7, TX7, 10, tyX7, rfl, kl_7, tyX7_ok, nmX7, by decide, gt_of (List.mem_of_getElem? (i := 262) (by decide +kernel)) (by decide +kernel), by decide +kernel, rfl⟩
theorem fl_X7_59 : Fl RX7 59 7 9 (.array (.object "CircleTints$Sheet")) true := ⟨RX7, TX7, 10, tyX7, rfl, kl_7, tyX7_ok, nmX7, by decide, gt_of (List.mem_of_getElem? (i := 263) (by decide +kernel)) (by decide +kernel), by decide +kernel, rfl⟩
theorem ml_L_13 : Cond.methodLink RL 13 yX7_points ∈ gt := gt_of (List.mem_of_getElem? (i := 285) (by decide +kernel)) (by decide +kernel)
theorem ml_X7_64 : Cond.methodLink RX7 64 yX7_within ∈ gt := gt_of (List.mem_of_getElem? (i := 289) (by decide +kernel)) (by decide +kernel)
theorem ml_X7_72 : Cond.methodLink RX7 72 yX1_addPoints ∈ gt := gt_of (List.mem_of_getElem? (i := 292) (by decide +kernel)) (by decide +kernel)
theorem cj_X1_51 : Cond.constantLong RX1 51 (1099511627775) ∈ gt := gt_of (List.mem_of_getElem? (i := 296) (by decide +kernel)) (by decide +kernel)
theorem ml_L_18 : Cond.methodLink RL 18 yX7_line ∈ gt := gt_of (List.mem_of_getElem? (i := 297) (by decide +kernel)) (by decide +kernel)
theorem ml_X7_76 : Cond.methodLink RX7 76 yX7_isKind ∈ gt := gt_of (List.mem_of_getElem? (i := 301) (by decide +kernel)) (by decide +kernel)
theorem ml_X7_80 : Cond.methodLink RX7 80 yX7_isFigure ∈ gt := gt_of (List.mem_of_getElem? (i := 304) (by decide +kernel)) (by decide +kernel)
theorem ml_X7_83 : Cond.methodLink RX7 83 yX1_hasPoint ∈ gt := gt_of (List.mem_of_getElem? (i := 307) (by decide +kernel)) (by decide +kernel)
theorem ml_X7_86 : Cond.methodLink RX7 86 yX1_areJoined ∈ gt := gt_of (List.mem_of_getElem? (i := 311) (by decide +kernel)) (by decide +kernel)
theorem ml_X1_38 : Cond.methodLink RX1 38 yJ9_min_7cf53 ∈ gt := gt_of (List.mem_of_getElem? (i := 315) (by decide +kernel)) (by decide +kernel)
theorem ml_X1_44 : Cond.methodLink RX1 44 yJ9_max_7cf53 ∈ gt := gt_of (List.mem_of_getElem? (i := 318) (by decide +kernel)) (by decide +kernel)
theorem ml_X7_93 : Cond.methodLink RX7 93 yX4_forget ∈ gt := gt_of (List.mem_of_getElem? (i := 321) (by decide +kernel)) (by decide +kernel)
theorem ml_X7_96 : Cond.methodLink RX7 96 yX1_addLine ∈ gt := gt_of (List.mem_of_getElem? (i := 325) (by decide +kernel)) (by decide +kernel)
theorem ml_L_23 : Cond.methodLink RL 23 yX7_lineOf ∈ gt := gt_of (List.mem_of_getElem? (i := 329) (by decide +kernel)) (by decide +kernel)
theorem ml_X7_100 : Cond.methodLink RX7 100 yX1_hasLine ∈ gt := gt_of (List.mem_of_getElem? (i := 333) (by decide +kernel)) (by decide +kernel)
theorem ml_X7_110 : Cond.methodLink RX7 110 yX1_gapOf ∈ gt := gt_of (List.mem_of_getElem? (i := 337) (by decide +kernel)) (by decide +kernel)
theorem ml_L_28 : Cond.methodLink RL 28 yX7_change ∈ gt := gt_of (List.mem_of_getElem? (i := 341) (by decide +kernel)) (by decide +kernel)
theorem ml_L_33 : Cond.methodLink RL 33 yX7_drop ∈ gt := gt_of (List.mem_of_getElem? (i := 345) (by decide +kernel)) (by decide +kernel)
theorem ml_X7_120 : Cond.methodLink RX7 120 yX1_removeLine ∈ gt := gt_of (List.mem_of_getElem? (i := 349) (by decide +kernel)) (by decide +kernel)
theorem ml_L_39 : Cond.methodLink RL 39 yX7_list ∈ gt := gt_of (List.mem_of_getElem? (i := 353) (by decide +kernel)) (by decide +kernel)
theorem cj_X7_123 : Cond.constantLong RX7 123 (-1099511627776) ∈ gt := gt_of (List.mem_of_getElem? (i := 357) (by decide +kernel)) (by decide +kernel)
theorem cj_X7_125 : Cond.constantLong RX7 125 (-4611686018427387906) ∈ gt := gt_of (List.mem_of_getElem? (i := 358) (by decide +kernel)) (by decide +kernel)
theorem ml_L_44 : Cond.methodLink RL 44 yX7_count ∈ gt := gt_of (List.mem_of_getElem? (i := 359) (by decide +kernel)) (by decide +kernel)
theorem ml_X7_131 : Cond.methodLink RX7 131 yX1_allGaps ∈ gt := gt_of (List.mem_of_getElem? (i := 363) (by decide +kernel)) (by decide +kernel)
theorem ml_X1_47 : Cond.methodLink RX1 47 yX1_gapOf ∈ gt := gt_of (List.mem_of_getElem? (i := 367) (by decide +kernel)) (by decide +kernel)
theorem ml_L_48 : Cond.methodLink RL 48 yX7_fits ∈ gt := gt_of (List.mem_of_getElem? (i := 368) (by decide +kernel)) (by decide +kernel)
theorem ml_X7_141 : Cond.methodLink RX7 141 yX7_areMeasures ∈ gt := gt_of (List.mem_of_getElem? (i := 372) (by decide +kernel)) (by decide +kernel)
theorem ml_X7_144 : Cond.methodLink RX7 144 yX4_rateTurns ∈ gt := gt_of (List.mem_of_getElem? (i := 375) (by decide +kernel)) (by decide +kernel)
theorem ml_X4_93 : Cond.methodLink RX4 93 yX4_findRings ∈ gt := gt_of (List.mem_of_getElem? (i := 379) (by decide +kernel)) (by decide +kernel)
theorem ml_X4_49 : Cond.methodLink RX4 49 yJ7_fill_53178 ∈ gt := gt_of (List.mem_of_getElem? (i := 383) (by decide +kernel)) (by decide +kernel)
theorem ml_X4_61 : Cond.methodLink RX4 61 yJ6_bitCount_0f7a4 ∈ gt := gt_of (List.mem_of_getElem? (i := 386) (by decide +kernel)) (by decide +kernel)
theorem co_J6_265 : Cond.constant RJ6 265 (1431655765) ∈ gt := gt_of (List.mem_of_getElem? (i := 389) (by decide +kernel)) (by decide +kernel)
theorem co_J6_266 : Cond.constant RJ6 266 (858993459) ∈ gt := gt_of (List.mem_of_getElem? (i := 390) (by decide +kernel)) (by decide +kernel)
theorem co_J6_267 : Cond.constant RJ6 267 (252645135) ∈ gt := gt_of (List.mem_of_getElem? (i := 391) (by decide +kernel)) (by decide +kernel)
theorem ml_X4_67 : Cond.methodLink RX4 67 yX4_addRing ∈ gt := gt_of (List.mem_of_getElem? (i := 392) (by decide +kernel)) (by decide +kernel)
theorem ml_X4_81 : Cond.methodLink RX4 81 yX1_gapOf ∈ gt := gt_of (List.mem_of_getElem? (i := 396) (by decide +kernel)) (by decide +kernel)
theorem ml_X4_74 : Cond.methodLink RX4 74 yX4_goRound ∈ gt := gt_of (List.mem_of_getElem? (i := 397) (by decide +kernel)) (by decide +kernel)
theorem ml_X4_78 : Cond.methodLink RX4 78 yX4_leastOf ∈ gt := gt_of (List.mem_of_getElem? (i := 401) (by decide +kernel)) (by decide +kernel)
theorem ml_X4_103 : Cond.methodLink RX4 103 yX4_worstRing ∈ gt := gt_of (List.mem_of_getElem? (i := 404) (by decide +kernel)) (by decide +kernel)
theorem ml_X4_90 : Cond.methodLink RX4 90 yX4_along ∈ gt := gt_of (List.mem_of_getElem? (i := 408) (by decide +kernel)) (by decide +kernel)
theorem ml_X4_84 : Cond.methodLink RX4 84 yJ9_min_7cf53 ∈ gt := gt_of (List.mem_of_getElem? (i := 412) (by decide +kernel)) (by decide +kernel)
theorem ml_X7_148 : Cond.methodLink RX7 148 yX2_prepare ∈ gt := gt_of (List.mem_of_getElem? (i := 416) (by decide +kernel)) (by decide +kernel)
theorem ml_X2_46 : Cond.methodLink RX2 46 yX1_gapOf ∈ gt := gt_of (List.mem_of_getElem? (i := 420) (by decide +kernel)) (by decide +kernel)
theorem ml_X7_152 : Cond.methodLink RX7 152 yX2_finds ∈ gt := gt_of (List.mem_of_getElem? (i := 421) (by decide +kernel)) (by decide +kernel)
theorem ml_X2_53 : Cond.methodLink RX2 53 yX4_allows ∈ gt := gt_of (List.mem_of_getElem? (i := 425) (by decide +kernel)) (by decide +kernel)
theorem ml_X2_59 : Cond.methodLink RX2 59 yX2_settles ∈ gt := gt_of (List.mem_of_getElem? (i := 429) (by decide +kernel)) (by decide +kernel)
theorem ml_X2_73 : Cond.methodLink RX2 73 yX2_lifts ∈ gt := gt_of (List.mem_of_getElem? (i := 433) (by decide +kernel)) (by decide +kernel)
theorem cj_X2_80 : Cond.constantLong RX2 80 (-1) ∈ gt := gt_of (List.mem_of_getElem? (i := 437) (by decide +kernel)) (by decide +kernel)
theorem ml_X2_82 : Cond.methodLink RX2 82 yJ13_bitCount_95d88 ∈ gt := gt_of (List.mem_of_getElem? (i := 438) (by decide +kernel)) (by decide +kernel)
theorem cj_J13_314 : Cond.constantLong RJ13 314 (6148914691236517205) ∈ gt := gt_of (List.mem_of_getElem? (i := 441) (by decide +kernel)) (by decide +kernel)
theorem cj_J13_316 : Cond.constantLong RJ13 316 (3689348814741910323) ∈ gt := gt_of (List.mem_of_getElem? (i := 442) (by decide +kernel)) (by decide +kernel)
theorem cj_J13_318 : Cond.constantLong RJ13 318 (1085102592571150095) ∈ gt := gt_of (List.mem_of_getElem? (i := 443) (by decide +kernel)) (by decide +kernel)
theorem ml_X2_63 : Cond.methodLink RX2 63 yX2_isTrialLess ∈ gt := gt_of (List.mem_of_getElem? (i := 444) (by decide +kernel)) (by decide +kernel)
theorem ml_L_52 : Cond.methodLink RL 52 yX7_place ∈ gt := gt_of (List.mem_of_getElem? (i := 451) (by decide +kernel)) (by decide +kernel)
theorem ml_X7_156 : Cond.methodLink RX7 156 yX7_findFirst ∈ gt := gt_of (List.mem_of_getElem? (i := 455) (by decide +kernel)) (by decide +kernel)
theorem ml_L_56 : Cond.methodLink RL 56 yX7_ways ∈ gt := gt_of (List.mem_of_getElem? (i := 459) (by decide +kernel)) (by decide +kernel)
theorem ml_X7_162 : Cond.methodLink RX7 162 yX2_countAll ∈ gt := gt_of (List.mem_of_getElem? (i := 463) (by decide +kernel)) (by decide +kernel)
theorem ml_X2_88 : Cond.methodLink RX2 88 yX2_countFrom ∈ gt := gt_of (List.mem_of_getElem? (i := 467) (by decide +kernel)) (by decide +kernel)
theorem ml_X2_92 : Cond.methodLink RX2 92 yX2_openTo ∈ gt := gt_of (List.mem_of_getElem? (i := 470) (by decide +kernel)) (by decide +kernel)
theorem ml_X2_96 : Cond.methodLink RX2 96 yX2_apartFrom ∈ gt := gt_of (List.mem_of_getElem? (i := 474) (by decide +kernel)) (by decide +kernel)
theorem ml_L_60 : Cond.methodLink RL 60 yX7_ratio ∈ gt := gt_of (List.mem_of_getElem? (i := 478) (by decide +kernel)) (by decide +kernel)
theorem ml_L_64 : Cond.methodLink RL 64 yX7_whole ∈ gt := gt_of (List.mem_of_getElem? (i := 482) (by decide +kernel)) (by decide +kernel)
theorem ml_X7_172 : Cond.methodLink RX7 172 yX7_leastWhole ∈ gt := gt_of (List.mem_of_getElem? (i := 486) (by decide +kernel)) (by decide +kernel)
theorem ml_L_69 : Cond.methodLink RL 69 yX7_off ∈ gt := gt_of (List.mem_of_getElem? (i := 490) (by decide +kernel)) (by decide +kernel)
theorem ml_L_73 : Cond.methodLink RL 73 yX7_rings ∈ gt := gt_of (List.mem_of_getElem? (i := 494) (by decide +kernel)) (by decide +kernel)
theorem ml_X7_175 : Cond.methodLink RX7 175 yX4_findRings ∈ gt := gt_of (List.mem_of_getElem? (i := 498) (by decide +kernel)) (by decide +kernel)
theorem ml_L_77 : Cond.methodLink RL 77 yX7_ring ∈ gt := gt_of (List.mem_of_getElem? (i := 499) (by decide +kernel)) (by decide +kernel)
theorem ml_X7_182 : Cond.methodLink RX7 182 yX1_pointsOf ∈ gt := gt_of (List.mem_of_getElem? (i := 503) (by decide +kernel)) (by decide +kernel)
theorem ml_L_81 : Cond.methodLink RL 81 yX7_circled ∈ gt := gt_of (List.mem_of_getElem? (i := 507) (by decide +kernel)) (by decide +kernel)
theorem ml_X7_188 : Cond.methodLink RX7 188 yX1_areLines ∈ gt := gt_of (List.mem_of_getElem? (i := 511) (by decide +kernel)) (by decide +kernel)
theorem ml_X7_191 : Cond.methodLink RX7 191 yX4_worstRing ∈ gt := gt_of (List.mem_of_getElem? (i := 515) (by decide +kernel)) (by decide +kernel)
theorem ml_L_85 : Cond.methodLink RL 85 yX7_rate ∈ gt := gt_of (List.mem_of_getElem? (i := 516) (by decide +kernel)) (by decide +kernel)
theorem ml_X7_194 : Cond.methodLink RX7 194 yX7_ringOfRate ∈ gt := gt_of (List.mem_of_getElem? (i := 520) (by decide +kernel)) (by decide +kernel)
theorem ml_X7_197 : Cond.methodLink RX7 197 yX4_along ∈ gt := gt_of (List.mem_of_getElem? (i := 524) (by decide +kernel)) (by decide +kernel)
theorem ml_X7_201 : Cond.methodLink RX7 201 yX7_commonPart ∈ gt := gt_of (List.mem_of_getElem? (i := 525) (by decide +kernel)) (by decide +kernel)
theorem ml_L_89 : Cond.methodLink RL 89 yX7_worst ∈ gt := gt_of (List.mem_of_getElem? (i := 526) (by decide +kernel)) (by decide +kernel)
theorem ml_L_93 : Cond.methodLink RL 93 yX7_turns ∈ gt := gt_of (List.mem_of_getElem? (i := 530) (by decide +kernel)) (by decide +kernel)
theorem ml_X7_205 : Cond.methodLink RX7 205 yX4_countOpen ∈ gt := gt_of (List.mem_of_getElem? (i := 534) (by decide +kernel)) (by decide +kernel)
theorem ml_X7_208 : Cond.methodLink RX7 208 yX4_countBest ∈ gt := gt_of (List.mem_of_getElem? (i := 538) (by decide +kernel)) (by decide +kernel)
theorem ml_X4_110 : Cond.methodLink RX4 110 yX4_allows ∈ gt := gt_of (List.mem_of_getElem? (i := 542) (by decide +kernel)) (by decide +kernel)
theorem ml_X7_211 : Cond.methodLink RX7 211 yX4_leastBest ∈ gt := gt_of (List.mem_of_getElem? (i := 543) (by decide +kernel)) (by decide +kernel)
theorem ml_L_97 : Cond.methodLink RL 97 yX7_binds ∈ gt := gt_of (List.mem_of_getElem? (i := 547) (by decide +kernel)) (by decide +kernel)
theorem ml_X7_214 : Cond.methodLink RX7 214 yX4_isLessWithout ∈ gt := gt_of (List.mem_of_getElem? (i := 551) (by decide +kernel)) (by decide +kernel)
theorem ml_X4_114 : Cond.methodLink RX4 114 yX4_isLessBy ∈ gt := gt_of (List.mem_of_getElem? (i := 555) (by decide +kernel)) (by decide +kernel)
theorem ml_L_101 : Cond.methodLink RL 101 yX7_room ∈ gt := gt_of (List.mem_of_getElem? (i := 559) (by decide +kernel)) (by decide +kernel)
theorem ml_X7_217 : Cond.methodLink RX7 217 yX4_roomOf ∈ gt := gt_of (List.mem_of_getElem? (i := 563) (by decide +kernel)) (by decide +kernel)
theorem ml_X4_118 : Cond.methodLink RX4 118 yX4_roomBy ∈ gt := gt_of (List.mem_of_getElem? (i := 567) (by decide +kernel)) (by decide +kernel)
theorem ml_X4_121 : Cond.methodLink RX4 121 yJ9_max_7cf53 ∈ gt := gt_of (List.mem_of_getElem? (i := 571) (by decide +kernel)) (by decide +kernel)
theorem ml_L_105 : Cond.methodLink RL 105 yX7_judge ∈ gt := gt_of (List.mem_of_getElem? (i := 572) (by decide +kernel)) (by decide +kernel)
theorem ml_X7_220 : Cond.methodLink RX7 220 yX7_refusalOf ∈ gt := gt_of (List.mem_of_getElem? (i := 576) (by decide +kernel)) (by decide +kernel)
theorem ml_X7_243 : Cond.methodLink RX7 243 yX7_isSheet ∈ gt := gt_of (List.mem_of_getElem? (i := 580) (by decide +kernel)) (by decide +kernel)
theorem ml_X7_271 : Cond.methodLink RX7 271 yX5_isMissing ∈ gt := gt_of (List.mem_of_getElem? (i := 583) (by decide +kernel)) (by decide +kernel)
theorem ml_X7_224 : Cond.methodLink RX7 224 yX7_firstWrong ∈ gt := gt_of (List.mem_of_getElem? (i := 587) (by decide +kernel)) (by decide +kernel)
theorem ml_X7_351 : Cond.methodLink RX7 351 yX7_areApart ∈ gt := gt_of (List.mem_of_getElem? (i := 591) (by decide +kernel)) (by decide +kernel)
theorem ml_X7_355 : Cond.methodLink RX7 355 yJ9_abs_067f4 ∈ gt := gt_of (List.mem_of_getElem? (i := 594) (by decide +kernel)) (by decide +kernel)
theorem ml_L_109 : Cond.methodLink RL 109 yX7_arcs ∈ gt := gt_of (List.mem_of_getElem? (i := 597) (by decide +kernel)) (by decide +kernel)
theorem ml_X7_228 : Cond.methodLink RX7 228 yX7_refusalOfColouring ∈ gt := gt_of (List.mem_of_getElem? (i := 601) (by decide +kernel)) (by decide +kernel)
theorem ml_X7_231 : Cond.methodLink RX7 231 yX7_tightLines ∈ gt := gt_of (List.mem_of_getElem? (i := 605) (by decide +kernel)) (by decide +kernel)
theorem ml_X7_235 : Cond.methodLink RX7 235 yJ6_bitCount_0f7a4 ∈ gt := gt_of (List.mem_of_getElem? (i := 609) (by decide +kernel)) (by decide +kernel)
theorem ml_L_113 : Cond.methodLink RL 113 yX7_tight ∈ gt := gt_of (List.mem_of_getElem? (i := 610) (by decide +kernel)) (by decide +kernel)
theorem ml_X7_240 : Cond.methodLink RX7 240 yX4_leastTight ∈ gt := gt_of (List.mem_of_getElem? (i := 614) (by decide +kernel)) (by decide +kernel)
theorem ml_L_117 : Cond.methodLink RL 117 yX7_rounds ∈ gt := gt_of (List.mem_of_getElem? (i := 618) (by decide +kernel)) (by decide +kernel)
theorem ml_L_121 : Cond.methodLink RL 121 yX7_next ∈ gt := gt_of (List.mem_of_getElem? (i := 622) (by decide +kernel)) (by decide +kernel)
theorem ml_X7_253 : Cond.methodLink RX7 253 yX7_neighbour ∈ gt := gt_of (List.mem_of_getElem? (i := 626) (by decide +kernel)) (by decide +kernel)
theorem ml_X7_372 : Cond.methodLink RX7 372 yJ9_min_f86c9 ∈ gt := gt_of (List.mem_of_getElem? (i := 629) (by decide +kernel)) (by decide +kernel)
theorem ml_L_126 : Cond.methodLink RL 126 yX7_fraction ∈ gt := gt_of (List.mem_of_getElem? (i := 632) (by decide +kernel)) (by decide +kernel)
theorem ml_X7_257 : Cond.methodLink RX7 257 yX7_isHold ∈ gt := gt_of (List.mem_of_getElem? (i := 636) (by decide +kernel)) (by decide +kernel)
theorem ml_X7_260 : Cond.methodLink RX7 260 yX0_takeFraction ∈ gt := gt_of (List.mem_of_getElem? (i := 639) (by decide +kernel)) (by decide +kernel)
theorem cj_X0_39 : Cond.constantLong RX0 39 (-1) ∈ gt := gt_of (List.mem_of_getElem? (i := 644) (by decide +kernel)) (by decide +kernel)
theorem cj_X0_41 : Cond.constantLong RX0 41 (-9223372036854775808) ∈ gt := gt_of (List.mem_of_getElem? (i := 645) (by decide +kernel)) (by decide +kernel)
theorem ml_L_131 : Cond.methodLink RL 131 yX7_hold ∈ gt := gt_of (List.mem_of_getElem? (i := 646) (by decide +kernel)) (by decide +kernel)
theorem ml_X7_267 : Cond.methodLink RX7 267 yX0_takeLine ∈ gt := gt_of (List.mem_of_getElem? (i := 650) (by decide +kernel)) (by decide +kernel)
theorem ml_X7_275 : Cond.methodLink RX7 275 yX0_takeRow ∈ gt := gt_of (List.mem_of_getElem? (i := 654) (by decide +kernel)) (by decide +kernel)
theorem ml_L_135 : Cond.methodLink RL 135 yX7_does ∈ gt := gt_of (List.mem_of_getElem? (i := 658) (by decide +kernel)) (by decide +kernel)
theorem ml_X7_279 : Cond.methodLink RX7 279 yX7_refusalOfFractions ∈ gt := gt_of (List.mem_of_getElem? (i := 662) (by decide +kernel)) (by decide +kernel)
theorem ml_X7_289 : Cond.methodLink RX7 289 yX3_aboveOf ∈ gt := gt_of (List.mem_of_getElem? (i := 666) (by decide +kernel)) (by decide +kernel)
theorem ml_X3_18 : Cond.methodLink RX3 18 yX3_times ∈ gt := gt_of (List.mem_of_getElem? (i := 670) (by decide +kernel)) (by decide +kernel)
theorem cj_X3_34 : Cond.constantLong RX3 34 (-1) ∈ gt := gt_of (List.mem_of_getElem? (i := 674) (by decide +kernel)) (by decide +kernel)
theorem cj_X3_36 : Cond.constantLong RX3 36 (-9223372036854775808) ∈ gt := gt_of (List.mem_of_getElem? (i := 675) (by decide +kernel)) (by decide +kernel)
theorem ml_X3_24 : Cond.methodLink RX3 24 yX3_plus ∈ gt := gt_of (List.mem_of_getElem? (i := 676) (by decide +kernel)) (by decide +kernel)
theorem ml_X3_27 : Cond.methodLink RX3 27 yX3_less ∈ gt := gt_of (List.mem_of_getElem? (i := 680) (by decide +kernel)) (by decide +kernel)
theorem ml_X7_293 : Cond.methodLink RX7 293 yX3_belowOf ∈ gt := gt_of (List.mem_of_getElem? (i := 684) (by decide +kernel)) (by decide +kernel)
theorem ml_L_139 : Cond.methodLink RL 139 yX7_compare ∈ gt := gt_of (List.mem_of_getElem? (i := 688) (by decide +kernel)) (by decide +kernel)
theorem ml_X7_296 : Cond.methodLink RX7 296 yX7_order ∈ gt := gt_of (List.mem_of_getElem? (i := 692) (by decide +kernel)) (by decide +kernel)
theorem ml_X7_361 : Cond.methodLink RX7 361 yJ9_floorDiv_f86c9 ∈ gt := gt_of (List.mem_of_getElem? (i := 695) (by decide +kernel)) (by decide +kernel)
theorem ml_X7_364 : Cond.methodLink RX7 364 yJ9_floorMod_f86c9 ∈ gt := gt_of (List.mem_of_getElem? (i := 698) (by decide +kernel)) (by decide +kernel)
theorem ml_X7_367 : Cond.methodLink RX7 367 yJ13_compare_74951 ∈ gt := gt_of (List.mem_of_getElem? (i := 701) (by decide +kernel)) (by decide +kernel)
theorem ml_L_143 : Cond.methodLink RL 143 yX7_told ∈ gt := gt_of (List.mem_of_getElem? (i := 704) (by decide +kernel)) (by decide +kernel)
theorem cj_X7_300 : Cond.constantLong RX7 300 (-4611686018427387915) ∈ gt := gt_of (List.mem_of_getElem? (i := 708) (by decide +kernel)) (by decide +kernel)
theorem ml_X7_302 : Cond.methodLink RX7 302 yX0_thingTold ∈ gt := gt_of (List.mem_of_getElem? (i := 709) (by decide +kernel)) (by decide +kernel)
theorem cj_X7_305 : Cond.constantLong RX7 305 (-4611686018427387917) ∈ gt := gt_of (List.mem_of_getElem? (i := 712) (by decide +kernel)) (by decide +kernel)
theorem ml_L_148 : Cond.methodLink RL 148 yX7_feed ∈ gt := gt_of (List.mem_of_getElem? (i := 713) (by decide +kernel)) (by decide +kernel)
theorem ml_X7_318 : Cond.methodLink RX7 318 yX6_append ∈ gt := gt_of (List.mem_of_getElem? (i := 717) (by decide +kernel)) (by decide +kernel)
theorem ml_L_152 : Cond.methodLink RL 152 yX7_wipe ∈ gt := gt_of (List.mem_of_getElem? (i := 721) (by decide +kernel)) (by decide +kernel)
theorem ml_L_156 : Cond.methodLink RL 156 yX7_text ∈ gt := gt_of (List.mem_of_getElem? (i := 725) (by decide +kernel)) (by decide +kernel)
theorem ml_X7_321 : Cond.methodLink RX7 321 yX1_become ∈ gt := gt_of (List.mem_of_getElem? (i := 729) (by decide +kernel)) (by decide +kernel)
theorem ml_X7_324 : Cond.methodLink RX7 324 yX6_readAll ∈ gt := gt_of (List.mem_of_getElem? (i := 734) (by decide +kernel)) (by decide +kernel)
theorem ml_X6_22 : Cond.methodLink RX6 22 yX6_readToken ∈ gt := gt_of (List.mem_of_getElem? (i := 738) (by decide +kernel)) (by decide +kernel)
theorem ml_X6_107 : Cond.methodLink RX6 107 yX6_passOver ∈ gt := gt_of (List.mem_of_getElem? (i := 742) (by decide +kernel)) (by decide +kernel)
theorem ml_X6_111 : Cond.methodLink RX6 111 yX6_valueOf ∈ gt := gt_of (List.mem_of_getElem? (i := 746) (by decide +kernel)) (by decide +kernel)
theorem ml_X6_25 : Cond.methodLink RX6 25 yX6_readsItem ∈ gt := gt_of (List.mem_of_getElem? (i := 750) (by decide +kernel)) (by decide +kernel)
theorem ml_X6_37 : Cond.methodLink RX6 37 yX6_isWord ∈ gt := gt_of (List.mem_of_getElem? (i := 755) (by decide +kernel)) (by decide +kernel)
theorem ml_X6_114 : Cond.methodLink RX6 114 yJ0_length_8abf5 ∈ gt := gt_of (List.mem_of_getElem? (i := 759) (by decide +kernel)) (by decide +kernel)
theorem ml_J0_335 : Cond.methodLink RJ0 335 yJ0_coder_7d493 ∈ gt := gt_of (List.mem_of_getElem? (i := 763) (by decide +kernel)) (by decide +kernel)
theorem ml_X6_119 : Cond.methodLink RX6 119 yJ0_charAt_5068e ∈ gt := gt_of (List.mem_of_getElem? (i := 769) (by decide +kernel)) (by decide +kernel)
theorem ml_J0_492 : Cond.methodLink RJ0 492 yJ0_isLatin1_aae02 ∈ gt := gt_of (List.mem_of_getElem? (i := 773) (by decide +kernel)) (by decide +kernel)
theorem ml_J0_495 : Cond.methodLink RJ0 495 yJ1_charAt_3b067 ∈ gt := gt_of (List.mem_of_getElem? (i := 777) (by decide +kernel)) (by decide +kernel)
theorem ml_J1_9 : Cond.methodLink RJ1 9 yJ0_checkIndex_df160 ∈ gt := gt_of (List.mem_of_getElem? (i := 780) (by decide +kernel)) (by decide +kernel)
theorem ml_J0_1059 : Cond.methodLink RJ0 1059 yJ3_checkIndex_8e157 ∈ gt := gt_of (List.mem_of_getElem? (i := 785) (by decide +kernel)) (by decide +kernel)
theorem ml_J0_498 : Cond.methodLink RJ0 498 yJ2_charAt_3b067 ∈ gt := gt_of (List.mem_of_getElem? (i := 788) (by decide +kernel)) (by decide +kernel)
theorem ml_J2_67 : Cond.methodLink RJ2 67 yJ2_checkIndex_2214a ∈ gt := gt_of (List.mem_of_getElem? (i := 791) (by decide +kernel)) (by decide +kernel)
theorem ml_J2_48 : Cond.methodLink RJ2 48 yJ2_length_9d52b ∈ gt := gt_of (List.mem_of_getElem? (i := 794) (by decide +kernel)) (by decide +kernel)
theorem ml_J2_414 : Cond.methodLink RJ2 414 yJ0_checkIndex_df160 ∈ gt := gt_of (List.mem_of_getElem? (i := 797) (by decide +kernel)) (by decide +kernel)
theorem ml_J2_71 : Cond.methodLink RJ2 71 yJ2_getChar_3b067 ∈ gt := gt_of (List.mem_of_getElem? (i := 798) (by decide +kernel)) (by decide +kernel)
theorem ml_X6_41 : Cond.methodLink RX6 41 yX6_readsPoints ∈ gt := gt_of (List.mem_of_getElem? (i := 807) (by decide +kernel)) (by decide +kernel)
theorem ml_X6_66 : Cond.methodLink RX6 66 yX6_readNumber ∈ gt := gt_of (List.mem_of_getElem? (i := 811) (by decide +kernel)) (by decide +kernel)
theorem ml_X6_70 : Cond.methodLink RX6 70 yX1_addPoints ∈ gt := gt_of (List.mem_of_getElem? (i := 815) (by decide +kernel)) (by decide +kernel)
theorem ml_X6_51 : Cond.methodLink RX6 51 yX6_readsLine ∈ gt := gt_of (List.mem_of_getElem? (i := 817) (by decide +kernel)) (by decide +kernel)
theorem ml_X6_74 : Cond.methodLink RX6 74 yX6_readKind ∈ gt := gt_of (List.mem_of_getElem? (i := 821) (by decide +kernel)) (by decide +kernel)
theorem ml_X6_78 : Cond.methodLink RX6 78 yX1_areJoined ∈ gt := gt_of (List.mem_of_getElem? (i := 830) (by decide +kernel)) (by decide +kernel)
theorem ml_X6_82 : Cond.methodLink RX6 82 yX1_addLine ∈ gt := gt_of (List.mem_of_getElem? (i := 831) (by decide +kernel)) (by decide +kernel)
theorem ml_X6_56 : Cond.methodLink RX6 56 yX6_readsRound ∈ gt := gt_of (List.mem_of_getElem? (i := 833) (by decide +kernel)) (by decide +kernel)
theorem ml_X6_86 : Cond.methodLink RX6 86 yX6_joinUnlessJoined ∈ gt := gt_of (List.mem_of_getElem? (i := 837) (by decide +kernel)) (by decide +kernel)
theorem ml_X6_61 : Cond.methodLink RX6 61 yX6_readsList ∈ gt := gt_of (List.mem_of_getElem? (i := 841) (by decide +kernel)) (by decide +kernel)
theorem ml_L_160 : Cond.methodLink RL 160 yX7_seed ∈ gt := gt_of (List.mem_of_getElem? (i := 846) (by decide +kernel)) (by decide +kernel)
theorem ml_L_164 : Cond.methodLink RL 164 yX7_deal ∈ gt := gt_of (List.mem_of_getElem? (i := 850) (by decide +kernel)) (by decide +kernel)
theorem ml_X7_328 : Cond.methodLink RX7 328 yX1_draw ∈ gt := gt_of (List.mem_of_getElem? (i := 854) (by decide +kernel)) (by decide +kernel)
theorem co_X1_59 : Cond.constant RX1 59 (1103515245) ∈ gt := gt_of (List.mem_of_getElem? (i := 858) (by decide +kernel)) (by decide +kernel)
theorem ml_L_168 : Cond.methodLink RL 168 yX7_sheet ∈ gt := gt_of (List.mem_of_getElem? (i := 859) (by decide +kernel)) (by decide +kernel)
theorem ml_X7_331 : Cond.methodLink RX7 331 yX5_begin ∈ gt := gt_of (List.mem_of_getElem? (i := 863) (by decide +kernel)) (by decide +kernel)
theorem ml_X5_22 : Cond.methodLink RX5 22 yJ7_fill_d0a16 ∈ gt := gt_of (List.mem_of_getElem? (i := 867) (by decide +kernel)) (by decide +kernel)
theorem ml_L_172 : Cond.methodLink RL 172 yX7_write ∈ gt := gt_of (List.mem_of_getElem? (i := 870) (by decide +kernel)) (by decide +kernel)
theorem ml_X7_334 : Cond.methodLink RX7 334 yX5_hasNumber ∈ gt := gt_of (List.mem_of_getElem? (i := 874) (by decide +kernel)) (by decide +kernel)
theorem ml_L_177 : Cond.methodLink RL 177 yX7_item ∈ gt := gt_of (List.mem_of_getElem? (i := 878) (by decide +kernel)) (by decide +kernel)
theorem cj_X7_337 : Cond.constantLong RX7 337 (-4611686018427387916) ∈ gt := gt_of (List.mem_of_getElem? (i := 882) (by decide +kernel)) (by decide +kernel)
theorem ml_L_181 : Cond.methodLink RL 181 yX7_copy ∈ gt := gt_of (List.mem_of_getElem? (i := 883) (by decide +kernel)) (by decide +kernel)
theorem ml_X7_339 : Cond.methodLink RX7 339 yX5_hasStretch ∈ gt := gt_of (List.mem_of_getElem? (i := 887) (by decide +kernel)) (by decide +kernel)
theorem ml_L_185 : Cond.methodLink RL 185 yX7_paint ∈ gt := gt_of (List.mem_of_getElem? (i := 892) (by decide +kernel)) (by decide +kernel)
theorem ml_L_189 : Cond.methodLink RL 189 yX7_image ∈ gt := gt_of (List.mem_of_getElem? (i := 896) (by decide +kernel)) (by decide +kernel)
theorem ml_L_193 : Cond.methodLink RL 193 yX7_back ∈ gt := gt_of (List.mem_of_getElem? (i := 900) (by decide +kernel)) (by decide +kernel)
theorem ml_L_12 : Cond.methodLink RL 12 yX8_init ∈ gt := gt_of (List.mem_of_getElem? (i := 906) (by decide +kernel)) (by decide +kernel)
theorem cj_X8_26 : Cond.constantLong RX8 26 (1099511627775) ∈ gt := gt_of (List.mem_of_getElem? (i := 910) (by decide +kernel)) (by decide +kernel)
theorem fl_X8_95 : Fl RX8 95 8 0 (.int) false := ⟨RX8, TX8, 44, tyX8, rfl, kl_8, tyX8_ok, nmX8, by decide, gt_of (List.mem_of_getElem? (i := 911) (by decide +kernel)) (by decide +kernel), by decide +kernel, rfl⟩
theorem fl_X8_102 : Fl RX8 102 8 1 (.int) false := ⟨RX8, TX8, 44, tyX8, rfl, kl_8, tyX8_ok, nmX8, by decide, gt_of (List.mem_of_getElem? (i := 912) (by decide +kernel)) (by decide +kernel), by decide +kernel, rfl⟩
theorem fl_X8_7 : Fl RX8 7 8 2 (.int) false := ⟨RX8, TX8, 44, tyX8, rfl, kl_8, tyX8_ok, nmX8, by decide, gt_of (List.mem_of_getElem? (i := 913) (by decide +kernel)) (by decide +kernel), by decide +kernel, rfl⟩
theorem fl_X8_13 : Fl RX8 13 8 3 (.array .int) true := ⟨RX8, TX8, 44, tyX8, rfl, kl_8, tyX8_ok, nmX8, by decide, gt_of (List.mem_of_getElem? (i := 914) (by decide +kernel)) (by decide +kernel), by decide +kernel, rfl⟩
theorem fl_X8_17 : Fl RX8 17 8 4 (.array .int) true := ⟨RX8, TX8, 44, tyX8, rfl, kl_8, tyX8_ok, nmX8, by decide, gt_of (List.mem_of_getElem? (i := 915) (by decide +kernel)) (by decide +kernel), by decide +kernel, rfl⟩
theorem fl_X8_20 : Fl RX8 20 8 5 (.array .int) true := ⟨RX8, TX8, 44, tyX8, rfl, kl_8, tyX8_ok, nmX8, by decide, gt_of (List.mem_of_getElem? (i := 916) (by decide +kernel)) (by decide +kernel), by decide +kernel, rfl⟩
theorem fl_X8_23 : Fl RX8 23 8 6 (.array .int) true := ⟨RX8, TX8, 44, tyX8, rfl, kl_8, tyX8_ok, nmX8, by decide, gt_of (List.mem_of_getElem? (i := 917) (by decide +kernel)) (by decide +kernel), by decide +kernel, rfl⟩
theorem fl_X8_28 : Fl RX8 28 8 7 (.array .long) true := ⟨RX8, TX8, 44, tyX8, rfl, kl_8, tyX8_ok, nmX8, by decide, gt_of (List.mem_of_getElem? (i := 918) (by decide +kernel)) (by decide +kernel), by decide +kernel, rfl⟩
theorem fl_X8_32 : Fl RX8 32 8 8 (.int) false := ⟨RX8, TX8, 44, tyX8, rfl, kl_8, tyX8_ok, nmX8, by decide, gt_of (List.mem_of_getElem? (i := 919) (by decide +kernel)) (by decide +kernel), by decide +kernel, rfl⟩
theorem fl_X8_109 : Fl RX8 109 8 9 (.int) false := ⟨RX8, TX8, 44, tyX8, rfl, kl_8, tyX8_ok, nmX8, by decide, gt_of (List.mem_of_getElem? (i := 920) (by decide +kernel)) (by decide +kernel), by decide +kernel, rfl⟩
theorem fl_X8_35 : Fl RX8 35 8 10 (.array .long) true := ⟨RX8, TX8, 44, tyX8, rfl, kl_8, tyX8_ok, nmX8, by decide, gt_of (List.mem_of_getElem? (i := 921) (by decide +kernel)) (by decide +kernel), by decide +kernel, rfl⟩
theorem fl_X8_38 : Fl RX8 38 8 11 (.array .int) true := ⟨RX8, TX8, 44, tyX8, rfl, kl_8, tyX8_ok, nmX8, by decide, gt_of (List.mem_of_getElem? (i := 922) (by decide +kernel)) (by decide +kernel), by decide +kernel, rfl⟩
theorem fl_X8_148 : Fl RX8 148 8 12 (.int) false := ⟨RX8, TX8, 44, tyX8, rfl, kl_8, tyX8_ok, nmX8, by decide, gt_of (List.mem_of_getElem? (i := 923) (by decide +kernel)) (by decide +kernel), by decide +kernel, rfl⟩
theorem fl_X8_151 : Fl RX8 151 8 13 (.int) false := ⟨RX8, TX8, 44, tyX8, rfl, kl_8, tyX8_ok, nmX8, by decide, gt_of (List.mem_of_getElem? (i := 924) (by decide +kernel)) (by decide +kernel), by decide +kernel, rfl⟩
theorem fl_X8_41 : Fl RX8 41 8 14 (.array .int) true := ⟨RX8, TX8, 44, tyX8, rfl, kl_8, tyX8_ok, nmX8, by decide, gt_of (List.mem_of_getElem? (i := 925) (by decide +kernel)) (by decide +kernel), by decide +kernel, rfl⟩
theorem fl_X8_44 : Fl RX8 44 8 15 (.array .int) true := ⟨RX8, TX8, 44, tyX8, rfl, kl_8, tyX8_ok, nmX8, by decide, gt_of (List.mem_of_getElem? (i := 926) (by decide +kernel)) (by decide +kernel), by decide +kernel, rfl⟩
theorem fl_X8_47 : Fl RX8 47 8 16 (.array .int) true := ⟨RX8, TX8, 44, tyX8, rfl, kl_8, tyX8_ok, nmX8, by decide, gt_of (List.mem_of_getElem? (i := 927) (by decide +kernel)) (by decide +kernel), by decide +kernel, rfl⟩
theorem fl_X8_197 : Fl RX8 197 8 17 (.int) false := ⟨RX8, TX8, 44, tyX8, rfl, kl_8, tyX8_ok, nmX8, by decide, gt_of (List.mem_of_getElem? (i := 928) (by decide +kernel)) (by decide +kernel), by decide +kernel, rfl⟩
theorem fl_X8_203 : Fl RX8 203 8 18 (.int) false := ⟨RX8, TX8, 44, tyX8, rfl, kl_8, tyX8_ok, nmX8, by decide, gt_of (List.mem_of_getElem? (i := 929) (by decide +kernel)) (by decide +kernel), by decide +kernel, rfl⟩
theorem fl_X8_206 : Fl RX8 206 8 19 (.int) false := ⟨RX8, TX8, 44, tyX8, rfl, kl_8, tyX8_ok, nmX8, by decide, gt_of (List.mem_of_getElem? (i := 930) (by decide +kernel)) (by decide +kernel), by decide +kernel, rfl⟩
theorem fl_X8_215 : Fl RX8 215 8 20 (.int) false := ⟨RX8, TX8, 44, tyX8, rfl, kl_8, tyX8_ok, nmX8, by decide, gt_of (List.mem_of_getElem? (i := 931) (by decide +kernel)) (by decide +kernel), by decide +kernel, rfl⟩
theorem fl_X8_218 : Fl RX8 218 8 21 (.int) false := ⟨RX8, TX8, 44, tyX8, rfl, kl_8, tyX8_ok, nmX8, by decide, gt_of (List.mem_of_getElem? (i := 932) (by decide +kernel)) (by decide +kernel), by decide +kernel, rfl⟩
theorem fl_X8_50 : Fl RX8 50 8 22 (.array .int) true := ⟨RX8, TX8, 44, tyX8, rfl, kl_8, tyX8_ok, nmX8, by decide, gt_of (List.mem_of_getElem? (i := 933) (by decide +kernel)) (by decide +kernel), by decide +kernel, rfl⟩
theorem fl_X8_53 : Fl RX8 53 8 23 (.array .int) true := ⟨RX8, TX8, 44, tyX8, rfl, kl_8, tyX8_ok, nmX8, by decide, gt_of (List.mem_of_getElem? (i := 934) (by decide +kernel)) (by decide +kernel), by decide +kernel, rfl⟩
theorem fl_X8_56 : Fl RX8 56 8 24 (.array .int) true := ⟨RX8, TX8, 44, tyX8, rfl, kl_8, tyX8_ok, nmX8, by decide, gt_of (List.mem_of_getElem? (i := 935) (by decide +kernel)) (by decide +kernel), by decide +kernel, rfl⟩
theorem fl_X8_59 : Fl RX8 59 8 25 (.array .int) true := ⟨RX8, TX8, 44, tyX8, rfl, kl_8, tyX8_ok, nmX8, by decide, gt_of (List.mem_of_getElem? (i := 936) (by decide +kernel)) (by decide +kernel), by decide +kernel, rfl⟩
theorem fl_X8_62 : Fl RX8 62 8 26 (.array .long) true := ⟨RX8, TX8, 44, tyX8, rfl, kl_8, tyX8_ok, nmX8, by decide, gt_of (List.mem_of_getElem? (i := 937) (by decide +kernel)) (by decide +kernel), by decide +kernel, rfl⟩
theorem fl_X8_65 : Fl RX8 65 8 27 (.array .long) true := ⟨RX8, TX8, 44, tyX8, rfl, kl_8, tyX8_ok, nmX8, by decide, gt_of (List.mem_of_getElem? (i := 938) (by decide +kernel)) (by decide +kernel), by decide +kernel, rfl⟩
theorem fl_X8_68 : Fl RX8 68 8 28 (.array .long) true := ⟨RX8, TX8, 44, tyX8, rfl, kl_8, tyX8_ok, nmX8, by decide, gt_of (List.mem_of_getElem? (i := 939) (by decide +kernel)) (by decide +kernel), by decide +kernel, rfl⟩
theorem fl_X8_278 : Fl RX8 278 8 29 (.boolean) false := ⟨RX8, TX8, 44, tyX8, rfl, kl_8, tyX8_ok, nmX8, by decide, gt_of (List.mem_of_getElem? (i := 940) (by decide +kernel)) (by decide +kernel), by decide +kernel, rfl⟩
theorem fl_X8_71 : Fl RX8 71 8 30 (.array .int) true := ⟨RX8, TX8, 44, tyX8, rfl, kl_8, tyX8_ok, nmX8, by decide, gt_of (List.mem_of_getElem? (i := 941) (by decide +kernel)) (by decide +kernel), by decide +kernel, rfl⟩
theorem fl_X8_145 : Fl RX8 145 8 31 (.int) false := ⟨RX8, TX8, 44, tyX8, rfl, kl_8, tyX8_ok, nmX8, by decide, gt_of (List.mem_of_getElem? (i := 942) (by decide +kernel)) (by decide +kernel), by decide +kernel, rfl⟩
theorem fl_X8_308 : Fl RX8 308 8 32 (.int) false := ⟨RX8, TX8, 44, tyX8, rfl, kl_8, tyX8_ok, nmX8, by decide, gt_of (List.mem_of_getElem? (i := 943) (by decide +kernel)) (by decide +kernel), by decide +kernel, rfl⟩
theorem fl_X8_302 : Fl RX8 302 8 33 (.int) false := ⟨RX8, TX8, 44, tyX8, rfl, kl_8, tyX8_ok, nmX8, by decide, gt_of (List.mem_of_getElem? (i := 944) (by decide +kernel)) (by decide +kernel), by decide +kernel, rfl⟩
theorem fl_X8_314 : Fl RX8 314 8 34 (.int) false := ⟨RX8, TX8, 44, tyX8, rfl, kl_8, tyX8_ok, nmX8, by decide, gt_of (List.mem_of_getElem? (i := 945) (by decide +kernel)) (by decide +kernel), by decide +kernel, rfl⟩
theorem fl_X8_311 : Fl RX8 311 8 35 (.int) false := ⟨RX8, TX8, 44, tyX8, rfl, kl_8, tyX8_ok, nmX8, by decide, gt_of (List.mem_of_getElem? (i := 946) (by decide +kernel)) (by decide +kernel), by decide +kernel, rfl⟩
theorem fl_X8_74 : Fl RX8 74 8 36 (.array .int) true := ⟨RX8, TX8, 44, tyX8, rfl, kl_8, tyX8_ok, nmX8, by decide, gt_of (List.mem_of_getElem? (i := 947) (by decide +kernel)) (by decide +kernel), by decide +kernel, rfl⟩
theorem fl_X8_77 : Fl RX8 77 8 37 (.array .int) true := ⟨RX8, TX8, 44, tyX8, rfl, kl_8, tyX8_ok, nmX8, by decide, gt_of (List.mem_of_getElem? (i := 948) (by decide +kernel)) (by decide +kernel), by decide +kernel, rfl⟩
theorem fl_X8_80 : Fl RX8 80 8 38 (.array .int) true := ⟨RX8, TX8, 44, tyX8, rfl, kl_8, tyX8_ok, nmX8, by decide, gt_of (List.mem_of_getElem? (i := 949) (by decide +kernel)) (by decide +kernel), by decide +kernel, rfl⟩
theorem fl_X8_83 : Fl RX8 83 8 39 (.array .long) true := ⟨RX8, TX8, 44, tyX8, rfl, kl_8, tyX8_ok, nmX8, by decide, gt_of (List.mem_of_getElem? (i := 950) (by decide +kernel)) (by decide +kernel), by decide +kernel, rfl⟩
theorem fl_X8_86 : Fl RX8 86 8 40 (.array .int) true := ⟨RX8, TX8, 44, tyX8, rfl, kl_8, tyX8_ok, nmX8, by decide, gt_of (List.mem_of_getElem? (i := 951) (by decide +kernel)) (by decide +kernel), by decide +kernel, rfl⟩
theorem fl_X8_89 : Fl RX8 89 8 41 (.array .int) true := ⟨RX8, TX8, 44, tyX8, rfl, kl_8, tyX8_ok, nmX8, by decide, gt_of (List.mem_of_getElem? (i := 952) (by decide +kernel)) (by decide +kernel), by decide +kernel, rfl⟩
theorem fl_X8_92 : Fl RX8 92 8 42 (.array .long) true := ⟨RX8, TX8, 44, tyX8, rfl, kl_8, tyX8_ok, nmX8, by decide, gt_of (List.mem_of_getElem? (i := 953) (by decide +kernel)) (by decide +kernel), by decide +kernel, rfl⟩
theorem fl_X8_358 : Fl RX8 358 8 43 (.boolean) false := ⟨RX8, TX8, 44, tyX8, rfl, kl_8, tyX8_ok, nmX8, by decide, gt_of (List.mem_of_getElem? (i := 954) (by decide +kernel)) (by decide +kernel), by decide +kernel, rfl⟩
theorem ml_L_17 : Cond.methodLink RL 17 yX8_points ∈ gt := gt_of (List.mem_of_getElem? (i := 1044) (by decide +kernel)) (by decide +kernel)
theorem cj_X8_112 : Cond.constantLong RX8 112 (6) ∈ gt := gt_of (List.mem_of_getElem? (i := 1048) (by decide +kernel)) (by decide +kernel)
theorem ml_X8_98 : Cond.methodLink RX8 98 yX8_in ∈ gt := gt_of (List.mem_of_getElem? (i := 1049) (by decide +kernel)) (by decide +kernel)
theorem ml_X8_114 : Cond.methodLink RX8 114 yX8_pointsCome ∈ gt := gt_of (List.mem_of_getElem? (i := 1052) (by decide +kernel)) (by decide +kernel)
theorem ml_L_22 : Cond.methodLink RL 22 yX8_line ∈ gt := gt_of (List.mem_of_getElem? (i := 1056) (by decide +kernel)) (by decide +kernel)
theorem cj_X8_118 : Cond.constantLong RX8 118 (4) ∈ gt := gt_of (List.mem_of_getElem? (i := 1060) (by decide +kernel)) (by decide +kernel)
theorem cj_X8_120 : Cond.constantLong RX8 120 (3) ∈ gt := gt_of (List.mem_of_getElem? (i := 1061) (by decide +kernel)) (by decide +kernel)
theorem ml_X8_122 : Cond.methodLink RX8 122 yX8_isPoint ∈ gt := gt_of (List.mem_of_getElem? (i := 1062) (by decide +kernel)) (by decide +kernel)
theorem ml_X8_126 : Cond.methodLink RX8 126 yX8_between ∈ gt := gt_of (List.mem_of_getElem? (i := 1066) (by decide +kernel)) (by decide +kernel)
theorem ml_X8_130 : Cond.methodLink RX8 130 yX8_lineComes ∈ gt := gt_of (List.mem_of_getElem? (i := 1070) (by decide +kernel)) (by decide +kernel)
theorem ml_L_27 : Cond.methodLink RL 27 yX8_lineOf ∈ gt := gt_of (List.mem_of_getElem? (i := 1074) (by decide +kernel)) (by decide +kernel)
theorem ml_X8_134 : Cond.methodLink RX8 134 yX8_isLine ∈ gt := gt_of (List.mem_of_getElem? (i := 1078) (by decide +kernel)) (by decide +kernel)
theorem ml_X8_137 : Cond.methodLink RX8 137 yX8_gap ∈ gt := gt_of (List.mem_of_getElem? (i := 1082) (by decide +kernel)) (by decide +kernel)
theorem ml_X8_105 : Cond.methodLink RX8 105 yX8_gapBy ∈ gt := gt_of (List.mem_of_getElem? (i := 1086) (by decide +kernel)) (by decide +kernel)
theorem ml_L_32 : Cond.methodLink RL 32 yX8_change ∈ gt := gt_of (List.mem_of_getElem? (i := 1089) (by decide +kernel)) (by decide +kernel)
theorem ml_L_36 : Cond.methodLink RL 36 yX8_drop ∈ gt := gt_of (List.mem_of_getElem? (i := 1093) (by decide +kernel)) (by decide +kernel)
theorem ml_L_43 : Cond.methodLink RL 43 yX8_list ∈ gt := gt_of (List.mem_of_getElem? (i := 1097) (by decide +kernel)) (by decide +kernel)
theorem cj_X8_141 : Cond.constantLong RX8 141 (-1099511627776) ∈ gt := gt_of (List.mem_of_getElem? (i := 1101) (by decide +kernel)) (by decide +kernel)
theorem cj_X8_143 : Cond.constantLong RX8 143 (-4611686018427387906) ∈ gt := gt_of (List.mem_of_getElem? (i := 1102) (by decide +kernel)) (by decide +kernel)
theorem ml_L_47 : Cond.methodLink RL 47 yX8_count ∈ gt := gt_of (List.mem_of_getElem? (i := 1103) (by decide +kernel)) (by decide +kernel)
theorem ml_L_51 : Cond.methodLink RL 51 yX8_fits ∈ gt := gt_of (List.mem_of_getElem? (i := 1107) (by decide +kernel)) (by decide +kernel)
theorem ml_X8_180 : Cond.methodLink RX8 180 yX8_areAsked ∈ gt := gt_of (List.mem_of_getElem? (i := 1111) (by decide +kernel)) (by decide +kernel)
theorem cj_X8_176 : Cond.constantLong RX8 176 (16) ∈ gt := gt_of (List.mem_of_getElem? (i := 1114) (by decide +kernel)) (by decide +kernel)
theorem cj_X8_178 : Cond.constantLong RX8 178 (40) ∈ gt := gt_of (List.mem_of_getElem? (i := 1115) (by decide +kernel)) (by decide +kernel)
theorem ml_X8_183 : Cond.methodLink RX8 183 yX8_colours ∈ gt := gt_of (List.mem_of_getElem? (i := 1116) (by decide +kernel)) (by decide +kernel)
theorem ml_X8_173 : Cond.methodLink RX8 173 yX8_partOf ∈ gt := gt_of (List.mem_of_getElem? (i := 1120) (by decide +kernel)) (by decide +kernel)
theorem ml_X8_158 : Cond.methodLink RX8 158 yX8_has ∈ gt := gt_of (List.mem_of_getElem? (i := 1124) (by decide +kernel)) (by decide +kernel)
theorem ml_X8_166 : Cond.methodLink RX8 166 yX8_narrows ∈ gt := gt_of (List.mem_of_getElem? (i := 1127) (by decide +kernel)) (by decide +kernel)
theorem ml_X8_154 : Cond.methodLink RX8 154 yX8_apart ∈ gt := gt_of (List.mem_of_getElem? (i := 1131) (by decide +kernel)) (by decide +kernel)
theorem ml_X8_170 : Cond.methodLink RX8 170 yX8_ends ∈ gt := gt_of (List.mem_of_getElem? (i := 1135) (by decide +kernel)) (by decide +kernel)
theorem ml_X8_162 : Cond.methodLink RX8 162 yX8_bits ∈ gt := gt_of (List.mem_of_getElem? (i := 1139) (by decide +kernel)) (by decide +kernel)
theorem ml_L_55 : Cond.methodLink RL 55 yX8_place ∈ gt := gt_of (List.mem_of_getElem? (i := 1142) (by decide +kernel)) (by decide +kernel)
theorem ml_L_59 : Cond.methodLink RL 59 yX8_ways ∈ gt := gt_of (List.mem_of_getElem? (i := 1146) (by decide +kernel)) (by decide +kernel)
theorem cj_X8_195 : Cond.constantLong RX8 195 (8) ∈ gt := gt_of (List.mem_of_getElem? (i := 1150) (by decide +kernel)) (by decide +kernel)
theorem ml_X8_192 : Cond.methodLink RX8 192 yX8_waysFrom ∈ gt := gt_of (List.mem_of_getElem? (i := 1151) (by decide +kernel)) (by decide +kernel)
theorem ml_X8_189 : Cond.methodLink RX8 189 yX8_isFarEnough ∈ gt := gt_of (List.mem_of_getElem? (i := 1155) (by decide +kernel)) (by decide +kernel)
theorem ml_X8_186 : Cond.methodLink RX8 186 yX8_isFar ∈ gt := gt_of (List.mem_of_getElem? (i := 1159) (by decide +kernel)) (by decide +kernel)
theorem ml_L_63 : Cond.methodLink RL 63 yX8_ratio ∈ gt := gt_of (List.mem_of_getElem? (i := 1163) (by decide +kernel)) (by decide +kernel)
theorem ml_X8_227 : Cond.methodLink RX8 227 yX8_laysRings ∈ gt := gt_of (List.mem_of_getElem? (i := 1167) (by decide +kernel)) (by decide +kernel)
theorem ml_X8_200 : Cond.methodLink RX8 200 yX8_takes ∈ gt := gt_of (List.mem_of_getElem? (i := 1171) (by decide +kernel)) (by decide +kernel)
theorem ml_X8_230 : Cond.methodLink RX8 230 yX8_ratios ∈ gt := gt_of (List.mem_of_getElem? (i := 1175) (by decide +kernel)) (by decide +kernel)
theorem ml_X8_221 : Cond.methodLink RX8 221 yX8_rates ∈ gt := gt_of (List.mem_of_getElem? (i := 1179) (by decide +kernel)) (by decide +kernel)
theorem ml_X8_209 : Cond.methodLink RX8 209 yX8_fewer ∈ gt := gt_of (List.mem_of_getElem? (i := 1183) (by decide +kernel)) (by decide +kernel)
theorem ml_X8_212 : Cond.methodLink RX8 212 yX8_length ∈ gt := gt_of (List.mem_of_getElem? (i := 1187) (by decide +kernel)) (by decide +kernel)
theorem ml_X8_224 : Cond.methodLink RX8 224 yX8_common ∈ gt := gt_of (List.mem_of_getElem? (i := 1191) (by decide +kernel)) (by decide +kernel)
theorem ml_L_68 : Cond.methodLink RL 68 yX8_whole ∈ gt := gt_of (List.mem_of_getElem? (i := 1194) (by decide +kernel)) (by decide +kernel)
theorem ml_X8_233 : Cond.methodLink RX8 233 yX8_wholeOf ∈ gt := gt_of (List.mem_of_getElem? (i := 1198) (by decide +kernel)) (by decide +kernel)
theorem ml_L_72 : Cond.methodLink RL 72 yX8_off ∈ gt := gt_of (List.mem_of_getElem? (i := 1202) (by decide +kernel)) (by decide +kernel)
theorem ml_L_76 : Cond.methodLink RL 76 yX8_rings ∈ gt := gt_of (List.mem_of_getElem? (i := 1206) (by decide +kernel)) (by decide +kernel)
theorem ml_L_80 : Cond.methodLink RL 80 yX8_ring ∈ gt := gt_of (List.mem_of_getElem? (i := 1210) (by decide +kernel)) (by decide +kernel)
theorem cj_X8_237 : Cond.constantLong RX8 237 (2) ∈ gt := gt_of (List.mem_of_getElem? (i := 1214) (by decide +kernel)) (by decide +kernel)
theorem ml_L_84 : Cond.methodLink RL 84 yX8_circled ∈ gt := gt_of (List.mem_of_getElem? (i := 1215) (by decide +kernel)) (by decide +kernel)
theorem ml_X8_239 : Cond.methodLink RX8 239 yX8_isTurn ∈ gt := gt_of (List.mem_of_getElem? (i := 1219) (by decide +kernel)) (by decide +kernel)
theorem ml_X8_242 : Cond.methodLink RX8 242 yX8_isFree ∈ gt := gt_of (List.mem_of_getElem? (i := 1223) (by decide +kernel)) (by decide +kernel)
theorem ml_L_88 : Cond.methodLink RL 88 yX8_rate ∈ gt := gt_of (List.mem_of_getElem? (i := 1227) (by decide +kernel)) (by decide +kernel)
theorem ml_L_92 : Cond.methodLink RL 92 yX8_worst ∈ gt := gt_of (List.mem_of_getElem? (i := 1231) (by decide +kernel)) (by decide +kernel)
theorem ml_L_96 : Cond.methodLink RL 96 yX8_turns ∈ gt := gt_of (List.mem_of_getElem? (i := 1235) (by decide +kernel)) (by decide +kernel)
theorem ml_L_100 : Cond.methodLink RL 100 yX8_binds ∈ gt := gt_of (List.mem_of_getElem? (i := 1239) (by decide +kernel)) (by decide +kernel)
theorem ml_L_104 : Cond.methodLink RL 104 yX8_room ∈ gt := gt_of (List.mem_of_getElem? (i := 1243) (by decide +kernel)) (by decide +kernel)
theorem ml_L_108 : Cond.methodLink RL 108 yX8_judge ∈ gt := gt_of (List.mem_of_getElem? (i := 1247) (by decide +kernel)) (by decide +kernel)
theorem ml_X8_248 : Cond.methodLink RX8 248 yX8_wrongPlaces ∈ gt := gt_of (List.mem_of_getElem? (i := 1251) (by decide +kernel)) (by decide +kernel)
theorem ml_X8_245 : Cond.methodLink RX8 245 yX8_isSheet ∈ gt := gt_of (List.mem_of_getElem? (i := 1255) (by decide +kernel)) (by decide +kernel)
theorem ml_X8_252 : Cond.methodLink RX8 252 yX8_firstWrong ∈ gt := gt_of (List.mem_of_getElem? (i := 1258) (by decide +kernel)) (by decide +kernel)
theorem ml_L_112 : Cond.methodLink RL 112 yX8_arcs ∈ gt := gt_of (List.mem_of_getElem? (i := 1262) (by decide +kernel)) (by decide +kernel)
theorem ml_X8_255 : Cond.methodLink RX8 255 yX8_wrongColouring ∈ gt := gt_of (List.mem_of_getElem? (i := 1266) (by decide +kernel)) (by decide +kernel)
theorem ml_X8_258 : Cond.methodLink RX8 258 yX8_tightLines ∈ gt := gt_of (List.mem_of_getElem? (i := 1270) (by decide +kernel)) (by decide +kernel)
theorem ml_L_116 : Cond.methodLink RL 116 yX8_tight ∈ gt := gt_of (List.mem_of_getElem? (i := 1274) (by decide +kernel)) (by decide +kernel)
theorem ml_L_120 : Cond.methodLink RL 120 yX8_rounds ∈ gt := gt_of (List.mem_of_getElem? (i := 1278) (by decide +kernel)) (by decide +kernel)
theorem ml_X8_261 : Cond.methodLink RX8 261 yX8_lays ∈ gt := gt_of (List.mem_of_getElem? (i := 1282) (by decide +kernel)) (by decide +kernel)
theorem ml_L_188 : Cond.methodLink RL 188 yX8_paint ∈ gt := gt_of (List.mem_of_getElem? (i := 1286) (by decide +kernel)) (by decide +kernel)
theorem ml_L_125 : Cond.methodLink RL 125 yX8_next ∈ gt := gt_of (List.mem_of_getElem? (i := 1290) (by decide +kernel)) (by decide +kernel)
theorem cj_X8_265 : Cond.constantLong RX8 265 (9999) ∈ gt := gt_of (List.mem_of_getElem? (i := 1294) (by decide +kernel)) (by decide +kernel)
theorem ml_L_130 : Cond.methodLink RL 130 yX8_fraction ∈ gt := gt_of (List.mem_of_getElem? (i := 1295) (by decide +kernel)) (by decide +kernel)
theorem ml_X8_271 : Cond.methodLink RX8 271 yX8_isHold ∈ gt := gt_of (List.mem_of_getElem? (i := 1299) (by decide +kernel)) (by decide +kernel)
theorem ml_X8_274 : Cond.methodLink RX8 274 yX8_gets ∈ gt := gt_of (List.mem_of_getElem? (i := 1302) (by decide +kernel)) (by decide +kernel)
theorem cj_X8_267 : Cond.constantLong RX8 267 (-9223372036854775808) ∈ gt := gt_of (List.mem_of_getElem? (i := 1306) (by decide +kernel)) (by decide +kernel)
theorem cj_X8_269 : Cond.constantLong RX8 269 (-1) ∈ gt := gt_of (List.mem_of_getElem? (i := 1307) (by decide +kernel)) (by decide +kernel)
theorem ml_L_134 : Cond.methodLink RL 134 yX8_hold ∈ gt := gt_of (List.mem_of_getElem? (i := 1308) (by decide +kernel)) (by decide +kernel)
theorem ml_L_138 : Cond.methodLink RL 138 yX8_does ∈ gt := gt_of (List.mem_of_getElem? (i := 1312) (by decide +kernel)) (by decide +kernel)
theorem ml_X8_282 : Cond.methodLink RX8 282 yX8_wrongHolds ∈ gt := gt_of (List.mem_of_getElem? (i := 1316) (by decide +kernel)) (by decide +kernel)
theorem ml_X8_285 : Cond.methodLink RX8 285 yX8_times ∈ gt := gt_of (List.mem_of_getElem? (i := 1320) (by decide +kernel)) (by decide +kernel)
theorem ml_X8_289 : Cond.methodLink RX8 289 yX8_plus ∈ gt := gt_of (List.mem_of_getElem? (i := 1324) (by decide +kernel)) (by decide +kernel)
theorem ml_X8_292 : Cond.methodLink RX8 292 yX8_minus ∈ gt := gt_of (List.mem_of_getElem? (i := 1328) (by decide +kernel)) (by decide +kernel)
theorem ml_L_142 : Cond.methodLink RL 142 yX8_compare ∈ gt := gt_of (List.mem_of_getElem? (i := 1332) (by decide +kernel)) (by decide +kernel)
theorem ml_X8_295 : Cond.methodLink RX8 295 yX8_under ∈ gt := gt_of (List.mem_of_getElem? (i := 1336) (by decide +kernel)) (by decide +kernel)
theorem ml_L_147 : Cond.methodLink RL 147 yX8_told ∈ gt := gt_of (List.mem_of_getElem? (i := 1339) (by decide +kernel)) (by decide +kernel)
theorem cj_X8_298 : Cond.constantLong RX8 298 (-4611686018427387915) ∈ gt := gt_of (List.mem_of_getElem? (i := 1343) (by decide +kernel)) (by decide +kernel)
theorem cj_X8_300 : Cond.constantLong RX8 300 (-4611686018427387917) ∈ gt := gt_of (List.mem_of_getElem? (i := 1344) (by decide +kernel)) (by decide +kernel)
theorem ml_L_151 : Cond.methodLink RL 151 yX8_feed ∈ gt := gt_of (List.mem_of_getElem? (i := 1345) (by decide +kernel)) (by decide +kernel)
theorem ml_L_155 : Cond.methodLink RL 155 yX8_wipe ∈ gt := gt_of (List.mem_of_getElem? (i := 1349) (by decide +kernel)) (by decide +kernel)
theorem ml_L_159 : Cond.methodLink RL 159 yX8_text ∈ gt := gt_of (List.mem_of_getElem? (i := 1353) (by decide +kernel)) (by decide +kernel)
theorem ml_X8_338 : Cond.methodLink RX8 338 yX8_keeps ∈ gt := gt_of (List.mem_of_getElem? (i := 1357) (by decide +kernel)) (by decide +kernel)
theorem ml_X8_341 : Cond.methodLink RX8 341 yX8_itemsRead ∈ gt := gt_of (List.mem_of_getElem? (i := 1361) (by decide +kernel)) (by decide +kernel)
theorem ml_X8_321 : Cond.methodLink RX8 321 yX8_goes ∈ gt := gt_of (List.mem_of_getElem? (i := 1365) (by decide +kernel)) (by decide +kernel)
theorem ml_X8_305 : Cond.methodLink RX8 305 yX8_isAt ∈ gt := gt_of (List.mem_of_getElem? (i := 1369) (by decide +kernel)) (by decide +kernel)
theorem ml_X8_334 : Cond.methodLink RX8 334 yX8_item ∈ gt := gt_of (List.mem_of_getElem? (i := 1373) (by decide +kernel)) (by decide +kernel)
theorem ml_X8_317 : Cond.methodLink RX8 317 yX8_isWord ∈ gt := gt_of (List.mem_of_getElem? (i := 1377) (by decide +kernel)) (by decide +kernel)
theorem ml_X8_327 : Cond.methodLink RX8 327 yX8_isRead ∈ gt := gt_of (List.mem_of_getElem? (i := 1381) (by decide +kernel)) (by decide +kernel)
theorem ml_X8_330 : Cond.methodLink RX8 330 yX8_ofLines ∈ gt := gt_of (List.mem_of_getElem? (i := 1385) (by decide +kernel)) (by decide +kernel)
theorem ml_X8_324 : Cond.methodLink RX8 324 yX8_kindRead ∈ gt := gt_of (List.mem_of_getElem? (i := 1389) (by decide +kernel)) (by decide +kernel)
theorem ml_X8_344 : Cond.methodLink RX8 344 yX8_putsBack ∈ gt := gt_of (List.mem_of_getElem? (i := 1393) (by decide +kernel)) (by decide +kernel)
theorem ml_L_163 : Cond.methodLink RL 163 yX8_seed ∈ gt := gt_of (List.mem_of_getElem? (i := 1397) (by decide +kernel)) (by decide +kernel)
theorem ml_L_167 : Cond.methodLink RL 167 yX8_deal ∈ gt := gt_of (List.mem_of_getElem? (i := 1401) (by decide +kernel)) (by decide +kernel)
theorem cj_X8_348 : Cond.constantLong RX8 348 (10) ∈ gt := gt_of (List.mem_of_getElem? (i := 1405) (by decide +kernel)) (by decide +kernel)
theorem ml_X8_350 : Cond.methodLink RX8 350 yX8_draw ∈ gt := gt_of (List.mem_of_getElem? (i := 1406) (by decide +kernel)) (by decide +kernel)
theorem co_X8_347 : Cond.constant RX8 347 (1103515245) ∈ gt := gt_of (List.mem_of_getElem? (i := 1410) (by decide +kernel)) (by decide +kernel)
theorem ml_L_171 : Cond.methodLink RL 171 yX8_sheet ∈ gt := gt_of (List.mem_of_getElem? (i := 1411) (by decide +kernel)) (by decide +kernel)
theorem ml_L_176 : Cond.methodLink RL 176 yX8_write ∈ gt := gt_of (List.mem_of_getElem? (i := 1415) (by decide +kernel)) (by decide +kernel)
theorem ml_X8_353 : Cond.methodLink RX8 353 yX8_wrongAt ∈ gt := gt_of (List.mem_of_getElem? (i := 1419) (by decide +kernel)) (by decide +kernel)
theorem ml_L_180 : Cond.methodLink RL 180 yX8_item_ ∈ gt := gt_of (List.mem_of_getElem? (i := 1423) (by decide +kernel)) (by decide +kernel)
theorem cj_X8_356 : Cond.constantLong RX8 356 (-4611686018427387904) ∈ gt := gt_of (List.mem_of_getElem? (i := 1427) (by decide +kernel)) (by decide +kernel)
theorem ml_L_184 : Cond.methodLink RL 184 yX8_copy ∈ gt := gt_of (List.mem_of_getElem? (i := 1428) (by decide +kernel)) (by decide +kernel)
theorem ml_L_192 : Cond.methodLink RL 192 yX8_image ∈ gt := gt_of (List.mem_of_getElem? (i := 1432) (by decide +kernel)) (by decide +kernel)
theorem ml_L_196 : Cond.methodLink RL 196 yX8_back ∈ gt := gt_of (List.mem_of_getElem? (i := 1436) (by decide +kernel)) (by decide +kernel)
theorem cj_L_37 : Cond.constantLong RL 37 (4294967295) ∈ gt := gt_of (List.mem_of_getElem? (i := 1440) (by decide +kernel)) (by decide +kernel)
set_option maxRecDepth 100000 in
theorem mc_X7_init : Mc yX7_init cX7_init 2 none 0 := ⟨gt_of (List.mem_of_getElem? (i := 23) (rfl)) (by rfl), gt_of (List.mem_of_getElem? (i := 1) (by decide +kernel)) (by decide +kernel), by decide +kernel⟩
set_option maxRecDepth 100000 in
theorem mc_X1_init : Mc yX1_init cX1_init 1 none 0 := ⟨gt_of (List.mem_of_getElem? (i := 31) (rfl)) (by rfl), gt_of (List.mem_of_getElem? (i := 2) (by decide +kernel)) (by decide +kernel), by decide +kernel⟩
set_option maxRecDepth 100000 in
theorem mc_X4_init : Mc yX4_init cX4_init 1 none 0 := ⟨gt_of (List.mem_of_getElem? (i := 84) (rfl)) (by rfl), gt_of (List.mem_of_getElem? (i := 3) (by decide +kernel)) (by decide +kernel), by decide +kernel⟩
set_option maxRecDepth 100000 in
theorem mc_X2_init : Mc yX2_init cX2_init 1 none 0 := ⟨gt_of (List.mem_of_getElem? (i := 132) (rfl)) (by rfl), gt_of (List.mem_of_getElem? (i := 4) (by decide +kernel)) (by decide +kernel), by decide +kernel⟩
set_option maxRecDepth 100000 in
theorem mc_X6_init : Mc yX6_init cX6_init 1 none 0 := ⟨gt_of (List.mem_of_getElem? (i := 161) (rfl)) (by rfl), gt_of (List.mem_of_getElem? (i := 5) (by decide +kernel)) (by decide +kernel), by decide +kernel⟩
set_option maxRecDepth 100000 in
theorem mc_X3_init : Mc yX3_init cX3_init 1 none 0 := ⟨gt_of (List.mem_of_getElem? (i := 187) (rfl)) (by rfl), gt_of (List.mem_of_getElem? (i := 6) (by decide +kernel)) (by decide +kernel), by decide +kernel⟩
set_option maxRecDepth 100000 in
theorem mc_X0_init : Mc yX0_init cX0_init 1 none 0 := ⟨gt_of (List.mem_of_getElem? (i := 199) (rfl)) (by rfl), gt_of (List.mem_of_getElem? (i := 7) (by decide +kernel)) (by decide +kernel), by decide +kernel⟩
set_option maxRecDepth 100000 in
theorem mc_X5_init : Mc yX5_init cX5_init 1 none 0 := ⟨gt_of (List.mem_of_getElem? (i := 237) (rfl)) (by rfl), gt_of (List.mem_of_getElem? (i := 8) (by decide +kernel)) (by decide +kernel), by decide +kernel⟩
set_option maxRecDepth 100000 in
theorem mc_X7_points : Mc yX7_points cX7_points 2 (some .int) 1 := ⟨gt_of (List.mem_of_getElem? (i := 288) (rfl)) (by rfl), gt_of (List.mem_of_getElem? (i := 1) (by decide +kernel)) (by decide +kernel), by decide +kernel⟩
theorem mv_X7_points : Mv yX7_points := ⟨gt_of (List.mem_of_getElem? (i := 286) (by decide +kernel)) (by decide +kernel), gt_of (List.mem_of_getElem? (i := 287) (by decide +kernel)) (by decide +kernel)⟩
set_option maxRecDepth 100000 in
theorem mc_X7_within : Mc yX7_within cX7_within 3 (some .boolean) 3 := ⟨gt_of (List.mem_of_getElem? (i := 291) (rfl)) (by rfl), gt_of (List.mem_of_getElem? (i := 1) (by decide +kernel)) (by decide +kernel), by decide +kernel⟩
theorem ms_X7_within : Cond.static yX7_within ∈ gt := gt_of (List.mem_of_getElem? (i := 290) (by decide +kernel)) (by decide +kernel)
set_option maxRecDepth 100000 in
theorem mc_X1_addPoints : Mc yX1_addPoints cX1_addPoints 3 none 1 := ⟨gt_of (List.mem_of_getElem? (i := 295) (rfl)) (by rfl), gt_of (List.mem_of_getElem? (i := 2) (by decide +kernel)) (by decide +kernel), by decide +kernel⟩
theorem mv_X1_addPoints : Mv yX1_addPoints := ⟨gt_of (List.mem_of_getElem? (i := 293) (by decide +kernel)) (by decide +kernel), gt_of (List.mem_of_getElem? (i := 294) (by decide +kernel)) (by decide +kernel)⟩
set_option maxRecDepth 100000 in
theorem mc_X7_line : Mc yX7_line cX7_line 5 (some .int) 4 := ⟨gt_of (List.mem_of_getElem? (i := 300) (rfl)) (by rfl), gt_of (List.mem_of_getElem? (i := 1) (by decide +kernel)) (by decide +kernel), by decide +kernel⟩
theorem mv_X7_line : Mv yX7_line := ⟨gt_of (List.mem_of_getElem? (i := 298) (by decide +kernel)) (by decide +kernel), gt_of (List.mem_of_getElem? (i := 299) (by decide +kernel)) (by decide +kernel)⟩
set_option maxRecDepth 100000 in
theorem mc_X7_isKind : Mc yX7_isKind cX7_isKind 1 (some .boolean) 1 := ⟨gt_of (List.mem_of_getElem? (i := 303) (rfl)) (by rfl), gt_of (List.mem_of_getElem? (i := 1) (by decide +kernel)) (by decide +kernel), by decide +kernel⟩
theorem ms_X7_isKind : Cond.static yX7_isKind ∈ gt := gt_of (List.mem_of_getElem? (i := 302) (by decide +kernel)) (by decide +kernel)
set_option maxRecDepth 100000 in
theorem mc_X7_isFigure : Mc yX7_isFigure cX7_isFigure 1 (some .boolean) 1 := ⟨gt_of (List.mem_of_getElem? (i := 306) (rfl)) (by rfl), gt_of (List.mem_of_getElem? (i := 1) (by decide +kernel)) (by decide +kernel), by decide +kernel⟩
theorem ms_X7_isFigure : Cond.static yX7_isFigure ∈ gt := gt_of (List.mem_of_getElem? (i := 305) (by decide +kernel)) (by decide +kernel)
set_option maxRecDepth 100000 in
theorem mc_X1_hasPoint : Mc yX1_hasPoint cX1_hasPoint 2 (some .boolean) 1 := ⟨gt_of (List.mem_of_getElem? (i := 310) (rfl)) (by rfl), gt_of (List.mem_of_getElem? (i := 2) (by decide +kernel)) (by decide +kernel), by decide +kernel⟩
theorem mv_X1_hasPoint : Mv yX1_hasPoint := ⟨gt_of (List.mem_of_getElem? (i := 308) (by decide +kernel)) (by decide +kernel), gt_of (List.mem_of_getElem? (i := 309) (by decide +kernel)) (by decide +kernel)⟩
set_option maxRecDepth 100000 in
theorem mc_X1_areJoined : Mc yX1_areJoined cX1_areJoined 4 (some .boolean) 2 := ⟨gt_of (List.mem_of_getElem? (i := 314) (rfl)) (by rfl), gt_of (List.mem_of_getElem? (i := 2) (by decide +kernel)) (by decide +kernel), by decide +kernel⟩
theorem mv_X1_areJoined : Mv yX1_areJoined := ⟨gt_of (List.mem_of_getElem? (i := 312) (by decide +kernel)) (by decide +kernel), gt_of (List.mem_of_getElem? (i := 313) (by decide +kernel)) (by decide +kernel)⟩
set_option maxRecDepth 100000 in
theorem mc_J9_min_7cf53 : Mc yJ9_min_7cf53 cJ9_min_7cf53 2 (some .int) 2 := ⟨gt_of (List.mem_of_getElem? (i := 317) (rfl)) (by rfl), gt_of (List.mem_of_getElem? (i := 10) (by decide +kernel)) (by decide +kernel), by decide +kernel⟩
theorem ms_J9_min_7cf53 : Cond.static yJ9_min_7cf53 ∈ gt := gt_of (List.mem_of_getElem? (i := 316) (by decide +kernel)) (by decide +kernel)
set_option maxRecDepth 100000 in
theorem mc_J9_max_7cf53 : Mc yJ9_max_7cf53 cJ9_max_7cf53 2 (some .int) 2 := ⟨gt_of (List.mem_of_getElem? (i := 320) (rfl)) (by rfl), gt_of (List.mem_of_getElem? (i := 10) (by decide +kernel)) (by decide +kernel), by decide +kernel⟩
theorem ms_J9_max_7cf53 : Cond.static yJ9_max_7cf53 ∈ gt := gt_of (List.mem_of_getElem? (i := 319) (by decide +kernel)) (by decide +kernel)
set_option maxRecDepth 100000 in
theorem mc_X4_forget : Mc yX4_forget cX4_forget 1 none 0 := ⟨gt_of (List.mem_of_getElem? (i := 324) (rfl)) (by rfl), gt_of (List.mem_of_getElem? (i := 3) (by decide +kernel)) (by decide +kernel), by decide +kernel⟩
theorem mv_X4_forget : Mv yX4_forget := ⟨gt_of (List.mem_of_getElem? (i := 322) (by decide +kernel)) (by decide +kernel), gt_of (List.mem_of_getElem? (i := 323) (by decide +kernel)) (by decide +kernel)⟩
set_option maxRecDepth 100000 in
theorem mc_X1_addLine : Mc yX1_addLine cX1_addLine 5 none 4 := ⟨gt_of (List.mem_of_getElem? (i := 328) (rfl)) (by rfl), gt_of (List.mem_of_getElem? (i := 2) (by decide +kernel)) (by decide +kernel), by decide +kernel⟩
theorem mv_X1_addLine : Mv yX1_addLine := ⟨gt_of (List.mem_of_getElem? (i := 326) (by decide +kernel)) (by decide +kernel), gt_of (List.mem_of_getElem? (i := 327) (by decide +kernel)) (by decide +kernel)⟩
set_option maxRecDepth 100000 in
theorem mc_X7_lineOf : Mc yX7_lineOf cX7_lineOf 3 (some .int) 2 := ⟨gt_of (List.mem_of_getElem? (i := 332) (rfl)) (by rfl), gt_of (List.mem_of_getElem? (i := 1) (by decide +kernel)) (by decide +kernel), by decide +kernel⟩
theorem mv_X7_lineOf : Mv yX7_lineOf := ⟨gt_of (List.mem_of_getElem? (i := 330) (by decide +kernel)) (by decide +kernel), gt_of (List.mem_of_getElem? (i := 331) (by decide +kernel)) (by decide +kernel)⟩
set_option maxRecDepth 100000 in
theorem mc_X1_hasLine : Mc yX1_hasLine cX1_hasLine 2 (some .boolean) 1 := ⟨gt_of (List.mem_of_getElem? (i := 336) (rfl)) (by rfl), gt_of (List.mem_of_getElem? (i := 2) (by decide +kernel)) (by decide +kernel), by decide +kernel⟩
theorem mv_X1_hasLine : Mv yX1_hasLine := ⟨gt_of (List.mem_of_getElem? (i := 334) (by decide +kernel)) (by decide +kernel), gt_of (List.mem_of_getElem? (i := 335) (by decide +kernel)) (by decide +kernel)⟩
set_option maxRecDepth 100000 in
theorem mc_X1_gapOf : Mc yX1_gapOf cX1_gapOf 2 (some .int) 1 := ⟨gt_of (List.mem_of_getElem? (i := 340) (rfl)) (by rfl), gt_of (List.mem_of_getElem? (i := 2) (by decide +kernel)) (by decide +kernel), by decide +kernel⟩
theorem mv_X1_gapOf : Mv yX1_gapOf := ⟨gt_of (List.mem_of_getElem? (i := 338) (by decide +kernel)) (by decide +kernel), gt_of (List.mem_of_getElem? (i := 339) (by decide +kernel)) (by decide +kernel)⟩
set_option maxRecDepth 100000 in
theorem mc_X7_change : Mc yX7_change cX7_change 5 (some .int) 3 := ⟨gt_of (List.mem_of_getElem? (i := 344) (rfl)) (by rfl), gt_of (List.mem_of_getElem? (i := 1) (by decide +kernel)) (by decide +kernel), by decide +kernel⟩
theorem mv_X7_change : Mv yX7_change := ⟨gt_of (List.mem_of_getElem? (i := 342) (by decide +kernel)) (by decide +kernel), gt_of (List.mem_of_getElem? (i := 343) (by decide +kernel)) (by decide +kernel)⟩
set_option maxRecDepth 100000 in
theorem mc_X7_drop : Mc yX7_drop cX7_drop 2 (some .int) 1 := ⟨gt_of (List.mem_of_getElem? (i := 348) (rfl)) (by rfl), gt_of (List.mem_of_getElem? (i := 1) (by decide +kernel)) (by decide +kernel), by decide +kernel⟩
theorem mv_X7_drop : Mv yX7_drop := ⟨gt_of (List.mem_of_getElem? (i := 346) (by decide +kernel)) (by decide +kernel), gt_of (List.mem_of_getElem? (i := 347) (by decide +kernel)) (by decide +kernel)⟩
set_option maxRecDepth 100000 in
theorem mc_X1_removeLine : Mc yX1_removeLine cX1_removeLine 3 none 1 := ⟨gt_of (List.mem_of_getElem? (i := 352) (rfl)) (by rfl), gt_of (List.mem_of_getElem? (i := 2) (by decide +kernel)) (by decide +kernel), by decide +kernel⟩
theorem mv_X1_removeLine : Mv yX1_removeLine := ⟨gt_of (List.mem_of_getElem? (i := 350) (by decide +kernel)) (by decide +kernel), gt_of (List.mem_of_getElem? (i := 351) (by decide +kernel)) (by decide +kernel)⟩
set_option maxRecDepth 100000 in
theorem mc_X7_list : Mc yX7_list cX7_list 6 (some .long) 2 := ⟨gt_of (List.mem_of_getElem? (i := 356) (rfl)) (by rfl), gt_of (List.mem_of_getElem? (i := 1) (by decide +kernel)) (by decide +kernel), by decide +kernel⟩
theorem mv_X7_list : Mv yX7_list := ⟨gt_of (List.mem_of_getElem? (i := 354) (by decide +kernel)) (by decide +kernel), gt_of (List.mem_of_getElem? (i := 355) (by decide +kernel)) (by decide +kernel)⟩
set_option maxRecDepth 100000 in
theorem mc_X7_count : Mc yX7_count cX7_count 2 (some .int) 1 := ⟨gt_of (List.mem_of_getElem? (i := 362) (rfl)) (by rfl), gt_of (List.mem_of_getElem? (i := 1) (by decide +kernel)) (by decide +kernel), by decide +kernel⟩
theorem mv_X7_count : Mv yX7_count := ⟨gt_of (List.mem_of_getElem? (i := 360) (by decide +kernel)) (by decide +kernel), gt_of (List.mem_of_getElem? (i := 361) (by decide +kernel)) (by decide +kernel)⟩
set_option maxRecDepth 100000 in
theorem mc_X1_allGaps : Mc yX1_allGaps cX1_allGaps 3 (some .int) 0 := ⟨gt_of (List.mem_of_getElem? (i := 366) (rfl)) (by rfl), gt_of (List.mem_of_getElem? (i := 2) (by decide +kernel)) (by decide +kernel), by decide +kernel⟩
theorem mv_X1_allGaps : Mv yX1_allGaps := ⟨gt_of (List.mem_of_getElem? (i := 364) (by decide +kernel)) (by decide +kernel), gt_of (List.mem_of_getElem? (i := 365) (by decide +kernel)) (by decide +kernel)⟩
set_option maxRecDepth 100000 in
theorem mc_X7_fits : Mc yX7_fits cX7_fits 4 (some .int) 3 := ⟨gt_of (List.mem_of_getElem? (i := 371) (rfl)) (by rfl), gt_of (List.mem_of_getElem? (i := 1) (by decide +kernel)) (by decide +kernel), by decide +kernel⟩
theorem mv_X7_fits : Mv yX7_fits := ⟨gt_of (List.mem_of_getElem? (i := 369) (by decide +kernel)) (by decide +kernel), gt_of (List.mem_of_getElem? (i := 370) (by decide +kernel)) (by decide +kernel)⟩
set_option maxRecDepth 100000 in
theorem mc_X7_areMeasures : Mc yX7_areMeasures cX7_areMeasures 3 (some .boolean) 3 := ⟨gt_of (List.mem_of_getElem? (i := 374) (rfl)) (by rfl), gt_of (List.mem_of_getElem? (i := 1) (by decide +kernel)) (by decide +kernel), by decide +kernel⟩
theorem ms_X7_areMeasures : Cond.static yX7_areMeasures ∈ gt := gt_of (List.mem_of_getElem? (i := 373) (by decide +kernel)) (by decide +kernel)
set_option maxRecDepth 100000 in
theorem mc_X4_rateTurns : Mc yX4_rateTurns cX4_rateTurns 6 none 1 := ⟨gt_of (List.mem_of_getElem? (i := 378) (rfl)) (by rfl), gt_of (List.mem_of_getElem? (i := 3) (by decide +kernel)) (by decide +kernel), by decide +kernel⟩
theorem mv_X4_rateTurns : Mv yX4_rateTurns := ⟨gt_of (List.mem_of_getElem? (i := 376) (by decide +kernel)) (by decide +kernel), gt_of (List.mem_of_getElem? (i := 377) (by decide +kernel)) (by decide +kernel)⟩
set_option maxRecDepth 100000 in
theorem mc_X4_findRings : Mc yX4_findRings cX4_findRings 5 none 1 := ⟨gt_of (List.mem_of_getElem? (i := 382) (rfl)) (by rfl), gt_of (List.mem_of_getElem? (i := 3) (by decide +kernel)) (by decide +kernel), by decide +kernel⟩
theorem mv_X4_findRings : Mv yX4_findRings := ⟨gt_of (List.mem_of_getElem? (i := 380) (by decide +kernel)) (by decide +kernel), gt_of (List.mem_of_getElem? (i := 381) (by decide +kernel)) (by decide +kernel)⟩
set_option maxRecDepth 100000 in
theorem mc_J7_fill_53178 : Mc yJ7_fill_53178 cJ7_fill_53178 4 none 2 := ⟨gt_of (List.mem_of_getElem? (i := 385) (rfl)) (by rfl), gt_of (List.mem_of_getElem? (i := 11) (by decide +kernel)) (by decide +kernel), by decide +kernel⟩
theorem ms_J7_fill_53178 : Cond.static yJ7_fill_53178 ∈ gt := gt_of (List.mem_of_getElem? (i := 384) (by decide +kernel)) (by decide +kernel)
set_option maxRecDepth 100000 in
theorem mc_J6_bitCount_0f7a4 : Mc yJ6_bitCount_0f7a4 cJ6_bitCount_0f7a4 1 (some .int) 1 := ⟨gt_of (List.mem_of_getElem? (i := 388) (rfl)) (by rfl), gt_of (List.mem_of_getElem? (i := 12) (by decide +kernel)) (by decide +kernel), by decide +kernel⟩
theorem ms_J6_bitCount_0f7a4 : Cond.static yJ6_bitCount_0f7a4 ∈ gt := gt_of (List.mem_of_getElem? (i := 387) (by decide +kernel)) (by decide +kernel)
set_option maxRecDepth 100000 in
theorem mc_X4_addRing : Mc yX4_addRing cX4_addRing 7 none 4 := ⟨gt_of (List.mem_of_getElem? (i := 395) (rfl)) (by rfl), gt_of (List.mem_of_getElem? (i := 3) (by decide +kernel)) (by decide +kernel), by decide +kernel⟩
theorem mv_X4_addRing : Mv yX4_addRing := ⟨gt_of (List.mem_of_getElem? (i := 394) (by decide +kernel)) (by decide +kernel), gt_sel (List.mem_of_getElem? (i := 0) (by decide +kernel)) (by decide +kernel)⟩
set_option maxRecDepth 100000 in
theorem mc_X4_goRound : Mc yX4_goRound cX4_goRound 10 (some .int) 2 := ⟨gt_of (List.mem_of_getElem? (i := 400) (rfl)) (by rfl), gt_of (List.mem_of_getElem? (i := 3) (by decide +kernel)) (by decide +kernel), by decide +kernel⟩
theorem mv_X4_goRound : Mv yX4_goRound := ⟨gt_of (List.mem_of_getElem? (i := 399) (by decide +kernel)) (by decide +kernel), gt_sel (List.mem_of_getElem? (i := 1) (by decide +kernel)) (by decide +kernel)⟩
set_option maxRecDepth 100000 in
theorem mc_X4_leastOf : Mc yX4_leastOf cX4_leastOf 1 (some .int) 1 := ⟨gt_of (List.mem_of_getElem? (i := 403) (rfl)) (by rfl), gt_of (List.mem_of_getElem? (i := 3) (by decide +kernel)) (by decide +kernel), by decide +kernel⟩
theorem ms_X4_leastOf : Cond.static yX4_leastOf ∈ gt := gt_of (List.mem_of_getElem? (i := 402) (by decide +kernel)) (by decide +kernel)
set_option maxRecDepth 100000 in
theorem mc_X4_worstRing : Mc yX4_worstRing cX4_worstRing 7 (some .int) 1 := ⟨gt_of (List.mem_of_getElem? (i := 407) (rfl)) (by rfl), gt_of (List.mem_of_getElem? (i := 3) (by decide +kernel)) (by decide +kernel), by decide +kernel⟩
theorem mv_X4_worstRing : Mv yX4_worstRing := ⟨gt_of (List.mem_of_getElem? (i := 405) (by decide +kernel)) (by decide +kernel), gt_of (List.mem_of_getElem? (i := 406) (by decide +kernel)) (by decide +kernel)⟩
set_option maxRecDepth 100000 in
theorem mc_X4_along : Mc yX4_along cX4_along 4 (some .int) 2 := ⟨gt_of (List.mem_of_getElem? (i := 411) (rfl)) (by rfl), gt_of (List.mem_of_getElem? (i := 3) (by decide +kernel)) (by decide +kernel), by decide +kernel⟩
theorem mv_X4_along : Mv yX4_along := ⟨gt_of (List.mem_of_getElem? (i := 409) (by decide +kernel)) (by decide +kernel), gt_of (List.mem_of_getElem? (i := 410) (by decide +kernel)) (by decide +kernel)⟩
set_option maxRecDepth 100000 in
theorem mc_X7_commonPart : Mc yX7_commonPart cX7_commonPart 11 (some .long) 2 := ⟨gt_of (List.mem_of_getElem? (i := 415) (rfl)) (by rfl), gt_of (List.mem_of_getElem? (i := 1) (by decide +kernel)) (by decide +kernel), by decide +kernel⟩
theorem ms_X7_commonPart : Cond.static yX7_commonPart ∈ gt := gt_of (List.mem_of_getElem? (i := 414) (by decide +kernel)) (by decide +kernel)
set_option maxRecDepth 100000 in
theorem mc_X2_prepare : Mc yX2_prepare cX2_prepare 8 none 4 := ⟨gt_of (List.mem_of_getElem? (i := 419) (rfl)) (by rfl), gt_of (List.mem_of_getElem? (i := 4) (by decide +kernel)) (by decide +kernel), by decide +kernel⟩
theorem mv_X2_prepare : Mv yX2_prepare := ⟨gt_of (List.mem_of_getElem? (i := 417) (by decide +kernel)) (by decide +kernel), gt_of (List.mem_of_getElem? (i := 418) (by decide +kernel)) (by decide +kernel)⟩
set_option maxRecDepth 100000 in
theorem mc_X2_finds : Mc yX2_finds cX2_finds 7 (some .boolean) 3 := ⟨gt_of (List.mem_of_getElem? (i := 424) (rfl)) (by rfl), gt_of (List.mem_of_getElem? (i := 4) (by decide +kernel)) (by decide +kernel), by decide +kernel⟩
theorem mv_X2_finds : Mv yX2_finds := ⟨gt_of (List.mem_of_getElem? (i := 422) (by decide +kernel)) (by decide +kernel), gt_of (List.mem_of_getElem? (i := 423) (by decide +kernel)) (by decide +kernel)⟩
set_option maxRecDepth 100000 in
theorem mc_X4_allows : Mc yX4_allows cX4_allows 5 (some .boolean) 3 := ⟨gt_of (List.mem_of_getElem? (i := 428) (rfl)) (by rfl), gt_of (List.mem_of_getElem? (i := 3) (by decide +kernel)) (by decide +kernel), by decide +kernel⟩
theorem mv_X4_allows : Mv yX4_allows := ⟨gt_of (List.mem_of_getElem? (i := 426) (by decide +kernel)) (by decide +kernel), gt_of (List.mem_of_getElem? (i := 427) (by decide +kernel)) (by decide +kernel)⟩
set_option maxRecDepth 100000 in
theorem mc_X2_settles : Mc yX2_settles cX2_settles 11 (some .boolean) 2 := ⟨gt_of (List.mem_of_getElem? (i := 432) (rfl)) (by rfl), gt_of (List.mem_of_getElem? (i := 4) (by decide +kernel)) (by decide +kernel), by decide +kernel⟩
theorem mv_X2_settles : Mv yX2_settles := ⟨gt_of (List.mem_of_getElem? (i := 431) (by decide +kernel)) (by decide +kernel), gt_sel (List.mem_of_getElem? (i := 2) (by decide +kernel)) (by decide +kernel)⟩
set_option maxRecDepth 100000 in
theorem mc_X2_lifts : Mc yX2_lifts cX2_lifts 5 (some .boolean) 2 := ⟨gt_of (List.mem_of_getElem? (i := 436) (rfl)) (by rfl), gt_of (List.mem_of_getElem? (i := 4) (by decide +kernel)) (by decide +kernel), by decide +kernel⟩
theorem mv_X2_lifts : Mv yX2_lifts := ⟨gt_of (List.mem_of_getElem? (i := 435) (by decide +kernel)) (by decide +kernel), gt_sel (List.mem_of_getElem? (i := 3) (by decide +kernel)) (by decide +kernel)⟩
set_option maxRecDepth 100000 in
theorem mc_J13_bitCount_95d88 : Mc yJ13_bitCount_95d88 cJ13_bitCount_95d88 2 (some .int) 1 := ⟨gt_of (List.mem_of_getElem? (i := 440) (rfl)) (by rfl), gt_of (List.mem_of_getElem? (i := 13) (by decide +kernel)) (by decide +kernel), by decide +kernel⟩
theorem ms_J13_bitCount_95d88 : Cond.static yJ13_bitCount_95d88 ∈ gt := gt_of (List.mem_of_getElem? (i := 439) (by decide +kernel)) (by decide +kernel)
set_option maxRecDepth 100000 in
theorem mc_X2_isTrialLess : Mc yX2_isTrialLess cX2_isTrialLess 3 (some .boolean) 1 := ⟨gt_of (List.mem_of_getElem? (i := 447) (rfl)) (by rfl), gt_of (List.mem_of_getElem? (i := 4) (by decide +kernel)) (by decide +kernel), by decide +kernel⟩
theorem mv_X2_isTrialLess : Mv yX2_isTrialLess := ⟨gt_of (List.mem_of_getElem? (i := 446) (by decide +kernel)) (by decide +kernel), gt_sel (List.mem_of_getElem? (i := 4) (by decide +kernel)) (by decide +kernel)⟩
set_option maxRecDepth 100000 in
theorem mc_X7_place : Mc yX7_place cX7_place 5 (some .int) 4 := ⟨gt_of (List.mem_of_getElem? (i := 454) (rfl)) (by rfl), gt_of (List.mem_of_getElem? (i := 1) (by decide +kernel)) (by decide +kernel), by decide +kernel⟩
theorem mv_X7_place : Mv yX7_place := ⟨gt_of (List.mem_of_getElem? (i := 452) (by decide +kernel)) (by decide +kernel), gt_of (List.mem_of_getElem? (i := 453) (by decide +kernel)) (by decide +kernel)⟩
set_option maxRecDepth 100000 in
theorem mc_X7_findFirst : Mc yX7_findFirst cX7_findFirst 4 (some .boolean) 3 := ⟨gt_of (List.mem_of_getElem? (i := 458) (rfl)) (by rfl), gt_of (List.mem_of_getElem? (i := 1) (by decide +kernel)) (by decide +kernel), by decide +kernel⟩
theorem mv_X7_findFirst : Mv yX7_findFirst := ⟨gt_of (List.mem_of_getElem? (i := 457) (by decide +kernel)) (by decide +kernel), gt_sel (List.mem_of_getElem? (i := 5) (by decide +kernel)) (by decide +kernel)⟩
set_option maxRecDepth 100000 in
theorem mc_X7_ways : Mc yX7_ways cX7_ways 4 (some .int) 3 := ⟨gt_of (List.mem_of_getElem? (i := 462) (rfl)) (by rfl), gt_of (List.mem_of_getElem? (i := 1) (by decide +kernel)) (by decide +kernel), by decide +kernel⟩
theorem mv_X7_ways : Mv yX7_ways := ⟨gt_of (List.mem_of_getElem? (i := 460) (by decide +kernel)) (by decide +kernel), gt_of (List.mem_of_getElem? (i := 461) (by decide +kernel)) (by decide +kernel)⟩
set_option maxRecDepth 100000 in
theorem mc_X2_countAll : Mc yX2_countAll cX2_countAll 3 (some .int) 2 := ⟨gt_of (List.mem_of_getElem? (i := 466) (rfl)) (by rfl), gt_of (List.mem_of_getElem? (i := 4) (by decide +kernel)) (by decide +kernel), by decide +kernel⟩
theorem mv_X2_countAll : Mv yX2_countAll := ⟨gt_of (List.mem_of_getElem? (i := 464) (by decide +kernel)) (by decide +kernel), gt_of (List.mem_of_getElem? (i := 465) (by decide +kernel)) (by decide +kernel)⟩
set_option maxRecDepth 100000 in
theorem mc_X2_countFrom : Mc yX2_countFrom cX2_countFrom 7 (some .int) 3 := ⟨gt_of (List.mem_of_getElem? (i := 469) (rfl)) (by rfl), gt_of (List.mem_of_getElem? (i := 4) (by decide +kernel)) (by decide +kernel), by decide +kernel⟩
theorem ms_X2_countFrom : Cond.static yX2_countFrom ∈ gt := gt_of (List.mem_of_getElem? (i := 468) (by decide +kernel)) (by decide +kernel)
set_option maxRecDepth 100000 in
theorem mc_X2_openTo : Mc yX2_openTo cX2_openTo 6 (some .long) 2 := ⟨gt_of (List.mem_of_getElem? (i := 473) (rfl)) (by rfl), gt_of (List.mem_of_getElem? (i := 4) (by decide +kernel)) (by decide +kernel), by decide +kernel⟩
theorem mv_X2_openTo : Mv yX2_openTo := ⟨gt_of (List.mem_of_getElem? (i := 472) (by decide +kernel)) (by decide +kernel), gt_sel (List.mem_of_getElem? (i := 6) (by decide +kernel)) (by decide +kernel)⟩
set_option maxRecDepth 100000 in
theorem mc_X2_apartFrom : Mc yX2_apartFrom cX2_apartFrom 5 (some .long) 2 := ⟨gt_of (List.mem_of_getElem? (i := 477) (rfl)) (by rfl), gt_of (List.mem_of_getElem? (i := 4) (by decide +kernel)) (by decide +kernel), by decide +kernel⟩
theorem mv_X2_apartFrom : Mv yX2_apartFrom := ⟨gt_of (List.mem_of_getElem? (i := 476) (by decide +kernel)) (by decide +kernel), gt_sel (List.mem_of_getElem? (i := 7) (by decide +kernel)) (by decide +kernel)⟩
set_option maxRecDepth 100000 in
theorem mc_X7_ratio : Mc yX7_ratio cX7_ratio 2 (some .int) 1 := ⟨gt_of (List.mem_of_getElem? (i := 481) (rfl)) (by rfl), gt_of (List.mem_of_getElem? (i := 1) (by decide +kernel)) (by decide +kernel), by decide +kernel⟩
theorem mv_X7_ratio : Mv yX7_ratio := ⟨gt_of (List.mem_of_getElem? (i := 479) (by decide +kernel)) (by decide +kernel), gt_of (List.mem_of_getElem? (i := 480) (by decide +kernel)) (by decide +kernel)⟩
set_option maxRecDepth 100000 in
theorem mc_X7_whole : Mc yX7_whole cX7_whole 1 (some .int) 0 := ⟨gt_of (List.mem_of_getElem? (i := 485) (rfl)) (by rfl), gt_of (List.mem_of_getElem? (i := 1) (by decide +kernel)) (by decide +kernel), by decide +kernel⟩
theorem mv_X7_whole : Mv yX7_whole := ⟨gt_of (List.mem_of_getElem? (i := 483) (by decide +kernel)) (by decide +kernel), gt_of (List.mem_of_getElem? (i := 484) (by decide +kernel)) (by decide +kernel)⟩
set_option maxRecDepth 100000 in
theorem mc_X7_leastWhole : Mc yX7_leastWhole cX7_leastWhole 1 (some .int) 0 := ⟨gt_of (List.mem_of_getElem? (i := 489) (rfl)) (by rfl), gt_of (List.mem_of_getElem? (i := 1) (by decide +kernel)) (by decide +kernel), by decide +kernel⟩
theorem mv_X7_leastWhole : Mv yX7_leastWhole := ⟨gt_of (List.mem_of_getElem? (i := 488) (by decide +kernel)) (by decide +kernel), gt_sel (List.mem_of_getElem? (i := 8) (by decide +kernel)) (by decide +kernel)⟩
set_option maxRecDepth 100000 in
theorem mc_X7_off : Mc yX7_off cX7_off 3 (some .int) 1 := ⟨gt_of (List.mem_of_getElem? (i := 493) (rfl)) (by rfl), gt_of (List.mem_of_getElem? (i := 1) (by decide +kernel)) (by decide +kernel), by decide +kernel⟩
theorem mv_X7_off : Mv yX7_off := ⟨gt_of (List.mem_of_getElem? (i := 491) (by decide +kernel)) (by decide +kernel), gt_of (List.mem_of_getElem? (i := 492) (by decide +kernel)) (by decide +kernel)⟩
set_option maxRecDepth 100000 in
theorem mc_X7_rings : Mc yX7_rings cX7_rings 1 (some .int) 0 := ⟨gt_of (List.mem_of_getElem? (i := 497) (rfl)) (by rfl), gt_of (List.mem_of_getElem? (i := 1) (by decide +kernel)) (by decide +kernel), by decide +kernel⟩
theorem mv_X7_rings : Mv yX7_rings := ⟨gt_of (List.mem_of_getElem? (i := 495) (by decide +kernel)) (by decide +kernel), gt_of (List.mem_of_getElem? (i := 496) (by decide +kernel)) (by decide +kernel)⟩
set_option maxRecDepth 100000 in
theorem mc_X7_ring : Mc yX7_ring cX7_ring 3 (some .int) 2 := ⟨gt_of (List.mem_of_getElem? (i := 502) (rfl)) (by rfl), gt_of (List.mem_of_getElem? (i := 1) (by decide +kernel)) (by decide +kernel), by decide +kernel⟩
theorem mv_X7_ring : Mv yX7_ring := ⟨gt_of (List.mem_of_getElem? (i := 500) (by decide +kernel)) (by decide +kernel), gt_of (List.mem_of_getElem? (i := 501) (by decide +kernel)) (by decide +kernel)⟩
set_option maxRecDepth 100000 in
theorem mc_X1_pointsOf : Mc yX1_pointsOf cX1_pointsOf 4 (some .int) 1 := ⟨gt_of (List.mem_of_getElem? (i := 506) (rfl)) (by rfl), gt_of (List.mem_of_getElem? (i := 2) (by decide +kernel)) (by decide +kernel), by decide +kernel⟩
theorem mv_X1_pointsOf : Mv yX1_pointsOf := ⟨gt_of (List.mem_of_getElem? (i := 504) (by decide +kernel)) (by decide +kernel), gt_of (List.mem_of_getElem? (i := 505) (by decide +kernel)) (by decide +kernel)⟩
set_option maxRecDepth 100000 in
theorem mc_X7_circled : Mc yX7_circled cX7_circled 2 (some .int) 1 := ⟨gt_of (List.mem_of_getElem? (i := 510) (rfl)) (by rfl), gt_of (List.mem_of_getElem? (i := 1) (by decide +kernel)) (by decide +kernel), by decide +kernel⟩
theorem mv_X7_circled : Mv yX7_circled := ⟨gt_of (List.mem_of_getElem? (i := 508) (by decide +kernel)) (by decide +kernel), gt_of (List.mem_of_getElem? (i := 509) (by decide +kernel)) (by decide +kernel)⟩
set_option maxRecDepth 100000 in
theorem mc_X1_areLines : Mc yX1_areLines cX1_areLines 2 (some .boolean) 1 := ⟨gt_of (List.mem_of_getElem? (i := 514) (rfl)) (by rfl), gt_of (List.mem_of_getElem? (i := 2) (by decide +kernel)) (by decide +kernel), by decide +kernel⟩
theorem mv_X1_areLines : Mv yX1_areLines := ⟨gt_of (List.mem_of_getElem? (i := 512) (by decide +kernel)) (by decide +kernel), gt_of (List.mem_of_getElem? (i := 513) (by decide +kernel)) (by decide +kernel)⟩
set_option maxRecDepth 100000 in
theorem mc_X7_rate : Mc yX7_rate cX7_rate 7 (some .int) 2 := ⟨gt_of (List.mem_of_getElem? (i := 519) (rfl)) (by rfl), gt_of (List.mem_of_getElem? (i := 1) (by decide +kernel)) (by decide +kernel), by decide +kernel⟩
theorem mv_X7_rate : Mv yX7_rate := ⟨gt_of (List.mem_of_getElem? (i := 517) (by decide +kernel)) (by decide +kernel), gt_of (List.mem_of_getElem? (i := 518) (by decide +kernel)) (by decide +kernel)⟩
set_option maxRecDepth 100000 in
theorem mc_X7_ringOfRate : Mc yX7_ringOfRate cX7_ringOfRate 3 (some .int) 1 := ⟨gt_of (List.mem_of_getElem? (i := 523) (rfl)) (by rfl), gt_of (List.mem_of_getElem? (i := 1) (by decide +kernel)) (by decide +kernel), by decide +kernel⟩
theorem mv_X7_ringOfRate : Mv yX7_ringOfRate := ⟨gt_of (List.mem_of_getElem? (i := 522) (by decide +kernel)) (by decide +kernel), gt_sel (List.mem_of_getElem? (i := 9) (by decide +kernel)) (by decide +kernel)⟩
set_option maxRecDepth 100000 in
theorem mc_X7_worst : Mc yX7_worst cX7_worst 3 (some .int) 1 := ⟨gt_of (List.mem_of_getElem? (i := 529) (rfl)) (by rfl), gt_of (List.mem_of_getElem? (i := 1) (by decide +kernel)) (by decide +kernel), by decide +kernel⟩
theorem mv_X7_worst : Mv yX7_worst := ⟨gt_of (List.mem_of_getElem? (i := 527) (by decide +kernel)) (by decide +kernel), gt_of (List.mem_of_getElem? (i := 528) (by decide +kernel)) (by decide +kernel)⟩
set_option maxRecDepth 100000 in
theorem mc_X7_turns : Mc yX7_turns cX7_turns 2 (some .int) 1 := ⟨gt_of (List.mem_of_getElem? (i := 533) (rfl)) (by rfl), gt_of (List.mem_of_getElem? (i := 1) (by decide +kernel)) (by decide +kernel), by decide +kernel⟩
theorem mv_X7_turns : Mv yX7_turns := ⟨gt_of (List.mem_of_getElem? (i := 531) (by decide +kernel)) (by decide +kernel), gt_of (List.mem_of_getElem? (i := 532) (by decide +kernel)) (by decide +kernel)⟩
set_option maxRecDepth 100000 in
theorem mc_X4_countOpen : Mc yX4_countOpen cX4_countOpen 3 (some .int) 0 := ⟨gt_of (List.mem_of_getElem? (i := 537) (rfl)) (by rfl), gt_of (List.mem_of_getElem? (i := 3) (by decide +kernel)) (by decide +kernel), by decide +kernel⟩
theorem mv_X4_countOpen : Mv yX4_countOpen := ⟨gt_of (List.mem_of_getElem? (i := 535) (by decide +kernel)) (by decide +kernel), gt_of (List.mem_of_getElem? (i := 536) (by decide +kernel)) (by decide +kernel)⟩
set_option maxRecDepth 100000 in
theorem mc_X4_countBest : Mc yX4_countBest cX4_countBest 3 (some .int) 0 := ⟨gt_of (List.mem_of_getElem? (i := 541) (rfl)) (by rfl), gt_of (List.mem_of_getElem? (i := 3) (by decide +kernel)) (by decide +kernel), by decide +kernel⟩
theorem mv_X4_countBest : Mv yX4_countBest := ⟨gt_of (List.mem_of_getElem? (i := 539) (by decide +kernel)) (by decide +kernel), gt_of (List.mem_of_getElem? (i := 540) (by decide +kernel)) (by decide +kernel)⟩
set_option maxRecDepth 100000 in
theorem mc_X4_leastBest : Mc yX4_leastBest cX4_leastBest 2 (some .int) 0 := ⟨gt_of (List.mem_of_getElem? (i := 546) (rfl)) (by rfl), gt_of (List.mem_of_getElem? (i := 3) (by decide +kernel)) (by decide +kernel), by decide +kernel⟩
theorem mv_X4_leastBest : Mv yX4_leastBest := ⟨gt_of (List.mem_of_getElem? (i := 544) (by decide +kernel)) (by decide +kernel), gt_of (List.mem_of_getElem? (i := 545) (by decide +kernel)) (by decide +kernel)⟩
set_option maxRecDepth 100000 in
theorem mc_X7_binds : Mc yX7_binds cX7_binds 3 (some .int) 0 := ⟨gt_of (List.mem_of_getElem? (i := 550) (rfl)) (by rfl), gt_of (List.mem_of_getElem? (i := 1) (by decide +kernel)) (by decide +kernel), by decide +kernel⟩
theorem mv_X7_binds : Mv yX7_binds := ⟨gt_of (List.mem_of_getElem? (i := 548) (by decide +kernel)) (by decide +kernel), gt_of (List.mem_of_getElem? (i := 549) (by decide +kernel)) (by decide +kernel)⟩
set_option maxRecDepth 100000 in
theorem mc_X4_isLessWithout : Mc yX4_isLessWithout cX4_isLessWithout 3 (some .boolean) 1 := ⟨gt_of (List.mem_of_getElem? (i := 554) (rfl)) (by rfl), gt_of (List.mem_of_getElem? (i := 3) (by decide +kernel)) (by decide +kernel), by decide +kernel⟩
theorem mv_X4_isLessWithout : Mv yX4_isLessWithout := ⟨gt_of (List.mem_of_getElem? (i := 552) (by decide +kernel)) (by decide +kernel), gt_of (List.mem_of_getElem? (i := 553) (by decide +kernel)) (by decide +kernel)⟩
set_option maxRecDepth 100000 in
theorem mc_X4_isLessBy : Mc yX4_isLessBy cX4_isLessBy 4 (some .boolean) 2 := ⟨gt_of (List.mem_of_getElem? (i := 558) (rfl)) (by rfl), gt_of (List.mem_of_getElem? (i := 3) (by decide +kernel)) (by decide +kernel), by decide +kernel⟩
theorem mv_X4_isLessBy : Mv yX4_isLessBy := ⟨gt_of (List.mem_of_getElem? (i := 557) (by decide +kernel)) (by decide +kernel), gt_sel (List.mem_of_getElem? (i := 10) (by decide +kernel)) (by decide +kernel)⟩
set_option maxRecDepth 100000 in
theorem mc_X7_room : Mc yX7_room cX7_room 2 (some .int) 1 := ⟨gt_of (List.mem_of_getElem? (i := 562) (rfl)) (by rfl), gt_of (List.mem_of_getElem? (i := 1) (by decide +kernel)) (by decide +kernel), by decide +kernel⟩
theorem mv_X7_room : Mv yX7_room := ⟨gt_of (List.mem_of_getElem? (i := 560) (by decide +kernel)) (by decide +kernel), gt_of (List.mem_of_getElem? (i := 561) (by decide +kernel)) (by decide +kernel)⟩
set_option maxRecDepth 100000 in
theorem mc_X4_roomOf : Mc yX4_roomOf cX4_roomOf 4 (some .int) 1 := ⟨gt_of (List.mem_of_getElem? (i := 566) (rfl)) (by rfl), gt_of (List.mem_of_getElem? (i := 3) (by decide +kernel)) (by decide +kernel), by decide +kernel⟩
theorem mv_X4_roomOf : Mv yX4_roomOf := ⟨gt_of (List.mem_of_getElem? (i := 564) (by decide +kernel)) (by decide +kernel), gt_of (List.mem_of_getElem? (i := 565) (by decide +kernel)) (by decide +kernel)⟩
set_option maxRecDepth 100000 in
theorem mc_X4_roomBy : Mc yX4_roomBy cX4_roomBy 7 (some .int) 2 := ⟨gt_of (List.mem_of_getElem? (i := 570) (rfl)) (by rfl), gt_of (List.mem_of_getElem? (i := 3) (by decide +kernel)) (by decide +kernel), by decide +kernel⟩
theorem mv_X4_roomBy : Mv yX4_roomBy := ⟨gt_of (List.mem_of_getElem? (i := 569) (by decide +kernel)) (by decide +kernel), gt_sel (List.mem_of_getElem? (i := 11) (by decide +kernel)) (by decide +kernel)⟩
set_option maxRecDepth 100000 in
theorem mc_X7_judge : Mc yX7_judge cX7_judge 5 (some .int) 3 := ⟨gt_of (List.mem_of_getElem? (i := 575) (rfl)) (by rfl), gt_of (List.mem_of_getElem? (i := 1) (by decide +kernel)) (by decide +kernel), by decide +kernel⟩
theorem mv_X7_judge : Mv yX7_judge := ⟨gt_of (List.mem_of_getElem? (i := 573) (by decide +kernel)) (by decide +kernel), gt_of (List.mem_of_getElem? (i := 574) (by decide +kernel)) (by decide +kernel)⟩
set_option maxRecDepth 100000 in
theorem mc_X7_refusalOf : Mc yX7_refusalOf cX7_refusalOf 4 (some .int) 3 := ⟨gt_of (List.mem_of_getElem? (i := 579) (rfl)) (by rfl), gt_of (List.mem_of_getElem? (i := 1) (by decide +kernel)) (by decide +kernel), by decide +kernel⟩
theorem mv_X7_refusalOf : Mv yX7_refusalOf := ⟨gt_of (List.mem_of_getElem? (i := 578) (by decide +kernel)) (by decide +kernel), gt_sel (List.mem_of_getElem? (i := 12) (by decide +kernel)) (by decide +kernel)⟩
set_option maxRecDepth 100000 in
theorem mc_X7_isSheet : Mc yX7_isSheet cX7_isSheet 1 (some .boolean) 1 := ⟨gt_of (List.mem_of_getElem? (i := 582) (rfl)) (by rfl), gt_of (List.mem_of_getElem? (i := 1) (by decide +kernel)) (by decide +kernel), by decide +kernel⟩
theorem ms_X7_isSheet : Cond.static yX7_isSheet ∈ gt := gt_of (List.mem_of_getElem? (i := 581) (by decide +kernel)) (by decide +kernel)
set_option maxRecDepth 100000 in
theorem mc_X5_isMissing : Mc yX5_isMissing cX5_isMissing 1 (some .boolean) 0 := ⟨gt_of (List.mem_of_getElem? (i := 586) (rfl)) (by rfl), gt_of (List.mem_of_getElem? (i := 8) (by decide +kernel)) (by decide +kernel), by decide +kernel⟩
theorem mv_X5_isMissing : Mv yX5_isMissing := ⟨gt_of (List.mem_of_getElem? (i := 584) (by decide +kernel)) (by decide +kernel), gt_of (List.mem_of_getElem? (i := 585) (by decide +kernel)) (by decide +kernel)⟩
set_option maxRecDepth 100000 in
theorem mc_X7_firstWrong : Mc yX7_firstWrong cX7_firstWrong 8 (some .int) 3 := ⟨gt_of (List.mem_of_getElem? (i := 590) (rfl)) (by rfl), gt_of (List.mem_of_getElem? (i := 1) (by decide +kernel)) (by decide +kernel), by decide +kernel⟩
theorem mv_X7_firstWrong : Mv yX7_firstWrong := ⟨gt_of (List.mem_of_getElem? (i := 589) (by decide +kernel)) (by decide +kernel), gt_sel (List.mem_of_getElem? (i := 13) (by decide +kernel)) (by decide +kernel)⟩
set_option maxRecDepth 100000 in
theorem mc_X7_areApart : Mc yX7_areApart cX7_areApart 8 (some .boolean) 4 := ⟨gt_of (List.mem_of_getElem? (i := 593) (rfl)) (by rfl), gt_of (List.mem_of_getElem? (i := 1) (by decide +kernel)) (by decide +kernel), by decide +kernel⟩
theorem ms_X7_areApart : Cond.static yX7_areApart ∈ gt := gt_of (List.mem_of_getElem? (i := 592) (by decide +kernel)) (by decide +kernel)
set_option maxRecDepth 100000 in
theorem mc_J9_abs_067f4 : Mc yJ9_abs_067f4 cJ9_abs_067f4 2 (some .long) 1 := ⟨gt_of (List.mem_of_getElem? (i := 596) (rfl)) (by rfl), gt_of (List.mem_of_getElem? (i := 10) (by decide +kernel)) (by decide +kernel), by decide +kernel⟩
theorem ms_J9_abs_067f4 : Cond.static yJ9_abs_067f4 ∈ gt := gt_of (List.mem_of_getElem? (i := 595) (by decide +kernel)) (by decide +kernel)
set_option maxRecDepth 100000 in
theorem mc_X7_arcs : Mc yX7_arcs cX7_arcs 5 (some .int) 3 := ⟨gt_of (List.mem_of_getElem? (i := 600) (rfl)) (by rfl), gt_of (List.mem_of_getElem? (i := 1) (by decide +kernel)) (by decide +kernel), by decide +kernel⟩
theorem mv_X7_arcs : Mv yX7_arcs := ⟨gt_of (List.mem_of_getElem? (i := 598) (by decide +kernel)) (by decide +kernel), gt_of (List.mem_of_getElem? (i := 599) (by decide +kernel)) (by decide +kernel)⟩
set_option maxRecDepth 100000 in
theorem mc_X7_refusalOfColouring : Mc yX7_refusalOfColouring cX7_refusalOfColouring 5 (some .int) 3 := ⟨gt_of (List.mem_of_getElem? (i := 604) (rfl)) (by rfl), gt_of (List.mem_of_getElem? (i := 1) (by decide +kernel)) (by decide +kernel), by decide +kernel⟩
theorem mv_X7_refusalOfColouring : Mv yX7_refusalOfColouring := ⟨gt_of (List.mem_of_getElem? (i := 603) (by decide +kernel)) (by decide +kernel), gt_sel (List.mem_of_getElem? (i := 14) (by decide +kernel)) (by decide +kernel)⟩
set_option maxRecDepth 100000 in
theorem mc_X7_tightLines : Mc yX7_tightLines cX7_tightLines 11 (some .int) 4 := ⟨gt_of (List.mem_of_getElem? (i := 608) (rfl)) (by rfl), gt_of (List.mem_of_getElem? (i := 1) (by decide +kernel)) (by decide +kernel), by decide +kernel⟩
theorem mv_X7_tightLines : Mv yX7_tightLines := ⟨gt_of (List.mem_of_getElem? (i := 607) (by decide +kernel)) (by decide +kernel), gt_sel (List.mem_of_getElem? (i := 15) (by decide +kernel)) (by decide +kernel)⟩
set_option maxRecDepth 100000 in
theorem mc_X7_tight : Mc yX7_tight cX7_tight 7 (some .int) 4 := ⟨gt_of (List.mem_of_getElem? (i := 613) (rfl)) (by rfl), gt_of (List.mem_of_getElem? (i := 1) (by decide +kernel)) (by decide +kernel), by decide +kernel⟩
theorem mv_X7_tight : Mv yX7_tight := ⟨gt_of (List.mem_of_getElem? (i := 611) (by decide +kernel)) (by decide +kernel), gt_of (List.mem_of_getElem? (i := 612) (by decide +kernel)) (by decide +kernel)⟩
set_option maxRecDepth 100000 in
theorem mc_X4_leastTight : Mc yX4_leastTight cX4_leastTight 8 (some .int) 2 := ⟨gt_of (List.mem_of_getElem? (i := 617) (rfl)) (by rfl), gt_of (List.mem_of_getElem? (i := 3) (by decide +kernel)) (by decide +kernel), by decide +kernel⟩
theorem mv_X4_leastTight : Mv yX4_leastTight := ⟨gt_of (List.mem_of_getElem? (i := 615) (by decide +kernel)) (by decide +kernel), gt_of (List.mem_of_getElem? (i := 616) (by decide +kernel)) (by decide +kernel)⟩
set_option maxRecDepth 100000 in
theorem mc_X7_rounds : Mc yX7_rounds cX7_rounds 8 (some .int) 4 := ⟨gt_of (List.mem_of_getElem? (i := 621) (rfl)) (by rfl), gt_of (List.mem_of_getElem? (i := 1) (by decide +kernel)) (by decide +kernel), by decide +kernel⟩
theorem mv_X7_rounds : Mv yX7_rounds := ⟨gt_of (List.mem_of_getElem? (i := 619) (by decide +kernel)) (by decide +kernel), gt_of (List.mem_of_getElem? (i := 620) (by decide +kernel)) (by decide +kernel)⟩
set_option maxRecDepth 100000 in
theorem mc_X7_next : Mc yX7_next cX7_next 10 (some .int) 5 := ⟨gt_of (List.mem_of_getElem? (i := 625) (rfl)) (by rfl), gt_of (List.mem_of_getElem? (i := 1) (by decide +kernel)) (by decide +kernel), by decide +kernel⟩
theorem mv_X7_next : Mv yX7_next := ⟨gt_of (List.mem_of_getElem? (i := 623) (by decide +kernel)) (by decide +kernel), gt_of (List.mem_of_getElem? (i := 624) (by decide +kernel)) (by decide +kernel)⟩
set_option maxRecDepth 100000 in
theorem mc_X7_neighbour : Mc yX7_neighbour cX7_neighbour 25 (some .int) 5 := ⟨gt_of (List.mem_of_getElem? (i := 628) (rfl)) (by rfl), gt_of (List.mem_of_getElem? (i := 1) (by decide +kernel)) (by decide +kernel), by decide +kernel⟩
theorem ms_X7_neighbour : Cond.static yX7_neighbour ∈ gt := gt_of (List.mem_of_getElem? (i := 627) (by decide +kernel)) (by decide +kernel)
set_option maxRecDepth 100000 in
theorem mc_J9_min_f86c9 : Mc yJ9_min_f86c9 cJ9_min_f86c9 4 (some .long) 2 := ⟨gt_of (List.mem_of_getElem? (i := 631) (rfl)) (by rfl), gt_of (List.mem_of_getElem? (i := 10) (by decide +kernel)) (by decide +kernel), by decide +kernel⟩
theorem ms_J9_min_f86c9 : Cond.static yJ9_min_f86c9 ∈ gt := gt_of (List.mem_of_getElem? (i := 630) (by decide +kernel)) (by decide +kernel)
set_option maxRecDepth 100000 in
theorem mc_X7_fraction : Mc yX7_fraction cX7_fraction 6 (some .int) 3 := ⟨gt_of (List.mem_of_getElem? (i := 635) (rfl)) (by rfl), gt_of (List.mem_of_getElem? (i := 1) (by decide +kernel)) (by decide +kernel), by decide +kernel⟩
theorem mv_X7_fraction : Mv yX7_fraction := ⟨gt_of (List.mem_of_getElem? (i := 633) (by decide +kernel)) (by decide +kernel), gt_of (List.mem_of_getElem? (i := 634) (by decide +kernel)) (by decide +kernel)⟩
set_option maxRecDepth 100000 in
theorem mc_X7_isHold : Mc yX7_isHold cX7_isHold 1 (some .boolean) 1 := ⟨gt_of (List.mem_of_getElem? (i := 638) (rfl)) (by rfl), gt_of (List.mem_of_getElem? (i := 1) (by decide +kernel)) (by decide +kernel), by decide +kernel⟩
theorem ms_X7_isHold : Cond.static yX7_isHold ∈ gt := gt_of (List.mem_of_getElem? (i := 637) (by decide +kernel)) (by decide +kernel)
set_option maxRecDepth 100000 in
theorem mc_X0_takeFraction : Mc yX0_takeFraction cX0_takeFraction 12 (some .int) 2 := ⟨gt_of (List.mem_of_getElem? (i := 642) (rfl)) (by rfl), gt_of (List.mem_of_getElem? (i := 7) (by decide +kernel)) (by decide +kernel), by decide +kernel⟩
theorem mv_X0_takeFraction : Mv yX0_takeFraction := ⟨gt_of (List.mem_of_getElem? (i := 640) (by decide +kernel)) (by decide +kernel), gt_of (List.mem_of_getElem? (i := 641) (by decide +kernel)) (by decide +kernel)⟩
set_option maxRecDepth 100000 in
theorem mc_X7_hold : Mc yX7_hold cX7_hold 4 (some .int) 3 := ⟨gt_of (List.mem_of_getElem? (i := 649) (rfl)) (by rfl), gt_of (List.mem_of_getElem? (i := 1) (by decide +kernel)) (by decide +kernel), by decide +kernel⟩
theorem mv_X7_hold : Mv yX7_hold := ⟨gt_of (List.mem_of_getElem? (i := 647) (by decide +kernel)) (by decide +kernel), gt_of (List.mem_of_getElem? (i := 648) (by decide +kernel)) (by decide +kernel)⟩
set_option maxRecDepth 100000 in
theorem mc_X0_takeLine : Mc yX0_takeLine cX0_takeLine 3 none 2 := ⟨gt_of (List.mem_of_getElem? (i := 653) (rfl)) (by rfl), gt_of (List.mem_of_getElem? (i := 7) (by decide +kernel)) (by decide +kernel), by decide +kernel⟩
theorem mv_X0_takeLine : Mv yX0_takeLine := ⟨gt_of (List.mem_of_getElem? (i := 651) (by decide +kernel)) (by decide +kernel), gt_of (List.mem_of_getElem? (i := 652) (by decide +kernel)) (by decide +kernel)⟩
set_option maxRecDepth 100000 in
theorem mc_X0_takeRow : Mc yX0_takeRow cX0_takeRow 3 none 1 := ⟨gt_of (List.mem_of_getElem? (i := 657) (rfl)) (by rfl), gt_of (List.mem_of_getElem? (i := 7) (by decide +kernel)) (by decide +kernel), by decide +kernel⟩
theorem mv_X0_takeRow : Mv yX0_takeRow := ⟨gt_of (List.mem_of_getElem? (i := 655) (by decide +kernel)) (by decide +kernel), gt_of (List.mem_of_getElem? (i := 656) (by decide +kernel)) (by decide +kernel)⟩
set_option maxRecDepth 100000 in
theorem mc_X7_does : Mc yX7_does cX7_does 11 (some .int) 3 := ⟨gt_of (List.mem_of_getElem? (i := 661) (rfl)) (by rfl), gt_of (List.mem_of_getElem? (i := 1) (by decide +kernel)) (by decide +kernel), by decide +kernel⟩
theorem mv_X7_does : Mv yX7_does := ⟨gt_of (List.mem_of_getElem? (i := 659) (by decide +kernel)) (by decide +kernel), gt_of (List.mem_of_getElem? (i := 660) (by decide +kernel)) (by decide +kernel)⟩
set_option maxRecDepth 100000 in
theorem mc_X7_refusalOfFractions : Mc yX7_refusalOfFractions cX7_refusalOfFractions 3 (some .int) 2 := ⟨gt_of (List.mem_of_getElem? (i := 665) (rfl)) (by rfl), gt_of (List.mem_of_getElem? (i := 1) (by decide +kernel)) (by decide +kernel), by decide +kernel⟩
theorem mv_X7_refusalOfFractions : Mv yX7_refusalOfFractions := ⟨gt_of (List.mem_of_getElem? (i := 664) (by decide +kernel)) (by decide +kernel), gt_sel (List.mem_of_getElem? (i := 16) (by decide +kernel)) (by decide +kernel)⟩
set_option maxRecDepth 100000 in
theorem mc_X3_aboveOf : Mc yX3_aboveOf cX3_aboveOf 4 (some .long) 3 := ⟨gt_of (List.mem_of_getElem? (i := 669) (rfl)) (by rfl), gt_of (List.mem_of_getElem? (i := 6) (by decide +kernel)) (by decide +kernel), by decide +kernel⟩
theorem mv_X3_aboveOf : Mv yX3_aboveOf := ⟨gt_of (List.mem_of_getElem? (i := 667) (by decide +kernel)) (by decide +kernel), gt_of (List.mem_of_getElem? (i := 668) (by decide +kernel)) (by decide +kernel)⟩
set_option maxRecDepth 100000 in
theorem mc_X3_times : Mc yX3_times cX3_times 7 (some .long) 2 := ⟨gt_of (List.mem_of_getElem? (i := 673) (rfl)) (by rfl), gt_of (List.mem_of_getElem? (i := 6) (by decide +kernel)) (by decide +kernel), by decide +kernel⟩
theorem mv_X3_times : Mv yX3_times := ⟨gt_of (List.mem_of_getElem? (i := 672) (by decide +kernel)) (by decide +kernel), gt_sel (List.mem_of_getElem? (i := 17) (by decide +kernel)) (by decide +kernel)⟩
set_option maxRecDepth 100000 in
theorem mc_X3_plus : Mc yX3_plus cX3_plus 7 (some .long) 2 := ⟨gt_of (List.mem_of_getElem? (i := 679) (rfl)) (by rfl), gt_of (List.mem_of_getElem? (i := 6) (by decide +kernel)) (by decide +kernel), by decide +kernel⟩
theorem mv_X3_plus : Mv yX3_plus := ⟨gt_of (List.mem_of_getElem? (i := 678) (by decide +kernel)) (by decide +kernel), gt_sel (List.mem_of_getElem? (i := 18) (by decide +kernel)) (by decide +kernel)⟩
set_option maxRecDepth 100000 in
theorem mc_X3_less : Mc yX3_less cX3_less 7 (some .long) 2 := ⟨gt_of (List.mem_of_getElem? (i := 683) (rfl)) (by rfl), gt_of (List.mem_of_getElem? (i := 6) (by decide +kernel)) (by decide +kernel), by decide +kernel⟩
theorem mv_X3_less : Mv yX3_less := ⟨gt_of (List.mem_of_getElem? (i := 682) (by decide +kernel)) (by decide +kernel), gt_sel (List.mem_of_getElem? (i := 19) (by decide +kernel)) (by decide +kernel)⟩
set_option maxRecDepth 100000 in
theorem mc_X3_belowOf : Mc yX3_belowOf cX3_belowOf 4 (some .long) 3 := ⟨gt_of (List.mem_of_getElem? (i := 687) (rfl)) (by rfl), gt_of (List.mem_of_getElem? (i := 6) (by decide +kernel)) (by decide +kernel), by decide +kernel⟩
theorem mv_X3_belowOf : Mv yX3_belowOf := ⟨gt_of (List.mem_of_getElem? (i := 685) (by decide +kernel)) (by decide +kernel), gt_of (List.mem_of_getElem? (i := 686) (by decide +kernel)) (by decide +kernel)⟩
set_option maxRecDepth 100000 in
theorem mc_X7_compare : Mc yX7_compare cX7_compare 4 (some .int) 2 := ⟨gt_of (List.mem_of_getElem? (i := 691) (rfl)) (by rfl), gt_of (List.mem_of_getElem? (i := 1) (by decide +kernel)) (by decide +kernel), by decide +kernel⟩
theorem mv_X7_compare : Mv yX7_compare := ⟨gt_of (List.mem_of_getElem? (i := 689) (by decide +kernel)) (by decide +kernel), gt_of (List.mem_of_getElem? (i := 690) (by decide +kernel)) (by decide +kernel)⟩
set_option maxRecDepth 100000 in
theorem mc_X7_order : Mc yX7_order cX7_order 20 (some .int) 2 := ⟨gt_of (List.mem_of_getElem? (i := 694) (rfl)) (by rfl), gt_of (List.mem_of_getElem? (i := 1) (by decide +kernel)) (by decide +kernel), by decide +kernel⟩
theorem ms_X7_order : Cond.static yX7_order ∈ gt := gt_of (List.mem_of_getElem? (i := 693) (by decide +kernel)) (by decide +kernel)
set_option maxRecDepth 100000 in
theorem mc_J9_floorDiv_f86c9 : Mc yJ9_floorDiv_f86c9 cJ9_floorDiv_f86c9 6 (some .long) 2 := ⟨gt_of (List.mem_of_getElem? (i := 697) (rfl)) (by rfl), gt_of (List.mem_of_getElem? (i := 10) (by decide +kernel)) (by decide +kernel), by decide +kernel⟩
theorem ms_J9_floorDiv_f86c9 : Cond.static yJ9_floorDiv_f86c9 ∈ gt := gt_of (List.mem_of_getElem? (i := 696) (by decide +kernel)) (by decide +kernel)
set_option maxRecDepth 100000 in
theorem mc_J9_floorMod_f86c9 : Mc yJ9_floorMod_f86c9 cJ9_floorMod_f86c9 6 (some .long) 2 := ⟨gt_of (List.mem_of_getElem? (i := 700) (rfl)) (by rfl), gt_of (List.mem_of_getElem? (i := 10) (by decide +kernel)) (by decide +kernel), by decide +kernel⟩
theorem ms_J9_floorMod_f86c9 : Cond.static yJ9_floorMod_f86c9 ∈ gt := gt_of (List.mem_of_getElem? (i := 699) (by decide +kernel)) (by decide +kernel)
set_option maxRecDepth 100000 in
theorem mc_J13_compare_74951 : Mc yJ13_compare_74951 cJ13_compare_74951 4 (some .int) 2 := ⟨gt_of (List.mem_of_getElem? (i := 703) (rfl)) (by rfl), gt_of (List.mem_of_getElem? (i := 13) (by decide +kernel)) (by decide +kernel), by decide +kernel⟩
theorem ms_J13_compare_74951 : Cond.static yJ13_compare_74951 ∈ gt := gt_of (List.mem_of_getElem? (i := 702) (by decide +kernel)) (by decide +kernel)
set_option maxRecDepth 100000 in
theorem mc_X7_told : Mc yX7_told cX7_told 4 (some .long) 2 := ⟨gt_of (List.mem_of_getElem? (i := 707) (rfl)) (by rfl), gt_of (List.mem_of_getElem? (i := 1) (by decide +kernel)) (by decide +kernel), by decide +kernel⟩
theorem mv_X7_told : Mv yX7_told := ⟨gt_of (List.mem_of_getElem? (i := 705) (by decide +kernel)) (by decide +kernel), gt_of (List.mem_of_getElem? (i := 706) (by decide +kernel)) (by decide +kernel)⟩
set_option maxRecDepth 100000 in
theorem mc_X0_thingTold : Mc yX0_thingTold cX0_thingTold 1 (some .int) 1 := ⟨gt_of (List.mem_of_getElem? (i := 711) (rfl)) (by rfl), gt_of (List.mem_of_getElem? (i := 7) (by decide +kernel)) (by decide +kernel), by decide +kernel⟩
theorem ms_X0_thingTold : Cond.static yX0_thingTold ∈ gt := gt_of (List.mem_of_getElem? (i := 710) (by decide +kernel)) (by decide +kernel)
set_option maxRecDepth 100000 in
theorem mc_X7_feed : Mc yX7_feed cX7_feed 4 (some .int) 2 := ⟨gt_of (List.mem_of_getElem? (i := 716) (rfl)) (by rfl), gt_of (List.mem_of_getElem? (i := 1) (by decide +kernel)) (by decide +kernel), by decide +kernel⟩
theorem mv_X7_feed : Mv yX7_feed := ⟨gt_of (List.mem_of_getElem? (i := 714) (by decide +kernel)) (by decide +kernel), gt_of (List.mem_of_getElem? (i := 715) (by decide +kernel)) (by decide +kernel)⟩
set_option maxRecDepth 100000 in
theorem mc_X6_append : Mc yX6_append cX6_append 2 none 1 := ⟨gt_of (List.mem_of_getElem? (i := 720) (rfl)) (by rfl), gt_of (List.mem_of_getElem? (i := 5) (by decide +kernel)) (by decide +kernel), by decide +kernel⟩
theorem mv_X6_append : Mv yX6_append := ⟨gt_of (List.mem_of_getElem? (i := 718) (by decide +kernel)) (by decide +kernel), gt_of (List.mem_of_getElem? (i := 719) (by decide +kernel)) (by decide +kernel)⟩
set_option maxRecDepth 100000 in
theorem mc_X7_wipe : Mc yX7_wipe cX7_wipe 2 (some .int) 0 := ⟨gt_of (List.mem_of_getElem? (i := 724) (rfl)) (by rfl), gt_of (List.mem_of_getElem? (i := 1) (by decide +kernel)) (by decide +kernel), by decide +kernel⟩
theorem mv_X7_wipe : Mv yX7_wipe := ⟨gt_of (List.mem_of_getElem? (i := 722) (by decide +kernel)) (by decide +kernel), gt_of (List.mem_of_getElem? (i := 723) (by decide +kernel)) (by decide +kernel)⟩
set_option maxRecDepth 100000 in
theorem mc_X7_text : Mc yX7_text cX7_text 2 (some .int) 0 := ⟨gt_of (List.mem_of_getElem? (i := 728) (rfl)) (by rfl), gt_of (List.mem_of_getElem? (i := 1) (by decide +kernel)) (by decide +kernel), by decide +kernel⟩
theorem mv_X7_text : Mv yX7_text := ⟨gt_of (List.mem_of_getElem? (i := 726) (by decide +kernel)) (by decide +kernel), gt_of (List.mem_of_getElem? (i := 727) (by decide +kernel)) (by decide +kernel)⟩
set_option maxRecDepth 100000 in
theorem mc_X1_become : Mc yX1_become cX1_become 2 none 1 := ⟨gt_of (List.mem_of_getElem? (i := 732) (rfl)) (by rfl), gt_of (List.mem_of_getElem? (i := 2) (by decide +kernel)) (by decide +kernel), by decide +kernel⟩
theorem mv_X1_become : Mv yX1_become := ⟨gt_of (List.mem_of_getElem? (i := 730) (by decide +kernel)) (by decide +kernel), gt_of (List.mem_of_getElem? (i := 731) (by decide +kernel)) (by decide +kernel)⟩
set_option maxRecDepth 100000 in
theorem mc_X6_readAll : Mc yX6_readAll cX6_readAll 5 (some .int) 1 := ⟨gt_of (List.mem_of_getElem? (i := 737) (rfl)) (by rfl), gt_of (List.mem_of_getElem? (i := 5) (by decide +kernel)) (by decide +kernel), by decide +kernel⟩
theorem mv_X6_readAll : Mv yX6_readAll := ⟨gt_of (List.mem_of_getElem? (i := 735) (by decide +kernel)) (by decide +kernel), gt_of (List.mem_of_getElem? (i := 736) (by decide +kernel)) (by decide +kernel)⟩
set_option maxRecDepth 100000 in
theorem mc_X6_readToken : Mc yX6_readToken cX6_readToken 3 none 0 := ⟨gt_of (List.mem_of_getElem? (i := 741) (rfl)) (by rfl), gt_of (List.mem_of_getElem? (i := 5) (by decide +kernel)) (by decide +kernel), by decide +kernel⟩
theorem mv_X6_readToken : Mv yX6_readToken := ⟨gt_of (List.mem_of_getElem? (i := 740) (by decide +kernel)) (by decide +kernel), gt_sel (List.mem_of_getElem? (i := 20) (by decide +kernel)) (by decide +kernel)⟩
set_option maxRecDepth 100000 in
theorem mc_X6_passOver : Mc yX6_passOver cX6_passOver 5 (some .int) 3 := ⟨gt_of (List.mem_of_getElem? (i := 745) (rfl)) (by rfl), gt_of (List.mem_of_getElem? (i := 5) (by decide +kernel)) (by decide +kernel), by decide +kernel⟩
theorem mv_X6_passOver : Mv yX6_passOver := ⟨gt_of (List.mem_of_getElem? (i := 744) (by decide +kernel)) (by decide +kernel), gt_sel (List.mem_of_getElem? (i := 21) (by decide +kernel)) (by decide +kernel)⟩
set_option maxRecDepth 100000 in
theorem mc_X6_valueOf : Mc yX6_valueOf cX6_valueOf 5 (some .int) 2 := ⟨gt_of (List.mem_of_getElem? (i := 749) (rfl)) (by rfl), gt_of (List.mem_of_getElem? (i := 5) (by decide +kernel)) (by decide +kernel), by decide +kernel⟩
theorem mv_X6_valueOf : Mv yX6_valueOf := ⟨gt_of (List.mem_of_getElem? (i := 748) (by decide +kernel)) (by decide +kernel), gt_sel (List.mem_of_getElem? (i := 22) (by decide +kernel)) (by decide +kernel)⟩
set_option maxRecDepth 100000 in
theorem mc_X6_readsItem : Mc yX6_readsItem cX6_readsItem 2 (some .boolean) 1 := ⟨gt_of (List.mem_of_getElem? (i := 753) (rfl)) (by rfl), gt_of (List.mem_of_getElem? (i := 5) (by decide +kernel)) (by decide +kernel), by decide +kernel⟩
theorem mv_X6_readsItem : Mv yX6_readsItem := ⟨gt_of (List.mem_of_getElem? (i := 752) (by decide +kernel)) (by decide +kernel), gt_sel (List.mem_of_getElem? (i := 23) (by decide +kernel)) (by decide +kernel)⟩
set_option maxRecDepth 100000 in
theorem mc_X6_isWord : Mc yX6_isWord cX6_isWord 3 (some .boolean) 1 := ⟨gt_of (List.mem_of_getElem? (i := 758) (rfl)) (by rfl), gt_of (List.mem_of_getElem? (i := 5) (by decide +kernel)) (by decide +kernel), by decide +kernel⟩
theorem mv_X6_isWord : Mv yX6_isWord := ⟨gt_of (List.mem_of_getElem? (i := 757) (by decide +kernel)) (by decide +kernel), gt_sel (List.mem_of_getElem? (i := 24) (by decide +kernel)) (by decide +kernel)⟩
set_option maxRecDepth 100000 in
theorem mc_J0_length_8abf5 : Mc yJ0_length_8abf5 cJ0_length_8abf5 1 (some .int) 0 := ⟨gt_of (List.mem_of_getElem? (i := 762) (rfl)) (by rfl), gt_of (List.mem_of_getElem? (i := 15) (by decide +kernel)) (by decide +kernel), by decide +kernel⟩
theorem mv_J0_length_8abf5 : Mv yJ0_length_8abf5 := ⟨gt_of (List.mem_of_getElem? (i := 760) (by decide +kernel)) (by decide +kernel), gt_of (List.mem_of_getElem? (i := 761) (by decide +kernel)) (by decide +kernel)⟩
set_option maxRecDepth 100000 in
theorem mc_J0_coder_7d493 : Mc yJ0_coder_7d493 cJ0_coder_7d493 1 (some .byte) 0 := ⟨gt_of (List.mem_of_getElem? (i := 766) (rfl)) (by rfl), gt_of (List.mem_of_getElem? (i := 15) (by decide +kernel)) (by decide +kernel), by decide +kernel⟩
theorem mv_J0_coder_7d493 : Mv yJ0_coder_7d493 := ⟨gt_of (List.mem_of_getElem? (i := 764) (by decide +kernel)) (by decide +kernel), gt_of (List.mem_of_getElem? (i := 765) (by decide +kernel)) (by decide +kernel)⟩
set_option maxRecDepth 100000 in
theorem mc_J0_charAt_5068e : Mc yJ0_charAt_5068e cJ0_charAt_5068e 2 (some .char) 1 := ⟨gt_of (List.mem_of_getElem? (i := 772) (rfl)) (by rfl), gt_of (List.mem_of_getElem? (i := 15) (by decide +kernel)) (by decide +kernel), by decide +kernel⟩
theorem mv_J0_charAt_5068e : Mv yJ0_charAt_5068e := ⟨gt_of (List.mem_of_getElem? (i := 770) (by decide +kernel)) (by decide +kernel), gt_of (List.mem_of_getElem? (i := 771) (by decide +kernel)) (by decide +kernel)⟩
set_option maxRecDepth 100000 in
theorem mc_J0_isLatin1_aae02 : Mc yJ0_isLatin1_aae02 cJ0_isLatin1_aae02 1 (some .boolean) 0 := ⟨gt_of (List.mem_of_getElem? (i := 776) (rfl)) (by rfl), gt_of (List.mem_of_getElem? (i := 15) (by decide +kernel)) (by decide +kernel), by decide +kernel⟩
theorem mv_J0_isLatin1_aae02 : Mv yJ0_isLatin1_aae02 := ⟨gt_of (List.mem_of_getElem? (i := 774) (by decide +kernel)) (by decide +kernel), gt_of (List.mem_of_getElem? (i := 775) (by decide +kernel)) (by decide +kernel)⟩
set_option maxRecDepth 100000 in
theorem mc_J1_charAt_3b067 : Mc yJ1_charAt_3b067 cJ1_charAt_3b067 2 (some .char) 2 := ⟨gt_of (List.mem_of_getElem? (i := 779) (rfl)) (by rfl), gt_of (List.mem_of_getElem? (i := 16) (by decide +kernel)) (by decide +kernel), by decide +kernel⟩
theorem ms_J1_charAt_3b067 : Cond.static yJ1_charAt_3b067 ∈ gt := gt_of (List.mem_of_getElem? (i := 778) (by decide +kernel)) (by decide +kernel)
set_option maxRecDepth 100000 in
theorem mc_J0_checkIndex_df160 : Mc yJ0_checkIndex_df160 cJ0_checkIndex_df160 2 none 2 := ⟨gt_of (List.mem_of_getElem? (i := 782) (rfl)) (by rfl), gt_of (List.mem_of_getElem? (i := 15) (by decide +kernel)) (by decide +kernel), by decide +kernel⟩
theorem ms_J0_checkIndex_df160 : Cond.static yJ0_checkIndex_df160 ∈ gt := gt_of (List.mem_of_getElem? (i := 781) (by decide +kernel)) (by decide +kernel)
set_option maxRecDepth 100000 in
theorem mc_J3_checkIndex_8e157 : Mc yJ3_checkIndex_8e157 cJ3_checkIndex_8e157 3 (some .int) 3 := ⟨gt_of (List.mem_of_getElem? (i := 787) (rfl)) (by rfl), gt_of (List.mem_of_getElem? (i := 17) (by decide +kernel)) (by decide +kernel), by decide +kernel⟩
theorem ms_J3_checkIndex_8e157 : Cond.static yJ3_checkIndex_8e157 ∈ gt := gt_of (List.mem_of_getElem? (i := 786) (by decide +kernel)) (by decide +kernel)
set_option maxRecDepth 100000 in
theorem mc_J2_charAt_3b067 : Mc yJ2_charAt_3b067 cJ2_charAt_3b067 2 (some .char) 2 := ⟨gt_of (List.mem_of_getElem? (i := 790) (rfl)) (by rfl), gt_of (List.mem_of_getElem? (i := 18) (by decide +kernel)) (by decide +kernel), by decide +kernel⟩
theorem ms_J2_charAt_3b067 : Cond.static yJ2_charAt_3b067 ∈ gt := gt_of (List.mem_of_getElem? (i := 789) (by decide +kernel)) (by decide +kernel)
set_option maxRecDepth 100000 in
theorem mc_J2_checkIndex_2214a : Mc yJ2_checkIndex_2214a cJ2_checkIndex_2214a 2 none 2 := ⟨gt_of (List.mem_of_getElem? (i := 793) (rfl)) (by rfl), gt_of (List.mem_of_getElem? (i := 18) (by decide +kernel)) (by decide +kernel), by decide +kernel⟩
theorem ms_J2_checkIndex_2214a : Cond.static yJ2_checkIndex_2214a ∈ gt := gt_of (List.mem_of_getElem? (i := 792) (by decide +kernel)) (by decide +kernel)
set_option maxRecDepth 100000 in
theorem mc_J2_length_9d52b : Mc yJ2_length_9d52b cJ2_length_9d52b 1 (some .int) 1 := ⟨gt_of (List.mem_of_getElem? (i := 796) (rfl)) (by rfl), gt_of (List.mem_of_getElem? (i := 18) (by decide +kernel)) (by decide +kernel), by decide +kernel⟩
theorem ms_J2_length_9d52b : Cond.static yJ2_length_9d52b ∈ gt := gt_of (List.mem_of_getElem? (i := 795) (by decide +kernel)) (by decide +kernel)
set_option maxRecDepth 100000 in
theorem mc_J2_getChar_3b067 : Mc yJ2_getChar_3b067 cJ2_getChar_3b067 2 (some .char) 2 := ⟨gt_of (List.mem_of_getElem? (i := 800) (rfl)) (by rfl), gt_of (List.mem_of_getElem? (i := 18) (by decide +kernel)) (by decide +kernel), by decide +kernel⟩
theorem ms_J2_getChar_3b067 : Cond.static yJ2_getChar_3b067 ∈ gt := gt_of (List.mem_of_getElem? (i := 799) (by decide +kernel)) (by decide +kernel)
set_option maxRecDepth 100000 in
theorem mc_X6_readsPoints : Mc yX6_readsPoints cX6_readsPoints 3 (some .boolean) 1 := ⟨gt_of (List.mem_of_getElem? (i := 810) (rfl)) (by rfl), gt_of (List.mem_of_getElem? (i := 5) (by decide +kernel)) (by decide +kernel), by decide +kernel⟩
theorem mv_X6_readsPoints : Mv yX6_readsPoints := ⟨gt_of (List.mem_of_getElem? (i := 809) (by decide +kernel)) (by decide +kernel), gt_sel (List.mem_of_getElem? (i := 25) (by decide +kernel)) (by decide +kernel)⟩
set_option maxRecDepth 100000 in
theorem mc_X6_readNumber : Mc yX6_readNumber cX6_readNumber 3 (some .int) 2 := ⟨gt_of (List.mem_of_getElem? (i := 814) (rfl)) (by rfl), gt_of (List.mem_of_getElem? (i := 5) (by decide +kernel)) (by decide +kernel), by decide +kernel⟩
theorem mv_X6_readNumber : Mv yX6_readNumber := ⟨gt_of (List.mem_of_getElem? (i := 813) (by decide +kernel)) (by decide +kernel), gt_sel (List.mem_of_getElem? (i := 26) (by decide +kernel)) (by decide +kernel)⟩
set_option maxRecDepth 100000 in
theorem mc_X6_readsLine : Mc yX6_readsLine cX6_readsLine 6 (some .boolean) 1 := ⟨gt_of (List.mem_of_getElem? (i := 820) (rfl)) (by rfl), gt_of (List.mem_of_getElem? (i := 5) (by decide +kernel)) (by decide +kernel), by decide +kernel⟩
theorem mv_X6_readsLine : Mv yX6_readsLine := ⟨gt_of (List.mem_of_getElem? (i := 819) (by decide +kernel)) (by decide +kernel), gt_sel (List.mem_of_getElem? (i := 27) (by decide +kernel)) (by decide +kernel)⟩
set_option maxRecDepth 100000 in
theorem mc_X6_readKind : Mc yX6_readKind cX6_readKind 1 (some .int) 0 := ⟨gt_of (List.mem_of_getElem? (i := 824) (rfl)) (by rfl), gt_of (List.mem_of_getElem? (i := 5) (by decide +kernel)) (by decide +kernel), by decide +kernel⟩
theorem mv_X6_readKind : Mv yX6_readKind := ⟨gt_of (List.mem_of_getElem? (i := 823) (by decide +kernel)) (by decide +kernel), gt_sel (List.mem_of_getElem? (i := 28) (by decide +kernel)) (by decide +kernel)⟩
set_option maxRecDepth 100000 in
theorem mc_X6_readsRound : Mc yX6_readsRound cX6_readsRound 7 (some .boolean) 1 := ⟨gt_of (List.mem_of_getElem? (i := 836) (rfl)) (by rfl), gt_of (List.mem_of_getElem? (i := 5) (by decide +kernel)) (by decide +kernel), by decide +kernel⟩
theorem mv_X6_readsRound : Mv yX6_readsRound := ⟨gt_of (List.mem_of_getElem? (i := 835) (by decide +kernel)) (by decide +kernel), gt_sel (List.mem_of_getElem? (i := 29) (by decide +kernel)) (by decide +kernel)⟩
set_option maxRecDepth 100000 in
theorem mc_X6_joinUnlessJoined : Mc yX6_joinUnlessJoined cX6_joinUnlessJoined 5 none 5 := ⟨gt_of (List.mem_of_getElem? (i := 839) (rfl)) (by rfl), gt_of (List.mem_of_getElem? (i := 5) (by decide +kernel)) (by decide +kernel), by decide +kernel⟩
theorem ms_X6_joinUnlessJoined : Cond.static yX6_joinUnlessJoined ∈ gt := gt_of (List.mem_of_getElem? (i := 838) (by decide +kernel)) (by decide +kernel)
set_option maxRecDepth 100000 in
theorem mc_X6_readsList : Mc yX6_readsList cX6_readsList 5 (some .boolean) 1 := ⟨gt_of (List.mem_of_getElem? (i := 844) (rfl)) (by rfl), gt_of (List.mem_of_getElem? (i := 5) (by decide +kernel)) (by decide +kernel), by decide +kernel⟩
theorem mv_X6_readsList : Mv yX6_readsList := ⟨gt_of (List.mem_of_getElem? (i := 843) (by decide +kernel)) (by decide +kernel), gt_sel (List.mem_of_getElem? (i := 30) (by decide +kernel)) (by decide +kernel)⟩
set_option maxRecDepth 100000 in
theorem mc_X7_seed : Mc yX7_seed cX7_seed 3 (some .int) 1 := ⟨gt_of (List.mem_of_getElem? (i := 849) (rfl)) (by rfl), gt_of (List.mem_of_getElem? (i := 1) (by decide +kernel)) (by decide +kernel), by decide +kernel⟩
theorem mv_X7_seed : Mv yX7_seed := ⟨gt_of (List.mem_of_getElem? (i := 847) (by decide +kernel)) (by decide +kernel), gt_of (List.mem_of_getElem? (i := 848) (by decide +kernel)) (by decide +kernel)⟩
set_option maxRecDepth 100000 in
theorem mc_X7_deal : Mc yX7_deal cX7_deal 6 (some .int) 2 := ⟨gt_of (List.mem_of_getElem? (i := 853) (rfl)) (by rfl), gt_of (List.mem_of_getElem? (i := 1) (by decide +kernel)) (by decide +kernel), by decide +kernel⟩
theorem mv_X7_deal : Mv yX7_deal := ⟨gt_of (List.mem_of_getElem? (i := 851) (by decide +kernel)) (by decide +kernel), gt_of (List.mem_of_getElem? (i := 852) (by decide +kernel)) (by decide +kernel)⟩
set_option maxRecDepth 100000 in
theorem mc_X1_draw : Mc yX1_draw cX1_draw 1 (some .int) 0 := ⟨gt_of (List.mem_of_getElem? (i := 857) (rfl)) (by rfl), gt_of (List.mem_of_getElem? (i := 2) (by decide +kernel)) (by decide +kernel), by decide +kernel⟩
theorem mv_X1_draw : Mv yX1_draw := ⟨gt_of (List.mem_of_getElem? (i := 855) (by decide +kernel)) (by decide +kernel), gt_of (List.mem_of_getElem? (i := 856) (by decide +kernel)) (by decide +kernel)⟩
set_option maxRecDepth 100000 in
theorem mc_X7_sheet : Mc yX7_sheet cX7_sheet 4 (some .int) 3 := ⟨gt_of (List.mem_of_getElem? (i := 862) (rfl)) (by rfl), gt_of (List.mem_of_getElem? (i := 1) (by decide +kernel)) (by decide +kernel), by decide +kernel⟩
theorem mv_X7_sheet : Mv yX7_sheet := ⟨gt_of (List.mem_of_getElem? (i := 860) (by decide +kernel)) (by decide +kernel), gt_of (List.mem_of_getElem? (i := 861) (by decide +kernel)) (by decide +kernel)⟩
set_option maxRecDepth 100000 in
theorem mc_X5_begin : Mc yX5_begin cX5_begin 3 none 2 := ⟨gt_of (List.mem_of_getElem? (i := 866) (rfl)) (by rfl), gt_of (List.mem_of_getElem? (i := 8) (by decide +kernel)) (by decide +kernel), by decide +kernel⟩
theorem mv_X5_begin : Mv yX5_begin := ⟨gt_of (List.mem_of_getElem? (i := 864) (by decide +kernel)) (by decide +kernel), gt_of (List.mem_of_getElem? (i := 865) (by decide +kernel)) (by decide +kernel)⟩
set_option maxRecDepth 100000 in
theorem mc_J7_fill_d0a16 : Mc yJ7_fill_d0a16 cJ7_fill_d0a16 5 none 2 := ⟨gt_of (List.mem_of_getElem? (i := 869) (rfl)) (by rfl), gt_of (List.mem_of_getElem? (i := 11) (by decide +kernel)) (by decide +kernel), by decide +kernel⟩
theorem ms_J7_fill_d0a16 : Cond.static yJ7_fill_d0a16 ∈ gt := gt_of (List.mem_of_getElem? (i := 868) (by decide +kernel)) (by decide +kernel)
set_option maxRecDepth 100000 in
theorem mc_X7_write : Mc yX7_write cX7_write 6 (some .int) 3 := ⟨gt_of (List.mem_of_getElem? (i := 873) (rfl)) (by rfl), gt_of (List.mem_of_getElem? (i := 1) (by decide +kernel)) (by decide +kernel), by decide +kernel⟩
theorem mv_X7_write : Mv yX7_write := ⟨gt_of (List.mem_of_getElem? (i := 871) (by decide +kernel)) (by decide +kernel), gt_of (List.mem_of_getElem? (i := 872) (by decide +kernel)) (by decide +kernel)⟩
set_option maxRecDepth 100000 in
theorem mc_X5_hasNumber : Mc yX5_hasNumber cX5_hasNumber 2 (some .boolean) 1 := ⟨gt_of (List.mem_of_getElem? (i := 877) (rfl)) (by rfl), gt_of (List.mem_of_getElem? (i := 8) (by decide +kernel)) (by decide +kernel), by decide +kernel⟩
theorem mv_X5_hasNumber : Mv yX5_hasNumber := ⟨gt_of (List.mem_of_getElem? (i := 875) (by decide +kernel)) (by decide +kernel), gt_of (List.mem_of_getElem? (i := 876) (by decide +kernel)) (by decide +kernel)⟩
set_option maxRecDepth 100000 in
theorem mc_X7_item : Mc yX7_item cX7_item 3 (some .long) 2 := ⟨gt_of (List.mem_of_getElem? (i := 881) (rfl)) (by rfl), gt_of (List.mem_of_getElem? (i := 1) (by decide +kernel)) (by decide +kernel), by decide +kernel⟩
theorem mv_X7_item : Mv yX7_item := ⟨gt_of (List.mem_of_getElem? (i := 879) (by decide +kernel)) (by decide +kernel), gt_of (List.mem_of_getElem? (i := 880) (by decide +kernel)) (by decide +kernel)⟩
set_option maxRecDepth 100000 in
theorem mc_X7_copy : Mc yX7_copy cX7_copy 8 (some .int) 5 := ⟨gt_of (List.mem_of_getElem? (i := 886) (rfl)) (by rfl), gt_of (List.mem_of_getElem? (i := 1) (by decide +kernel)) (by decide +kernel), by decide +kernel⟩
theorem mv_X7_copy : Mv yX7_copy := ⟨gt_of (List.mem_of_getElem? (i := 884) (by decide +kernel)) (by decide +kernel), gt_of (List.mem_of_getElem? (i := 885) (by decide +kernel)) (by decide +kernel)⟩
set_option maxRecDepth 100000 in
theorem mc_X5_hasStretch : Mc yX5_hasStretch cX5_hasStretch 3 (some .boolean) 2 := ⟨gt_of (List.mem_of_getElem? (i := 890) (rfl)) (by rfl), gt_of (List.mem_of_getElem? (i := 8) (by decide +kernel)) (by decide +kernel), by decide +kernel⟩
theorem mv_X5_hasStretch : Mv yX5_hasStretch := ⟨gt_of (List.mem_of_getElem? (i := 888) (by decide +kernel)) (by decide +kernel), gt_of (List.mem_of_getElem? (i := 889) (by decide +kernel)) (by decide +kernel)⟩
set_option maxRecDepth 100000 in
theorem mc_X7_paint : Mc yX7_paint cX7_paint 6 (some .int) 4 := ⟨gt_of (List.mem_of_getElem? (i := 895) (rfl)) (by rfl), gt_of (List.mem_of_getElem? (i := 1) (by decide +kernel)) (by decide +kernel), by decide +kernel⟩
theorem mv_X7_paint : Mv yX7_paint := ⟨gt_of (List.mem_of_getElem? (i := 893) (by decide +kernel)) (by decide +kernel), gt_of (List.mem_of_getElem? (i := 894) (by decide +kernel)) (by decide +kernel)⟩
set_option maxRecDepth 100000 in
theorem mc_X7_image : Mc yX7_image cX7_image 1 (some .int) 0 := ⟨gt_of (List.mem_of_getElem? (i := 899) (rfl)) (by rfl), gt_of (List.mem_of_getElem? (i := 1) (by decide +kernel)) (by decide +kernel), by decide +kernel⟩
theorem mv_X7_image : Mv yX7_image := ⟨gt_of (List.mem_of_getElem? (i := 897) (by decide +kernel)) (by decide +kernel), gt_of (List.mem_of_getElem? (i := 898) (by decide +kernel)) (by decide +kernel)⟩
set_option maxRecDepth 100000 in
theorem mc_X7_back : Mc yX7_back cX7_back 1 (some .int) 0 := ⟨gt_of (List.mem_of_getElem? (i := 903) (rfl)) (by rfl), gt_of (List.mem_of_getElem? (i := 1) (by decide +kernel)) (by decide +kernel), by decide +kernel⟩
theorem mv_X7_back : Mv yX7_back := ⟨gt_of (List.mem_of_getElem? (i := 901) (by decide +kernel)) (by decide +kernel), gt_of (List.mem_of_getElem? (i := 902) (by decide +kernel)) (by decide +kernel)⟩
set_option maxRecDepth 100000 in
theorem mc_X8_init : Mc yX8_init cX8_init 1 none 0 := ⟨gt_of (List.mem_of_getElem? (i := 908) (rfl)) (by rfl), gt_of (List.mem_of_getElem? (i := 9) (by decide +kernel)) (by decide +kernel), by decide +kernel⟩
set_option maxRecDepth 100000 in
theorem mc_X8_points : Mc yX8_points cX8_points 2 (some .int) 1 := ⟨gt_of (List.mem_of_getElem? (i := 1047) (rfl)) (by rfl), gt_of (List.mem_of_getElem? (i := 9) (by decide +kernel)) (by decide +kernel), by decide +kernel⟩
theorem mv_X8_points : Mv yX8_points := ⟨gt_of (List.mem_of_getElem? (i := 1045) (by decide +kernel)) (by decide +kernel), gt_of (List.mem_of_getElem? (i := 1046) (by decide +kernel)) (by decide +kernel)⟩
set_option maxRecDepth 100000 in
theorem mc_X8_in : Mc yX8_in cX8_in 6 (some .boolean) 3 := ⟨gt_of (List.mem_of_getElem? (i := 1051) (rfl)) (by rfl), gt_of (List.mem_of_getElem? (i := 9) (by decide +kernel)) (by decide +kernel), by decide +kernel⟩
theorem ms_X8_in : Cond.static yX8_in ∈ gt := gt_of (List.mem_of_getElem? (i := 1050) (by decide +kernel)) (by decide +kernel)
set_option maxRecDepth 100000 in
theorem mc_X8_pointsCome : Mc yX8_pointsCome cX8_pointsCome 3 none 1 := ⟨gt_of (List.mem_of_getElem? (i := 1055) (rfl)) (by rfl), gt_of (List.mem_of_getElem? (i := 9) (by decide +kernel)) (by decide +kernel), by decide +kernel⟩
theorem mv_X8_pointsCome : Mv yX8_pointsCome := ⟨gt_of (List.mem_of_getElem? (i := 1054) (by decide +kernel)) (by decide +kernel), gt_sel (List.mem_of_getElem? (i := 31) (by decide +kernel)) (by decide +kernel)⟩
set_option maxRecDepth 100000 in
theorem mc_X8_line : Mc yX8_line cX8_line 5 (some .int) 4 := ⟨gt_of (List.mem_of_getElem? (i := 1059) (rfl)) (by rfl), gt_of (List.mem_of_getElem? (i := 9) (by decide +kernel)) (by decide +kernel), by decide +kernel⟩
theorem mv_X8_line : Mv yX8_line := ⟨gt_of (List.mem_of_getElem? (i := 1057) (by decide +kernel)) (by decide +kernel), gt_of (List.mem_of_getElem? (i := 1058) (by decide +kernel)) (by decide +kernel)⟩
set_option maxRecDepth 100000 in
theorem mc_X8_isPoint : Mc yX8_isPoint cX8_isPoint 2 (some .boolean) 1 := ⟨gt_of (List.mem_of_getElem? (i := 1065) (rfl)) (by rfl), gt_of (List.mem_of_getElem? (i := 9) (by decide +kernel)) (by decide +kernel), by decide +kernel⟩
theorem mv_X8_isPoint : Mv yX8_isPoint := ⟨gt_of (List.mem_of_getElem? (i := 1064) (by decide +kernel)) (by decide +kernel), gt_sel (List.mem_of_getElem? (i := 32) (by decide +kernel)) (by decide +kernel)⟩
set_option maxRecDepth 100000 in
theorem mc_X8_between : Mc yX8_between cX8_between 5 (some .int) 2 := ⟨gt_of (List.mem_of_getElem? (i := 1069) (rfl)) (by rfl), gt_of (List.mem_of_getElem? (i := 9) (by decide +kernel)) (by decide +kernel), by decide +kernel⟩
theorem mv_X8_between : Mv yX8_between := ⟨gt_of (List.mem_of_getElem? (i := 1068) (by decide +kernel)) (by decide +kernel), gt_sel (List.mem_of_getElem? (i := 33) (by decide +kernel)) (by decide +kernel)⟩
set_option maxRecDepth 100000 in
theorem mc_X8_lineComes : Mc yX8_lineComes cX8_lineComes 5 none 4 := ⟨gt_of (List.mem_of_getElem? (i := 1073) (rfl)) (by rfl), gt_of (List.mem_of_getElem? (i := 9) (by decide +kernel)) (by decide +kernel), by decide +kernel⟩
theorem mv_X8_lineComes : Mv yX8_lineComes := ⟨gt_of (List.mem_of_getElem? (i := 1072) (by decide +kernel)) (by decide +kernel), gt_sel (List.mem_of_getElem? (i := 34) (by decide +kernel)) (by decide +kernel)⟩
set_option maxRecDepth 100000 in
theorem mc_X8_lineOf : Mc yX8_lineOf cX8_lineOf 3 (some .int) 2 := ⟨gt_of (List.mem_of_getElem? (i := 1077) (rfl)) (by rfl), gt_of (List.mem_of_getElem? (i := 9) (by decide +kernel)) (by decide +kernel), by decide +kernel⟩
theorem mv_X8_lineOf : Mv yX8_lineOf := ⟨gt_of (List.mem_of_getElem? (i := 1075) (by decide +kernel)) (by decide +kernel), gt_of (List.mem_of_getElem? (i := 1076) (by decide +kernel)) (by decide +kernel)⟩
set_option maxRecDepth 100000 in
theorem mc_X8_isLine : Mc yX8_isLine cX8_isLine 2 (some .boolean) 1 := ⟨gt_of (List.mem_of_getElem? (i := 1081) (rfl)) (by rfl), gt_of (List.mem_of_getElem? (i := 9) (by decide +kernel)) (by decide +kernel), by decide +kernel⟩
theorem mv_X8_isLine : Mv yX8_isLine := ⟨gt_of (List.mem_of_getElem? (i := 1080) (by decide +kernel)) (by decide +kernel), gt_sel (List.mem_of_getElem? (i := 35) (by decide +kernel)) (by decide +kernel)⟩
set_option maxRecDepth 100000 in
theorem mc_X8_gap : Mc yX8_gap cX8_gap 2 (some .int) 1 := ⟨gt_of (List.mem_of_getElem? (i := 1085) (rfl)) (by rfl), gt_of (List.mem_of_getElem? (i := 9) (by decide +kernel)) (by decide +kernel), by decide +kernel⟩
theorem mv_X8_gap : Mv yX8_gap := ⟨gt_of (List.mem_of_getElem? (i := 1084) (by decide +kernel)) (by decide +kernel), gt_sel (List.mem_of_getElem? (i := 36) (by decide +kernel)) (by decide +kernel)⟩
set_option maxRecDepth 100000 in
theorem mc_X8_gapBy : Mc yX8_gapBy cX8_gapBy 4 (some .int) 4 := ⟨gt_of (List.mem_of_getElem? (i := 1088) (rfl)) (by rfl), gt_of (List.mem_of_getElem? (i := 9) (by decide +kernel)) (by decide +kernel), by decide +kernel⟩
theorem ms_X8_gapBy : Cond.static yX8_gapBy ∈ gt := gt_of (List.mem_of_getElem? (i := 1087) (by decide +kernel)) (by decide +kernel)
set_option maxRecDepth 100000 in
theorem mc_X8_change : Mc yX8_change cX8_change 5 (some .int) 3 := ⟨gt_of (List.mem_of_getElem? (i := 1092) (rfl)) (by rfl), gt_of (List.mem_of_getElem? (i := 9) (by decide +kernel)) (by decide +kernel), by decide +kernel⟩
theorem mv_X8_change : Mv yX8_change := ⟨gt_of (List.mem_of_getElem? (i := 1090) (by decide +kernel)) (by decide +kernel), gt_of (List.mem_of_getElem? (i := 1091) (by decide +kernel)) (by decide +kernel)⟩
set_option maxRecDepth 100000 in
theorem mc_X8_drop : Mc yX8_drop cX8_drop 3 (some .int) 1 := ⟨gt_of (List.mem_of_getElem? (i := 1096) (rfl)) (by rfl), gt_of (List.mem_of_getElem? (i := 9) (by decide +kernel)) (by decide +kernel), by decide +kernel⟩
theorem mv_X8_drop : Mv yX8_drop := ⟨gt_of (List.mem_of_getElem? (i := 1094) (by decide +kernel)) (by decide +kernel), gt_of (List.mem_of_getElem? (i := 1095) (by decide +kernel)) (by decide +kernel)⟩
set_option maxRecDepth 100000 in
theorem mc_X8_list : Mc yX8_list cX8_list 6 (some .long) 2 := ⟨gt_of (List.mem_of_getElem? (i := 1100) (rfl)) (by rfl), gt_of (List.mem_of_getElem? (i := 9) (by decide +kernel)) (by decide +kernel), by decide +kernel⟩
theorem mv_X8_list : Mv yX8_list := ⟨gt_of (List.mem_of_getElem? (i := 1098) (by decide +kernel)) (by decide +kernel), gt_of (List.mem_of_getElem? (i := 1099) (by decide +kernel)) (by decide +kernel)⟩
set_option maxRecDepth 100000 in
theorem mc_X8_count : Mc yX8_count cX8_count 4 (some .int) 1 := ⟨gt_of (List.mem_of_getElem? (i := 1106) (rfl)) (by rfl), gt_of (List.mem_of_getElem? (i := 9) (by decide +kernel)) (by decide +kernel), by decide +kernel⟩
theorem mv_X8_count : Mv yX8_count := ⟨gt_of (List.mem_of_getElem? (i := 1104) (by decide +kernel)) (by decide +kernel), gt_of (List.mem_of_getElem? (i := 1105) (by decide +kernel)) (by decide +kernel)⟩
set_option maxRecDepth 100000 in
theorem mc_X8_fits : Mc yX8_fits cX8_fits 4 (some .int) 3 := ⟨gt_of (List.mem_of_getElem? (i := 1110) (rfl)) (by rfl), gt_of (List.mem_of_getElem? (i := 9) (by decide +kernel)) (by decide +kernel), by decide +kernel⟩
theorem mv_X8_fits : Mv yX8_fits := ⟨gt_of (List.mem_of_getElem? (i := 1108) (by decide +kernel)) (by decide +kernel), gt_of (List.mem_of_getElem? (i := 1109) (by decide +kernel)) (by decide +kernel)⟩
set_option maxRecDepth 100000 in
theorem mc_X8_areAsked : Mc yX8_areAsked cX8_areAsked 3 (some .boolean) 3 := ⟨gt_of (List.mem_of_getElem? (i := 1113) (rfl)) (by rfl), gt_of (List.mem_of_getElem? (i := 9) (by decide +kernel)) (by decide +kernel), by decide +kernel⟩
theorem ms_X8_areAsked : Cond.static yX8_areAsked ∈ gt := gt_of (List.mem_of_getElem? (i := 1112) (by decide +kernel)) (by decide +kernel)
set_option maxRecDepth 100000 in
theorem mc_X8_colours : Mc yX8_colours cX8_colours 9 (some .boolean) 3 := ⟨gt_of (List.mem_of_getElem? (i := 1119) (rfl)) (by rfl), gt_of (List.mem_of_getElem? (i := 9) (by decide +kernel)) (by decide +kernel), by decide +kernel⟩
theorem mv_X8_colours : Mv yX8_colours := ⟨gt_of (List.mem_of_getElem? (i := 1118) (by decide +kernel)) (by decide +kernel), gt_sel (List.mem_of_getElem? (i := 37) (by decide +kernel)) (by decide +kernel)⟩
set_option maxRecDepth 100000 in
theorem mc_X8_partOf : Mc yX8_partOf cX8_partOf 5 (some .int) 1 := ⟨gt_of (List.mem_of_getElem? (i := 1123) (rfl)) (by rfl), gt_of (List.mem_of_getElem? (i := 9) (by decide +kernel)) (by decide +kernel), by decide +kernel⟩
theorem mv_X8_partOf : Mv yX8_partOf := ⟨gt_of (List.mem_of_getElem? (i := 1122) (by decide +kernel)) (by decide +kernel), gt_sel (List.mem_of_getElem? (i := 38) (by decide +kernel)) (by decide +kernel)⟩
set_option maxRecDepth 100000 in
theorem mc_X8_has : Mc yX8_has cX8_has 2 (some .boolean) 2 := ⟨gt_of (List.mem_of_getElem? (i := 1126) (rfl)) (by rfl), gt_of (List.mem_of_getElem? (i := 9) (by decide +kernel)) (by decide +kernel), by decide +kernel⟩
theorem ms_X8_has : Cond.static yX8_has ∈ gt := gt_of (List.mem_of_getElem? (i := 1125) (by decide +kernel)) (by decide +kernel)
set_option maxRecDepth 100000 in
theorem mc_X8_narrows : Mc yX8_narrows cX8_narrows 7 (some .boolean) 3 := ⟨gt_of (List.mem_of_getElem? (i := 1130) (rfl)) (by rfl), gt_of (List.mem_of_getElem? (i := 9) (by decide +kernel)) (by decide +kernel), by decide +kernel⟩
theorem mv_X8_narrows : Mv yX8_narrows := ⟨gt_of (List.mem_of_getElem? (i := 1129) (by decide +kernel)) (by decide +kernel), gt_sel (List.mem_of_getElem? (i := 39) (by decide +kernel)) (by decide +kernel)⟩
set_option maxRecDepth 100000 in
theorem mc_X8_apart : Mc yX8_apart cX8_apart 7 (some .long) 2 := ⟨gt_of (List.mem_of_getElem? (i := 1134) (rfl)) (by rfl), gt_of (List.mem_of_getElem? (i := 9) (by decide +kernel)) (by decide +kernel), by decide +kernel⟩
theorem mv_X8_apart : Mv yX8_apart := ⟨gt_of (List.mem_of_getElem? (i := 1133) (by decide +kernel)) (by decide +kernel), gt_sel (List.mem_of_getElem? (i := 40) (by decide +kernel)) (by decide +kernel)⟩
set_option maxRecDepth 100000 in
theorem mc_X8_ends : Mc yX8_ends cX8_ends 5 (some .boolean) 2 := ⟨gt_of (List.mem_of_getElem? (i := 1138) (rfl)) (by rfl), gt_of (List.mem_of_getElem? (i := 9) (by decide +kernel)) (by decide +kernel), by decide +kernel⟩
theorem mv_X8_ends : Mv yX8_ends := ⟨gt_of (List.mem_of_getElem? (i := 1137) (by decide +kernel)) (by decide +kernel), gt_sel (List.mem_of_getElem? (i := 41) (by decide +kernel)) (by decide +kernel)⟩
set_option maxRecDepth 100000 in
theorem mc_X8_bits : Mc yX8_bits cX8_bits 5 (some .int) 1 := ⟨gt_of (List.mem_of_getElem? (i := 1141) (rfl)) (by rfl), gt_of (List.mem_of_getElem? (i := 9) (by decide +kernel)) (by decide +kernel), by decide +kernel⟩
theorem ms_X8_bits : Cond.static yX8_bits ∈ gt := gt_of (List.mem_of_getElem? (i := 1140) (by decide +kernel)) (by decide +kernel)
set_option maxRecDepth 100000 in
theorem mc_X8_place : Mc yX8_place cX8_place 5 (some .int) 4 := ⟨gt_of (List.mem_of_getElem? (i := 1145) (rfl)) (by rfl), gt_of (List.mem_of_getElem? (i := 9) (by decide +kernel)) (by decide +kernel), by decide +kernel⟩
theorem mv_X8_place : Mv yX8_place := ⟨gt_of (List.mem_of_getElem? (i := 1143) (by decide +kernel)) (by decide +kernel), gt_of (List.mem_of_getElem? (i := 1144) (by decide +kernel)) (by decide +kernel)⟩
set_option maxRecDepth 100000 in
theorem mc_X8_ways : Mc yX8_ways cX8_ways 4 (some .int) 3 := ⟨gt_of (List.mem_of_getElem? (i := 1149) (rfl)) (by rfl), gt_of (List.mem_of_getElem? (i := 9) (by decide +kernel)) (by decide +kernel), by decide +kernel⟩
theorem mv_X8_ways : Mv yX8_ways := ⟨gt_of (List.mem_of_getElem? (i := 1147) (by decide +kernel)) (by decide +kernel), gt_of (List.mem_of_getElem? (i := 1148) (by decide +kernel)) (by decide +kernel)⟩
set_option maxRecDepth 100000 in
theorem mc_X8_waysFrom : Mc yX8_waysFrom cX8_waysFrom 5 (some .int) 2 := ⟨gt_of (List.mem_of_getElem? (i := 1154) (rfl)) (by rfl), gt_of (List.mem_of_getElem? (i := 9) (by decide +kernel)) (by decide +kernel), by decide +kernel⟩
theorem mv_X8_waysFrom : Mv yX8_waysFrom := ⟨gt_of (List.mem_of_getElem? (i := 1153) (by decide +kernel)) (by decide +kernel), gt_sel (List.mem_of_getElem? (i := 42) (by decide +kernel)) (by decide +kernel)⟩
set_option maxRecDepth 100000 in
theorem mc_X8_isFarEnough : Mc yX8_isFarEnough cX8_isFarEnough 4 (some .boolean) 1 := ⟨gt_of (List.mem_of_getElem? (i := 1158) (rfl)) (by rfl), gt_of (List.mem_of_getElem? (i := 9) (by decide +kernel)) (by decide +kernel), by decide +kernel⟩
theorem mv_X8_isFarEnough : Mv yX8_isFarEnough := ⟨gt_of (List.mem_of_getElem? (i := 1157) (by decide +kernel)) (by decide +kernel), gt_sel (List.mem_of_getElem? (i := 43) (by decide +kernel)) (by decide +kernel)⟩
set_option maxRecDepth 100000 in
theorem mc_X8_isFar : Mc yX8_isFar cX8_isFar 5 (some .boolean) 3 := ⟨gt_of (List.mem_of_getElem? (i := 1162) (rfl)) (by rfl), gt_of (List.mem_of_getElem? (i := 9) (by decide +kernel)) (by decide +kernel), by decide +kernel⟩
theorem mv_X8_isFar : Mv yX8_isFar := ⟨gt_of (List.mem_of_getElem? (i := 1161) (by decide +kernel)) (by decide +kernel), gt_sel (List.mem_of_getElem? (i := 44) (by decide +kernel)) (by decide +kernel)⟩
set_option maxRecDepth 100000 in
theorem mc_X8_ratio : Mc yX8_ratio cX8_ratio 2 (some .int) 1 := ⟨gt_of (List.mem_of_getElem? (i := 1166) (rfl)) (by rfl), gt_of (List.mem_of_getElem? (i := 9) (by decide +kernel)) (by decide +kernel), by decide +kernel⟩
theorem mv_X8_ratio : Mv yX8_ratio := ⟨gt_of (List.mem_of_getElem? (i := 1164) (by decide +kernel)) (by decide +kernel), gt_of (List.mem_of_getElem? (i := 1165) (by decide +kernel)) (by decide +kernel)⟩
set_option maxRecDepth 100000 in
theorem mc_X8_laysRings : Mc yX8_laysRings cX8_laysRings 2 none 0 := ⟨gt_of (List.mem_of_getElem? (i := 1170) (rfl)) (by rfl), gt_of (List.mem_of_getElem? (i := 9) (by decide +kernel)) (by decide +kernel), by decide +kernel⟩
theorem mv_X8_laysRings : Mv yX8_laysRings := ⟨gt_of (List.mem_of_getElem? (i := 1169) (by decide +kernel)) (by decide +kernel), gt_sel (List.mem_of_getElem? (i := 45) (by decide +kernel)) (by decide +kernel)⟩
set_option maxRecDepth 100000 in
theorem mc_X8_takes : Mc yX8_takes cX8_takes 10 none 1 := ⟨gt_of (List.mem_of_getElem? (i := 1174) (rfl)) (by rfl), gt_of (List.mem_of_getElem? (i := 9) (by decide +kernel)) (by decide +kernel), by decide +kernel⟩
theorem mv_X8_takes : Mv yX8_takes := ⟨gt_of (List.mem_of_getElem? (i := 1173) (by decide +kernel)) (by decide +kernel), gt_sel (List.mem_of_getElem? (i := 46) (by decide +kernel)) (by decide +kernel)⟩
set_option maxRecDepth 100000 in
theorem mc_X8_ratios : Mc yX8_ratios cX8_ratios 3 none 1 := ⟨gt_of (List.mem_of_getElem? (i := 1178) (rfl)) (by rfl), gt_of (List.mem_of_getElem? (i := 9) (by decide +kernel)) (by decide +kernel), by decide +kernel⟩
theorem mv_X8_ratios : Mv yX8_ratios := ⟨gt_of (List.mem_of_getElem? (i := 1177) (by decide +kernel)) (by decide +kernel), gt_sel (List.mem_of_getElem? (i := 47) (by decide +kernel)) (by decide +kernel)⟩
set_option maxRecDepth 100000 in
theorem mc_X8_rates : Mc yX8_rates cX8_rates 6 (some .boolean) 2 := ⟨gt_of (List.mem_of_getElem? (i := 1182) (rfl)) (by rfl), gt_of (List.mem_of_getElem? (i := 9) (by decide +kernel)) (by decide +kernel), by decide +kernel⟩
theorem mv_X8_rates : Mv yX8_rates := ⟨gt_of (List.mem_of_getElem? (i := 1181) (by decide +kernel)) (by decide +kernel), gt_sel (List.mem_of_getElem? (i := 48) (by decide +kernel)) (by decide +kernel)⟩
set_option maxRecDepth 100000 in
theorem mc_X8_fewer : Mc yX8_fewer cX8_fewer 5 (some .int) 2 := ⟨gt_of (List.mem_of_getElem? (i := 1186) (rfl)) (by rfl), gt_of (List.mem_of_getElem? (i := 9) (by decide +kernel)) (by decide +kernel), by decide +kernel⟩
theorem mv_X8_fewer : Mv yX8_fewer := ⟨gt_of (List.mem_of_getElem? (i := 1185) (by decide +kernel)) (by decide +kernel), gt_sel (List.mem_of_getElem? (i := 49) (by decide +kernel)) (by decide +kernel)⟩
set_option maxRecDepth 100000 in
theorem mc_X8_length : Mc yX8_length cX8_length 4 (some .int) 1 := ⟨gt_of (List.mem_of_getElem? (i := 1190) (rfl)) (by rfl), gt_of (List.mem_of_getElem? (i := 9) (by decide +kernel)) (by decide +kernel), by decide +kernel⟩
theorem mv_X8_length : Mv yX8_length := ⟨gt_of (List.mem_of_getElem? (i := 1189) (by decide +kernel)) (by decide +kernel), gt_sel (List.mem_of_getElem? (i := 50) (by decide +kernel)) (by decide +kernel)⟩
set_option maxRecDepth 100000 in
theorem mc_X8_common : Mc yX8_common cX8_common 5 (some .int) 2 := ⟨gt_of (List.mem_of_getElem? (i := 1193) (rfl)) (by rfl), gt_of (List.mem_of_getElem? (i := 9) (by decide +kernel)) (by decide +kernel), by decide +kernel⟩
theorem ms_X8_common : Cond.static yX8_common ∈ gt := gt_of (List.mem_of_getElem? (i := 1192) (by decide +kernel)) (by decide +kernel)
set_option maxRecDepth 100000 in
theorem mc_X8_whole : Mc yX8_whole cX8_whole 1 (some .int) 0 := ⟨gt_of (List.mem_of_getElem? (i := 1197) (rfl)) (by rfl), gt_of (List.mem_of_getElem? (i := 9) (by decide +kernel)) (by decide +kernel), by decide +kernel⟩
theorem mv_X8_whole : Mv yX8_whole := ⟨gt_of (List.mem_of_getElem? (i := 1195) (by decide +kernel)) (by decide +kernel), gt_of (List.mem_of_getElem? (i := 1196) (by decide +kernel)) (by decide +kernel)⟩
set_option maxRecDepth 100000 in
theorem mc_X8_wholeOf : Mc yX8_wholeOf cX8_wholeOf 2 (some .int) 0 := ⟨gt_of (List.mem_of_getElem? (i := 1201) (rfl)) (by rfl), gt_of (List.mem_of_getElem? (i := 9) (by decide +kernel)) (by decide +kernel), by decide +kernel⟩
theorem mv_X8_wholeOf : Mv yX8_wholeOf := ⟨gt_of (List.mem_of_getElem? (i := 1200) (by decide +kernel)) (by decide +kernel), gt_sel (List.mem_of_getElem? (i := 51) (by decide +kernel)) (by decide +kernel)⟩
set_option maxRecDepth 100000 in
theorem mc_X8_off : Mc yX8_off cX8_off 4 (some .int) 1 := ⟨gt_of (List.mem_of_getElem? (i := 1205) (rfl)) (by rfl), gt_of (List.mem_of_getElem? (i := 9) (by decide +kernel)) (by decide +kernel), by decide +kernel⟩
theorem mv_X8_off : Mv yX8_off := ⟨gt_of (List.mem_of_getElem? (i := 1203) (by decide +kernel)) (by decide +kernel), gt_of (List.mem_of_getElem? (i := 1204) (by decide +kernel)) (by decide +kernel)⟩
set_option maxRecDepth 100000 in
theorem mc_X8_rings : Mc yX8_rings cX8_rings 1 (some .int) 0 := ⟨gt_of (List.mem_of_getElem? (i := 1209) (rfl)) (by rfl), gt_of (List.mem_of_getElem? (i := 9) (by decide +kernel)) (by decide +kernel), by decide +kernel⟩
theorem mv_X8_rings : Mv yX8_rings := ⟨gt_of (List.mem_of_getElem? (i := 1207) (by decide +kernel)) (by decide +kernel), gt_of (List.mem_of_getElem? (i := 1208) (by decide +kernel)) (by decide +kernel)⟩
set_option maxRecDepth 100000 in
theorem mc_X8_ring : Mc yX8_ring cX8_ring 3 (some .int) 2 := ⟨gt_of (List.mem_of_getElem? (i := 1213) (rfl)) (by rfl), gt_of (List.mem_of_getElem? (i := 9) (by decide +kernel)) (by decide +kernel), by decide +kernel⟩
theorem mv_X8_ring : Mv yX8_ring := ⟨gt_of (List.mem_of_getElem? (i := 1211) (by decide +kernel)) (by decide +kernel), gt_of (List.mem_of_getElem? (i := 1212) (by decide +kernel)) (by decide +kernel)⟩
set_option maxRecDepth 100000 in
theorem mc_X8_circled : Mc yX8_circled cX8_circled 2 (some .int) 1 := ⟨gt_of (List.mem_of_getElem? (i := 1218) (rfl)) (by rfl), gt_of (List.mem_of_getElem? (i := 9) (by decide +kernel)) (by decide +kernel), by decide +kernel⟩
theorem mv_X8_circled : Mv yX8_circled := ⟨gt_of (List.mem_of_getElem? (i := 1216) (by decide +kernel)) (by decide +kernel), gt_of (List.mem_of_getElem? (i := 1217) (by decide +kernel)) (by decide +kernel)⟩
set_option maxRecDepth 100000 in
theorem mc_X8_isTurn : Mc yX8_isTurn cX8_isTurn 2 (some .boolean) 1 := ⟨gt_of (List.mem_of_getElem? (i := 1222) (rfl)) (by rfl), gt_of (List.mem_of_getElem? (i := 9) (by decide +kernel)) (by decide +kernel), by decide +kernel⟩
theorem mv_X8_isTurn : Mv yX8_isTurn := ⟨gt_of (List.mem_of_getElem? (i := 1221) (by decide +kernel)) (by decide +kernel), gt_sel (List.mem_of_getElem? (i := 52) (by decide +kernel)) (by decide +kernel)⟩
set_option maxRecDepth 100000 in
theorem mc_X8_isFree : Mc yX8_isFree cX8_isFree 2 (some .boolean) 1 := ⟨gt_of (List.mem_of_getElem? (i := 1226) (rfl)) (by rfl), gt_of (List.mem_of_getElem? (i := 9) (by decide +kernel)) (by decide +kernel), by decide +kernel⟩
theorem mv_X8_isFree : Mv yX8_isFree := ⟨gt_of (List.mem_of_getElem? (i := 1225) (by decide +kernel)) (by decide +kernel), gt_sel (List.mem_of_getElem? (i := 53) (by decide +kernel)) (by decide +kernel)⟩
set_option maxRecDepth 100000 in
theorem mc_X8_rate : Mc yX8_rate cX8_rate 3 (some .int) 2 := ⟨gt_of (List.mem_of_getElem? (i := 1230) (rfl)) (by rfl), gt_of (List.mem_of_getElem? (i := 9) (by decide +kernel)) (by decide +kernel), by decide +kernel⟩
theorem mv_X8_rate : Mv yX8_rate := ⟨gt_of (List.mem_of_getElem? (i := 1228) (by decide +kernel)) (by decide +kernel), gt_of (List.mem_of_getElem? (i := 1229) (by decide +kernel)) (by decide +kernel)⟩
set_option maxRecDepth 100000 in
theorem mc_X8_worst : Mc yX8_worst cX8_worst 4 (some .int) 1 := ⟨gt_of (List.mem_of_getElem? (i := 1234) (rfl)) (by rfl), gt_of (List.mem_of_getElem? (i := 9) (by decide +kernel)) (by decide +kernel), by decide +kernel⟩
theorem mv_X8_worst : Mv yX8_worst := ⟨gt_of (List.mem_of_getElem? (i := 1232) (by decide +kernel)) (by decide +kernel), gt_of (List.mem_of_getElem? (i := 1233) (by decide +kernel)) (by decide +kernel)⟩
set_option maxRecDepth 100000 in
theorem mc_X8_turns : Mc yX8_turns cX8_turns 7 (some .int) 1 := ⟨gt_of (List.mem_of_getElem? (i := 1238) (rfl)) (by rfl), gt_of (List.mem_of_getElem? (i := 9) (by decide +kernel)) (by decide +kernel), by decide +kernel⟩
theorem mv_X8_turns : Mv yX8_turns := ⟨gt_of (List.mem_of_getElem? (i := 1236) (by decide +kernel)) (by decide +kernel), gt_of (List.mem_of_getElem? (i := 1237) (by decide +kernel)) (by decide +kernel)⟩
set_option maxRecDepth 100000 in
theorem mc_X8_binds : Mc yX8_binds cX8_binds 6 (some .int) 0 := ⟨gt_of (List.mem_of_getElem? (i := 1242) (rfl)) (by rfl), gt_of (List.mem_of_getElem? (i := 9) (by decide +kernel)) (by decide +kernel), by decide +kernel⟩
theorem mv_X8_binds : Mv yX8_binds := ⟨gt_of (List.mem_of_getElem? (i := 1240) (by decide +kernel)) (by decide +kernel), gt_of (List.mem_of_getElem? (i := 1241) (by decide +kernel)) (by decide +kernel)⟩
set_option maxRecDepth 100000 in
theorem mc_X8_room : Mc yX8_room cX8_room 5 (some .int) 1 := ⟨gt_of (List.mem_of_getElem? (i := 1246) (rfl)) (by rfl), gt_of (List.mem_of_getElem? (i := 9) (by decide +kernel)) (by decide +kernel), by decide +kernel⟩
theorem mv_X8_room : Mv yX8_room := ⟨gt_of (List.mem_of_getElem? (i := 1244) (by decide +kernel)) (by decide +kernel), gt_of (List.mem_of_getElem? (i := 1245) (by decide +kernel)) (by decide +kernel)⟩
set_option maxRecDepth 100000 in
theorem mc_X8_judge : Mc yX8_judge cX8_judge 5 (some .int) 3 := ⟨gt_of (List.mem_of_getElem? (i := 1250) (rfl)) (by rfl), gt_of (List.mem_of_getElem? (i := 9) (by decide +kernel)) (by decide +kernel), by decide +kernel⟩
theorem mv_X8_judge : Mv yX8_judge := ⟨gt_of (List.mem_of_getElem? (i := 1248) (by decide +kernel)) (by decide +kernel), gt_of (List.mem_of_getElem? (i := 1249) (by decide +kernel)) (by decide +kernel)⟩
set_option maxRecDepth 100000 in
theorem mc_X8_wrongPlaces : Mc yX8_wrongPlaces cX8_wrongPlaces 4 (some .int) 3 := ⟨gt_of (List.mem_of_getElem? (i := 1254) (rfl)) (by rfl), gt_of (List.mem_of_getElem? (i := 9) (by decide +kernel)) (by decide +kernel), by decide +kernel⟩
theorem mv_X8_wrongPlaces : Mv yX8_wrongPlaces := ⟨gt_of (List.mem_of_getElem? (i := 1253) (by decide +kernel)) (by decide +kernel), gt_sel (List.mem_of_getElem? (i := 54) (by decide +kernel)) (by decide +kernel)⟩
set_option maxRecDepth 100000 in
theorem mc_X8_isSheet : Mc yX8_isSheet cX8_isSheet 1 (some .boolean) 1 := ⟨gt_of (List.mem_of_getElem? (i := 1257) (rfl)) (by rfl), gt_of (List.mem_of_getElem? (i := 9) (by decide +kernel)) (by decide +kernel), by decide +kernel⟩
theorem ms_X8_isSheet : Cond.static yX8_isSheet ∈ gt := gt_of (List.mem_of_getElem? (i := 1256) (by decide +kernel)) (by decide +kernel)
set_option maxRecDepth 100000 in
theorem mc_X8_firstWrong : Mc yX8_firstWrong cX8_firstWrong 7 (some .int) 3 := ⟨gt_of (List.mem_of_getElem? (i := 1261) (rfl)) (by rfl), gt_of (List.mem_of_getElem? (i := 9) (by decide +kernel)) (by decide +kernel), by decide +kernel⟩
theorem mv_X8_firstWrong : Mv yX8_firstWrong := ⟨gt_of (List.mem_of_getElem? (i := 1260) (by decide +kernel)) (by decide +kernel), gt_sel (List.mem_of_getElem? (i := 55) (by decide +kernel)) (by decide +kernel)⟩
set_option maxRecDepth 100000 in
theorem mc_X8_arcs : Mc yX8_arcs cX8_arcs 5 (some .int) 3 := ⟨gt_of (List.mem_of_getElem? (i := 1265) (rfl)) (by rfl), gt_of (List.mem_of_getElem? (i := 9) (by decide +kernel)) (by decide +kernel), by decide +kernel⟩
theorem mv_X8_arcs : Mv yX8_arcs := ⟨gt_of (List.mem_of_getElem? (i := 1263) (by decide +kernel)) (by decide +kernel), gt_of (List.mem_of_getElem? (i := 1264) (by decide +kernel)) (by decide +kernel)⟩
set_option maxRecDepth 100000 in
theorem mc_X8_wrongColouring : Mc yX8_wrongColouring cX8_wrongColouring 5 (some .int) 3 := ⟨gt_of (List.mem_of_getElem? (i := 1269) (rfl)) (by rfl), gt_of (List.mem_of_getElem? (i := 9) (by decide +kernel)) (by decide +kernel), by decide +kernel⟩
theorem mv_X8_wrongColouring : Mv yX8_wrongColouring := ⟨gt_of (List.mem_of_getElem? (i := 1268) (by decide +kernel)) (by decide +kernel), gt_sel (List.mem_of_getElem? (i := 56) (by decide +kernel)) (by decide +kernel)⟩
set_option maxRecDepth 100000 in
theorem mc_X8_tightLines : Mc yX8_tightLines cX8_tightLines 6 (some .int) 1 := ⟨gt_of (List.mem_of_getElem? (i := 1273) (rfl)) (by rfl), gt_of (List.mem_of_getElem? (i := 9) (by decide +kernel)) (by decide +kernel), by decide +kernel⟩
theorem mv_X8_tightLines : Mv yX8_tightLines := ⟨gt_of (List.mem_of_getElem? (i := 1272) (by decide +kernel)) (by decide +kernel), gt_sel (List.mem_of_getElem? (i := 57) (by decide +kernel)) (by decide +kernel)⟩
set_option maxRecDepth 100000 in
theorem mc_X8_tight : Mc yX8_tight cX8_tight 12 (some .int) 4 := ⟨gt_of (List.mem_of_getElem? (i := 1277) (rfl)) (by rfl), gt_of (List.mem_of_getElem? (i := 9) (by decide +kernel)) (by decide +kernel), by decide +kernel⟩
theorem mv_X8_tight : Mv yX8_tight := ⟨gt_of (List.mem_of_getElem? (i := 1275) (by decide +kernel)) (by decide +kernel), gt_of (List.mem_of_getElem? (i := 1276) (by decide +kernel)) (by decide +kernel)⟩
set_option maxRecDepth 100000 in
theorem mc_X8_rounds : Mc yX8_rounds cX8_rounds 6 (some .int) 4 := ⟨gt_of (List.mem_of_getElem? (i := 1281) (rfl)) (by rfl), gt_of (List.mem_of_getElem? (i := 9) (by decide +kernel)) (by decide +kernel), by decide +kernel⟩
theorem mv_X8_rounds : Mv yX8_rounds := ⟨gt_of (List.mem_of_getElem? (i := 1279) (by decide +kernel)) (by decide +kernel), gt_of (List.mem_of_getElem? (i := 1280) (by decide +kernel)) (by decide +kernel)⟩
set_option maxRecDepth 100000 in
theorem mc_X8_lays : Mc yX8_lays cX8_lays 4 none 2 := ⟨gt_of (List.mem_of_getElem? (i := 1285) (rfl)) (by rfl), gt_of (List.mem_of_getElem? (i := 9) (by decide +kernel)) (by decide +kernel), by decide +kernel⟩
theorem mv_X8_lays : Mv yX8_lays := ⟨gt_of (List.mem_of_getElem? (i := 1284) (by decide +kernel)) (by decide +kernel), gt_sel (List.mem_of_getElem? (i := 58) (by decide +kernel)) (by decide +kernel)⟩
set_option maxRecDepth 100000 in
theorem mc_X8_paint : Mc yX8_paint cX8_paint 5 (some .int) 4 := ⟨gt_of (List.mem_of_getElem? (i := 1289) (rfl)) (by rfl), gt_of (List.mem_of_getElem? (i := 9) (by decide +kernel)) (by decide +kernel), by decide +kernel⟩
theorem mv_X8_paint : Mv yX8_paint := ⟨gt_of (List.mem_of_getElem? (i := 1287) (by decide +kernel)) (by decide +kernel), gt_of (List.mem_of_getElem? (i := 1288) (by decide +kernel)) (by decide +kernel)⟩
set_option maxRecDepth 100000 in
theorem mc_X8_next : Mc yX8_next cX8_next 14 (some .int) 5 := ⟨gt_of (List.mem_of_getElem? (i := 1293) (rfl)) (by rfl), gt_of (List.mem_of_getElem? (i := 9) (by decide +kernel)) (by decide +kernel), by decide +kernel⟩
theorem mv_X8_next : Mv yX8_next := ⟨gt_of (List.mem_of_getElem? (i := 1291) (by decide +kernel)) (by decide +kernel), gt_of (List.mem_of_getElem? (i := 1292) (by decide +kernel)) (by decide +kernel)⟩
set_option maxRecDepth 100000 in
theorem mc_X8_fraction : Mc yX8_fraction cX8_fraction 6 (some .int) 3 := ⟨gt_of (List.mem_of_getElem? (i := 1298) (rfl)) (by rfl), gt_of (List.mem_of_getElem? (i := 9) (by decide +kernel)) (by decide +kernel), by decide +kernel⟩
theorem mv_X8_fraction : Mv yX8_fraction := ⟨gt_of (List.mem_of_getElem? (i := 1296) (by decide +kernel)) (by decide +kernel), gt_of (List.mem_of_getElem? (i := 1297) (by decide +kernel)) (by decide +kernel)⟩
set_option maxRecDepth 100000 in
theorem mc_X8_isHold : Mc yX8_isHold cX8_isHold 1 (some .boolean) 1 := ⟨gt_of (List.mem_of_getElem? (i := 1301) (rfl)) (by rfl), gt_of (List.mem_of_getElem? (i := 9) (by decide +kernel)) (by decide +kernel), by decide +kernel⟩
theorem ms_X8_isHold : Cond.static yX8_isHold ∈ gt := gt_of (List.mem_of_getElem? (i := 1300) (by decide +kernel)) (by decide +kernel)
set_option maxRecDepth 100000 in
theorem mc_X8_gets : Mc yX8_gets cX8_gets 16 (some .int) 3 := ⟨gt_of (List.mem_of_getElem? (i := 1305) (rfl)) (by rfl), gt_of (List.mem_of_getElem? (i := 9) (by decide +kernel)) (by decide +kernel), by decide +kernel⟩
theorem mv_X8_gets : Mv yX8_gets := ⟨gt_of (List.mem_of_getElem? (i := 1304) (by decide +kernel)) (by decide +kernel), gt_sel (List.mem_of_getElem? (i := 59) (by decide +kernel)) (by decide +kernel)⟩
set_option maxRecDepth 100000 in
theorem mc_X8_hold : Mc yX8_hold cX8_hold 5 (some .int) 3 := ⟨gt_of (List.mem_of_getElem? (i := 1311) (rfl)) (by rfl), gt_of (List.mem_of_getElem? (i := 9) (by decide +kernel)) (by decide +kernel), by decide +kernel⟩
theorem mv_X8_hold : Mv yX8_hold := ⟨gt_of (List.mem_of_getElem? (i := 1309) (by decide +kernel)) (by decide +kernel), gt_of (List.mem_of_getElem? (i := 1310) (by decide +kernel)) (by decide +kernel)⟩
set_option maxRecDepth 100000 in
theorem mc_X8_does : Mc yX8_does cX8_does 17 (some .int) 3 := ⟨gt_of (List.mem_of_getElem? (i := 1315) (rfl)) (by rfl), gt_of (List.mem_of_getElem? (i := 9) (by decide +kernel)) (by decide +kernel), by decide +kernel⟩
theorem mv_X8_does : Mv yX8_does := ⟨gt_of (List.mem_of_getElem? (i := 1313) (by decide +kernel)) (by decide +kernel), gt_of (List.mem_of_getElem? (i := 1314) (by decide +kernel)) (by decide +kernel)⟩
set_option maxRecDepth 100000 in
theorem mc_X8_wrongHolds : Mc yX8_wrongHolds cX8_wrongHolds 3 (some .int) 2 := ⟨gt_of (List.mem_of_getElem? (i := 1319) (rfl)) (by rfl), gt_of (List.mem_of_getElem? (i := 9) (by decide +kernel)) (by decide +kernel), by decide +kernel⟩
theorem mv_X8_wrongHolds : Mv yX8_wrongHolds := ⟨gt_of (List.mem_of_getElem? (i := 1318) (by decide +kernel)) (by decide +kernel), gt_sel (List.mem_of_getElem? (i := 60) (by decide +kernel)) (by decide +kernel)⟩
set_option maxRecDepth 100000 in
theorem mc_X8_times : Mc yX8_times cX8_times 7 (some .long) 2 := ⟨gt_of (List.mem_of_getElem? (i := 1323) (rfl)) (by rfl), gt_of (List.mem_of_getElem? (i := 9) (by decide +kernel)) (by decide +kernel), by decide +kernel⟩
theorem mv_X8_times : Mv yX8_times := ⟨gt_of (List.mem_of_getElem? (i := 1322) (by decide +kernel)) (by decide +kernel), gt_sel (List.mem_of_getElem? (i := 61) (by decide +kernel)) (by decide +kernel)⟩
set_option maxRecDepth 100000 in
theorem mc_X8_plus : Mc yX8_plus cX8_plus 7 (some .long) 2 := ⟨gt_of (List.mem_of_getElem? (i := 1327) (rfl)) (by rfl), gt_of (List.mem_of_getElem? (i := 9) (by decide +kernel)) (by decide +kernel), by decide +kernel⟩
theorem mv_X8_plus : Mv yX8_plus := ⟨gt_of (List.mem_of_getElem? (i := 1326) (by decide +kernel)) (by decide +kernel), gt_sel (List.mem_of_getElem? (i := 62) (by decide +kernel)) (by decide +kernel)⟩
set_option maxRecDepth 100000 in
theorem mc_X8_minus : Mc yX8_minus cX8_minus 7 (some .long) 2 := ⟨gt_of (List.mem_of_getElem? (i := 1331) (rfl)) (by rfl), gt_of (List.mem_of_getElem? (i := 9) (by decide +kernel)) (by decide +kernel), by decide +kernel⟩
theorem mv_X8_minus : Mv yX8_minus := ⟨gt_of (List.mem_of_getElem? (i := 1330) (by decide +kernel)) (by decide +kernel), gt_sel (List.mem_of_getElem? (i := 63) (by decide +kernel)) (by decide +kernel)⟩
set_option maxRecDepth 100000 in
theorem mc_X8_compare : Mc yX8_compare cX8_compare 20 (some .int) 2 := ⟨gt_of (List.mem_of_getElem? (i := 1335) (rfl)) (by rfl), gt_of (List.mem_of_getElem? (i := 9) (by decide +kernel)) (by decide +kernel), by decide +kernel⟩
theorem mv_X8_compare : Mv yX8_compare := ⟨gt_of (List.mem_of_getElem? (i := 1333) (by decide +kernel)) (by decide +kernel), gt_of (List.mem_of_getElem? (i := 1334) (by decide +kernel)) (by decide +kernel)⟩
set_option maxRecDepth 100000 in
theorem mc_X8_under : Mc yX8_under cX8_under 4 (some .long) 2 := ⟨gt_of (List.mem_of_getElem? (i := 1338) (rfl)) (by rfl), gt_of (List.mem_of_getElem? (i := 9) (by decide +kernel)) (by decide +kernel), by decide +kernel⟩
theorem ms_X8_under : Cond.static yX8_under ∈ gt := gt_of (List.mem_of_getElem? (i := 1337) (by decide +kernel)) (by decide +kernel)
set_option maxRecDepth 100000 in
theorem mc_X8_told : Mc yX8_told cX8_told 3 (some .long) 2 := ⟨gt_of (List.mem_of_getElem? (i := 1342) (rfl)) (by rfl), gt_of (List.mem_of_getElem? (i := 9) (by decide +kernel)) (by decide +kernel), by decide +kernel⟩
theorem mv_X8_told : Mv yX8_told := ⟨gt_of (List.mem_of_getElem? (i := 1340) (by decide +kernel)) (by decide +kernel), gt_of (List.mem_of_getElem? (i := 1341) (by decide +kernel)) (by decide +kernel)⟩
set_option maxRecDepth 100000 in
theorem mc_X8_feed : Mc yX8_feed cX8_feed 4 (some .int) 2 := ⟨gt_of (List.mem_of_getElem? (i := 1348) (rfl)) (by rfl), gt_of (List.mem_of_getElem? (i := 9) (by decide +kernel)) (by decide +kernel), by decide +kernel⟩
theorem mv_X8_feed : Mv yX8_feed := ⟨gt_of (List.mem_of_getElem? (i := 1346) (by decide +kernel)) (by decide +kernel), gt_of (List.mem_of_getElem? (i := 1347) (by decide +kernel)) (by decide +kernel)⟩
set_option maxRecDepth 100000 in
theorem mc_X8_wipe : Mc yX8_wipe cX8_wipe 2 (some .int) 0 := ⟨gt_of (List.mem_of_getElem? (i := 1352) (rfl)) (by rfl), gt_of (List.mem_of_getElem? (i := 9) (by decide +kernel)) (by decide +kernel), by decide +kernel⟩
theorem mv_X8_wipe : Mv yX8_wipe := ⟨gt_of (List.mem_of_getElem? (i := 1350) (by decide +kernel)) (by decide +kernel), gt_of (List.mem_of_getElem? (i := 1351) (by decide +kernel)) (by decide +kernel)⟩
set_option maxRecDepth 100000 in
theorem mc_X8_text : Mc yX8_text cX8_text 2 (some .int) 0 := ⟨gt_of (List.mem_of_getElem? (i := 1356) (rfl)) (by rfl), gt_of (List.mem_of_getElem? (i := 9) (by decide +kernel)) (by decide +kernel), by decide +kernel⟩
theorem mv_X8_text : Mv yX8_text := ⟨gt_of (List.mem_of_getElem? (i := 1354) (by decide +kernel)) (by decide +kernel), gt_of (List.mem_of_getElem? (i := 1355) (by decide +kernel)) (by decide +kernel)⟩
set_option maxRecDepth 100000 in
theorem mc_X8_keeps : Mc yX8_keeps cX8_keeps 3 none 1 := ⟨gt_of (List.mem_of_getElem? (i := 1360) (rfl)) (by rfl), gt_of (List.mem_of_getElem? (i := 9) (by decide +kernel)) (by decide +kernel), by decide +kernel⟩
theorem mv_X8_keeps : Mv yX8_keeps := ⟨gt_of (List.mem_of_getElem? (i := 1359) (by decide +kernel)) (by decide +kernel), gt_sel (List.mem_of_getElem? (i := 64) (by decide +kernel)) (by decide +kernel)⟩
set_option maxRecDepth 100000 in
theorem mc_X8_itemsRead : Mc yX8_itemsRead cX8_itemsRead 2 (some .int) 0 := ⟨gt_of (List.mem_of_getElem? (i := 1364) (rfl)) (by rfl), gt_of (List.mem_of_getElem? (i := 9) (by decide +kernel)) (by decide +kernel), by decide +kernel⟩
theorem mv_X8_itemsRead : Mv yX8_itemsRead := ⟨gt_of (List.mem_of_getElem? (i := 1363) (by decide +kernel)) (by decide +kernel), gt_sel (List.mem_of_getElem? (i := 65) (by decide +kernel)) (by decide +kernel)⟩
set_option maxRecDepth 100000 in
theorem mc_X8_goes : Mc yX8_goes cX8_goes 1 none 0 := ⟨gt_of (List.mem_of_getElem? (i := 1368) (rfl)) (by rfl), gt_of (List.mem_of_getElem? (i := 9) (by decide +kernel)) (by decide +kernel), by decide +kernel⟩
theorem mv_X8_goes : Mv yX8_goes := ⟨gt_of (List.mem_of_getElem? (i := 1367) (by decide +kernel)) (by decide +kernel), gt_sel (List.mem_of_getElem? (i := 66) (by decide +kernel)) (by decide +kernel)⟩
set_option maxRecDepth 100000 in
theorem mc_X8_isAt : Mc yX8_isAt cX8_isAt 3 (some .boolean) 2 := ⟨gt_of (List.mem_of_getElem? (i := 1372) (rfl)) (by rfl), gt_of (List.mem_of_getElem? (i := 9) (by decide +kernel)) (by decide +kernel), by decide +kernel⟩
theorem mv_X8_isAt : Mv yX8_isAt := ⟨gt_of (List.mem_of_getElem? (i := 1371) (by decide +kernel)) (by decide +kernel), gt_sel (List.mem_of_getElem? (i := 67) (by decide +kernel)) (by decide +kernel)⟩
set_option maxRecDepth 100000 in
theorem mc_X8_item : Mc yX8_item cX8_item 1 (some .boolean) 0 := ⟨gt_of (List.mem_of_getElem? (i := 1376) (rfl)) (by rfl), gt_of (List.mem_of_getElem? (i := 9) (by decide +kernel)) (by decide +kernel), by decide +kernel⟩
theorem mv_X8_item : Mv yX8_item := ⟨gt_of (List.mem_of_getElem? (i := 1375) (by decide +kernel)) (by decide +kernel), gt_sel (List.mem_of_getElem? (i := 68) (by decide +kernel)) (by decide +kernel)⟩
set_option maxRecDepth 100000 in
theorem mc_X8_isWord : Mc yX8_isWord cX8_isWord 8 (some .boolean) 6 := ⟨gt_of (List.mem_of_getElem? (i := 1380) (rfl)) (by rfl), gt_of (List.mem_of_getElem? (i := 9) (by decide +kernel)) (by decide +kernel), by decide +kernel⟩
theorem mv_X8_isWord : Mv yX8_isWord := ⟨gt_of (List.mem_of_getElem? (i := 1379) (by decide +kernel)) (by decide +kernel), gt_sel (List.mem_of_getElem? (i := 69) (by decide +kernel)) (by decide +kernel)⟩
set_option maxRecDepth 100000 in
theorem mc_X8_isRead : Mc yX8_isRead cX8_isRead 4 (some .boolean) 3 := ⟨gt_of (List.mem_of_getElem? (i := 1384) (rfl)) (by rfl), gt_of (List.mem_of_getElem? (i := 9) (by decide +kernel)) (by decide +kernel), by decide +kernel⟩
theorem mv_X8_isRead : Mv yX8_isRead := ⟨gt_of (List.mem_of_getElem? (i := 1383) (by decide +kernel)) (by decide +kernel), gt_sel (List.mem_of_getElem? (i := 70) (by decide +kernel)) (by decide +kernel)⟩
set_option maxRecDepth 100000 in
theorem mc_X8_ofLines : Mc yX8_ofLines cX8_ofLines 6 (some .boolean) 1 := ⟨gt_of (List.mem_of_getElem? (i := 1388) (rfl)) (by rfl), gt_of (List.mem_of_getElem? (i := 9) (by decide +kernel)) (by decide +kernel), by decide +kernel⟩
theorem mv_X8_ofLines : Mv yX8_ofLines := ⟨gt_of (List.mem_of_getElem? (i := 1387) (by decide +kernel)) (by decide +kernel), gt_sel (List.mem_of_getElem? (i := 71) (by decide +kernel)) (by decide +kernel)⟩
set_option maxRecDepth 100000 in
theorem mc_X8_kindRead : Mc yX8_kindRead cX8_kindRead 1 (some .int) 0 := ⟨gt_of (List.mem_of_getElem? (i := 1392) (rfl)) (by rfl), gt_of (List.mem_of_getElem? (i := 9) (by decide +kernel)) (by decide +kernel), by decide +kernel⟩
theorem mv_X8_kindRead : Mv yX8_kindRead := ⟨gt_of (List.mem_of_getElem? (i := 1391) (by decide +kernel)) (by decide +kernel), gt_sel (List.mem_of_getElem? (i := 72) (by decide +kernel)) (by decide +kernel)⟩
set_option maxRecDepth 100000 in
theorem mc_X8_putsBack : Mc yX8_putsBack cX8_putsBack 3 none 1 := ⟨gt_of (List.mem_of_getElem? (i := 1396) (rfl)) (by rfl), gt_of (List.mem_of_getElem? (i := 9) (by decide +kernel)) (by decide +kernel), by decide +kernel⟩
theorem mv_X8_putsBack : Mv yX8_putsBack := ⟨gt_of (List.mem_of_getElem? (i := 1395) (by decide +kernel)) (by decide +kernel), gt_sel (List.mem_of_getElem? (i := 73) (by decide +kernel)) (by decide +kernel)⟩
set_option maxRecDepth 100000 in
theorem mc_X8_seed : Mc yX8_seed cX8_seed 3 (some .int) 1 := ⟨gt_of (List.mem_of_getElem? (i := 1400) (rfl)) (by rfl), gt_of (List.mem_of_getElem? (i := 9) (by decide +kernel)) (by decide +kernel), by decide +kernel⟩
theorem mv_X8_seed : Mv yX8_seed := ⟨gt_of (List.mem_of_getElem? (i := 1398) (by decide +kernel)) (by decide +kernel), gt_of (List.mem_of_getElem? (i := 1399) (by decide +kernel)) (by decide +kernel)⟩
set_option maxRecDepth 100000 in
theorem mc_X8_deal : Mc yX8_deal cX8_deal 6 (some .int) 2 := ⟨gt_of (List.mem_of_getElem? (i := 1404) (rfl)) (by rfl), gt_of (List.mem_of_getElem? (i := 9) (by decide +kernel)) (by decide +kernel), by decide +kernel⟩
theorem mv_X8_deal : Mv yX8_deal := ⟨gt_of (List.mem_of_getElem? (i := 1402) (by decide +kernel)) (by decide +kernel), gt_of (List.mem_of_getElem? (i := 1403) (by decide +kernel)) (by decide +kernel)⟩
set_option maxRecDepth 100000 in
theorem mc_X8_draw : Mc yX8_draw cX8_draw 1 (some .int) 0 := ⟨gt_of (List.mem_of_getElem? (i := 1409) (rfl)) (by rfl), gt_of (List.mem_of_getElem? (i := 9) (by decide +kernel)) (by decide +kernel), by decide +kernel⟩
theorem mv_X8_draw : Mv yX8_draw := ⟨gt_of (List.mem_of_getElem? (i := 1408) (by decide +kernel)) (by decide +kernel), gt_sel (List.mem_of_getElem? (i := 74) (by decide +kernel)) (by decide +kernel)⟩
set_option maxRecDepth 100000 in
theorem mc_X8_sheet : Mc yX8_sheet cX8_sheet 5 (some .int) 3 := ⟨gt_of (List.mem_of_getElem? (i := 1414) (rfl)) (by rfl), gt_of (List.mem_of_getElem? (i := 9) (by decide +kernel)) (by decide +kernel), by decide +kernel⟩
theorem mv_X8_sheet : Mv yX8_sheet := ⟨gt_of (List.mem_of_getElem? (i := 1412) (by decide +kernel)) (by decide +kernel), gt_of (List.mem_of_getElem? (i := 1413) (by decide +kernel)) (by decide +kernel)⟩
set_option maxRecDepth 100000 in
theorem mc_X8_write : Mc yX8_write cX8_write 6 (some .int) 3 := ⟨gt_of (List.mem_of_getElem? (i := 1418) (rfl)) (by rfl), gt_of (List.mem_of_getElem? (i := 9) (by decide +kernel)) (by decide +kernel), by decide +kernel⟩
theorem mv_X8_write : Mv yX8_write := ⟨gt_of (List.mem_of_getElem? (i := 1416) (by decide +kernel)) (by decide +kernel), gt_of (List.mem_of_getElem? (i := 1417) (by decide +kernel)) (by decide +kernel)⟩
set_option maxRecDepth 100000 in
theorem mc_X8_wrongAt : Mc yX8_wrongAt cX8_wrongAt 3 (some .int) 2 := ⟨gt_of (List.mem_of_getElem? (i := 1422) (rfl)) (by rfl), gt_of (List.mem_of_getElem? (i := 9) (by decide +kernel)) (by decide +kernel), by decide +kernel⟩
theorem mv_X8_wrongAt : Mv yX8_wrongAt := ⟨gt_of (List.mem_of_getElem? (i := 1421) (by decide +kernel)) (by decide +kernel), gt_sel (List.mem_of_getElem? (i := 75) (by decide +kernel)) (by decide +kernel)⟩
set_option maxRecDepth 100000 in
theorem mc_X8_item_ : Mc yX8_item_ cX8_item_ 4 (some .long) 2 := ⟨gt_of (List.mem_of_getElem? (i := 1426) (rfl)) (by rfl), gt_of (List.mem_of_getElem? (i := 9) (by decide +kernel)) (by decide +kernel), by decide +kernel⟩
theorem mv_X8_item_ : Mv yX8_item_ := ⟨gt_of (List.mem_of_getElem? (i := 1424) (by decide +kernel)) (by decide +kernel), gt_of (List.mem_of_getElem? (i := 1425) (by decide +kernel)) (by decide +kernel)⟩
set_option maxRecDepth 100000 in
theorem mc_X8_copy : Mc yX8_copy cX8_copy 9 (some .int) 5 := ⟨gt_of (List.mem_of_getElem? (i := 1431) (rfl)) (by rfl), gt_of (List.mem_of_getElem? (i := 9) (by decide +kernel)) (by decide +kernel), by decide +kernel⟩
theorem mv_X8_copy : Mv yX8_copy := ⟨gt_of (List.mem_of_getElem? (i := 1429) (by decide +kernel)) (by decide +kernel), gt_of (List.mem_of_getElem? (i := 1430) (by decide +kernel)) (by decide +kernel)⟩
set_option maxRecDepth 100000 in
theorem mc_X8_image : Mc yX8_image cX8_image 1 (some .int) 0 := ⟨gt_of (List.mem_of_getElem? (i := 1435) (rfl)) (by rfl), gt_of (List.mem_of_getElem? (i := 9) (by decide +kernel)) (by decide +kernel), by decide +kernel⟩
theorem mv_X8_image : Mv yX8_image := ⟨gt_of (List.mem_of_getElem? (i := 1433) (by decide +kernel)) (by decide +kernel), gt_of (List.mem_of_getElem? (i := 1434) (by decide +kernel)) (by decide +kernel)⟩
set_option maxRecDepth 100000 in
theorem mc_X8_back : Mc yX8_back cX8_back 1 (some .int) 0 := ⟨gt_of (List.mem_of_getElem? (i := 1439) (rfl)) (by rfl), gt_of (List.mem_of_getElem? (i := 9) (by decide +kernel)) (by decide +kernel), by decide +kernel⟩
theorem mv_X8_back : Mv yX8_back := ⟨gt_of (List.mem_of_getElem? (i := 1437) (by decide +kernel)) (by decide +kernel), gt_of (List.mem_of_getElem? (i := 1438) (by decide +kernel)) (by decide +kernel)⟩
