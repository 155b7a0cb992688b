set_option maxRecDepth 100000 in
theorem lo_X2_3 : xLO RX2 3 := ⟨xw_35, xw_22, xw_23⟩
set_option maxRecDepth 100000 in
theorem xi_2 : ∀ w ∈ u_ws RX2 TX2 11, w ∈ xws := fun w h => by
  obtain ⟨j, hj, rfl⟩ := List.mem_map.mp h
  rcases (show j = 0 ∨ j = 1 ∨ j = 2 ∨ j = 3 ∨ j = 4 ∨ j = 5 ∨ j = 6 ∨ j = 7 ∨ j = 8 ∨ j = 9 ∨ j = 10 by have := List.mem_range.mp hj; omega) with rfl | rfl | rfl | rfl | rfl | rfl | rfl | rfl | rfl | rfl | rfl
  · exact xw_56
  · exact xw_58
  · exact xw_60
  · exact xw_62
  · exact xw_64
  · exact xw_66
  · exact xw_68
  · exact xw_70
  · exact xw_72
  · exact xw_74
  · exact xw_76
set_option maxRecDepth 100000 in
theorem fp_X2_9 : xFP RX2 9 [(2, 0)] true (.array .int) := List.forall_mem_cons.mpr ⟨⟨RX2, RX2, TX2, 11, tyX2, rfl, by decide, xi_2, xw_36, Or.inl rfl, rfl, by decide +kernel, tyX2_ok, nmX2, fun _ => rfl⟩, fun _ h => absurd h List.not_mem_nil⟩
set_option maxRecDepth 100000 in
theorem fp_X2_15 : xFP RX2 15 [(2, 1)] true (.array .int) := List.forall_mem_cons.mpr ⟨⟨RX2, RX2, TX2, 11, tyX2, rfl, by decide, xi_2, xw_39, Or.inl rfl, rfl, by decide +kernel, tyX2_ok, nmX2, fun _ => rfl⟩, fun _ h => absurd h List.not_mem_nil⟩
set_option maxRecDepth 100000 in
theorem fp_X2_18 : xFP RX2 18 [(2, 2)] true (.array .long) := List.forall_mem_cons.mpr ⟨⟨RX2, RX2, TX2, 11, tyX2, rfl, by decide, xi_2, xw_41, Or.inl rfl, rfl, by decide +kernel, tyX2_ok, nmX2, fun _ => rfl⟩, fun _ h => absurd h List.not_mem_nil⟩
set_option maxRecDepth 100000 in
theorem lo_X9_1 : xLO RX9 1 := ⟨xw_92, xw_22, xw_23⟩
set_option maxRecDepth 100000 in
theorem xi_8 : ∀ w ∈ u_ws RX9 TX9 1, w ∈ xws := fun w h => by
  obtain ⟨j, hj, rfl⟩ := List.mem_map.mp h
  rcases (show j = 0 by have := List.mem_range.mp hj; omega) with rfl
  · exact xw_94
set_option maxRecDepth 100000 in
theorem fp_X9_7 : xFP RX9 7 [(8, 0)] true (.array .int) := List.forall_mem_cons.mpr ⟨⟨RX9, RX9, TX9, 1, tyX9, rfl, by decide, xi_8, xw_93, Or.inl rfl, rfl, by decide +kernel, tyX9_ok, nmX9, fun _ => rfl⟩, fun _ h => absurd h List.not_mem_nil⟩
set_option maxRecDepth 100000 in
theorem lo_X1_3 : xLO RX1 3 := ⟨xw_86, xw_22, xw_23⟩
set_option maxRecDepth 100000 in
theorem xi_1 : ∀ w ∈ u_ws RX1 TX1 5, w ∈ xws := fun w h => by
  obtain ⟨j, hj, rfl⟩ := List.mem_map.mp h
  rcases (show j = 0 ∨ j = 1 ∨ j = 2 ∨ j = 3 ∨ j = 4 by have := List.mem_range.mp hj; omega) with rfl | rfl | rfl | rfl | rfl
  · exact xw_110
  · exact xw_112
  · exact xw_114
  · exact xw_116
  · exact xw_118
set_option maxRecDepth 100000 in
theorem fp_X1_9 : xFP RX1 9 [(1, 0)] true (.array .long) := List.forall_mem_cons.mpr ⟨⟨RX1, RX1, TX1, 5, tyX1, rfl, by decide, xi_1, xw_99, Or.inl rfl, rfl, by decide +kernel, tyX1_ok, nmX1, fun _ => rfl⟩, fun _ h => absurd h List.not_mem_nil⟩
set_option maxRecDepth 100000 in
theorem no_X1_15 : xNO RX1 15 8 1 [.null] := ⟨RX9, TX9, tyX9, rfl, xi_8, tyX9_ok, xw_87, xw_88, xw_4, fun j hj => by
  rcases (show j = 0 by omega) with rfl <;> rfl⟩
set_option maxRecDepth 100000 in
theorem cd_X9_init : xCd yX9_init cX9_init 1 none 0 := ⟨xw_91, xw_4, by decide +kernel, by decide +kernel⟩
set_option maxRecDepth 100000 in
theorem li_X1_17 : xLIN RX1 17 yX9_init := ⟨xw_89, rfl, xw_90⟩
set_option maxRecDepth 100000 in
theorem fp_X1_18 : xFP RX1 18 [(1, 1)] true (.object "NeverBelow$Whole") := List.forall_mem_cons.mpr ⟨⟨RX1, RX1, TX1, 5, tyX1, rfl, by decide, xi_1, xw_102, Or.inl rfl, rfl, by decide +kernel, tyX1_ok, nmX1, fun _ => rfl⟩, fun _ h => absurd h List.not_mem_nil⟩
set_option maxRecDepth 100000 in
theorem fp_X1_22 : xFP RX1 22 [(1, 2)] true (.object "NeverBelow$Whole") := List.forall_mem_cons.mpr ⟨⟨RX1, RX1, TX1, 5, tyX1, rfl, by decide, xi_1, xw_104, Or.inl rfl, rfl, by decide +kernel, tyX1_ok, nmX1, fun _ => rfl⟩, fun _ h => absurd h List.not_mem_nil⟩
set_option maxRecDepth 100000 in
theorem no_X1_25 : xNO RX1 25 2 11 [.null, .null, .null, .null, .int 0, .int 0, .int 0, .int 0, .int 0, .int 0, .int 0] := ⟨RX2, TX2, tyX2, rfl, xi_2, tyX2_ok, xw_97, xw_31, xw_2, fun j hj => by
  rcases (show j = 0 ∨ j = 1 ∨ j = 2 ∨ j = 3 ∨ j = 4 ∨ j = 5 ∨ j = 6 ∨ j = 7 ∨ j = 8 ∨ j = 9 ∨ j = 10 by omega) with rfl | rfl | rfl | rfl | rfl | rfl | rfl | rfl | rfl | rfl | rfl <;> rfl⟩
set_option maxRecDepth 100000 in
theorem cd_X2_init : xCd yX2_init cX2_init 1 none 0 := ⟨xw_34, xw_2, by decide +kernel, by decide +kernel⟩
set_option maxRecDepth 100000 in
theorem li_X1_27 : xLIN RX1 27 yX2_init := ⟨xw_98, rfl, xw_33⟩
set_option maxRecDepth 100000 in
theorem fp_X1_28 : xFP RX1 28 [(1, 3)] true (.object "NeverBelow$Parts") := List.forall_mem_cons.mpr ⟨⟨RX1, RX1, TX1, 5, tyX1, rfl, by decide, xi_1, xw_106, Or.inl rfl, rfl, by decide +kernel, tyX1_ok, nmX1, fun _ => rfl⟩, fun _ h => absurd h List.not_mem_nil⟩
set_option maxRecDepth 100000 in
theorem lo_X10_3 : xLO RX10 3 := ⟨xw_21, xw_22, xw_23⟩
set_option maxRecDepth 100000 in
theorem xi_9 : ∀ w ∈ u_ws RX10 TX10 10, w ∈ xws := fun w h => by
  obtain ⟨j, hj, rfl⟩ := List.mem_map.mp h
  rcases (show j = 0 ∨ j = 1 ∨ j = 2 ∨ j = 3 ∨ j = 4 ∨ j = 5 ∨ j = 6 ∨ j = 7 ∨ j = 8 ∨ j = 9 by have := List.mem_range.mp hj; omega) with rfl | rfl | rfl | rfl | rfl | rfl | rfl | rfl | rfl | rfl
  · exact xw_131
  · exact xw_133
  · exact xw_135
  · exact xw_137
  · exact xw_139
  · exact xw_141
  · exact xw_143
  · exact xw_145
  · exact xw_147
  · exact xw_149
set_option maxRecDepth 100000 in
theorem fp_X10_13 : xFP RX10 13 [(9, 0)] true (.array (.object "NeverBelow$Sheet")) := List.forall_mem_cons.mpr ⟨⟨RX10, RX10, TX10, 10, tyX10, rfl, by decide, xi_9, xw_121, Or.inl rfl, rfl, by decide +kernel, tyX10_ok, nmX10, fun _ => rfl⟩, fun _ h => absurd h List.not_mem_nil⟩
set_option maxRecDepth 100000 in
theorem fp_X10_19 : xFP RX10 19 [(9, 1)] true (.array (.object "NeverBelow$Polynomial")) := List.forall_mem_cons.mpr ⟨⟨RX10, RX10, TX10, 10, tyX10, rfl, by decide, xi_9, xw_122, Or.inl rfl, rfl, by decide +kernel, tyX10_ok, nmX10, fun _ => rfl⟩, fun _ h => absurd h List.not_mem_nil⟩
set_option maxRecDepth 100000 in
theorem fp_X10_23 : xFP RX10 23 [(9, 2)] true (.array .int) := List.forall_mem_cons.mpr ⟨⟨RX10, RX10, TX10, 10, tyX10, rfl, by decide, xi_9, xw_123, Or.inl rfl, rfl, by decide +kernel, tyX10_ok, nmX10, fun _ => rfl⟩, fun _ h => absurd h List.not_mem_nil⟩
set_option maxRecDepth 100000 in
theorem fp_X10_29 : xFP RX10 29 [(9, 3)] true (.array (.object "NeverBelow$Proof")) := List.forall_mem_cons.mpr ⟨⟨RX10, RX10, TX10, 10, tyX10, rfl, by decide, xi_9, xw_124, Or.inl rfl, rfl, by decide +kernel, tyX10_ok, nmX10, fun _ => rfl⟩, fun _ h => absurd h List.not_mem_nil⟩
set_option maxRecDepth 100000 in
theorem no_X10_33 : xNO RX10 33 2 11 [.null, .null, .null, .null, .int 0, .int 0, .int 0, .int 0, .int 0, .int 0, .int 0] := ⟨RX2, TX2, tyX2, rfl, xi_2, tyX2_ok, xw_30, xw_31, xw_2, fun j hj => by
  rcases (show j = 0 ∨ j = 1 ∨ j = 2 ∨ j = 3 ∨ j = 4 ∨ j = 5 ∨ j = 6 ∨ j = 7 ∨ j = 8 ∨ j = 9 ∨ j = 10 by omega) with rfl | rfl | rfl | rfl | rfl | rfl | rfl | rfl | rfl | rfl | rfl <;> rfl⟩
set_option maxRecDepth 100000 in
theorem li_X10_35 : xLIN RX10 35 yX2_init := ⟨xw_32, rfl, xw_33⟩
set_option maxRecDepth 100000 in
theorem fp_X10_36 : xFP RX10 36 [(9, 4)] true (.object "NeverBelow$Parts") := List.forall_mem_cons.mpr ⟨⟨RX10, RX10, TX10, 10, tyX10, rfl, by decide, xi_9, xw_125, Or.inl rfl, rfl, by decide +kernel, tyX10_ok, nmX10, fun _ => rfl⟩, fun _ h => absurd h List.not_mem_nil⟩
set_option maxRecDepth 100000 in
theorem no_X10_40 : xNO RX10 40 1 5 [.null, .null, .null, .null, .int 0] := ⟨RX1, TX1, tyX1, rfl, xi_1, tyX1_ok, xw_81, xw_82, xw_3, fun j hj => by
  rcases (show j = 0 ∨ j = 1 ∨ j = 2 ∨ j = 3 ∨ j = 4 by omega) with rfl | rfl | rfl | rfl | rfl <;> rfl⟩
set_option maxRecDepth 100000 in
theorem cd_X1_init : xCd yX1_init cX1_init 1 none 0 := ⟨xw_85, xw_3, by decide +kernel, by decide +kernel⟩
set_option maxRecDepth 100000 in
theorem li_X10_42 : xLIN RX10 42 yX1_init := ⟨xw_83, rfl, xw_84⟩
set_option maxRecDepth 100000 in
theorem fp_X10_43 : xFP RX10 43 [(9, 5)] true (.object "NeverBelow$Desk") := List.forall_mem_cons.mpr ⟨⟨RX10, RX10, TX10, 10, tyX10, rfl, by decide, xi_9, xw_126, Or.inl rfl, rfl, by decide +kernel, tyX10_ok, nmX10, fun _ => rfl⟩, fun _ h => absurd h List.not_mem_nil⟩
set_option maxRecDepth 100000 in
theorem fp_X10_47 : xFP RX10 47 [(9, 9)] false .int := List.forall_mem_cons.mpr ⟨⟨RX10, RX10, TX10, 10, tyX10, rfl, by decide, xi_9, xw_130, Or.inl rfl, rfl, by decide +kernel, tyX10_ok, nmX10, fun h => by cases h⟩, fun _ h => absurd h List.not_mem_nil⟩
set_option maxRecDepth 100000 in
theorem lo_X6_1 : xLO RX6 1 := ⟨xw_170, xw_22, xw_23⟩
set_option maxRecDepth 100000 in
theorem xi_5 : ∀ w ∈ u_ws RX6 TX6 2, w ∈ xws := fun w h => by
  obtain ⟨j, hj, rfl⟩ := List.mem_map.mp h
  rcases (show j = 0 ∨ j = 1 by have := List.mem_range.mp hj; omega) with rfl | rfl
  · exact xw_178
  · exact xw_180
set_option maxRecDepth 100000 in
theorem fp_X6_7 : xFP RX6 7 [(5, 0)] true .int := List.forall_mem_cons.mpr ⟨⟨RX6, RX6, TX6, 2, tyX6, rfl, by decide, xi_5, xw_174, Or.inl rfl, rfl, by decide +kernel, tyX6_ok, nmX6, fun _ => rfl⟩, fun _ h => absurd h List.not_mem_nil⟩
set_option maxRecDepth 100000 in
theorem cd_J9_max_7cf53 : xCd yJ9_max_7cf53 cJ9_max_7cf53 2 (some .int) 2 := ⟨xw_173, xw_7, by decide +kernel, by decide +kernel⟩
set_option maxRecDepth 100000 in
theorem ls_X6_13 : xLS RX6 13 yJ9_max_7cf53 := ⟨xw_171, xw_172⟩
set_option maxRecDepth 100000 in
theorem fp_X6_19 : xFP RX6 19 [(5, 1)] true (.array .long) := List.forall_mem_cons.mpr ⟨⟨RX6, RX6, TX6, 2, tyX6, rfl, by decide, xi_5, xw_176, Or.inl rfl, rfl, by decide +kernel, tyX6_ok, nmX6, fun _ => rfl⟩, fun _ h => absurd h List.not_mem_nil⟩
set_option maxRecDepth 100000 in
theorem cd_X10_isSheet : xCd yX10_isSheet cX10_isSheet 1 (some .boolean) 1 := ⟨xw_158, xw_1, by decide +kernel, by decide +kernel⟩
set_option maxRecDepth 100000 in
theorem ls_X10_51 : xLS RX10 51 yX10_isSheet := ⟨xw_156, xw_157⟩
set_option maxRecDepth 100000 in
theorem cd_X10_isLane : xCd yX10_isLane cX10_isLane 1 (some .boolean) 1 := ⟨xw_161, xw_1, by decide +kernel, by decide +kernel⟩
set_option maxRecDepth 100000 in
theorem ls_X10_55 : xLS RX10 55 yX10_isLane := ⟨xw_159, xw_160⟩
set_option maxRecDepth 100000 in
theorem fl_X10_13 : xFL RX10 13 [(9, 0)] := List.forall_mem_cons.mpr ⟨⟨RX10, RX10, TX10, 10, rfl, by decide, xi_9, xw_121, Or.inl rfl⟩, fun _ h => absurd h List.not_mem_nil⟩
set_option maxRecDepth 100000 in
theorem no_X10_11 : xNO RX10 11 5 2 [.int 0, .null] := ⟨RX6, TX6, tyX6, rfl, xi_5, tyX6_ok, xw_24, xw_166, xw_6, fun j hj => by
  rcases (show j = 0 ∨ j = 1 by omega) with rfl | rfl <;> rfl⟩
set_option maxRecDepth 100000 in
theorem cd_X6_init : xCd yX6_init cX6_init 3 none 2 := ⟨xw_169, xw_6, by decide +kernel, by decide +kernel⟩
set_option maxRecDepth 100000 in
theorem li_X10_62 : xLI RX10 62 yX6_init := ⟨xw_167, rfl, xw_168⟩
set_option maxRecDepth 100000 in
theorem cd_X10_faulted : xCd yX10_faulted cX10_faulted 2 (some .int) 1 := ⟨xw_165, xw_1, by decide +kernel, by decide +kernel⟩
set_option maxRecDepth 100000 in
theorem lv_X10_58_9 : xLV RX10 58 9 yX10_faulted := ⟨⟨_, _, rfl⟩, xw_162, xw_164, xwp_0⟩
set_option maxRecDepth 100000 in
theorem fl_X6_7 : xFL RX6 7 [(5, 0)] := List.forall_mem_cons.mpr ⟨⟨RX6, RX6, TX6, 2, rfl, by decide, xi_5, xw_174, Or.inl rfl⟩, fun _ h => absurd h List.not_mem_nil⟩
set_option maxRecDepth 100000 in
theorem fl_X6_19 : xFL RX6 19 [(5, 1)] := List.forall_mem_cons.mpr ⟨⟨RX6, RX6, TX6, 2, rfl, by decide, xi_5, xw_176, Or.inl rfl⟩, fun _ h => absurd h List.not_mem_nil⟩
set_option maxRecDepth 100000 in
theorem cd_X6_has : xCd yX6_has cX6_has 2 (some .boolean) 1 := ⟨xw_194, xw_6, by decide +kernel, by decide +kernel⟩
set_option maxRecDepth 100000 in
theorem lv_X10_65_5 : xLV RX10 65 5 yX6_has := ⟨⟨_, _, rfl⟩, xw_191, xw_192, xw_193⟩
set_option maxRecDepth 100000 in
theorem fl_X10_68 : xFL RX10 68 [(5, 1)] := List.forall_mem_cons.mpr ⟨⟨RX6, RX6, TX6, 2, rfl, by decide, xi_5, xw_177, Or.inl rfl⟩, fun _ h => absurd h List.not_mem_nil⟩
set_option maxRecDepth 100000 in
theorem cd_X6_cutToLane : xCd yX6_cutToLane cX6_cutToLane 3 (some .long) 1 := ⟨xw_198, xw_6, by decide +kernel, by decide +kernel⟩
set_option maxRecDepth 100000 in
theorem lv_X10_72_5 : xLV RX10 72 5 yX6_cutToLane := ⟨⟨_, _, rfl⟩, xw_195, xw_196, xw_197⟩
set_option maxRecDepth 100000 in
theorem fl_X10_78 : xFL RX10 78 [(5, 0)] := List.forall_mem_cons.mpr ⟨⟨RX6, RX6, TX6, 2, rfl, by decide, xi_5, xw_175, Or.inl rfl⟩, fun _ h => absurd h List.not_mem_nil⟩
set_option maxRecDepth 100000 in
theorem cd_X10_lostBy : xCd yX10_lostBy cX10_lostBy 2 (some .long) 1 := ⟨xw_207, xw_1, by decide +kernel, by decide +kernel⟩
set_option maxRecDepth 100000 in
theorem lv_X10_81_9 : xLV RX10 81 9 yX10_lostBy := ⟨⟨_, _, rfl⟩, xw_204, xw_206, xwp_1⟩
set_option maxRecDepth 100000 in
theorem cd_X10_isWithin : xCd yX10_isWithin cX10_isWithin 4 (some .boolean) 2 := ⟨xw_225, xw_1, by decide +kernel, by decide +kernel⟩
set_option maxRecDepth 100000 in
theorem ls_X10_101 : xLS RX10 101 yX10_isWithin := ⟨xw_223, xw_224⟩
set_option maxRecDepth 100000 in
theorem lo_X4_3 : xLO RX4 3 := ⟨xw_230, xw_22, xw_23⟩
set_option maxRecDepth 100000 in
theorem xi_4 : ∀ w ∈ u_ws RX4 TX4 1, w ∈ xws := fun w h => by
  obtain ⟨j, hj, rfl⟩ := List.mem_map.mp h
  rcases (show j = 0 by have := List.mem_range.mp hj; omega) with rfl
  · exact xw_234
set_option maxRecDepth 100000 in
theorem fp_X4_9 : xFP RX4 9 [(4, 0)] true (.array .long) := List.forall_mem_cons.mpr ⟨⟨RX4, RX4, TX4, 1, tyX4, rfl, by decide, xi_4, xw_231, Or.inl rfl, rfl, by decide +kernel, tyX4_ok, nmX4, fun _ => rfl⟩, fun _ h => absurd h List.not_mem_nil⟩
set_option maxRecDepth 100000 in
theorem cd_X10_areCoefficients : xCd yX10_areCoefficients cX10_areCoefficients 2 (some .boolean) 1 := ⟨xw_221, xw_1, by decide +kernel, by decide +kernel⟩
set_option maxRecDepth 100000 in
theorem ls_X10_112 : xLS RX10 112 yX10_areCoefficients := ⟨xw_219, xw_220⟩
set_option maxRecDepth 100000 in
theorem fl_X10_305 : xFL RX10 305 [(9, 6)] := List.forall_mem_cons.mpr ⟨⟨RX10, RX10, TX10, 10, rfl, by decide, xi_9, xw_127, Or.inl rfl⟩, fun _ h => absurd h List.not_mem_nil⟩
set_option maxRecDepth 100000 in
theorem fl_X10_19 : xFL RX10 19 [(9, 1)] := List.forall_mem_cons.mpr ⟨⟨RX10, RX10, TX10, 10, rfl, by decide, xi_9, xw_122, Or.inl rfl⟩, fun _ h => absurd h List.not_mem_nil⟩
set_option maxRecDepth 100000 in
theorem no_X10_17 : xNO RX10 17 4 1 [.null] := ⟨RX4, TX4, tyX4, rfl, xi_4, tyX4_ok, xw_26, xw_226, xw_9, fun j hj => by
  rcases (show j = 0 by omega) with rfl <;> rfl⟩
set_option maxRecDepth 100000 in
theorem cd_X4_init : xCd yX4_init cX4_init 2 none 1 := ⟨xw_229, xw_9, by decide +kernel, by decide +kernel⟩
set_option maxRecDepth 100000 in
theorem li_X10_315 : xLI RX10 315 yX4_init := ⟨xw_227, rfl, xw_228⟩
set_option maxRecDepth 100000 in
theorem fp_X10_305 : xFP RX10 305 [(9, 6)] false .int := List.forall_mem_cons.mpr ⟨⟨RX10, RX10, TX10, 10, tyX10, rfl, by decide, xi_9, xw_127, Or.inl rfl, rfl, by decide +kernel, tyX10_ok, nmX10, fun h => by cases h⟩, fun _ h => absurd h List.not_mem_nil⟩
set_option maxRecDepth 100000 in
theorem cp_X10_85 : xCp RX10 85 := ⟨xw_212, xw_214, xw_213, xw_8⟩
set_option maxRecDepth 100000 in
theorem cd_X10_keepPolynomial : xCd yX10_keepPolynomial cX10_keepPolynomial 2 (some .int) 1 := ⟨xw_218, xw_1, by decide +kernel, by decide +kernel⟩
set_option maxRecDepth 100000 in
theorem lv_X10_91_9 : xLV RX10 91 9 yX10_keepPolynomial := ⟨⟨_, _, rfl⟩, xw_215, xw_217, xwp_2⟩
set_option maxRecDepth 100000 in
theorem cd_X10_polynomialOf : xCd yX10_polynomialOf cX10_polynomialOf 2 (some (.object "NeverBelow$Polynomial")) 1 := ⟨xw_244, xw_1, by decide +kernel, by decide +kernel⟩
set_option maxRecDepth 100000 in
theorem lv_X10_95_9 : xLV RX10 95 9 yX10_polynomialOf := ⟨⟨_, _, rfl⟩, xw_241, xw_243, xwp_3⟩
set_option maxRecDepth 100000 in
theorem fl_X10_105 : xFL RX10 105 [(4, 0)] := List.forall_mem_cons.mpr ⟨⟨RX4, RX4, TX4, 1, rfl, by decide, xi_4, xw_233, Or.inl rfl⟩, fun _ h => absurd h List.not_mem_nil⟩
set_option maxRecDepth 100000 in
theorem fl_X4_9 : xFL RX4 9 [(4, 0)] := List.forall_mem_cons.mpr ⟨⟨RX4, RX4, TX4, 1, rfl, by decide, xi_4, xw_231, Or.inl rfl⟩, fun _ h => absurd h List.not_mem_nil⟩
set_option maxRecDepth 100000 in
theorem cd_X4_multiplyInto : xCd yX4_multiplyInto cX4_multiplyInto 8 (some .boolean) 2 := ⟨xw_252, xw_9, by decide +kernel, by decide +kernel⟩
set_option maxRecDepth 100000 in
theorem lv_X10_108_4 : xLV RX10 108 4 yX4_multiplyInto := ⟨⟨_, _, rfl⟩, xw_249, xw_250, xw_251⟩
set_option maxRecDepth 100000 in
theorem cd_X10_isWhich : xCd yX10_isWhich cX10_isWhich 1 (some .boolean) 1 := ⟨xw_259, xw_1, by decide +kernel, by decide +kernel⟩
set_option maxRecDepth 100000 in
theorem ls_X10_116 : xLS RX10 116 yX10_isWhich := ⟨xw_257, xw_258⟩
set_option maxRecDepth 100000 in
theorem cd_X10_isTerm : xCd yX10_isTerm cX10_isTerm 1 (some .boolean) 1 := ⟨xw_266, xw_1, by decide +kernel, by decide +kernel⟩
set_option maxRecDepth 100000 in
theorem ls_X10_119 : xLS RX10 119 yX10_isTerm := ⟨xw_264, xw_265⟩
set_option maxRecDepth 100000 in
theorem cd_X4_between : xCd yX4_between cX4_between 19 (some .long) 4 := ⟨xw_275, xw_9, by decide +kernel, by decide +kernel⟩
set_option maxRecDepth 100000 in
theorem lv_X10_124_4 : xLV RX10 124 4 yX4_between := ⟨⟨_, _, rfl⟩, xw_272, xw_273, xw_274⟩
set_option maxRecDepth 100000 in
theorem cd_X10_isRange : xCd yX10_isRange cX10_isRange 2 (some .boolean) 2 := ⟨xw_290, xw_1, by decide +kernel, by decide +kernel⟩
set_option maxRecDepth 100000 in
theorem ls_X10_130 : xLS RX10 130 yX10_isRange := ⟨xw_288, xw_289⟩
set_option maxRecDepth 100000 in
theorem fl_X10_134 : xFL RX10 134 [(9, 7)] := List.forall_mem_cons.mpr ⟨⟨RX10, RX10, TX10, 10, rfl, by decide, xi_9, xw_128, Or.inl rfl⟩, fun _ h => absurd h List.not_mem_nil⟩
set_option maxRecDepth 100000 in
theorem fl_X10_23 : xFL RX10 23 [(9, 2)] := List.forall_mem_cons.mpr ⟨⟨RX10, RX10, TX10, 10, rfl, by decide, xi_9, xw_123, Or.inl rfl⟩, fun _ h => absurd h List.not_mem_nil⟩
set_option maxRecDepth 100000 in
theorem fp_X10_134 : xFP RX10 134 [(9, 7)] false .int := List.forall_mem_cons.mpr ⟨⟨RX10, RX10, TX10, 10, tyX10, rfl, by decide, xi_9, xw_128, Or.inl rfl, rfl, by decide +kernel, tyX10_ok, nmX10, fun h => by cases h⟩, fun _ h => absurd h List.not_mem_nil⟩
set_option maxRecDepth 100000 in
theorem cd_X10_isBox : xCd yX10_isBox cX10_isBox 2 (some .boolean) 1 := ⟨xw_298, xw_1, by decide +kernel, by decide +kernel⟩
set_option maxRecDepth 100000 in
theorem lv_X10_137_9 : xLV RX10 137 9 yX10_isBox := ⟨⟨_, _, rfl⟩, xw_295, xw_297, xwp_4⟩
set_option maxRecDepth 100000 in
theorem lv_X4_21_4 : xLV RX4 21 4 yX4_between := ⟨⟨_, _, rfl⟩, xw_307, xw_273, xw_274⟩
set_option maxRecDepth 100000 in
theorem cd_X4_cornerOn : xCd yX4_cornerOn cX4_cornerOn 10 (some .long) 3 := ⟨xw_306, xw_9, by decide +kernel, by decide +kernel⟩
set_option maxRecDepth 100000 in
theorem lv_X10_140_4 : xLV RX10 140 4 yX4_cornerOn := ⟨⟨_, _, rfl⟩, xw_303, xw_304, xw_305⟩
set_option maxRecDepth 100000 in
theorem cd_J9_max_f86c9 : xCd yJ9_max_f86c9 cJ9_max_f86c9 4 (some .long) 2 := ⟨xw_328, xw_7, by decide +kernel, by decide +kernel⟩
set_option maxRecDepth 100000 in
theorem ls_X10_324 : xLS RX10 324 yJ9_max_f86c9 := ⟨xw_326, xw_327⟩
set_option maxRecDepth 100000 in
theorem cd_J9_min_f86c9 : xCd yJ9_min_f86c9 cJ9_min_f86c9 4 (some .long) 2 := ⟨xw_322, xw_7, by decide +kernel, by decide +kernel⟩
set_option maxRecDepth 100000 in
theorem ls_X10_318 : xLS RX10 318 yJ9_min_f86c9 := ⟨xw_320, xw_321⟩
set_option maxRecDepth 100000 in
theorem lv_X4_25_4 : xLV RX4 25 4 yX4_cornerOn := ⟨⟨_, _, rfl⟩, xw_316, xw_304, xw_305⟩
set_option maxRecDepth 100000 in
theorem fl_X10_43 : xFL RX10 43 [(9, 5)] := List.forall_mem_cons.mpr ⟨⟨RX10, RX10, TX10, 10, rfl, by decide, xi_9, xw_126, Or.inl rfl⟩, fun _ h => absurd h List.not_mem_nil⟩
set_option maxRecDepth 100000 in
theorem fl_X10_144 : xFL RX10 144 [(1, 0)] := List.forall_mem_cons.mpr ⟨⟨RX1, RX1, TX1, 5, rfl, by decide, xi_1, xw_101, Or.inl rfl⟩, fun _ h => absurd h List.not_mem_nil⟩
set_option maxRecDepth 100000 in
theorem cd_X4_cornersOn : xCd yX4_cornersOn cX4_cornersOn 5 none 3 := ⟨xw_315, xw_9, by decide +kernel, by decide +kernel⟩
set_option maxRecDepth 100000 in
theorem lv_X10_147_4 : xLV RX10 147 4 yX4_cornersOn := ⟨⟨_, _, rfl⟩, xw_312, xw_313, xw_314⟩
set_option maxRecDepth 100000 in
theorem cd_X10_greatestOf : xCd yX10_greatestOf cX10_greatestOf 4 (some .long) 1 := ⟨xw_325, xw_1, by decide +kernel, by decide +kernel⟩
set_option maxRecDepth 100000 in
theorem ls_X10_155 : xLS RX10 155 yX10_greatestOf := ⟨xw_323, xw_324⟩
set_option maxRecDepth 100000 in
theorem cd_X10_leastOf : xCd yX10_leastOf cX10_leastOf 4 (some .long) 1 := ⟨xw_319, xw_1, by decide +kernel, by decide +kernel⟩
set_option maxRecDepth 100000 in
theorem ls_X10_151 : xLS RX10 151 yX10_leastOf := ⟨xw_317, xw_318⟩
set_option maxRecDepth 100000 in
theorem cd_X10_lengthOf : xCd yX10_lengthOf cX10_lengthOf 3 (some .int) 3 := ⟨xw_335, xw_1, by decide +kernel, by decide +kernel⟩
set_option maxRecDepth 100000 in
theorem ls_X10_158 : xLS RX10 158 yX10_lengthOf := ⟨xw_333, xw_334⟩
set_option maxRecDepth 100000 in
theorem cd_X10_isOdd : xCd yX10_isOdd cX10_isOdd 1 (some .boolean) 1 := ⟨xw_338, xw_1, by decide +kernel, by decide +kernel⟩
set_option maxRecDepth 100000 in
theorem ls_X10_162 : xLS RX10 162 yX10_isOdd := ⟨xw_336, xw_337⟩
set_option maxRecDepth 100000 in
theorem cd_X10_halve : xCd yX10_halve cX10_halve 6 none 5 := ⟨xw_341, xw_1, by decide +kernel, by decide +kernel⟩
set_option maxRecDepth 100000 in
theorem ls_X10_165 : xLS RX10 165 yX10_halve := ⟨xw_339, xw_340⟩
set_option maxRecDepth 100000 in
theorem fp_X2_22 : xFP RX2 22 [(2, 3)] false (.object "NeverBelow$Polynomial") := List.forall_mem_cons.mpr ⟨⟨RX2, RX2, TX2, 11, tyX2, rfl, by decide, xi_2, xw_42, Or.inl rfl, rfl, by decide +kernel, tyX2_ok, nmX2, fun h => by cases h⟩, fun _ h => absurd h List.not_mem_nil⟩
set_option maxRecDepth 100000 in
theorem fl_X2_9 : xFL RX2 9 [(2, 0)] := List.forall_mem_cons.mpr ⟨⟨RX2, RX2, TX2, 11, rfl, by decide, xi_2, xw_36, Or.inl rfl⟩, fun _ h => absurd h List.not_mem_nil⟩
set_option maxRecDepth 100000 in
theorem cp_X2_26 : xCp RX2 26 := ⟨xw_350, xw_214, xw_213, xw_8⟩
set_option maxRecDepth 100000 in
theorem fl_X2_15 : xFL RX2 15 [(2, 1)] := List.forall_mem_cons.mpr ⟨⟨RX2, RX2, TX2, 11, rfl, by decide, xi_2, xw_39, Or.inl rfl⟩, fun _ h => absurd h List.not_mem_nil⟩
set_option maxRecDepth 100000 in
theorem fp_X2_32 : xFP RX2 32 [(2, 6)] false .int := List.forall_mem_cons.mpr ⟨⟨RX2, RX2, TX2, 11, tyX2, rfl, by decide, xi_2, xw_46, Or.inl rfl, rfl, by decide +kernel, tyX2_ok, nmX2, fun h => by cases h⟩, fun _ h => absurd h List.not_mem_nil⟩
set_option maxRecDepth 100000 in
theorem fp_X2_36 : xFP RX2 36 [(2, 7)] false .boolean := List.forall_mem_cons.mpr ⟨⟨RX2, RX2, TX2, 11, tyX2, rfl, by decide, xi_2, xw_48, Or.inl rfl, rfl, by decide +kernel, tyX2_ok, nmX2, fun h => by cases h⟩, fun _ h => absurd h List.not_mem_nil⟩
set_option maxRecDepth 100000 in
theorem fl_X10_36 : xFL RX10 36 [(9, 4)] := List.forall_mem_cons.mpr ⟨⟨RX10, RX10, TX10, 10, rfl, by decide, xi_9, xw_125, Or.inl rfl⟩, fun _ h => absurd h List.not_mem_nil⟩
set_option maxRecDepth 100000 in
theorem cd_X2_begin : xCd yX2_begin cX2_begin 4 none 3 := ⟨xw_349, xw_2, by decide +kernel, by decide +kernel⟩
set_option maxRecDepth 100000 in
theorem lv_X10_169_2 : xLV RX10 169 2 yX2_begin := ⟨⟨_, _, rfl⟩, xw_346, xw_347, xw_348⟩
set_option maxRecDepth 100000 in
theorem fp_X10_173 : xFP RX10 173 [(2, 4)] false .int := List.forall_mem_cons.mpr ⟨⟨RX2, RX2, TX2, 11, tyX2, rfl, by decide, xi_2, xw_44, Or.inl rfl, rfl, by decide +kernel, tyX2_ok, nmX2, fun h => by cases h⟩, fun _ h => absurd h List.not_mem_nil⟩
set_option maxRecDepth 100000 in
theorem fp_X10_176 : xFP RX10 176 [(2, 5)] false .int := List.forall_mem_cons.mpr ⟨⟨RX2, RX2, TX2, 11, tyX2, rfl, by decide, xi_2, xw_45, Or.inl rfl, rfl, by decide +kernel, tyX2_ok, nmX2, fun h => by cases h⟩, fun _ h => absurd h List.not_mem_nil⟩
set_option maxRecDepth 100000 in
theorem ls_X2_78 : xLSN RX2 78 yX10_lengthOf := ⟨xw_379, xw_334⟩
set_option maxRecDepth 100000 in
theorem ls_X2_82 : xLSN RX2 82 yX10_isOdd := ⟨xw_380, xw_337⟩
set_option maxRecDepth 100000 in
theorem fl_X2_32 : xFL RX2 32 [(2, 6)] := List.forall_mem_cons.mpr ⟨⟨RX2, RX2, TX2, 11, rfl, by decide, xi_2, xw_46, Or.inl rfl⟩, fun _ h => absurd h List.not_mem_nil⟩
set_option maxRecDepth 100000 in
theorem fp_X2_40 : xFP RX2 40 [(2, 10)] false .boolean := List.forall_mem_cons.mpr ⟨⟨RX2, RX2, TX2, 11, tyX2, rfl, by decide, xi_2, xw_54, Or.inl rfl, rfl, by decide +kernel, tyX2_ok, nmX2, fun h => by cases h⟩, fun _ h => absurd h List.not_mem_nil⟩
set_option maxRecDepth 100000 in
theorem ls_X2_85 : xLSN RX2 85 yX10_halve := ⟨xw_381, xw_340⟩
set_option maxRecDepth 100000 in
theorem fp_X2_72 : xFP RX2 72 [(2, 8)] false .int := List.forall_mem_cons.mpr ⟨⟨RX2, RX2, TX2, 11, tyX2, rfl, by decide, xi_2, xw_50, Or.inl rfl, rfl, by decide +kernel, tyX2_ok, nmX2, fun h => by cases h⟩, fun _ h => absurd h List.not_mem_nil⟩
set_option maxRecDepth 100000 in
theorem fp_X2_75 : xFP RX2 75 [(2, 9)] false .int := List.forall_mem_cons.mpr ⟨⟨RX2, RX2, TX2, 11, tyX2, rfl, by decide, xi_2, xw_52, Or.inl rfl, rfl, by decide +kernel, tyX2_ok, nmX2, fun h => by cases h⟩, fun _ h => absurd h List.not_mem_nil⟩
set_option maxRecDepth 100000 in
theorem fl_X2_36 : xFL RX2 36 [(2, 7)] := List.forall_mem_cons.mpr ⟨⟨RX2, RX2, TX2, 11, rfl, by decide, xi_2, xw_48, Or.inl rfl⟩, fun _ h => absurd h List.not_mem_nil⟩
set_option maxRecDepth 100000 in
theorem cd_X2_firstOpen : xCd yX2_firstOpen cX2_firstOpen 2 (some .int) 0 := ⟨xw_366, xw_2, by decide +kernel, by decide +kernel⟩
set_option maxRecDepth 100000 in
theorem lv_X2_47_2 : xLV RX2 47 2 yX2_firstOpen := ⟨⟨_, _, rfl⟩, xw_363, xw_365, xwp_6⟩
set_option maxRecDepth 100000 in
theorem fl_X2_22 : xFL RX2 22 [(2, 3)] := List.forall_mem_cons.mpr ⟨⟨RX2, RX2, TX2, 11, rfl, by decide, xi_2, xw_42, Or.inl rfl⟩, fun _ h => absurd h List.not_mem_nil⟩
set_option maxRecDepth 100000 in
theorem fl_X2_18 : xFL RX2 18 [(2, 2)] := List.forall_mem_cons.mpr ⟨⟨RX2, RX2, TX2, 11, rfl, by decide, xi_2, xw_41, Or.inl rfl⟩, fun _ h => absurd h List.not_mem_nil⟩
set_option maxRecDepth 100000 in
theorem lv_X2_51_4 : xLV RX2 51 4 yX4_cornersOn := ⟨⟨_, _, rfl⟩, xw_367, xw_313, xw_314⟩
set_option maxRecDepth 100000 in
theorem ls_X2_57 : xLSN RX2 57 yX10_leastOf := ⟨xw_368, xw_318⟩
set_option maxRecDepth 100000 in
theorem cd_X2_cutPart : xCd yX2_cutPart cX2_cutPart 6 (some .boolean) 1 := ⟨xw_378, xw_2, by decide +kernel, by decide +kernel⟩
set_option maxRecDepth 100000 in
theorem lv_X2_68_2 : xLV RX2 68 2 yX2_cutPart := ⟨⟨_, _, rfl⟩, xw_375, xw_377, xwp_8⟩
set_option maxRecDepth 100000 in
theorem cd_X2_markBelow : xCd yX2_markBelow cX2_markBelow 3 none 2 := ⟨xw_374, xw_2, by decide +kernel, by decide +kernel⟩
set_option maxRecDepth 100000 in
theorem lv_X2_64_2 : xLV RX2 64 2 yX2_markBelow := ⟨⟨_, _, rfl⟩, xw_371, xw_373, xwp_7⟩
set_option maxRecDepth 100000 in
theorem cd_X2_step : xCd yX2_step cX2_step 3 (some .boolean) 0 := ⟨xw_362, xw_2, by decide +kernel, by decide +kernel⟩
set_option maxRecDepth 100000 in
theorem lv_X2_43_2 : xLV RX2 43 2 yX2_step := ⟨⟨_, _, rfl⟩, xw_359, xw_361, xwp_5⟩
set_option maxRecDepth 100000 in
theorem fl_X10_179 : xFL RX10 179 [(2, 3)] := List.forall_mem_cons.mpr ⟨⟨RX2, RX2, TX2, 11, rfl, by decide, xi_2, xw_43, Or.inl rfl⟩, fun _ h => absurd h List.not_mem_nil⟩
set_option maxRecDepth 100000 in
theorem cd_X2_steps : xCd yX2_steps cX2_steps 3 (some .int) 1 := ⟨xw_358, xw_2, by decide +kernel, by decide +kernel⟩
set_option maxRecDepth 100000 in
theorem lv_X10_183_2 : xLV RX10 183 2 yX2_steps := ⟨⟨_, _, rfl⟩, xw_355, xw_356, xw_357⟩
set_option maxRecDepth 100000 in
theorem fl_X10_186 : xFL RX10 186 [(2, 10)] := List.forall_mem_cons.mpr ⟨⟨RX2, RX2, TX2, 11, rfl, by decide, xi_2, xw_55, Or.inl rfl⟩, fun _ h => absurd h List.not_mem_nil⟩
set_option maxRecDepth 100000 in
theorem cd_X2_countOf : xCd yX2_countOf cX2_countOf 4 (some .int) 1 := ⟨xw_389, xw_2, by decide +kernel, by decide +kernel⟩
set_option maxRecDepth 100000 in
theorem lv_X10_193_2 : xLV RX10 193 2 yX2_countOf := ⟨⟨_, _, rfl⟩, xw_386, xw_387, xw_388⟩
set_option maxRecDepth 100000 in
theorem fl_X10_190 : xFL RX10 190 [(2, 6)] := List.forall_mem_cons.mpr ⟨⟨RX2, RX2, TX2, 11, rfl, by decide, xi_2, xw_47, Or.inl rfl⟩, fun _ h => absurd h List.not_mem_nil⟩
set_option maxRecDepth 100000 in
theorem fl_X10_199 : xFL RX10 199 [(2, 0)] := List.forall_mem_cons.mpr ⟨⟨RX2, RX2, TX2, 11, rfl, by decide, xi_2, xw_38, Or.inl rfl⟩, fun _ h => absurd h List.not_mem_nil⟩
set_option maxRecDepth 100000 in
theorem fl_X10_196 : xFL RX10 196 [(2, 1)] := List.forall_mem_cons.mpr ⟨⟨RX2, RX2, TX2, 11, rfl, by decide, xi_2, xw_40, Or.inl rfl⟩, fun _ h => absurd h List.not_mem_nil⟩
set_option maxRecDepth 100000 in
theorem fl_X10_202 : xFL RX10 202 [(2, 7)] := List.forall_mem_cons.mpr ⟨⟨RX2, RX2, TX2, 11, rfl, by decide, xi_2, xw_49, Or.inl rfl⟩, fun _ h => absurd h List.not_mem_nil⟩
set_option maxRecDepth 100000 in
theorem fl_X10_208 : xFL RX10 208 [(2, 9)] := List.forall_mem_cons.mpr ⟨⟨RX2, RX2, TX2, 11, rfl, by decide, xi_2, xw_53, Or.inl rfl⟩, fun _ h => absurd h List.not_mem_nil⟩
set_option maxRecDepth 100000 in
theorem fl_X10_205 : xFL RX10 205 [(2, 8)] := List.forall_mem_cons.mpr ⟨⟨RX2, RX2, TX2, 11, rfl, by decide, xi_2, xw_51, Or.inl rfl⟩, fun _ h => absurd h List.not_mem_nil⟩
set_option maxRecDepth 100000 in
theorem ls_X2_93 : xLS RX2 93 yJ9_min_f86c9 := ⟨xw_407, xw_321⟩
set_option maxRecDepth 100000 in
theorem cd_X2_leastCorner : xCd yX2_leastCorner cX2_leastCorner 4 (some .long) 0 := ⟨xw_405, xw_2, by decide +kernel, by decide +kernel⟩
set_option maxRecDepth 100000 in
theorem lv_X10_211_2 : xLV RX10 211 2 yX2_leastCorner := ⟨⟨_, _, rfl⟩, xw_402, xw_403, xw_404⟩
set_option maxRecDepth 100000 in
theorem cd_X4_isForm : xCd yX4_isForm cX4_isForm 1 (some .boolean) 0 := ⟨xw_415, xw_9, by decide +kernel, by decide +kernel⟩
set_option maxRecDepth 100000 in
theorem lv_X10_215_4 : xLV RX10 215 4 yX4_isForm := ⟨⟨_, _, rfl⟩, xw_412, xw_413, xw_414⟩
set_option maxRecDepth 100000 in
theorem cd_X4_formNumber : xCd yX4_formNumber cX4_formNumber 5 (some .long) 2 := ⟨xw_419, xw_9, by decide +kernel, by decide +kernel⟩
set_option maxRecDepth 100000 in
theorem lv_X10_219_4 : xLV RX10 219 4 yX4_formNumber := ⟨⟨_, _, rfl⟩, xw_416, xw_417, xw_418⟩
set_option maxRecDepth 100000 in
theorem fl_X10_308 : xFL RX10 308 [(9, 8)] := List.forall_mem_cons.mpr ⟨⟨RX10, RX10, TX10, 10, rfl, by decide, xi_9, xw_129, Or.inl rfl⟩, fun _ h => absurd h List.not_mem_nil⟩
set_option maxRecDepth 100000 in
theorem fl_X10_29 : xFL RX10 29 [(9, 3)] := List.forall_mem_cons.mpr ⟨⟨RX10, RX10, TX10, 10, rfl, by decide, xi_9, xw_124, Or.inl rfl⟩, fun _ h => absurd h List.not_mem_nil⟩
set_option maxRecDepth 100000 in
theorem fp_X10_308 : xFP RX10 308 [(9, 8)] false .int := List.forall_mem_cons.mpr ⟨⟨RX10, RX10, TX10, 10, tyX10, rfl, by decide, xi_9, xw_129, Or.inl rfl, rfl, by decide +kernel, tyX10_ok, nmX10, fun h => by cases h⟩, fun _ h => absurd h List.not_mem_nil⟩
set_option maxRecDepth 100000 in
theorem cd_J9_min_7cf53 : xCd yJ9_min_7cf53 cJ9_min_7cf53 2 (some .int) 2 := ⟨xw_450, xw_7, by decide +kernel, by decide +kernel⟩
set_option maxRecDepth 100000 in
theorem ls_J7_304 : xLS RJ7 304 yJ9_min_7cf53 := ⟨xw_448, xw_449⟩
set_option maxRecDepth 100000 in
theorem cp_J7_150 : xCp RJ7 150 := ⟨xw_451, xw_214, xw_213, xw_8⟩
set_option maxRecDepth 100000 in
theorem cl_J7_319 : xLC RJ7 319 := ⟨xw_441, xw_442, xw_443, xw_444, xw_445, xw_446⟩
set_option maxRecDepth 100000 in
theorem lv_X4_48_4 : xLV RX4 48 4 yX4_formNumber := ⟨⟨_, _, rfl⟩, xw_430, xw_417, xw_418⟩
set_option maxRecDepth 100000 in
theorem cd_J7_copyOf_c38d5 : xCd yJ7_copyOf_c38d5 cJ7_copyOf_c38d5 3 (some (.array .long)) 2 := ⟨xw_440, xw_10, by decide +kernel, by decide +kernel⟩
set_option maxRecDepth 100000 in
theorem ls_X4_35 : xLS RX4 35 yJ7_copyOf_c38d5 := ⟨xw_438, xw_439⟩
set_option maxRecDepth 100000 in
theorem cd_X4_hasBehind : xCd yX4_hasBehind cX4_hasBehind 3 (some .boolean) 2 := ⟨xw_433, xw_9, by decide +kernel, by decide +kernel⟩
set_option maxRecDepth 100000 in
theorem ls_X4_52 : xLS RX4 52 yX4_hasBehind := ⟨xw_431, xw_432⟩
set_option maxRecDepth 100000 in
theorem cp_X4_56 : xCp RX4 56 := ⟨xw_434, xw_214, xw_213, xw_8⟩
set_option maxRecDepth 100000 in
theorem cd_X4_clearBehind : xCd yX4_clearBehind cX4_clearBehind 8 none 3 := ⟨xw_437, xw_9, by decide +kernel, by decide +kernel⟩
set_option maxRecDepth 100000 in
theorem ls_X4_62 : xLS RX4 62 yX4_clearBehind := ⟨xw_435, xw_436⟩
set_option maxRecDepth 100000 in
theorem lo_X5_3 : xLO RX5 3 := ⟨xw_460, xw_22, xw_23⟩
set_option maxRecDepth 100000 in
theorem xi_0 : ∀ w ∈ u_ws RX0 TX0 6, w ∈ xws := fun w h => by
  obtain ⟨j, hj, rfl⟩ := List.mem_map.mp h
  rcases (show j = 0 ∨ j = 1 ∨ j = 2 ∨ j = 3 ∨ j = 4 ∨ j = 5 by have := List.mem_range.mp hj; omega) with rfl | rfl | rfl | rfl | rfl | rfl
  · exact xw_532
  · exact xw_533
  · exact xw_534
  · exact xw_535
  · exact xw_528
  · exact xw_530
set_option maxRecDepth 100000 in
theorem xi_3 : ∀ w ∈ u_ws RX3 TX3 6, w ∈ xws := fun w h => by
  obtain ⟨j, hj, rfl⟩ := List.mem_map.mp h
  rcases (show j = 0 ∨ j = 1 ∨ j = 2 ∨ j = 3 ∨ j = 4 ∨ j = 5 by have := List.mem_range.mp hj; omega) with rfl | rfl | rfl | rfl | rfl | rfl
  · exact xw_547
  · exact xw_548
  · exact xw_549
  · exact xw_550
  · exact xw_551
  · exact xw_552
set_option maxRecDepth 100000 in
theorem xi_6 : ∀ w ∈ u_ws RX7 TX7 4, w ∈ xws := fun w h => by
  obtain ⟨j, hj, rfl⟩ := List.mem_map.mp h
  rcases (show j = 0 ∨ j = 1 ∨ j = 2 ∨ j = 3 by have := List.mem_range.mp hj; omega) with rfl | rfl | rfl | rfl
  · exact xw_575
  · exact xw_576
  · exact xw_577
  · exact xw_578
set_option maxRecDepth 100000 in
theorem xi_7 : ∀ w ∈ u_ws RX8 TX8 4, w ∈ xws := fun w h => by
  obtain ⟨j, hj, rfl⟩ := List.mem_map.mp h
  rcases (show j = 0 ∨ j = 1 ∨ j = 2 ∨ j = 3 by have := List.mem_range.mp hj; omega) with rfl | rfl | rfl | rfl
  · exact xw_482
  · exact xw_484
  · exact xw_486
  · exact xw_488
set_option maxRecDepth 100000 in
theorem fp_X5_9 : xFP RX5 9 [(0, 0), (3, 2), (6, 0), (7, 0)] true .int := List.forall_mem_cons.mpr ⟨⟨RX5, RX0, TX0, 6, tyX0, rfl, by decide, xi_0, xw_461, Or.inl rfl, rfl, by decide +kernel, tyX0_ok, nmX0, fun _ => rfl⟩, List.forall_mem_cons.mpr ⟨⟨RX5, RX3, TX3, 6, tyX3, rfl, by decide, xi_3, xw_461, Or.inl rfl, rfl, by decide +kernel, tyX3_ok, nmX3, fun _ => rfl⟩, List.forall_mem_cons.mpr ⟨⟨RX5, RX7, TX7, 4, tyX7, rfl, by decide, xi_6, xw_461, Or.inl rfl, rfl, by decide +kernel, tyX7_ok, nmX7, fun _ => rfl⟩, List.forall_mem_cons.mpr ⟨⟨RX5, RX8, TX8, 4, tyX8, rfl, by decide, xi_7, xw_461, Or.inl rfl, rfl, by decide +kernel, tyX8_ok, nmX8, fun _ => rfl⟩, fun _ h => absurd h List.not_mem_nil⟩⟩⟩⟩
set_option maxRecDepth 100000 in
theorem fp_X5_15 : xFP RX5 15 [(0, 1), (3, 3), (6, 1), (7, 1)] true (.object "NeverBelow$Polynomial") := List.forall_mem_cons.mpr ⟨⟨RX5, RX0, TX0, 6, tyX0, rfl, by decide, xi_0, xw_463, Or.inl rfl, rfl, by decide +kernel, tyX0_ok, nmX0, fun _ => rfl⟩, List.forall_mem_cons.mpr ⟨⟨RX5, RX3, TX3, 6, tyX3, rfl, by decide, xi_3, xw_463, Or.inl rfl, rfl, by decide +kernel, tyX3_ok, nmX3, fun _ => rfl⟩, List.forall_mem_cons.mpr ⟨⟨RX5, RX7, TX7, 4, tyX7, rfl, by decide, xi_6, xw_463, Or.inl rfl, rfl, by decide +kernel, tyX7_ok, nmX7, fun _ => rfl⟩, List.forall_mem_cons.mpr ⟨⟨RX5, RX8, TX8, 4, tyX8, rfl, by decide, xi_7, xw_463, Or.inl rfl, rfl, by decide +kernel, tyX8_ok, nmX8, fun _ => rfl⟩, fun _ h => absurd h List.not_mem_nil⟩⟩⟩⟩
set_option maxRecDepth 100000 in
theorem fp_X5_19 : xFP RX5 19 [(0, 2), (3, 4), (6, 2), (7, 2)] true .int := List.forall_mem_cons.mpr ⟨⟨RX5, RX0, TX0, 6, tyX0, rfl, by decide, xi_0, xw_470, Or.inl rfl, rfl, by decide +kernel, tyX0_ok, nmX0, fun _ => rfl⟩, List.forall_mem_cons.mpr ⟨⟨RX5, RX3, TX3, 6, tyX3, rfl, by decide, xi_3, xw_470, Or.inl rfl, rfl, by decide +kernel, tyX3_ok, nmX3, fun _ => rfl⟩, List.forall_mem_cons.mpr ⟨⟨RX5, RX7, TX7, 4, tyX7, rfl, by decide, xi_6, xw_470, Or.inl rfl, rfl, by decide +kernel, tyX7_ok, nmX7, fun _ => rfl⟩, List.forall_mem_cons.mpr ⟨⟨RX5, RX8, TX8, 4, tyX8, rfl, by decide, xi_7, xw_470, Or.inl rfl, rfl, by decide +kernel, tyX8_ok, nmX8, fun _ => rfl⟩, fun _ h => absurd h List.not_mem_nil⟩⟩⟩⟩
set_option maxRecDepth 100000 in
theorem fp_X5_22 : xFP RX5 22 [(0, 3), (3, 5), (6, 3), (7, 3)] true (.array .long) := List.forall_mem_cons.mpr ⟨⟨RX5, RX0, TX0, 6, tyX0, rfl, by decide, xi_0, xw_472, Or.inl rfl, rfl, by decide +kernel, tyX0_ok, nmX0, fun _ => rfl⟩, List.forall_mem_cons.mpr ⟨⟨RX5, RX3, TX3, 6, tyX3, rfl, by decide, xi_3, xw_472, Or.inl rfl, rfl, by decide +kernel, tyX3_ok, nmX3, fun _ => rfl⟩, List.forall_mem_cons.mpr ⟨⟨RX5, RX7, TX7, 4, tyX7, rfl, by decide, xi_6, xw_472, Or.inl rfl, rfl, by decide +kernel, tyX7_ok, nmX7, fun _ => rfl⟩, List.forall_mem_cons.mpr ⟨⟨RX5, RX8, TX8, 4, tyX8, rfl, by decide, xi_7, xw_472, Or.inl rfl, rfl, by decide +kernel, tyX8_ok, nmX8, fun _ => rfl⟩, fun _ h => absurd h List.not_mem_nil⟩⟩⟩⟩
set_option maxRecDepth 100000 in
theorem cd_X5_init : xCd yX5_init cX5_init 5 none 4 := ⟨xw_459, xw_11, by decide +kernel, by decide +kernel⟩
set_option maxRecDepth 100000 in
theorem li_X8_3 : xLI RX8 3 yX5_init := ⟨xw_457, rfl, xw_458⟩
set_option maxRecDepth 100000 in
theorem cd_X4_squareNumbers : xCd yX4_squareNumbers cX4_squareNumbers 10 (some (.array .long)) 1 := ⟨xw_429, xw_9, by decide +kernel, by decide +kernel⟩
set_option maxRecDepth 100000 in
theorem lv_X10_223_4 : xLV RX10 223 4 yX4_squareNumbers := ⟨⟨_, _, rfl⟩, xw_426, xw_427, xw_428⟩
set_option maxRecDepth 100000 in
theorem no_X10_227 : xNO RX10 227 7 4 [.int 0, .null, .int 0, .null] := ⟨RX8, TX8, tyX8, rfl, xi_7, tyX8_ok, xw_452, xw_453, xw_12, fun j hj => by
  rcases (show j = 0 ∨ j = 1 ∨ j = 2 ∨ j = 3 by omega) with rfl | rfl | rfl | rfl <;> rfl⟩
set_option maxRecDepth 100000 in
theorem cd_X8_init : xCd yX8_init cX8_init 5 none 4 := ⟨xw_456, xw_12, by decide +kernel, by decide +kernel⟩
set_option maxRecDepth 100000 in
theorem li_X10_229 : xLI RX10 229 yX8_init := ⟨xw_454, rfl, xw_455⟩
set_option maxRecDepth 100000 in
theorem cd_X10_keepProof : xCd yX10_keepProof cX10_keepProof 2 (some .int) 1 := ⟨xw_494, xw_1, by decide +kernel, by decide +kernel⟩
set_option maxRecDepth 100000 in
theorem lv_X10_232_9 : xLV RX10 232 9 yX10_keepProof := ⟨⟨_, _, rfl⟩, xw_491, xw_493, xwp_9⟩
set_option maxRecDepth 100000 in
theorem cd_J7_checkLength_df160 : xCd yJ7_checkLength_df160 cJ7_checkLength_df160 2 none 2 := ⟨xw_514, xw_10, by decide +kernel, by decide +kernel⟩
set_option maxRecDepth 100000 in
theorem ls_J7_343 : xLS RJ7 343 yJ7_checkLength_df160 := ⟨xw_512, xw_513⟩
set_option maxRecDepth 100000 in
theorem cd_J7_copyOfRangeInt_feecc : xCd yJ7_copyOfRangeInt_feecc cJ7_copyOfRangeInt_feecc 5 (some (.array .int)) 3 := ⟨xw_511, xw_10, by decide +kernel, by decide +kernel⟩
set_option maxRecDepth 100000 in
theorem ls_J7_351 : xLS RJ7 351 yJ7_copyOfRangeInt_feecc := ⟨xw_509, xw_510⟩
set_option maxRecDepth 100000 in
theorem cd_J7_copyOfRange_feecc : xCd yJ7_copyOfRange_feecc cJ7_copyOfRange_feecc 3 (some (.array .int)) 3 := ⟨xw_508, xw_10, by decide +kernel, by decide +kernel⟩
set_option maxRecDepth 100000 in
theorem ls_X10_311 : xLS RX10 311 yJ7_copyOfRange_feecc := ⟨xw_506, xw_507⟩
set_option maxRecDepth 100000 in
theorem li_X0_3 : xLI RX0 3 yX5_init := ⟨xw_523, rfl, xw_458⟩
set_option maxRecDepth 100000 in
theorem fp_X0_9 : xFP RX0 9 [(0, 4), (3, 0)] true .int := List.forall_mem_cons.mpr ⟨⟨RX0, RX0, TX0, 6, tyX0, rfl, by decide, xi_0, xw_524, Or.inl rfl, rfl, by decide +kernel, tyX0_ok, nmX0, fun _ => rfl⟩, List.forall_mem_cons.mpr ⟨⟨RX0, RX3, TX3, 6, tyX3, rfl, by decide, xi_3, xw_524, Or.inl rfl, rfl, by decide +kernel, tyX3_ok, nmX3, fun _ => rfl⟩, fun _ h => absurd h List.not_mem_nil⟩⟩
set_option maxRecDepth 100000 in
theorem fp_X0_15 : xFP RX0 15 [(0, 5), (3, 1)] true (.array .int) := List.forall_mem_cons.mpr ⟨⟨RX0, RX0, TX0, 6, tyX0, rfl, by decide, xi_0, xw_525, Or.inl rfl, rfl, by decide +kernel, tyX0_ok, nmX0, fun _ => rfl⟩, List.forall_mem_cons.mpr ⟨⟨RX0, RX3, TX3, 6, tyX3, rfl, by decide, xi_3, xw_525, Or.inl rfl, rfl, by decide +kernel, tyX3_ok, nmX3, fun _ => rfl⟩, fun _ h => absurd h List.not_mem_nil⟩⟩
set_option maxRecDepth 100000 in
theorem ls_X10_236 : xLS RX10 236 yJ7_copyOf_c38d5 := ⟨xw_499, xw_439⟩
set_option maxRecDepth 100000 in
theorem no_X10_242 : xNO RX10 242 0 6 [.int 0, .null, .int 0, .null, .int 0, .null] := ⟨RX0, TX0, tyX0, rfl, xi_0, tyX0_ok, xw_500, xw_501, xw_13, fun j hj => by
  rcases (show j = 0 ∨ j = 1 ∨ j = 2 ∨ j = 3 ∨ j = 4 ∨ j = 5 by omega) with rfl | rfl | rfl | rfl | rfl | rfl <;> rfl⟩
set_option maxRecDepth 100000 in
theorem cd_X10_sidesOf : xCd yX10_sidesOf cX10_sidesOf 2 (some (.array .int)) 1 := ⟨xw_505, xw_1, by decide +kernel, by decide +kernel⟩
set_option maxRecDepth 100000 in
theorem lv_X10_244_9 : xLV RX10 244 9 yX10_sidesOf := ⟨⟨_, _, rfl⟩, xw_502, xw_504, xwp_10⟩
set_option maxRecDepth 100000 in
theorem cd_X0_init : xCd yX0_init cX0_init 7 none 6 := ⟨xw_522, xw_13, by decide +kernel, by decide +kernel⟩
set_option maxRecDepth 100000 in
theorem li_X10_248 : xLI RX10 248 yX0_init := ⟨xw_520, rfl, xw_521⟩
set_option maxRecDepth 100000 in
theorem li_X3_3 : xLI RX3 3 yX0_init := ⟨xw_546, rfl, xw_521⟩
set_option maxRecDepth 100000 in
theorem fl_X10_176 : xFL RX10 176 [(2, 5)] := List.forall_mem_cons.mpr ⟨⟨RX2, RX2, TX2, 11, rfl, by decide, xi_2, xw_45, Or.inl rfl⟩, fun _ h => absurd h List.not_mem_nil⟩
set_option maxRecDepth 100000 in
theorem no_X10_251 : xNO RX10 251 3 6 [.int 0, .null, .int 0, .null, .int 0, .null] := ⟨RX3, TX3, tyX3, rfl, xi_3, tyX3_ok, xw_541, xw_542, xw_14, fun j hj => by
  rcases (show j = 0 ∨ j = 1 ∨ j = 2 ∨ j = 3 ∨ j = 4 ∨ j = 5 by omega) with rfl | rfl | rfl | rfl | rfl | rfl <;> rfl⟩
set_option maxRecDepth 100000 in
theorem fl_X10_173 : xFL RX10 173 [(2, 4)] := List.forall_mem_cons.mpr ⟨⟨RX2, RX2, TX2, 11, rfl, by decide, xi_2, xw_44, Or.inl rfl⟩, fun _ h => absurd h List.not_mem_nil⟩
set_option maxRecDepth 100000 in
theorem cd_X3_init : xCd yX3_init cX3_init 6 none 5 := ⟨xw_545, xw_14, by decide +kernel, by decide +kernel⟩
set_option maxRecDepth 100000 in
theorem li_X10_253 : xLI RX10 253 yX3_init := ⟨xw_543, rfl, xw_544⟩
set_option maxRecDepth 100000 in
theorem ls_X4_41 : xLSN RX4 41 yX10_areCoefficients := ⟨xw_566, xw_220⟩
set_option maxRecDepth 100000 in
theorem no_X4_10 : xNO RX4 10 4 1 [.null] := ⟨RX4, TX4, tyX4, rfl, xi_4, tyX4_ok, xw_567, xw_226, xw_9, fun j hj => by
  rcases (show j = 0 by omega) with rfl <;> rfl⟩
set_option maxRecDepth 100000 in
theorem li_X4_45 : xLI RX4 45 yX4_init := ⟨xw_568, rfl, xw_228⟩
set_option maxRecDepth 100000 in
theorem li_X7_3 : xLI RX7 3 yX8_init := ⟨xw_574, rfl, xw_455⟩
set_option maxRecDepth 100000 in
theorem cd_X10_isWeight : xCd yX10_isWeight cX10_isWeight 1 (some .boolean) 1 := ⟨xw_560, xw_1, by decide +kernel, by decide +kernel⟩
set_option maxRecDepth 100000 in
theorem ls_X10_256 : xLS RX10 256 yX10_isWeight := ⟨xw_558, xw_559⟩
set_option maxRecDepth 100000 in
theorem cd_X4_lessSpan : xCd yX4_lessSpan cX4_lessSpan 14 (some (.object "NeverBelow$Polynomial")) 4 := ⟨xw_564, xw_9, by decide +kernel, by decide +kernel⟩
set_option maxRecDepth 100000 in
theorem lv_X10_259_4 : xLV RX10 259 4 yX4_lessSpan := ⟨⟨_, _, rfl⟩, xw_561, xw_562, xw_563⟩
set_option maxRecDepth 100000 in
theorem no_X10_263 : xNO RX10 263 6 4 [.int 0, .null, .int 0, .null] := ⟨RX7, TX7, tyX7, rfl, xi_6, tyX7_ok, xw_569, xw_570, xw_15, fun j hj => by
  rcases (show j = 0 ∨ j = 1 ∨ j = 2 ∨ j = 3 by omega) with rfl | rfl | rfl | rfl <;> rfl⟩
set_option maxRecDepth 100000 in
theorem cd_X7_init : xCd yX7_init cX7_init 4 none 3 := ⟨xw_573, xw_15, by decide +kernel, by decide +kernel⟩
set_option maxRecDepth 100000 in
theorem li_X10_265 : xLI RX10 265 yX7_init := ⟨xw_571, rfl, xw_572⟩
set_option maxRecDepth 100000 in
theorem fl_X0_9 : xFL RX0 9 [(0, 4), (3, 0)] := List.forall_mem_cons.mpr ⟨⟨RX0, RX0, TX0, 6, rfl, by decide, xi_0, xw_524, Or.inl rfl⟩, List.forall_mem_cons.mpr ⟨⟨RX0, RX3, TX3, 6, rfl, by decide, xi_3, xw_524, Or.inl rfl⟩, fun _ h => absurd h List.not_mem_nil⟩⟩
set_option maxRecDepth 100000 in
theorem fl_X3_9 : xFL RX3 9 [(3, 5)] := List.forall_mem_cons.mpr ⟨⟨RX3, RX3, TX3, 6, rfl, by decide, xi_3, xw_473, Or.inr xw_474⟩, fun _ h => absurd h List.not_mem_nil⟩
set_option maxRecDepth 100000 in
theorem fl_X7_9 : xFL RX7 9 [(6, 3)] := List.forall_mem_cons.mpr ⟨⟨RX7, RX7, TX7, 4, rfl, by decide, xi_6, xw_475, Or.inr xw_476⟩, fun _ h => absurd h List.not_mem_nil⟩
set_option maxRecDepth 100000 in
theorem cd_X7_spanFrom : xCd yX7_spanFrom cX7_spanFrom 1 (some .int) 0 := ⟨xw_603, xw_15, by decide +kernel, by decide +kernel⟩
set_option maxRecDepth 100000 in
theorem lv_X7_15_6 : xLV RX7 15 6 yX7_spanFrom := ⟨⟨_, _, rfl⟩, xw_600, xw_602, xwp_12⟩
set_option maxRecDepth 100000 in
theorem fl_X8_9 : xFL RX8 9 [(6, 3), (7, 3)] := List.forall_mem_cons.mpr ⟨⟨RX8, RX7, TX7, 4, rfl, by decide, xi_6, xw_477, Or.inr xw_478⟩, List.forall_mem_cons.mpr ⟨⟨RX8, RX8, TX8, 4, rfl, by decide, xi_7, xw_477, Or.inr xw_478⟩, fun _ h => absurd h List.not_mem_nil⟩⟩
set_option maxRecDepth 100000 in
theorem cd_X10_proofOf : xCd yX10_proofOf cX10_proofOf 2 (some (.object "NeverBelow$Proof")) 1 := ⟨xw_587, xw_1, by decide +kernel, by decide +kernel⟩
set_option maxRecDepth 100000 in
theorem lv_X10_268_9 : xLV RX10 268 9 yX10_proofOf := ⟨⟨_, _, rfl⟩, xw_584, xw_586, xwp_11⟩
set_option maxRecDepth 100000 in
theorem fl_X10_272 : xFL RX10 272 [(0, 0), (3, 2), (6, 0), (7, 0)] := List.forall_mem_cons.mpr ⟨⟨RX5, RX0, TX0, 6, rfl, by decide, xi_0, xw_462, Or.inl rfl⟩, List.forall_mem_cons.mpr ⟨⟨RX5, RX3, TX3, 6, rfl, by decide, xi_3, xw_462, Or.inl rfl⟩, List.forall_mem_cons.mpr ⟨⟨RX5, RX7, TX7, 4, rfl, by decide, xi_6, xw_462, Or.inl rfl⟩, List.forall_mem_cons.mpr ⟨⟨RX5, RX8, TX8, 4, rfl, by decide, xi_7, xw_462, Or.inl rfl⟩, fun _ h => absurd h List.not_mem_nil⟩⟩⟩⟩
set_option maxRecDepth 100000 in
theorem fl_X10_275 : xFL RX10 275 [(0, 2), (3, 4), (6, 2), (7, 2)] := List.forall_mem_cons.mpr ⟨⟨RX5, RX0, TX0, 6, rfl, by decide, xi_0, xw_471, Or.inl rfl⟩, List.forall_mem_cons.mpr ⟨⟨RX5, RX3, TX3, 6, rfl, by decide, xi_3, xw_471, Or.inl rfl⟩, List.forall_mem_cons.mpr ⟨⟨RX5, RX7, TX7, 4, rfl, by decide, xi_6, xw_471, Or.inl rfl⟩, List.forall_mem_cons.mpr ⟨⟨RX5, RX8, TX8, 4, rfl, by decide, xi_7, xw_471, Or.inl rfl⟩, fun _ h => absurd h List.not_mem_nil⟩⟩⟩⟩
set_option maxRecDepth 100000 in
theorem fl_X10_276 : xFL RX10 276 [(0, 3), (3, 5), (6, 3), (7, 3)] := List.forall_mem_cons.mpr ⟨⟨RX5, RX0, TX0, 6, rfl, by decide, xi_0, xw_481, Or.inl rfl⟩, List.forall_mem_cons.mpr ⟨⟨RX5, RX3, TX3, 6, rfl, by decide, xi_3, xw_481, Or.inl rfl⟩, List.forall_mem_cons.mpr ⟨⟨RX5, RX7, TX7, 4, rfl, by decide, xi_6, xw_481, Or.inl rfl⟩, List.forall_mem_cons.mpr ⟨⟨RX5, RX8, TX8, 4, rfl, by decide, xi_7, xw_481, Or.inl rfl⟩, fun _ h => absurd h List.not_mem_nil⟩⟩⟩⟩
set_option maxRecDepth 100000 in
theorem cd_X0_pieces : xCd yX0_pieces cX0_pieces 1 (some .int) 0 := ⟨xw_593, xw_13, by decide +kernel, by decide +kernel⟩
set_option maxRecDepth 100000 in
theorem lu_X10_279_0 : xLU RX10 279 0 "NeverBelow$Proof" ⟨"NeverBelow$Proof", "pieces", "()I"⟩ yX0_pieces := ⟨⟨_, _, _, rfl, xw_591⟩, xw_588, xw_590, xw_592, Or.inl xw_589, rfl, by decide +kernel⟩
set_option maxRecDepth 100000 in
theorem cd_X3_pieces : xCd yX3_pieces cX3_pieces 1 (some .int) 0 := ⟨xw_596, xw_14, by decide +kernel, by decide +kernel⟩
set_option maxRecDepth 100000 in
theorem lu_X10_279_3 : xLU RX10 279 3 "NeverBelow$Proof" ⟨"NeverBelow$Proof", "pieces", "()I"⟩ yX3_pieces := ⟨⟨_, _, _, rfl, xw_594⟩, xw_588, xw_590, xw_595, Or.inl xw_589, rfl, by decide +kernel⟩
set_option maxRecDepth 100000 in
theorem cd_X7_pieces : xCd yX7_pieces cX7_pieces 1 (some .int) 0 := ⟨xw_599, xw_15, by decide +kernel, by decide +kernel⟩
set_option maxRecDepth 100000 in
theorem lu_X10_279_6 : xLU RX10 279 6 "NeverBelow$Proof" ⟨"NeverBelow$Proof", "pieces", "()I"⟩ yX7_pieces := ⟨⟨_, _, _, rfl, xw_597⟩, xw_588, xw_590, xw_598, Or.inl xw_589, rfl, by decide +kernel⟩
set_option maxRecDepth 100000 in
theorem cd_X8_pieces : xCd yX8_pieces cX8_pieces 1 (some .int) 0 := ⟨xw_606, xw_12, by decide +kernel, by decide +kernel⟩
set_option maxRecDepth 100000 in
theorem lu_X10_279_7 : xLU RX10 279 7 "NeverBelow$Proof" ⟨"NeverBelow$Proof", "pieces", "()I"⟩ yX8_pieces := ⟨⟨_, _, _, rfl, xw_604⟩, xw_588, xw_590, xw_605, Or.inl xw_589, rfl, by decide +kernel⟩
set_option maxRecDepth 100000 in
theorem cd_X0_boxNumber : xCd yX0_boxNumber cX0_boxNumber 1 (some .int) 0 := ⟨xw_612, xw_13, by decide +kernel, by decide +kernel⟩
set_option maxRecDepth 100000 in
theorem lu_X10_283_0 : xLU RX10 283 0 "NeverBelow$Proof" ⟨"NeverBelow$Proof", "boxNumber", "()I"⟩ yX0_boxNumber := ⟨⟨_, _, _, rfl, xw_610⟩, xw_607, xw_609, xw_611, Or.inr ⟨_, _, _, xw_608, xw_616⟩, rfl, by decide +kernel⟩
set_option maxRecDepth 100000 in
theorem lu_X10_283_3 : xLU RX10 283 3 "NeverBelow$Proof" ⟨"NeverBelow$Proof", "boxNumber", "()I"⟩ yX0_boxNumber := ⟨⟨_, _, _, rfl, xw_613⟩, xw_607, xw_609, xw_611, Or.inr ⟨_, _, _, xw_608, xw_616⟩, rfl, by decide +kernel⟩
set_option maxRecDepth 100000 in
theorem cd_X5_boxNumber : xCd yX5_boxNumber cX5_boxNumber 1 (some .int) 0 := ⟨xw_616, xw_11, by decide +kernel, by decide +kernel⟩
set_option maxRecDepth 100000 in
theorem lu_X10_283_6 : xLU RX10 283 6 "NeverBelow$Proof" ⟨"NeverBelow$Proof", "boxNumber", "()I"⟩ yX5_boxNumber := ⟨⟨_, _, _, rfl, xw_614⟩, xw_607, xw_609, xw_608, Or.inr ⟨_, _, _, xw_608, xw_616⟩, rfl, by decide +kernel⟩
set_option maxRecDepth 100000 in
theorem lu_X10_283_7 : xLU RX10 283 7 "NeverBelow$Proof" ⟨"NeverBelow$Proof", "boxNumber", "()I"⟩ yX5_boxNumber := ⟨⟨_, _, _, rfl, xw_615⟩, xw_607, xw_609, xw_608, Or.inr ⟨_, _, _, xw_608, xw_616⟩, rfl, by decide +kernel⟩
set_option maxRecDepth 100000 in
theorem fl_X5_22 : xFL RX5 22 [(0, 3), (3, 5), (6, 3), (7, 3)] := List.forall_mem_cons.mpr ⟨⟨RX5, RX0, TX0, 6, rfl, by decide, xi_0, xw_472, Or.inl rfl⟩, List.forall_mem_cons.mpr ⟨⟨RX5, RX3, TX3, 6, rfl, by decide, xi_3, xw_472, Or.inl rfl⟩, List.forall_mem_cons.mpr ⟨⟨RX5, RX7, TX7, 4, rfl, by decide, xi_6, xw_472, Or.inl rfl⟩, List.forall_mem_cons.mpr ⟨⟨RX5, RX8, TX8, 4, rfl, by decide, xi_7, xw_472, Or.inl rfl⟩, fun _ h => absurd h List.not_mem_nil⟩⟩⟩⟩
set_option maxRecDepth 100000 in
theorem cd_X5_has : xCd yX5_has cX5_has 2 (some .boolean) 1 := ⟨xw_628, xw_11, by decide +kernel, by decide +kernel⟩
set_option maxRecDepth 100000 in
theorem lu_X10_285_0 : xLU RX10 285 0 "NeverBelow$Proof" ⟨"NeverBelow$Proof", "has", "(I)Z"⟩ yX5_has := ⟨⟨_, _, _, rfl, xw_624⟩, xw_621, xw_623, xw_622, Or.inr ⟨_, _, _, xw_622, xw_628⟩, rfl, by decide +kernel⟩
set_option maxRecDepth 100000 in
theorem lu_X10_285_3 : xLU RX10 285 3 "NeverBelow$Proof" ⟨"NeverBelow$Proof", "has", "(I)Z"⟩ yX5_has := ⟨⟨_, _, _, rfl, xw_625⟩, xw_621, xw_623, xw_622, Or.inr ⟨_, _, _, xw_622, xw_628⟩, rfl, by decide +kernel⟩
set_option maxRecDepth 100000 in
theorem lu_X10_285_6 : xLU RX10 285 6 "NeverBelow$Proof" ⟨"NeverBelow$Proof", "has", "(I)Z"⟩ yX5_has := ⟨⟨_, _, _, rfl, xw_626⟩, xw_621, xw_623, xw_622, Or.inr ⟨_, _, _, xw_622, xw_628⟩, rfl, by decide +kernel⟩
set_option maxRecDepth 100000 in
theorem lu_X10_285_7 : xLU RX10 285 7 "NeverBelow$Proof" ⟨"NeverBelow$Proof", "has", "(I)Z"⟩ yX5_has := ⟨⟨_, _, _, rfl, xw_627⟩, xw_621, xw_623, xw_622, Or.inr ⟨_, _, _, xw_622, xw_628⟩, rfl, by decide +kernel⟩
set_option maxRecDepth 100000 in
theorem fl_X0_29 : xFL RX0 29 [(0, 1), (3, 3)] := List.forall_mem_cons.mpr ⟨⟨RX0, RX0, TX0, 6, rfl, by decide, xi_0, xw_466, Or.inr xw_467⟩, List.forall_mem_cons.mpr ⟨⟨RX0, RX3, TX3, 6, rfl, by decide, xi_3, xw_466, Or.inr xw_467⟩, fun _ h => absurd h List.not_mem_nil⟩⟩
set_option maxRecDepth 100000 in
theorem fl_X0_15 : xFL RX0 15 [(0, 5), (3, 1)] := List.forall_mem_cons.mpr ⟨⟨RX0, RX0, TX0, 6, rfl, by decide, xi_0, xw_525, Or.inl rfl⟩, List.forall_mem_cons.mpr ⟨⟨RX0, RX3, TX3, 6, rfl, by decide, xi_3, xw_525, Or.inl rfl⟩, fun _ h => absurd h List.not_mem_nil⟩⟩
set_option maxRecDepth 100000 in
theorem fl_X0_33 : xFL RX0 33 [(1, 0)] := List.forall_mem_cons.mpr ⟨⟨RX1, RX1, TX1, 5, rfl, by decide, xi_1, xw_100, Or.inl rfl⟩, fun _ h => absurd h List.not_mem_nil⟩
set_option maxRecDepth 100000 in
theorem lv_X0_37_4 : xLV RX0 37 4 yX4_cornersOn := ⟨⟨_, _, rfl⟩, xw_644, xw_313, xw_314⟩
set_option maxRecDepth 100000 in
theorem fl_X0_43 : xFL RX0 43 [(0, 3), (3, 5)] := List.forall_mem_cons.mpr ⟨⟨RX0, RX0, TX0, 6, rfl, by decide, xi_0, xw_479, Or.inr xw_480⟩, List.forall_mem_cons.mpr ⟨⟨RX0, RX3, TX3, 6, rfl, by decide, xi_3, xw_479, Or.inr xw_480⟩, fun _ h => absurd h List.not_mem_nil⟩⟩
set_option maxRecDepth 100000 in
theorem fl_X3_25 : xFL RX3 25 [(1, 3)] := List.forall_mem_cons.mpr ⟨⟨RX1, RX1, TX1, 5, rfl, by decide, xi_1, xw_107, Or.inl rfl⟩, fun _ h => absurd h List.not_mem_nil⟩
set_option maxRecDepth 100000 in
theorem fl_X3_29 : xFL RX3 29 [(3, 3)] := List.forall_mem_cons.mpr ⟨⟨RX3, RX3, TX3, 6, rfl, by decide, xi_3, xw_464, Or.inr xw_465⟩, fun _ h => absurd h List.not_mem_nil⟩
set_option maxRecDepth 100000 in
theorem fl_X3_33 : xFL RX3 33 [(3, 1)] := List.forall_mem_cons.mpr ⟨⟨RX3, RX3, TX3, 6, rfl, by decide, xi_3, xw_526, Or.inr xw_527⟩, fun _ h => absurd h List.not_mem_nil⟩
set_option maxRecDepth 100000 in
theorem lv_X3_37_2 : xLV RX3 37 2 yX2_begin := ⟨⟨_, _, rfl⟩, xw_648, xw_347, xw_348⟩
set_option maxRecDepth 100000 in
theorem lv_X3_42_2 : xLV RX3 42 2 yX2_steps := ⟨⟨_, _, rfl⟩, xw_649, xw_356, xw_357⟩
set_option maxRecDepth 100000 in
theorem fl_X3_46 : xFL RX3 46 [(2, 0)] := List.forall_mem_cons.mpr ⟨⟨RX2, RX2, TX2, 11, rfl, by decide, xi_2, xw_37, Or.inl rfl⟩, fun _ h => absurd h List.not_mem_nil⟩
set_option maxRecDepth 100000 in
theorem lu_X8_32_6 : xLU RX8 32 6 "NeverBelow$SquaresProof" ⟨"NeverBelow$SquaresProof", "pieces", "()I"⟩ yX7_pieces := ⟨⟨_, _, _, rfl, xw_1243⟩, xw_668, xw_1242, xw_598, Or.inr ⟨_, _, _, xw_605, xw_606⟩, rfl, by decide +kernel⟩
set_option maxRecDepth 100000 in
theorem cd_X8_isWeightAbove : xCd yX8_isWeightAbove cX8_isWeightAbove 2 (some .boolean) 1 := ⟨xw_666, xw_12, by decide +kernel, by decide +kernel⟩
set_option maxRecDepth 100000 in
theorem lu_X8_36_6 : xLU RX8 36 6 "NeverBelow$SquaresProof" ⟨"NeverBelow$SquaresProof", "isWeightAbove", "(I)Z"⟩ yX8_isWeightAbove := ⟨⟨_, _, _, rfl, xw_1246⟩, xw_669, xw_1245, xw_665, Or.inl xw_663, rfl, by decide +kernel⟩
set_option maxRecDepth 100000 in
theorem lv_X8_36_7 : xLV RX8 36 7 yX8_isWeightAbove := ⟨⟨_, _, rfl⟩, xw_669, xw_665, xw_1247⟩
set_option maxRecDepth 100000 in
theorem lv_X8_32_7 : xLV RX8 32 7 yX8_pieces := ⟨⟨_, _, rfl⟩, xw_668, xw_605, xw_1244⟩
set_option maxRecDepth 100000 in
theorem cd_X8_hasWeightsAbove : xCd yX8_hasWeightsAbove cX8_hasWeightsAbove 2 (some .boolean) 0 := ⟨xw_667, xw_12, by decide +kernel, by decide +kernel⟩
set_option maxRecDepth 100000 in
theorem lsu_X7_29_6 : xLSU RX7 29 6 yX8_hasWeightsAbove := ⟨⟨_, _, _, rfl⟩, xw_660, xw_656, xw_579, xw_654, by decide +kernel⟩
set_option maxRecDepth 100000 in
theorem lu_X7_33_6 : xLU RX7 33 6 "NeverBelow$SquaresProof" ⟨"NeverBelow$SpanProof", "isWeightAbove", "(I)Z"⟩ yX8_isWeightAbove := ⟨⟨_, _, _, rfl, xw_664⟩, xw_661, xw_662, xw_665, Or.inl xw_663, rfl, by decide +kernel⟩
set_option maxRecDepth 100000 in
theorem fl_X9_7 : xFL RX9 7 [(8, 0)] := List.forall_mem_cons.mpr ⟨⟨RX9, RX9, TX9, 1, rfl, by decide, xi_8, xw_93, Or.inl rfl⟩, fun _ h => absurd h List.not_mem_nil⟩
set_option maxRecDepth 100000 in
theorem cd_J9_abs_067f4 : xCd yJ9_abs_067f4 cJ9_abs_067f4 2 (some .long) 1 := ⟨xw_696, xw_7, by decide +kernel, by decide +kernel⟩
set_option maxRecDepth 100000 in
theorem ls_X9_19 : xLS RX9 19 yJ9_abs_067f4 := ⟨xw_694, xw_695⟩
set_option maxRecDepth 100000 in
theorem cd_X9_turnSign : xCd yX9_turnSign cX9_turnSign 4 none 0 := ⟨xw_701, xw_4, by decide +kernel, by decide +kernel⟩
set_option maxRecDepth 100000 in
theorem lv_X9_27_8 : xLV RX9 27 8 yX9_turnSign := ⟨⟨_, _, rfl⟩, xw_698, xw_700, xwp_14⟩
set_option maxRecDepth 100000 in
theorem cd_X9_multiplyBy : xCd yX9_multiplyBy cX9_multiplyBy 22 none 1 := ⟨xw_693, xw_4, by decide +kernel, by decide +kernel⟩
set_option maxRecDepth 100000 in
theorem lv_X8_63_8 : xLV RX8 63 8 yX9_multiplyBy := ⟨⟨_, _, rfl⟩, xw_690, xw_691, xw_692⟩
set_option maxRecDepth 100000 in
theorem cd_J7_rangeCheck_23922 : xCd yJ7_rangeCheck_23922 cJ7_rangeCheck_23922 3 none 3 := ⟨xw_683, xw_10, by decide +kernel, by decide +kernel⟩
set_option maxRecDepth 100000 in
theorem ls_J7_13 : xLS RJ7 13 yJ7_rangeCheck_23922 := ⟨xw_681, xw_682⟩
set_option maxRecDepth 100000 in
theorem cd_J7_fill_fda19 : xCd yJ7_fill_fda19 cJ7_fill_fda19 5 none 4 := ⟨xw_680, xw_10, by decide +kernel, by decide +kernel⟩
set_option maxRecDepth 100000 in
theorem ls_X9_13 : xLS RX9 13 yJ7_fill_fda19 := ⟨xw_678, xw_679⟩
set_option maxRecDepth 100000 in
theorem cd_X9_become : xCd yX9_become cX9_become 3 none 1 := ⟨xw_677, xw_4, by decide +kernel, by decide +kernel⟩
set_option maxRecDepth 100000 in
theorem lv_X7_39_8 : xLV RX7 39 8 yX9_become := ⟨⟨_, _, rfl⟩, xw_731, xw_675, xw_676⟩
set_option maxRecDepth 100000 in
theorem cd_X7_spanTerm : xCd yX7_spanTerm cX7_spanTerm 6 (some .long) 1 := ⟨xw_735, xw_15, by decide +kernel, by decide +kernel⟩
set_option maxRecDepth 100000 in
theorem lv_X7_45_6 : xLV RX7 45 6 yX7_spanTerm := ⟨⟨_, _, rfl⟩, xw_732, xw_734, xwp_16⟩
set_option maxRecDepth 100000 in
theorem lv_X7_49_8 : xLV RX7 49 8 yX9_multiplyBy := ⟨⟨_, _, rfl⟩, xw_738, xw_691, xw_692⟩
set_option maxRecDepth 100000 in
theorem cd_X8_multiplyByOthers : xCd yX8_multiplyByOthers cX8_multiplyByOthers 4 none 2 := ⟨xw_689, xw_12, by decide +kernel, by decide +kernel⟩
set_option maxRecDepth 100000 in
theorem lu_X7_52_6 : xLU RX7 52 6 "NeverBelow$SquaresProof" ⟨"NeverBelow$SpanProof", "multiplyByOthers", "(LNeverBelow$Whole;I)V"⟩ yX8_multiplyByOthers := ⟨⟨_, _, _, rfl, xw_742⟩, xw_739, xw_740, xw_685, Or.inl xw_741, rfl, by decide +kernel⟩
set_option maxRecDepth 100000 in
theorem lv_X8_49_8 : xLV RX8 49 8 yX9_become := ⟨⟨_, _, rfl⟩, xw_674, xw_675, xw_676⟩
set_option maxRecDepth 100000 in
theorem lu_X8_55_6 : xLU RX8 55 6 "NeverBelow$SquaresProof" ⟨"NeverBelow$SquaresProof", "multiplyByOthers", "(LNeverBelow$Whole;I)V"⟩ yX8_multiplyByOthers := ⟨⟨_, _, _, rfl, xw_688⟩, xw_684, xw_687, xw_685, Or.inl xw_741, rfl, by decide +kernel⟩
set_option maxRecDepth 100000 in
theorem cd_X7_spanDivisor : xCd yX7_spanDivisor cX7_spanDivisor 1 (some .long) 0 := ⟨xw_708, xw_15, by decide +kernel, by decide +kernel⟩
set_option maxRecDepth 100000 in
theorem lu_X8_59_6 : xLU RX8 59 6 "NeverBelow$SquaresProof" ⟨"NeverBelow$SquaresProof", "spanDivisor", "()J"⟩ yX7_spanDivisor := ⟨⟨_, _, _, rfl, xw_706⟩, xw_702, xw_705, xw_707, Or.inr ⟨_, _, _, xw_703, xw_710⟩, rfl, by decide +kernel⟩
set_option maxRecDepth 100000 in
theorem cd_X8_spanDivisor : xCd yX8_spanDivisor cX8_spanDivisor 1 (some .long) 0 := ⟨xw_710, xw_12, by decide +kernel, by decide +kernel⟩
set_option maxRecDepth 100000 in
theorem lv_X8_59_7 : xLV RX8 59 7 yX8_spanDivisor := ⟨⟨_, _, rfl⟩, xw_702, xw_703, xw_704⟩
set_option maxRecDepth 100000 in
theorem lv_X8_55_7 : xLV RX8 55 7 yX8_multiplyByOthers := ⟨⟨_, _, rfl⟩, xw_684, xw_685, xw_686⟩
set_option maxRecDepth 100000 in
theorem fl_X8_40 : xFL RX8 40 [(6, 1), (7, 1)] := List.forall_mem_cons.mpr ⟨⟨RX8, RX7, TX7, 4, rfl, by decide, xi_6, xw_468, Or.inr xw_469⟩, List.forall_mem_cons.mpr ⟨⟨RX8, RX8, TX8, 4, rfl, by decide, xi_7, xw_468, Or.inr xw_469⟩, fun _ h => absurd h List.not_mem_nil⟩⟩
set_option maxRecDepth 100000 in
theorem fl_X8_44 : xFL RX8 44 [(4, 0)] := List.forall_mem_cons.mpr ⟨⟨RX4, RX4, TX4, 1, rfl, by decide, xi_4, xw_232, Or.inl rfl⟩, fun _ h => absurd h List.not_mem_nil⟩
set_option maxRecDepth 100000 in
theorem cd_X9_take : xCd yX9_take cX9_take 5 none 1 := ⟨xw_714, xw_4, by decide +kernel, by decide +kernel⟩
set_option maxRecDepth 100000 in
theorem lv_X8_66_8 : xLV RX8 66 8 yX9_take := ⟨⟨_, _, rfl⟩, xw_711, xw_712, xw_713⟩
set_option maxRecDepth 100000 in
theorem cd_X8_squareShare : xCd yX8_squareShare cX8_squareShare 7 none 3 := ⟨xw_720, xw_12, by decide +kernel, by decide +kernel⟩
set_option maxRecDepth 100000 in
theorem lu_X8_74_6 : xLU RX8 74 6 "NeverBelow$SquaresProof" ⟨"NeverBelow$SquaresProof", "squareShare", "(IILNeverBelow$Whole;)V"⟩ yX8_squareShare := ⟨⟨_, _, _, rfl, xwx_squareShare⟩, xw_717, xw_1249, xw_719, Or.inr ⟨_, _, _, xw_719, xw_720⟩, rfl, by decide +kernel⟩
set_option maxRecDepth 100000 in
theorem lv_X8_74_7 : xLV RX8 74 7 yX8_squareShare := ⟨⟨_, _, rfl⟩, xw_717, xw_719, xwp_15⟩
set_option maxRecDepth 100000 in
theorem cd_X7_spanShare : xCd yX7_spanShare cX7_spanShare 3 none 2 := ⟨xw_730, xw_15, by decide +kernel, by decide +kernel⟩
set_option maxRecDepth 100000 in
theorem lu_X8_78_6 : xLU RX8 78 6 "NeverBelow$SquaresProof" ⟨"NeverBelow$SquaresProof", "spanShare", "(ILNeverBelow$Whole;)V"⟩ yX7_spanShare := ⟨⟨_, _, _, rfl, xw_728⟩, xw_724, xw_727, xw_729, Or.inr ⟨_, _, _, xw_725, xw_743⟩, rfl, by decide +kernel⟩
set_option maxRecDepth 100000 in
theorem cd_X9_isNought : xCd yX9_isNought cX9_isNought 2 (some .boolean) 0 := ⟨xw_747, xw_4, by decide +kernel, by decide +kernel⟩
set_option maxRecDepth 100000 in
theorem lv_X8_82_8 : xLV RX8 82 8 yX9_isNought := ⟨⟨_, _, rfl⟩, xw_744, xw_745, xw_746⟩
set_option maxRecDepth 100000 in
theorem cd_X8_spanShare : xCd yX8_spanShare cX8_spanShare 3 none 2 := ⟨xw_743, xw_12, by decide +kernel, by decide +kernel⟩
set_option maxRecDepth 100000 in
theorem lv_X8_78_7 : xLV RX8 78 7 yX8_spanShare := ⟨⟨_, _, rfl⟩, xw_724, xw_725, xw_726⟩
set_option maxRecDepth 100000 in
theorem cd_X7_hasWeightsAbove : xCd yX7_hasWeightsAbove cX7_hasWeightsAbove 1 (some .boolean) 0 := ⟨xw_659, xw_15, by decide +kernel, by decide +kernel⟩
set_option maxRecDepth 100000 in
theorem lu_X8_15_6 : xLU RX8 15 6 "NeverBelow$SquaresProof" ⟨"NeverBelow$SquaresProof", "hasWeightsAbove", "()Z"⟩ yX7_hasWeightsAbove := ⟨⟨_, _, _, rfl, xw_657⟩, xw_653, xw_656, xw_658, Or.inr ⟨_, _, _, xw_654, xw_667⟩, rfl, by decide +kernel⟩
set_option maxRecDepth 100000 in
theorem lv_X8_15_7 : xLV RX8 15 7 yX8_hasWeightsAbove := ⟨⟨_, _, rfl⟩, xw_653, xw_654, xw_655⟩
set_option maxRecDepth 100000 in
theorem fl_X8_19 : xFL RX8 19 [(1, 1)] := List.forall_mem_cons.mpr ⟨⟨RX1, RX1, TX1, 5, rfl, by decide, xi_1, xw_103, Or.inl rfl⟩, fun _ h => absurd h List.not_mem_nil⟩
set_option maxRecDepth 100000 in
theorem fl_X8_25 : xFL RX8 25 [(1, 2)] := List.forall_mem_cons.mpr ⟨⟨RX1, RX1, TX1, 5, rfl, by decide, xi_1, xw_105, Or.inl rfl⟩, fun _ h => absurd h List.not_mem_nil⟩
set_option maxRecDepth 100000 in
theorem cd_X8_holds : xCd yX8_holds cX8_holds 5 (some .boolean) 3 := ⟨xw_673, xw_12, by decide +kernel, by decide +kernel⟩
set_option maxRecDepth 100000 in
theorem lu_X8_28_6 : xLU RX8 28 6 "NeverBelow$SquaresProof" ⟨"NeverBelow$SquaresProof", "holds", "(ILNeverBelow$Whole;LNeverBelow$Whole;)Z"⟩ yX8_holds := ⟨⟨_, _, _, rfl, xwx_holds⟩, xw_670, xw_1248, xw_672, Or.inr ⟨_, _, _, xw_672, xw_673⟩, rfl, by decide +kernel⟩
set_option maxRecDepth 100000 in
theorem lv_X8_28_7 : xLV RX8 28 7 yX8_holds := ⟨⟨_, _, rfl⟩, xw_670, xw_672, xwp_13⟩
set_option maxRecDepth 100000 in
theorem cd_X0_firstWrong : xCd yX0_firstWrong cX0_firstWrong 3 (some .int) 1 := ⟨xw_643, xw_13, by decide +kernel, by decide +kernel⟩
set_option maxRecDepth 100000 in
theorem lu_X10_288_0 : xLU RX10 288 0 "NeverBelow$Proof" ⟨"NeverBelow$Proof", "firstWrong", "(LNeverBelow$Desk;)I"⟩ yX0_firstWrong := ⟨⟨_, _, _, rfl, xw_641⟩, xw_638, xw_640, xw_642, Or.inl xw_639, rfl, by decide +kernel⟩
set_option maxRecDepth 100000 in
theorem cd_X3_firstWrong : xCd yX3_firstWrong cX3_firstWrong 4 (some .int) 1 := ⟨xw_647, xw_14, by decide +kernel, by decide +kernel⟩
set_option maxRecDepth 100000 in
theorem lu_X10_288_3 : xLU RX10 288 3 "NeverBelow$Proof" ⟨"NeverBelow$Proof", "firstWrong", "(LNeverBelow$Desk;)I"⟩ yX3_firstWrong := ⟨⟨_, _, _, rfl, xw_645⟩, xw_638, xw_640, xw_646, Or.inl xw_639, rfl, by decide +kernel⟩
set_option maxRecDepth 100000 in
theorem cd_X8_firstWrong : xCd yX8_firstWrong cX8_firstWrong 3 (some .int) 1 := ⟨xw_652, xw_12, by decide +kernel, by decide +kernel⟩
set_option maxRecDepth 100000 in
theorem lu_X10_288_6 : xLU RX10 288 6 "NeverBelow$Proof" ⟨"NeverBelow$Proof", "firstWrong", "(LNeverBelow$Desk;)I"⟩ yX8_firstWrong := ⟨⟨_, _, _, rfl, xw_650⟩, xw_638, xw_640, xw_651, Or.inl xw_639, rfl, by decide +kernel⟩
set_option maxRecDepth 100000 in
theorem lu_X10_288_7 : xLU RX10 288 7 "NeverBelow$Proof" ⟨"NeverBelow$Proof", "firstWrong", "(LNeverBelow$Desk;)I"⟩ yX8_firstWrong := ⟨⟨_, _, _, rfl, xw_748⟩, xw_638, xw_640, xw_651, Or.inl xw_639, rfl, by decide +kernel⟩
set_option maxRecDepth 100000 in
theorem cd_X10_isOfKind : xCd yX10_isOfKind cX10_isOfKind 2 (some .boolean) 2 := ⟨xw_755, xw_1, by decide +kernel, by decide +kernel⟩
set_option maxRecDepth 100000 in
theorem ls_X10_292 : xLS RX10 292 yX10_isOfKind := ⟨xw_753, xw_754⟩
set_option maxRecDepth 100000 in
theorem fl_X1_32 : xFL RX1 32 [(1, 4)] := List.forall_mem_cons.mpr ⟨⟨RX1, RX1, TX1, 5, rfl, by decide, xi_1, xw_108, Or.inl rfl⟩, fun _ h => absurd h List.not_mem_nil⟩
set_option maxRecDepth 100000 in
theorem fp_X1_32 : xFP RX1 32 [(1, 4)] false .int := List.forall_mem_cons.mpr ⟨⟨RX1, RX1, TX1, 5, tyX1, rfl, by decide, xi_1, xw_108, Or.inl rfl, rfl, by decide +kernel, tyX1_ok, nmX1, fun h => by cases h⟩, fun _ h => absurd h List.not_mem_nil⟩
set_option maxRecDepth 100000 in
theorem cd_X1_begin : xCd yX1_begin cX1_begin 2 none 1 := ⟨xw_769, xw_3, by decide +kernel, by decide +kernel⟩
set_option maxRecDepth 100000 in
theorem lv_X5_26_1 : xLV RX5 26 1 yX1_begin := ⟨⟨_, _, rfl⟩, xw_785, xw_767, xw_768⟩
set_option maxRecDepth 100000 in
theorem lv_X0_19_1 : xLV RX0 19 1 yX1_begin := ⟨⟨_, _, rfl⟩, xw_766, xw_767, xw_768⟩
set_option maxRecDepth 100000 in
theorem cd_X5_telling : xCd yX5_telling cX5_telling 2 (some .int) 1 := ⟨xw_784, xw_11, by decide +kernel, by decide +kernel⟩
set_option maxRecDepth 100000 in
theorem lsu_X0_25_0 : xLSU RX0 25 0 yX5_telling := ⟨⟨_, _, _, rfl⟩, xw_770, xw_762, xw_536, xw_761, by decide +kernel⟩
set_option maxRecDepth 100000 in
theorem lsu_X0_25_3 : xLSU RX0 25 3 yX5_telling := ⟨⟨_, _, _, rfl⟩, xw_770, xw_762, xw_536, xw_761, by decide +kernel⟩
set_option maxRecDepth 100000 in
theorem lv_X3_15_1 : xLV RX3 15 1 yX1_begin := ⟨⟨_, _, rfl⟩, xw_774, xw_767, xw_768⟩
set_option maxRecDepth 100000 in
theorem cd_X0_telling : xCd yX0_telling cX0_telling 2 (some .int) 1 := ⟨xw_765, xw_13, by decide +kernel, by decide +kernel⟩
set_option maxRecDepth 100000 in
theorem lsu_X3_21_3 : xLSU RX3 21 3 yX0_telling := ⟨⟨_, _, _, rfl⟩, xw_775, xw_1250, xw_553, xw_764, by decide +kernel⟩
set_option maxRecDepth 100000 in
theorem lv_X7_19_1 : xLV RX7 19 1 yX1_begin := ⟨⟨_, _, rfl⟩, xw_779, xw_767, xw_768⟩
set_option maxRecDepth 100000 in
theorem lsx_X7_25_6 : xLSX RX7 25 6 ⟨"NeverBelow$SquaresProof", "telling", "(LNeverBelow$Desk;)I"⟩ yX5_telling := ⟨⟨_, _, _, rfl⟩, xw_780, xw_781, xw_579, xw_490, xw_761, by decide +kernel, rfl⟩
set_option maxRecDepth 100000 in
theorem lu_X10_296_0 : xLU RX10 296 0 "NeverBelow$Proof" ⟨"NeverBelow$Proof", "telling", "(LNeverBelow$Desk;)I"⟩ yX0_telling := ⟨⟨_, _, _, rfl, xw_763⟩, xw_760, xw_762, xw_764, Or.inl xw_782, rfl, by decide +kernel⟩
set_option maxRecDepth 100000 in
theorem cd_X3_telling : xCd yX3_telling cX3_telling 2 (some .int) 1 := ⟨xw_773, xw_14, by decide +kernel, by decide +kernel⟩
set_option maxRecDepth 100000 in
theorem lu_X10_296_3 : xLU RX10 296 3 "NeverBelow$Proof" ⟨"NeverBelow$Proof", "telling", "(LNeverBelow$Desk;)I"⟩ yX3_telling := ⟨⟨_, _, _, rfl, xw_771⟩, xw_760, xw_762, xw_772, Or.inl xw_782, rfl, by decide +kernel⟩
set_option maxRecDepth 100000 in
theorem cd_X7_telling : xCd yX7_telling cX7_telling 2 (some .int) 1 := ⟨xw_778, xw_15, by decide +kernel, by decide +kernel⟩
set_option maxRecDepth 100000 in
theorem lu_X10_296_6 : xLU RX10 296 6 "NeverBelow$Proof" ⟨"NeverBelow$Proof", "telling", "(LNeverBelow$Desk;)I"⟩ yX7_telling := ⟨⟨_, _, _, rfl, xw_776⟩, xw_760, xw_762, xw_777, Or.inl xw_782, rfl, by decide +kernel⟩
set_option maxRecDepth 100000 in
theorem lu_X10_296_7 : xLU RX10 296 7 "NeverBelow$Proof" ⟨"NeverBelow$Proof", "telling", "(LNeverBelow$Desk;)I"⟩ yX5_telling := ⟨⟨_, _, _, rfl, xw_783⟩, xw_760, xw_762, xw_761, Or.inl xw_782, rfl, by decide +kernel⟩
set_option maxRecDepth 100000 in
theorem cd_X0_costing : xCd yX0_costing cX0_costing 2 (some .int) 1 := ⟨xw_795, xw_13, by decide +kernel, by decide +kernel⟩
set_option maxRecDepth 100000 in
theorem lu_X10_299_0 : xLU RX10 299 0 "NeverBelow$Proof" ⟨"NeverBelow$Proof", "costing", "(LNeverBelow$Desk;)I"⟩ yX0_costing := ⟨⟨_, _, _, rfl, xw_793⟩, xw_790, xw_792, xw_794, Or.inr ⟨_, _, _, xw_791, xw_799⟩, rfl, by decide +kernel⟩
set_option maxRecDepth 100000 in
theorem lu_X10_299_3 : xLU RX10 299 3 "NeverBelow$Proof" ⟨"NeverBelow$Proof", "costing", "(LNeverBelow$Desk;)I"⟩ yX0_costing := ⟨⟨_, _, _, rfl, xw_796⟩, xw_790, xw_792, xw_794, Or.inr ⟨_, _, _, xw_791, xw_799⟩, rfl, by decide +kernel⟩
set_option maxRecDepth 100000 in
theorem cd_X5_costing : xCd yX5_costing cX5_costing 2 (some .int) 1 := ⟨xw_799, xw_11, by decide +kernel, by decide +kernel⟩
set_option maxRecDepth 100000 in
theorem lu_X10_299_6 : xLU RX10 299 6 "NeverBelow$Proof" ⟨"NeverBelow$Proof", "costing", "(LNeverBelow$Desk;)I"⟩ yX5_costing := ⟨⟨_, _, _, rfl, xw_797⟩, xw_790, xw_792, xw_791, Or.inr ⟨_, _, _, xw_791, xw_799⟩, rfl, by decide +kernel⟩
set_option maxRecDepth 100000 in
theorem lu_X10_299_7 : xLU RX10 299 7 "NeverBelow$Proof" ⟨"NeverBelow$Proof", "costing", "(LNeverBelow$Desk;)I"⟩ yX5_costing := ⟨⟨_, _, _, rfl, xw_798⟩, xw_790, xw_792, xw_791, Or.inr ⟨_, _, _, xw_791, xw_799⟩, rfl, by decide +kernel⟩
set_option maxRecDepth 100000 in
theorem fl_X10_302 : xFL RX10 302 [(1, 4)] := List.forall_mem_cons.mpr ⟨⟨RX1, RX1, TX1, 5, rfl, by decide, xi_1, xw_109, Or.inl rfl⟩, fun _ h => absurd h List.not_mem_nil⟩
set_option maxRecDepth 100000 in
theorem fl_X10_47 : xFL RX10 47 [(9, 9)] := List.forall_mem_cons.mpr ⟨⟨RX10, RX10, TX10, 10, rfl, by decide, xi_9, xw_130, Or.inl rfl⟩, fun _ h => absurd h List.not_mem_nil⟩
set_option maxRecDepth 100000 in
theorem lo_X11_1 : xLO RX11 1 := ⟨xw_817, xw_22, xw_23⟩
set_option maxRecDepth 100000 in
theorem xi_10 : ∀ w ∈ u_ws RX11 TX11 32, w ∈ xws := fun w h => by
  obtain ⟨j, hj, rfl⟩ := List.mem_map.mp h
  rcases (show j = 0 ∨ j = 1 ∨ j = 2 ∨ j = 3 ∨ j = 4 ∨ j = 5 ∨ j = 6 ∨ j = 7 ∨ j = 8 ∨ j = 9 ∨ j = 10 ∨ j = 11 ∨ j = 12 ∨ j = 13 ∨ j = 14 ∨ j = 15 ∨ j = 16 ∨ j = 17 ∨ j = 18 ∨ j = 19 ∨ j = 20 ∨ j = 21 ∨ j = 22 ∨ j = 23 ∨ j = 24 ∨ j = 25 ∨ j = 26 ∨ j = 27 ∨ j = 28 ∨ j = 29 ∨ j = 30 ∨ j = 31 by have := List.mem_range.mp hj; omega) with rfl | rfl | rfl | rfl | rfl | rfl | rfl | rfl | rfl | rfl | rfl | rfl | rfl | rfl | rfl | rfl | rfl | rfl | rfl | rfl | rfl | rfl | rfl | rfl | rfl | rfl | rfl | rfl | rfl | rfl | rfl | rfl
  · exact xw_850
  · exact xw_852
  · exact xw_854
  · exact xw_856
  · exact xw_858
  · exact xw_860
  · exact xw_862
  · exact xw_864
  · exact xw_866
  · exact xw_868
  · exact xw_870
  · exact xw_872
  · exact xw_874
  · exact xw_876
  · exact xw_878
  · exact xw_880
  · exact xw_882
  · exact xw_884
  · exact xw_886
  · exact xw_888
  · exact xw_890
  · exact xw_892
  · exact xw_894
  · exact xw_896
  · exact xw_898
  · exact xw_900
  · exact xw_902
  · exact xw_904
  · exact xw_906
  · exact xw_908
  · exact xw_910
  · exact xw_912
set_option maxRecDepth 100000 in
theorem fp_X11_9 : xFP RX11 9 [(10, 2)] true (.array .int) := List.forall_mem_cons.mpr ⟨⟨RX11, RX11, TX11, 32, tyX11, rfl, by decide, xi_10, xw_820, Or.inl rfl, rfl, by decide +kernel, tyX11_ok, nmX11, fun _ => rfl⟩, fun _ h => absurd h List.not_mem_nil⟩
set_option maxRecDepth 100000 in
theorem fp_X11_13 : xFP RX11 13 [(10, 3)] true (.array .int) := List.forall_mem_cons.mpr ⟨⟨RX11, RX11, TX11, 32, tyX11, rfl, by decide, xi_10, xw_821, Or.inl rfl, rfl, by decide +kernel, tyX11_ok, nmX11, fun _ => rfl⟩, fun _ h => absurd h List.not_mem_nil⟩
set_option maxRecDepth 100000 in
theorem fp_X11_16 : xFP RX11 16 [(10, 4)] true (.array .long) := List.forall_mem_cons.mpr ⟨⟨RX11, RX11, TX11, 32, tyX11, rfl, by decide, xi_10, xw_822, Or.inl rfl, rfl, by decide +kernel, tyX11_ok, nmX11, fun _ => rfl⟩, fun _ h => absurd h List.not_mem_nil⟩
set_option maxRecDepth 100000 in
theorem fp_X11_20 : xFP RX11 20 [(10, 6)] true (.array .long) := List.forall_mem_cons.mpr ⟨⟨RX11, RX11, TX11, 32, tyX11, rfl, by decide, xi_10, xw_824, Or.inl rfl, rfl, by decide +kernel, tyX11_ok, nmX11, fun _ => rfl⟩, fun _ h => absurd h List.not_mem_nil⟩
set_option maxRecDepth 100000 in
theorem fp_X11_23 : xFP RX11 23 [(10, 7)] true (.array .long) := List.forall_mem_cons.mpr ⟨⟨RX11, RX11, TX11, 32, tyX11, rfl, by decide, xi_10, xw_825, Or.inl rfl, rfl, by decide +kernel, tyX11_ok, nmX11, fun _ => rfl⟩, fun _ h => absurd h List.not_mem_nil⟩
set_option maxRecDepth 100000 in
theorem fp_X11_26 : xFP RX11 26 [(10, 9)] true (.array .int) := List.forall_mem_cons.mpr ⟨⟨RX11, RX11, TX11, 32, tyX11, rfl, by decide, xi_10, xw_827, Or.inl rfl, rfl, by decide +kernel, tyX11_ok, nmX11, fun _ => rfl⟩, fun _ h => absurd h List.not_mem_nil⟩
set_option maxRecDepth 100000 in
theorem fp_X11_29 : xFP RX11 29 [(10, 13)] true (.array .int) := List.forall_mem_cons.mpr ⟨⟨RX11, RX11, TX11, 32, tyX11, rfl, by decide, xi_10, xw_831, Or.inl rfl, rfl, by decide +kernel, tyX11_ok, nmX11, fun _ => rfl⟩, fun _ h => absurd h List.not_mem_nil⟩
set_option maxRecDepth 100000 in
theorem fp_X11_32 : xFP RX11 32 [(10, 14)] true (.array .int) := List.forall_mem_cons.mpr ⟨⟨RX11, RX11, TX11, 32, tyX11, rfl, by decide, xi_10, xw_832, Or.inl rfl, rfl, by decide +kernel, tyX11_ok, nmX11, fun _ => rfl⟩, fun _ h => absurd h List.not_mem_nil⟩
set_option maxRecDepth 100000 in
theorem fp_X11_35 : xFP RX11 35 [(10, 17)] true (.array .long) := List.forall_mem_cons.mpr ⟨⟨RX11, RX11, TX11, 32, tyX11, rfl, by decide, xi_10, xw_835, Or.inl rfl, rfl, by decide +kernel, tyX11_ok, nmX11, fun _ => rfl⟩, fun _ h => absurd h List.not_mem_nil⟩
set_option maxRecDepth 100000 in
theorem fp_X11_38 : xFP RX11 38 [(10, 19)] true (.array .long) := List.forall_mem_cons.mpr ⟨⟨RX11, RX11, TX11, 32, tyX11, rfl, by decide, xi_10, xw_837, Or.inl rfl, rfl, by decide +kernel, tyX11_ok, nmX11, fun _ => rfl⟩, fun _ h => absurd h List.not_mem_nil⟩
set_option maxRecDepth 100000 in
theorem fp_X11_41 : xFP RX11 41 [(10, 21)] true (.array .int) := List.forall_mem_cons.mpr ⟨⟨RX11, RX11, TX11, 32, tyX11, rfl, by decide, xi_10, xw_839, Or.inl rfl, rfl, by decide +kernel, tyX11_ok, nmX11, fun _ => rfl⟩, fun _ h => absurd h List.not_mem_nil⟩
set_option maxRecDepth 100000 in
theorem fp_X11_44 : xFP RX11 44 [(10, 22)] true (.array .int) := List.forall_mem_cons.mpr ⟨⟨RX11, RX11, TX11, 32, tyX11, rfl, by decide, xi_10, xw_840, Or.inl rfl, rfl, by decide +kernel, tyX11_ok, nmX11, fun _ => rfl⟩, fun _ h => absurd h List.not_mem_nil⟩
set_option maxRecDepth 100000 in
theorem fp_X11_47 : xFP RX11 47 [(10, 23)] true (.array .int) := List.forall_mem_cons.mpr ⟨⟨RX11, RX11, TX11, 32, tyX11, rfl, by decide, xi_10, xw_841, Or.inl rfl, rfl, by decide +kernel, tyX11_ok, nmX11, fun _ => rfl⟩, fun _ h => absurd h List.not_mem_nil⟩
set_option maxRecDepth 100000 in
theorem fp_X11_50 : xFP RX11 50 [(10, 24)] true (.array .int) := List.forall_mem_cons.mpr ⟨⟨RX11, RX11, TX11, 32, tyX11, rfl, by decide, xi_10, xw_842, Or.inl rfl, rfl, by decide +kernel, tyX11_ok, nmX11, fun _ => rfl⟩, fun _ h => absurd h List.not_mem_nil⟩
set_option maxRecDepth 100000 in
theorem fp_X11_53 : xFP RX11 53 [(10, 25)] true (.array .long) := List.forall_mem_cons.mpr ⟨⟨RX11, RX11, TX11, 32, tyX11, rfl, by decide, xi_10, xw_843, Or.inl rfl, rfl, by decide +kernel, tyX11_ok, nmX11, fun _ => rfl⟩, fun _ h => absurd h List.not_mem_nil⟩
set_option maxRecDepth 100000 in
theorem fp_X11_56 : xFP RX11 56 [(10, 26)] true (.array .long) := List.forall_mem_cons.mpr ⟨⟨RX11, RX11, TX11, 32, tyX11, rfl, by decide, xi_10, xw_844, Or.inl rfl, rfl, by decide +kernel, tyX11_ok, nmX11, fun _ => rfl⟩, fun _ h => absurd h List.not_mem_nil⟩
set_option maxRecDepth 100000 in
theorem fp_X11_59 : xFP RX11 59 [(10, 27)] true (.array .long) := List.forall_mem_cons.mpr ⟨⟨RX11, RX11, TX11, 32, tyX11, rfl, by decide, xi_10, xw_845, Or.inl rfl, rfl, by decide +kernel, tyX11_ok, nmX11, fun _ => rfl⟩, fun _ h => absurd h List.not_mem_nil⟩
set_option maxRecDepth 100000 in
theorem fp_X11_62 : xFP RX11 62 [(10, 28)] true (.array .long) := List.forall_mem_cons.mpr ⟨⟨RX11, RX11, TX11, 32, tyX11, rfl, by decide, xi_10, xw_846, Or.inl rfl, rfl, by decide +kernel, tyX11_ok, nmX11, fun _ => rfl⟩, fun _ h => absurd h List.not_mem_nil⟩
set_option maxRecDepth 100000 in
theorem fp_X11_65 : xFP RX11 65 [(10, 29)] true (.array .long) := List.forall_mem_cons.mpr ⟨⟨RX11, RX11, TX11, 32, tyX11, rfl, by decide, xi_10, xw_847, Or.inl rfl, rfl, by decide +kernel, tyX11_ok, nmX11, fun _ => rfl⟩, fun _ h => absurd h List.not_mem_nil⟩
set_option maxRecDepth 100000 in
theorem fp_X11_68 : xFP RX11 68 [(10, 30)] true (.array .int) := List.forall_mem_cons.mpr ⟨⟨RX11, RX11, TX11, 32, tyX11, rfl, by decide, xi_10, xw_848, Or.inl rfl, rfl, by decide +kernel, tyX11_ok, nmX11, fun _ => rfl⟩, fun _ h => absurd h List.not_mem_nil⟩
set_option maxRecDepth 100000 in
theorem fp_X11_71 : xFP RX11 71 [(10, 31)] true (.array .int) := List.forall_mem_cons.mpr ⟨⟨RX11, RX11, TX11, 32, tyX11, rfl, by decide, xi_10, xw_849, Or.inl rfl, rfl, by decide +kernel, tyX11_ok, nmX11, fun _ => rfl⟩, fun _ h => absurd h List.not_mem_nil⟩
set_option maxRecDepth 100000 in
theorem fp_X11_74 : xFP RX11 74 [(10, 0)] false .int := List.forall_mem_cons.mpr ⟨⟨RX11, RX11, TX11, 32, tyX11, rfl, by decide, xi_10, xw_818, Or.inl rfl, rfl, by decide +kernel, tyX11_ok, nmX11, fun h => by cases h⟩, fun _ h => absurd h List.not_mem_nil⟩
set_option maxRecDepth 100000 in
theorem cd_X11_within : xCd yX11_within cX11_within 6 (some .boolean) 3 := ⟨xw_922, xw_5, by decide +kernel, by decide +kernel⟩
set_option maxRecDepth 100000 in
theorem ls_X11_82 : xLS RX11 82 yX11_within := ⟨xw_920, xw_921⟩
set_option maxRecDepth 100000 in
theorem fl_X11_9 : xFL RX11 9 [(10, 2)] := List.forall_mem_cons.mpr ⟨⟨RX11, RX11, TX11, 32, rfl, by decide, xi_10, xw_820, Or.inl rfl⟩, fun _ h => absurd h List.not_mem_nil⟩
set_option maxRecDepth 100000 in
theorem fl_X11_13 : xFL RX11 13 [(10, 3)] := List.forall_mem_cons.mpr ⟨⟨RX11, RX11, TX11, 32, rfl, by decide, xi_10, xw_821, Or.inl rfl⟩, fun _ h => absurd h List.not_mem_nil⟩
set_option maxRecDepth 100000 in
theorem cd_X11_fails : xCd yX11_fails cX11_fails 2 (some .int) 1 := ⟨xw_927, xw_5, by decide +kernel, by decide +kernel⟩
set_option maxRecDepth 100000 in
theorem lv_X11_88_10 : xLV RX11 88 10 yX11_fails := ⟨⟨_, _, rfl⟩, xw_924, xw_926, xwp_17⟩
set_option maxRecDepth 100000 in
theorem fl_X11_16 : xFL RX11 16 [(10, 4)] := List.forall_mem_cons.mpr ⟨⟨RX11, RX11, TX11, 32, rfl, by decide, xi_10, xw_822, Or.inl rfl⟩, fun _ h => absurd h List.not_mem_nil⟩
set_option maxRecDepth 100000 in
theorem cd_X11_lost : xCd yX11_lost cX11_lost 2 (some .long) 1 := ⟨xw_944, xw_5, by decide +kernel, by decide +kernel⟩
set_option maxRecDepth 100000 in
theorem lv_X11_92_10 : xLV RX11 92 10 yX11_lost := ⟨⟨_, _, rfl⟩, xw_941, xw_943, xwp_18⟩
set_option maxRecDepth 100000 in
theorem fl_X11_96 : xFL RX11 96 [(10, 5)] := List.forall_mem_cons.mpr ⟨⟨RX11, RX11, TX11, 32, rfl, by decide, xi_10, xw_823, Or.inl rfl⟩, fun _ h => absurd h List.not_mem_nil⟩
set_option maxRecDepth 100000 in
theorem fl_X11_23 : xFL RX11 23 [(10, 7)] := List.forall_mem_cons.mpr ⟨⟨RX11, RX11, TX11, 32, rfl, by decide, xi_10, xw_825, Or.inl rfl⟩, fun _ h => absurd h List.not_mem_nil⟩
set_option maxRecDepth 100000 in
theorem fp_X11_96 : xFP RX11 96 [(10, 5)] false .int := List.forall_mem_cons.mpr ⟨⟨RX11, RX11, TX11, 32, tyX11, rfl, by decide, xi_10, xw_823, Or.inl rfl, rfl, by decide +kernel, tyX11_ok, nmX11, fun h => by cases h⟩, fun _ h => absurd h List.not_mem_nil⟩
set_option maxRecDepth 100000 in
theorem fl_X11_20 : xFL RX11 20 [(10, 6)] := List.forall_mem_cons.mpr ⟨⟨RX11, RX11, TX11, 32, rfl, by decide, xi_10, xw_824, Or.inl rfl⟩, fun _ h => absurd h List.not_mem_nil⟩
set_option maxRecDepth 100000 in
theorem cd_X11_clearDraft : xCd yX11_clearDraft cX11_clearDraft 2 none 0 := ⟨xw_952, xw_5, by decide +kernel, by decide +kernel⟩
set_option maxRecDepth 100000 in
theorem lv_X11_103_10 : xLV RX11 103 10 yX11_clearDraft := ⟨⟨_, _, rfl⟩, xw_949, xw_951, xwp_19⟩
set_option maxRecDepth 100000 in
theorem cd_X11_becomes : xCd yX11_becomes cX11_becomes 3 (some .int) 1 := ⟨xw_956, xw_5, by decide +kernel, by decide +kernel⟩
set_option maxRecDepth 100000 in
theorem lv_X11_106_10 : xLV RX11 106 10 yX11_becomes := ⟨⟨_, _, rfl⟩, xw_953, xw_955, xwp_20⟩
set_option maxRecDepth 100000 in
theorem cd_X11_isPoly : xCd yX11_isPoly cX11_isPoly 2 (some .boolean) 1 := ⟨xw_966, xw_5, by decide +kernel, by decide +kernel⟩
set_option maxRecDepth 100000 in
theorem lv_X11_109_10 : xLV RX11 109 10 yX11_isPoly := ⟨⟨_, _, rfl⟩, xw_963, xw_965, xwp_21⟩
set_option maxRecDepth 100000 in
theorem cd_X11_termOf : xCd yX11_termOf cX11_termOf 3 (some .long) 2 := ⟨xw_970, xw_5, by decide +kernel, by decide +kernel⟩
set_option maxRecDepth 100000 in
theorem lv_X11_113_10 : xLV RX11 113 10 yX11_termOf := ⟨⟨_, _, rfl⟩, xw_967, xw_969, xwp_22⟩
set_option maxRecDepth 100000 in
theorem cd_X11_power : xCd yX11_power cX11_power 3 (some .long) 2 := ⟨xw_992, xw_5, by decide +kernel, by decide +kernel⟩
set_option maxRecDepth 100000 in
theorem ls_X11_123 : xLS RX11 123 yX11_power := ⟨xw_990, xw_991⟩
set_option maxRecDepth 100000 in
theorem fl_X11_26 : xFL RX11 26 [(10, 9)] := List.forall_mem_cons.mpr ⟨⟨RX11, RX11, TX11, 32, rfl, by decide, xi_10, xw_827, Or.inl rfl⟩, fun _ h => absurd h List.not_mem_nil⟩
set_option maxRecDepth 100000 in
theorem fl_X11_131 : xFL RX11 131 [(10, 8)] := List.forall_mem_cons.mpr ⟨⟨RX11, RX11, TX11, 32, rfl, by decide, xi_10, xw_826, Or.inl rfl⟩, fun _ h => absurd h List.not_mem_nil⟩
set_option maxRecDepth 100000 in
theorem fp_X11_131 : xFP RX11 131 [(10, 8)] false .int := List.forall_mem_cons.mpr ⟨⟨RX11, RX11, TX11, 32, tyX11, rfl, by decide, xi_10, xw_826, Or.inl rfl, rfl, by decide +kernel, tyX11_ok, nmX11, fun h => by cases h⟩, fun _ h => absurd h List.not_mem_nil⟩
set_option maxRecDepth 100000 in
theorem cd_X11_isRange : xCd yX11_isRange cX11_isRange 2 (some .boolean) 2 := ⟨xw_1005, xw_5, by decide +kernel, by decide +kernel⟩
set_option maxRecDepth 100000 in
theorem ls_X11_134 : xLS RX11 134 yX11_isRange := ⟨xw_1003, xw_1004⟩
set_option maxRecDepth 100000 in
theorem cd_X11_newBox : xCd yX11_newBox cX11_newBox 5 (some .int) 4 := ⟨xw_1009, xw_5, by decide +kernel, by decide +kernel⟩
set_option maxRecDepth 100000 in
theorem lv_X11_138_10 : xLV RX11 138 10 yX11_newBox := ⟨⟨_, _, rfl⟩, xw_1006, xw_1008, xwp_23⟩
set_option maxRecDepth 100000 in
theorem cd_X11_isBox : xCd yX11_isBox cX11_isBox 2 (some .boolean) 1 := ⟨xw_1017, xw_5, by decide +kernel, by decide +kernel⟩
set_option maxRecDepth 100000 in
theorem lv_X11_142_10 : xLV RX11 142 10 yX11_isBox := ⟨⟨_, _, rfl⟩, xw_1014, xw_1016, xwp_24⟩
set_option maxRecDepth 100000 in
theorem cd_X11_along : xCd yX11_along cX11_along 6 (some .long) 4 := ⟨xw_1032, xw_5, by decide +kernel, by decide +kernel⟩
set_option maxRecDepth 100000 in
theorem ls_X11_147 : xLS RX11 147 yX11_along := ⟨xw_1030, xw_1031⟩
set_option maxRecDepth 100000 in
theorem cd_X11_cornerOf : xCd yX11_cornerOf cX11_cornerOf 10 (some .long) 6 := ⟨xw_1029, xw_5, by decide +kernel, by decide +kernel⟩
set_option maxRecDepth 100000 in
theorem lv_X11_151_10 : xLV RX11 151 10 yX11_cornerOf := ⟨⟨_, _, rfl⟩, xw_1026, xw_1028, xwp_26⟩
set_option maxRecDepth 100000 in
theorem cd_X11_boxCorner : xCd yX11_boxCorner cX11_boxCorner 4 (some .long) 3 := ⟨xw_1025, xw_5, by decide +kernel, by decide +kernel⟩
set_option maxRecDepth 100000 in
theorem lv_X11_155_10 : xLV RX11 155 10 yX11_boxCorner := ⟨⟨_, _, rfl⟩, xw_1022, xw_1024, xwp_25⟩
set_option maxRecDepth 100000 in
theorem fp_X11_159 : xFP RX11 159 [(10, 12)] false .int := List.forall_mem_cons.mpr ⟨⟨RX11, RX11, TX11, 32, tyX11, rfl, by decide, xi_10, xw_830, Or.inl rfl, rfl, by decide +kernel, tyX11_ok, nmX11, fun h => by cases h⟩, fun _ h => absurd h List.not_mem_nil⟩
set_option maxRecDepth 100000 in
theorem fl_X11_32 : xFL RX11 32 [(10, 14)] := List.forall_mem_cons.mpr ⟨⟨RX11, RX11, TX11, 32, rfl, by decide, xi_10, xw_832, Or.inl rfl⟩, fun _ h => absurd h List.not_mem_nil⟩
set_option maxRecDepth 100000 in
theorem fl_X11_29 : xFL RX11 29 [(10, 13)] := List.forall_mem_cons.mpr ⟨⟨RX11, RX11, TX11, 32, rfl, by decide, xi_10, xw_831, Or.inl rfl⟩, fun _ h => absurd h List.not_mem_nil⟩
set_option maxRecDepth 100000 in
theorem fp_X11_162 : xFP RX11 162 [(10, 10)] false .int := List.forall_mem_cons.mpr ⟨⟨RX11, RX11, TX11, 32, tyX11, rfl, by decide, xi_10, xw_828, Or.inl rfl, rfl, by decide +kernel, tyX11_ok, nmX11, fun h => by cases h⟩, fun _ h => absurd h List.not_mem_nil⟩
set_option maxRecDepth 100000 in
theorem fp_X11_165 : xFP RX11 165 [(10, 11)] false .int := List.forall_mem_cons.mpr ⟨⟨RX11, RX11, TX11, 32, tyX11, rfl, by decide, xi_10, xw_829, Or.inl rfl, rfl, by decide +kernel, tyX11_ok, nmX11, fun h => by cases h⟩, fun _ h => absurd h List.not_mem_nil⟩
set_option maxRecDepth 100000 in
theorem cd_X11_beginParts : xCd yX11_beginParts cX11_beginParts 3 none 1 := ⟨xw_1049, xw_5, by decide +kernel, by decide +kernel⟩
set_option maxRecDepth 100000 in
theorem lv_X11_168_10 : xLV RX11 168 10 yX11_beginParts := ⟨⟨_, _, rfl⟩, xw_1046, xw_1048, xwp_27⟩
set_option maxRecDepth 100000 in
theorem fl_X11_159 : xFL RX11 159 [(10, 12)] := List.forall_mem_cons.mpr ⟨⟨RX11, RX11, TX11, 32, rfl, by decide, xi_10, xw_830, Or.inl rfl⟩, fun _ h => absurd h List.not_mem_nil⟩
set_option maxRecDepth 100000 in
theorem fl_X11_162 : xFL RX11 162 [(10, 10)] := List.forall_mem_cons.mpr ⟨⟨RX11, RX11, TX11, 32, rfl, by decide, xi_10, xw_828, Or.inl rfl⟩, fun _ h => absurd h List.not_mem_nil⟩
set_option maxRecDepth 100000 in
theorem cd_X11_partCorner : xCd yX11_partCorner cX11_partCorner 3 (some .long) 2 := ⟨xw_1066, xw_5, by decide +kernel, by decide +kernel⟩
set_option maxRecDepth 100000 in
theorem lv_X11_172_10 : xLV RX11 172 10 yX11_partCorner := ⟨⟨_, _, rfl⟩, xw_1063, xw_1065, xwp_30⟩
set_option maxRecDepth 100000 in
theorem fp_X11_175 : xFP RX11 175 [(10, 15)] false .int := List.forall_mem_cons.mpr ⟨⟨RX11, RX11, TX11, 32, tyX11, rfl, by decide, xi_10, xw_833, Or.inl rfl, rfl, by decide +kernel, tyX11_ok, nmX11, fun h => by cases h⟩, fun _ h => absurd h List.not_mem_nil⟩
set_option maxRecDepth 100000 in
theorem fp_X11_178 : xFP RX11 178 [(10, 16)] false .int := List.forall_mem_cons.mpr ⟨⟨RX11, RX11, TX11, 32, tyX11, rfl, by decide, xi_10, xw_834, Or.inl rfl, rfl, by decide +kernel, tyX11_ok, nmX11, fun h => by cases h⟩, fun _ h => absurd h List.not_mem_nil⟩
set_option maxRecDepth 100000 in
theorem cd_X11_firstPart : xCd yX11_firstPart cX11_firstPart 3 (some .int) 1 := ⟨xw_1058, xw_5, by decide +kernel, by decide +kernel⟩
set_option maxRecDepth 100000 in
theorem lv_X11_183_10 : xLV RX11 183 10 yX11_firstPart := ⟨⟨_, _, rfl⟩, xw_1055, xw_1057, xwp_28⟩
set_option maxRecDepth 100000 in
theorem cd_X11_judged : xCd yX11_judged cX11_judged 5 (some .int) 1 := ⟨xw_1062, xw_5, by decide +kernel, by decide +kernel⟩
set_option maxRecDepth 100000 in
theorem lv_X11_186_10 : xLV RX11 186 10 yX11_judged := ⟨⟨_, _, rfl⟩, xw_1059, xw_1061, xwp_29⟩
set_option maxRecDepth 100000 in
theorem cd_X11_halve : xCd yX11_halve cX11_halve 7 none 1 := ⟨xw_1070, xw_5, by decide +kernel, by decide +kernel⟩
set_option maxRecDepth 100000 in
theorem lv_X11_189_10 : xLV RX11 189 10 yX11_halve := ⟨⟨_, _, rfl⟩, xw_1067, xw_1069, xwp_31⟩
set_option maxRecDepth 100000 in
theorem cd_X11_countParts : xCd yX11_countParts cX11_countParts 4 (some .int) 1 := ⟨xw_1078, xw_5, by decide +kernel, by decide +kernel⟩
set_option maxRecDepth 100000 in
theorem lv_X11_192_10 : xLV RX11 192 10 yX11_countParts := ⟨⟨_, _, rfl⟩, xw_1075, xw_1077, xwp_32⟩
set_option maxRecDepth 100000 in
theorem fl_X11_178 : xFL RX11 178 [(10, 16)] := List.forall_mem_cons.mpr ⟨⟨RX11, RX11, TX11, 32, rfl, by decide, xi_10, xw_834, Or.inl rfl⟩, fun _ h => absurd h List.not_mem_nil⟩
set_option maxRecDepth 100000 in
theorem fl_X11_175 : xFL RX11 175 [(10, 15)] := List.forall_mem_cons.mpr ⟨⟨RX11, RX11, TX11, 32, rfl, by decide, xi_10, xw_833, Or.inl rfl⟩, fun _ h => absurd h List.not_mem_nil⟩
set_option maxRecDepth 100000 in
theorem fl_X11_35 : xFL RX11 35 [(10, 17)] := List.forall_mem_cons.mpr ⟨⟨RX11, RX11, TX11, 32, rfl, by decide, xi_10, xw_835, Or.inl rfl⟩, fun _ h => absurd h List.not_mem_nil⟩
set_option maxRecDepth 100000 in
theorem cd_X11_hasOther : xCd yX11_hasOther cX11_hasOther 2 (some .boolean) 1 := ⟨xw_1098, xw_5, by decide +kernel, by decide +kernel⟩
set_option maxRecDepth 100000 in
theorem lv_X11_195_10 : xLV RX11 195 10 yX11_hasOther := ⟨⟨_, _, rfl⟩, xw_1095, xw_1097, xwp_33⟩
set_option maxRecDepth 100000 in
theorem cd_X11_layForm : xCd yX11_layForm cX11_layForm 13 none 6 := ⟨xw_1102, xw_5, by decide +kernel, by decide +kernel⟩
set_option maxRecDepth 100000 in
theorem lv_X11_198_10 : xLV RX11 198 10 yX11_layForm := ⟨⟨_, _, rfl⟩, xw_1099, xw_1101, xwp_34⟩
set_option maxRecDepth 100000 in
theorem fp_X11_202 : xFP RX11 202 [(10, 18)] false .int := List.forall_mem_cons.mpr ⟨⟨RX11, RX11, TX11, 32, tyX11, rfl, by decide, xi_10, xw_836, Or.inl rfl, rfl, by decide +kernel, tyX11_ok, nmX11, fun h => by cases h⟩, fun _ h => absurd h List.not_mem_nil⟩
set_option maxRecDepth 100000 in
theorem fl_X11_38 : xFL RX11 38 [(10, 19)] := List.forall_mem_cons.mpr ⟨⟨RX11, RX11, TX11, 32, rfl, by decide, xi_10, xw_837, Or.inl rfl⟩, fun _ h => absurd h List.not_mem_nil⟩
set_option maxRecDepth 100000 in
theorem fl_X11_202 : xFL RX11 202 [(10, 18)] := List.forall_mem_cons.mpr ⟨⟨RX11, RX11, TX11, 32, rfl, by decide, xi_10, xw_836, Or.inl rfl⟩, fun _ h => absurd h List.not_mem_nil⟩
set_option maxRecDepth 100000 in
theorem fl_X11_41 : xFL RX11 41 [(10, 21)] := List.forall_mem_cons.mpr ⟨⟨RX11, RX11, TX11, 32, rfl, by decide, xi_10, xw_839, Or.inl rfl⟩, fun _ h => absurd h List.not_mem_nil⟩
set_option maxRecDepth 100000 in
theorem fl_X11_205 : xFL RX11 205 [(10, 20)] := List.forall_mem_cons.mpr ⟨⟨RX11, RX11, TX11, 32, rfl, by decide, xi_10, xw_838, Or.inl rfl⟩, fun _ h => absurd h List.not_mem_nil⟩
set_option maxRecDepth 100000 in
theorem fl_X11_44 : xFL RX11 44 [(10, 22)] := List.forall_mem_cons.mpr ⟨⟨RX11, RX11, TX11, 32, rfl, by decide, xi_10, xw_840, Or.inl rfl⟩, fun _ h => absurd h List.not_mem_nil⟩
set_option maxRecDepth 100000 in
theorem fl_X11_47 : xFL RX11 47 [(10, 23)] := List.forall_mem_cons.mpr ⟨⟨RX11, RX11, TX11, 32, rfl, by decide, xi_10, xw_841, Or.inl rfl⟩, fun _ h => absurd h List.not_mem_nil⟩
set_option maxRecDepth 100000 in
theorem fl_X11_50 : xFL RX11 50 [(10, 24)] := List.forall_mem_cons.mpr ⟨⟨RX11, RX11, TX11, 32, rfl, by decide, xi_10, xw_842, Or.inl rfl⟩, fun _ h => absurd h List.not_mem_nil⟩
set_option maxRecDepth 100000 in
theorem fp_X11_205 : xFP RX11 205 [(10, 20)] false .int := List.forall_mem_cons.mpr ⟨⟨RX11, RX11, TX11, 32, tyX11, rfl, by decide, xi_10, xw_838, Or.inl rfl, rfl, by decide +kernel, tyX11_ok, nmX11, fun h => by cases h⟩, fun _ h => absurd h List.not_mem_nil⟩
set_option maxRecDepth 100000 in
theorem fl_X11_53 : xFL RX11 53 [(10, 25)] := List.forall_mem_cons.mpr ⟨⟨RX11, RX11, TX11, 32, rfl, by decide, xi_10, xw_843, Or.inl rfl⟩, fun _ h => absurd h List.not_mem_nil⟩
set_option maxRecDepth 100000 in
theorem cd_X11_tellNumber : xCd yX11_tellNumber cX11_tellNumber 4 none 2 := ⟨xw_1122, xw_5, by decide +kernel, by decide +kernel⟩
set_option maxRecDepth 100000 in
theorem lv_X11_208_10 : xLV RX11 208 10 yX11_tellNumber := ⟨⟨_, _, rfl⟩, xw_1119, xw_1121, xwp_38⟩
set_option maxRecDepth 100000 in
theorem cd_X11_findSquares : xCd yX11_findSquares cX11_findSquares 8 (some .boolean) 0 := ⟨xw_1110, xw_5, by decide +kernel, by decide +kernel⟩
set_option maxRecDepth 100000 in
theorem lv_X11_212_10 : xLV RX11 212 10 yX11_findSquares := ⟨⟨_, _, rfl⟩, xw_1107, xw_1109, xwp_35⟩
set_option maxRecDepth 100000 in
theorem cd_X11_newProof : xCd yX11_newProof cX11_newProof 4 (some .int) 3 := ⟨xw_1114, xw_5, by decide +kernel, by decide +kernel⟩
set_option maxRecDepth 100000 in
theorem lv_X11_216_10 : xLV RX11 216 10 yX11_newProof := ⟨⟨_, _, rfl⟩, xw_1111, xw_1113, xwp_36⟩
set_option maxRecDepth 100000 in
theorem cd_X11_tellSquares : xCd yX11_tellSquares cX11_tellSquares 3 none 1 := ⟨xw_1118, xw_5, by decide +kernel, by decide +kernel⟩
set_option maxRecDepth 100000 in
theorem lv_X11_220_10 : xLV RX11 220 10 yX11_tellSquares := ⟨⟨_, _, rfl⟩, xw_1115, xw_1117, xwp_37⟩
set_option maxRecDepth 100000 in
theorem fl_X11_165 : xFL RX11 165 [(10, 11)] := List.forall_mem_cons.mpr ⟨⟨RX11, RX11, TX11, 32, rfl, by decide, xi_10, xw_829, Or.inl rfl⟩, fun _ h => absurd h List.not_mem_nil⟩
set_option maxRecDepth 100000 in
theorem cd_X11_mayBe : xCd yX11_mayBe cX11_mayBe 4 (some .boolean) 2 := ⟨xw_1137, xw_5, by decide +kernel, by decide +kernel⟩
set_option maxRecDepth 100000 in
theorem ls_X11_223 : xLS RX11 223 yX11_mayBe := ⟨xw_1135, xw_1136⟩
set_option maxRecDepth 100000 in
theorem cd_X11_isProof : xCd yX11_isProof cX11_isProof 2 (some .boolean) 1 := ⟨xw_1145, xw_5, by decide +kernel, by decide +kernel⟩
set_option maxRecDepth 100000 in
theorem lv_X11_227_10 : xLV RX11 227 10 yX11_isProof := ⟨⟨_, _, rfl⟩, xw_1142, xw_1144, xwp_39⟩
set_option maxRecDepth 100000 in
theorem cd_X11_squaresIn : xCd yX11_squaresIn cX11_squaresIn 2 (some .int) 1 := ⟨xw_1149, xw_5, by decide +kernel, by decide +kernel⟩
set_option maxRecDepth 100000 in
theorem lv_X11_230_10 : xLV RX11 230 10 yX11_squaresIn := ⟨⟨_, _, rfl⟩, xw_1146, xw_1148, xwp_40⟩
set_option maxRecDepth 100000 in
theorem fl_X11_68 : xFL RX11 68 [(10, 30)] := List.forall_mem_cons.mpr ⟨⟨RX11, RX11, TX11, 32, rfl, by decide, xi_10, xw_848, Or.inl rfl⟩, fun _ h => absurd h List.not_mem_nil⟩
set_option maxRecDepth 100000 in
theorem cd_X11_cover : xCd yX11_cover cX11_cover 5 (some .int) 1 := ⟨xw_1053, xw_5, by decide +kernel, by decide +kernel⟩
set_option maxRecDepth 100000 in
theorem lv_X11_274_10 : xLV RX11 274 10 yX11_cover := ⟨⟨_, _, rfl⟩, xw_1168, xw_1051, xw_1052⟩
set_option maxRecDepth 100000 in
theorem fl_X11_71 : xFL RX11 71 [(10, 31)] := List.forall_mem_cons.mpr ⟨⟨RX11, RX11, TX11, 32, rfl, by decide, xi_10, xw_849, Or.inl rfl⟩, fun _ h => absurd h List.not_mem_nil⟩
set_option maxRecDepth 100000 in
theorem cd_X11_proofNumber : xCd yX11_proofNumber cX11_proofNumber 3 (some .long) 2 := ⟨xw_1172, xw_5, by decide +kernel, by decide +kernel⟩
set_option maxRecDepth 100000 in
theorem lv_X11_239_10 : xLV RX11 239 10 yX11_proofNumber := ⟨⟨_, _, rfl⟩, xw_1169, xw_1171, xwp_42⟩
set_option maxRecDepth 100000 in
theorem fl_X11_65 : xFL RX11 65 [(10, 29)] := List.forall_mem_cons.mpr ⟨⟨RX11, RX11, TX11, 32, rfl, by decide, xi_10, xw_847, Or.inl rfl⟩, fun _ h => absurd h List.not_mem_nil⟩
set_option maxRecDepth 100000 in
theorem fl_X11_56 : xFL RX11 56 [(10, 26)] := List.forall_mem_cons.mpr ⟨⟨RX11, RX11, TX11, 32, rfl, by decide, xi_10, xw_844, Or.inl rfl⟩, fun _ h => absurd h List.not_mem_nil⟩
set_option maxRecDepth 100000 in
theorem fl_X11_59 : xFL RX11 59 [(10, 27)] := List.forall_mem_cons.mpr ⟨⟨RX11, RX11, TX11, 32, rfl, by decide, xi_10, xw_845, Or.inl rfl⟩, fun _ h => absurd h List.not_mem_nil⟩
set_option maxRecDepth 100000 in
theorem fl_X11_62 : xFL RX11 62 [(10, 28)] := List.forall_mem_cons.mpr ⟨⟨RX11, RX11, TX11, 32, rfl, by decide, xi_10, xw_846, Or.inl rfl⟩, fun _ h => absurd h List.not_mem_nil⟩
set_option maxRecDepth 100000 in
theorem cd_X11_multiply : xCd yX11_multiply cX11_multiply 11 none 1 := ⟨xw_1198, xw_5, by decide +kernel, by decide +kernel⟩
set_option maxRecDepth 100000 in
theorem lv_X11_242_10 : xLV RX11 242 10 yX11_multiply := ⟨⟨_, _, rfl⟩, xw_1195, xw_1197, xwp_46⟩
set_option maxRecDepth 100000 in
theorem cd_X11_isOther : xCd yX11_isOther cX11_isOther 1 (some .boolean) 1 := ⟨xw_1183, xw_5, by decide +kernel, by decide +kernel⟩
set_option maxRecDepth 100000 in
theorem ls_X11_246 : xLS RX11 246 yX11_isOther := ⟨xw_1181, xw_1182⟩
set_option maxRecDepth 100000 in
theorem cd_X11_firstOf : xCd yX11_firstOf cX11_firstOf 1 (some .int) 1 := ⟨xw_1186, xw_5, by decide +kernel, by decide +kernel⟩
set_option maxRecDepth 100000 in
theorem ls_X11_249 : xLS RX11 249 yX11_firstOf := ⟨xw_1184, xw_1185⟩
set_option maxRecDepth 100000 in
theorem cd_X11_secondOf : xCd yX11_secondOf cX11_secondOf 1 (some .int) 1 := ⟨xw_1189, xw_5, by decide +kernel, by decide +kernel⟩
set_option maxRecDepth 100000 in
theorem ls_X11_252 : xLS RX11 252 yX11_secondOf := ⟨xw_1187, xw_1188⟩
set_option maxRecDepth 100000 in
theorem cd_X11_beginProduct : xCd yX11_beginProduct cX11_beginProduct 4 none 1 := ⟨xw_1193, xw_5, by decide +kernel, by decide +kernel⟩
set_option maxRecDepth 100000 in
theorem lv_X11_255_10 : xLV RX11 255 10 yX11_beginProduct := ⟨⟨_, _, rfl⟩, xw_1190, xw_1192, xwp_45⟩
set_option maxRecDepth 100000 in
theorem cd_X11_timesOthers : xCd yX11_timesOthers cX11_timesOthers 5 none 2 := ⟨xw_1202, xw_5, by decide +kernel, by decide +kernel⟩
set_option maxRecDepth 100000 in
theorem lv_X11_258_10 : xLV RX11 258 10 yX11_timesOthers := ⟨⟨_, _, rfl⟩, xw_1199, xw_1201, xwp_47⟩
set_option maxRecDepth 100000 in
theorem cd_X11_addProduct : xCd yX11_addProduct cX11_addProduct 5 none 1 := ⟨xw_1206, xw_5, by decide +kernel, by decide +kernel⟩
set_option maxRecDepth 100000 in
theorem lv_X11_262_10 : xLV RX11 262 10 yX11_addProduct := ⟨⟨_, _, rfl⟩, xw_1203, xw_1205, xwp_48⟩
set_option maxRecDepth 100000 in
theorem cd_X11_isNought : xCd yX11_isNought cX11_isNought 3 (some .boolean) 0 := ⟨xw_1211, xw_5, by decide +kernel, by decide +kernel⟩
set_option maxRecDepth 100000 in
theorem lv_X11_268_10 : xLV RX11 268 10 yX11_isNought := ⟨⟨_, _, rfl⟩, xw_1208, xw_1210, xwp_49⟩
set_option maxRecDepth 100000 in
theorem cd_X11_isRight : xCd yX11_isRight cX11_isRight 8 (some .boolean) 2 := ⟨xw_1180, xw_5, by decide +kernel, by decide +kernel⟩
set_option maxRecDepth 100000 in
theorem lv_X11_271_10 : xLV RX11 271 10 yX11_isRight := ⟨⟨_, _, rfl⟩, xw_1177, xw_1179, xwp_44⟩
set_option maxRecDepth 100000 in
theorem cd_X11_checkSums : xCd yX11_checkSums cX11_checkSums 5 (some .int) 1 := ⟨xw_1176, xw_5, by decide +kernel, by decide +kernel⟩
set_option maxRecDepth 100000 in
theorem lv_X11_280_10 : xLV RX11 280 10 yX11_checkSums := ⟨⟨_, _, rfl⟩, xw_1173, xw_1175, xwp_43⟩
set_option maxRecDepth 100000 in
theorem cd_X11_checkParts : xCd yX11_checkParts cX11_checkParts 12 (some .int) 1 := ⟨xw_1167, xw_5, by decide +kernel, by decide +kernel⟩
set_option maxRecDepth 100000 in
theorem lv_X11_277_10 : xLV RX11 277 10 yX11_checkParts := ⟨⟨_, _, rfl⟩, xw_1164, xw_1166, xwp_41⟩
set_option maxRecDepth 100000 in
theorem fl_X11_285 : xFL RX11 285 [(10, 1)] := List.forall_mem_cons.mpr ⟨⟨RX11, RX11, TX11, 32, rfl, by decide, xi_10, xw_819, Or.inl rfl⟩, fun _ h => absurd h List.not_mem_nil⟩
set_option maxRecDepth 100000 in
theorem fp_X11_285 : xFP RX11 285 [(10, 1)] false .int := List.forall_mem_cons.mpr ⟨⟨RX11, RX11, TX11, 32, tyX11, rfl, by decide, xi_10, xw_819, Or.inl rfl, rfl, by decide +kernel, tyX11_ok, nmX11, fun h => by cases h⟩, fun _ h => absurd h List.not_mem_nil⟩
set_option maxRecDepth 100000 in
theorem cd_X11_begins : xCd yX11_begins cX11_begins 2 none 1 := ⟨xw_1224, xw_5, by decide +kernel, by decide +kernel⟩
set_option maxRecDepth 100000 in
theorem lv_X11_288_10 : xLV RX11 288 10 yX11_begins := ⟨⟨_, _, rfl⟩, xw_1221, xw_1223, xwp_50⟩
set_option maxRecDepth 100000 in
theorem fl_X11_74 : xFL RX11 74 [(10, 0)] := List.forall_mem_cons.mpr ⟨⟨RX11, RX11, TX11, 32, rfl, by decide, xi_10, xw_818, Or.inl rfl⟩, fun _ h => absurd h List.not_mem_nil⟩
