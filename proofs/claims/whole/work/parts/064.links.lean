theorem uw_X0 : ∀ w ∈ u_ws RX0 TX0 3, w ∈ TS := List.forall_mem_cons.mpr ⟨tw_372, List.forall_mem_cons.mpr ⟨tw_374, List.forall_mem_cons.mpr ⟨tw_376, fun _ h => nomatch h⟩⟩⟩
theorem uw_X1 : ∀ w ∈ u_ws RX1 TX1 3, w ∈ TS := List.forall_mem_cons.mpr ⟨tw_134, List.forall_mem_cons.mpr ⟨tw_136, List.forall_mem_cons.mpr ⟨tw_138, fun _ h => nomatch h⟩⟩⟩
theorem uw_X7 : ∀ w ∈ u_ws RX7 TX7 5, w ∈ TS := List.forall_mem_cons.mpr ⟨tw_401, List.forall_mem_cons.mpr ⟨tw_403, List.forall_mem_cons.mpr ⟨tw_405, List.forall_mem_cons.mpr ⟨tw_407, List.forall_mem_cons.mpr ⟨tw_409, fun _ h => nomatch h⟩⟩⟩⟩⟩
theorem uw_X2 : ∀ w ∈ u_ws RX2 TX2 4, w ∈ TS := List.forall_mem_cons.mpr ⟨tw_288, List.forall_mem_cons.mpr ⟨tw_290, List.forall_mem_cons.mpr ⟨tw_292, List.forall_mem_cons.mpr ⟨tw_294, fun _ h => nomatch h⟩⟩⟩⟩
theorem uw_X3 : ∀ w ∈ u_ws RX3 TX3 2, w ∈ TS := List.forall_mem_cons.mpr ⟨tw_168, List.forall_mem_cons.mpr ⟨tw_170, fun _ h => nomatch h⟩⟩
theorem uw_Jx4a65c : ∀ w ∈ u_ws RJx4a65c TJx4a65c 3, w ∈ TS := List.forall_mem_cons.mpr ⟨tw_355, List.forall_mem_cons.mpr ⟨tw_351, List.forall_mem_cons.mpr ⟨tw_353, fun _ h => nomatch h⟩⟩⟩
theorem uw_X4 : ∀ w ∈ u_ws RX4 TX4 16, w ∈ TS := List.forall_mem_cons.mpr ⟨tw_506, List.forall_mem_cons.mpr ⟨tw_508, List.forall_mem_cons.mpr ⟨tw_510, List.forall_mem_cons.mpr ⟨tw_512, List.forall_mem_cons.mpr ⟨tw_514, List.forall_mem_cons.mpr ⟨tw_516, List.forall_mem_cons.mpr ⟨tw_518, List.forall_mem_cons.mpr ⟨tw_520, List.forall_mem_cons.mpr ⟨tw_522, List.forall_mem_cons.mpr ⟨tw_524, List.forall_mem_cons.mpr ⟨tw_526, List.forall_mem_cons.mpr ⟨tw_528, List.forall_mem_cons.mpr ⟨tw_530, List.forall_mem_cons.mpr ⟨tw_532, List.forall_mem_cons.mpr ⟨tw_534, List.forall_mem_cons.mpr ⟨tw_536, fun _ h => nomatch h⟩⟩⟩⟩⟩⟩⟩⟩⟩⟩⟩⟩⟩⟩⟩⟩
theorem uw_X5 : ∀ w ∈ u_ws RX5 TX5 1, w ∈ TS := List.forall_mem_cons.mpr ⟨tw_155, fun _ h => nomatch h⟩
theorem uw_X10 : ∀ w ∈ u_ws RX10 TX10 8, w ∈ TS := List.forall_mem_cons.mpr ⟨tw_443, List.forall_mem_cons.mpr ⟨tw_445, List.forall_mem_cons.mpr ⟨tw_447, List.forall_mem_cons.mpr ⟨tw_449, List.forall_mem_cons.mpr ⟨tw_451, List.forall_mem_cons.mpr ⟨tw_453, List.forall_mem_cons.mpr ⟨tw_455, List.forall_mem_cons.mpr ⟨tw_457, fun _ h => nomatch h⟩⟩⟩⟩⟩⟩⟩⟩
theorem uw_X6 : ∀ w ∈ u_ws RX6 TX6 8, w ∈ TS := List.forall_mem_cons.mpr ⟨tw_105, List.forall_mem_cons.mpr ⟨tw_107, List.forall_mem_cons.mpr ⟨tw_109, List.forall_mem_cons.mpr ⟨tw_111, List.forall_mem_cons.mpr ⟨tw_113, List.forall_mem_cons.mpr ⟨tw_115, List.forall_mem_cons.mpr ⟨tw_117, List.forall_mem_cons.mpr ⟨tw_119, fun _ h => nomatch h⟩⟩⟩⟩⟩⟩⟩⟩
theorem uw_X9 : ∀ w ∈ u_ws RX9 TX9 8, w ∈ TS := List.forall_mem_cons.mpr ⟨tw_70, List.forall_mem_cons.mpr ⟨tw_72, List.forall_mem_cons.mpr ⟨tw_74, List.forall_mem_cons.mpr ⟨tw_76, List.forall_mem_cons.mpr ⟨tw_78, List.forall_mem_cons.mpr ⟨tw_80, List.forall_mem_cons.mpr ⟨tw_82, List.forall_mem_cons.mpr ⟨tw_84, fun _ h => nomatch h⟩⟩⟩⟩⟩⟩⟩⟩
theorem uw_X8 : ∀ w ∈ u_ws RX8 TX8 18, w ∈ TS := List.forall_mem_cons.mpr ⟨tw_214, List.forall_mem_cons.mpr ⟨tw_216, List.forall_mem_cons.mpr ⟨tw_218, List.forall_mem_cons.mpr ⟨tw_220, List.forall_mem_cons.mpr ⟨tw_222, List.forall_mem_cons.mpr ⟨tw_224, List.forall_mem_cons.mpr ⟨tw_226, List.forall_mem_cons.mpr ⟨tw_228, List.forall_mem_cons.mpr ⟨tw_230, List.forall_mem_cons.mpr ⟨tw_232, List.forall_mem_cons.mpr ⟨tw_234, List.forall_mem_cons.mpr ⟨tw_236, List.forall_mem_cons.mpr ⟨tw_238, List.forall_mem_cons.mpr ⟨tw_240, List.forall_mem_cons.mpr ⟨tw_242, List.forall_mem_cons.mpr ⟨tw_244, List.forall_mem_cons.mpr ⟨tw_246, List.forall_mem_cons.mpr ⟨tw_248, fun _ h => nomatch h⟩⟩⟩⟩⟩⟩⟩⟩⟩⟩⟩⟩⟩⟩⟩⟩⟩⟩
theorem uw_X11 : ∀ w ∈ u_ws RX11 TX11 4, w ∈ TS := List.forall_mem_cons.mpr ⟨tw_255, List.forall_mem_cons.mpr ⟨tw_257, List.forall_mem_cons.mpr ⟨tw_259, List.forall_mem_cons.mpr ⟨tw_261, fun _ h => nomatch h⟩⟩⟩⟩
theorem uw_X12 : ∀ w ∈ u_ws RX12 TX12 48, w ∈ TS := List.forall_mem_cons.mpr ⟨tw_1181, List.forall_mem_cons.mpr ⟨tw_1183, List.forall_mem_cons.mpr ⟨tw_1185, List.forall_mem_cons.mpr ⟨tw_1187, List.forall_mem_cons.mpr ⟨tw_1189, List.forall_mem_cons.mpr ⟨tw_1191, List.forall_mem_cons.mpr ⟨tw_1193, List.forall_mem_cons.mpr ⟨tw_1195, List.forall_mem_cons.mpr ⟨tw_1197, List.forall_mem_cons.mpr ⟨tw_1199, List.forall_mem_cons.mpr ⟨tw_1201, List.forall_mem_cons.mpr ⟨tw_1203, List.forall_mem_cons.mpr ⟨tw_1205, List.forall_mem_cons.mpr ⟨tw_1207, List.forall_mem_cons.mpr ⟨tw_1209, List.forall_mem_cons.mpr ⟨tw_1211, List.forall_mem_cons.mpr ⟨tw_1213, List.forall_mem_cons.mpr ⟨tw_1215, List.forall_mem_cons.mpr ⟨tw_1217, List.forall_mem_cons.mpr ⟨tw_1219, List.forall_mem_cons.mpr ⟨tw_1221, List.forall_mem_cons.mpr ⟨tw_1223, List.forall_mem_cons.mpr ⟨tw_1225, List.forall_mem_cons.mpr ⟨tw_1227, List.forall_mem_cons.mpr ⟨tw_1229, List.forall_mem_cons.mpr ⟨tw_1231, List.forall_mem_cons.mpr ⟨tw_1233, List.forall_mem_cons.mpr ⟨tw_1235, List.forall_mem_cons.mpr ⟨tw_1237, List.forall_mem_cons.mpr ⟨tw_1239, List.forall_mem_cons.mpr ⟨tw_1241, List.forall_mem_cons.mpr ⟨tw_1243, List.forall_mem_cons.mpr ⟨tw_1245, List.forall_mem_cons.mpr ⟨tw_1247, List.forall_mem_cons.mpr ⟨tw_1249, List.forall_mem_cons.mpr ⟨tw_1251, List.forall_mem_cons.mpr ⟨tw_1253, List.forall_mem_cons.mpr ⟨tw_1255, List.forall_mem_cons.mpr ⟨tw_1257, List.forall_mem_cons.mpr ⟨tw_1259, List.forall_mem_cons.mpr ⟨tw_1261, List.forall_mem_cons.mpr ⟨tw_1263, List.forall_mem_cons.mpr ⟨tw_1265, List.forall_mem_cons.mpr ⟨tw_1267, List.forall_mem_cons.mpr ⟨tw_1269, List.forall_mem_cons.mpr ⟨tw_1271, List.forall_mem_cons.mpr ⟨tw_1273, List.forall_mem_cons.mpr ⟨tw_1275, fun _ h => nomatch h⟩⟩⟩⟩⟩⟩⟩⟩⟩⟩⟩⟩⟩⟩⟩⟩⟩⟩⟩⟩⟩⟩⟩⟩⟩⟩⟩⟩⟩⟩⟩⟩⟩⟩⟩⟩⟩⟩⟩⟩⟩⟩⟩⟩⟩⟩⟩⟩
theorem p_X0_9 : POK RX0 9 2 0 2 true := ⟨RX0, TX0, 3, tyX0, rfl, by decide, rfl, by decide, by decide, uw_X0, tw_366, tyX0_ok, nmX0, rfl, fun o => by cases o <;> exact ⟨rfl, rfl⟩, fun _ => rfl⟩
theorem p_X0_15 : POK RX0 15 2 1 2 true := ⟨RX0, TX0, 3, tyX0, rfl, by decide, rfl, by decide, by decide, uw_X0, tw_368, tyX0_ok, nmX0, rfl, fun o => by cases o <;> exact ⟨rfl, rfl⟩, fun _ => rfl⟩
theorem v_X0_18 : VOK RX0 18 yX0_placeOf cX0_placeOf 3 (some .int) 2 1 := ⟨tw_672, tw_674, ts_6, tw_14, tw_675, ⟨_, _, rfl⟩, by decide, by decide, ⟨rfl, by decide, by decide, by decide⟩⟩
theorem f_X0_22 : FOK RX0 22 2 2 := ⟨RX0, TX0, 3, rfl, by decide, rfl, by decide, by decide, uw_X0, tw_370⟩
theorem f_X0_9 : FOK RX0 9 2 0 := ⟨RX0, TX0, 3, rfl, by decide, rfl, by decide, by decide, uw_X0, tw_366⟩
theorem p_X0_22 : POK RX0 22 2 2 0 false := ⟨RX0, TX0, 3, tyX0, rfl, by decide, rfl, by decide, by decide, uw_X0, tw_370, tyX0_ok, nmX0, rfl, rfl, (fun h => by cases h)⟩
theorem f_X0_15 : FOK RX0 15 2 1 := ⟨RX0, TX0, 3, rfl, by decide, rfl, by decide, by decide, uw_X0, tw_368⟩
theorem p_X1_9 : POK RX1 9 3 0 2 true := ⟨RX1, TX1, 3, tyX1, rfl, by decide, rfl, by decide, by decide, uw_X1, tw_129, tyX1_ok, nmX1, rfl, fun o => by cases o <;> exact ⟨rfl, rfl⟩, fun _ => rfl⟩
theorem p_X1_15 : POK RX1 15 3 1 2 true := ⟨RX1, TX1, 3, tyX1, rfl, by decide, rfl, by decide, by decide, uw_X1, tw_131, tyX1_ok, nmX1, rfl, fun o => by cases o <;> exact ⟨rfl, rfl⟩, fun _ => rfl⟩
theorem f_X1_9 : FOK RX1 9 3 0 := ⟨RX1, TX1, 3, rfl, by decide, rfl, by decide, by decide, uw_X1, tw_129⟩
theorem p_X1_18 : POK RX1 18 3 2 0 false := ⟨RX1, TX1, 3, tyX1, rfl, by decide, rfl, by decide, by decide, uw_X1, tw_132, tyX1_ok, nmX1, rfl, rfl, (fun h => by cases h)⟩
theorem v_X1_22 : VOK RX1 22 yX7_fault cX7_fault 1 (some .int) 9 0 := ⟨tw_1021, tw_761, tw_762, tw_15, tw_763, ⟨_, _, rfl⟩, by decide, by decide, ⟨rfl, by decide, by decide, by decide⟩⟩
theorem f_X7_11 : FOK RX7 11 9 0 := ⟨RX7, TX7, 5, rfl, by decide, rfl, by decide, by decide, uw_X7, tw_385⟩
theorem f_X7_19 : FOK RX7 19 9 4 := ⟨RX7, TX7, 5, rfl, by decide, rfl, by decide, by decide, uw_X7, tw_398⟩
theorem v_X7_22 : VOK RX7 22 yX7_faultOfCut cX7_faultOfCut 2 (some .int) 9 0 := ⟨tw_764, tw_766, ts_13, tw_15, tw_767, ⟨_, _, rfl⟩, by decide, by decide, ⟨rfl, by decide, by decide, by decide⟩⟩
theorem f_X7_36 : FOK RX7 36 9 2 := ⟨RX7, TX7, 5, rfl, by decide, rfl, by decide, by decide, uw_X7, tw_392⟩
theorem f_X7_15 : FOK RX7 15 9 3 := ⟨RX7, TX7, 5, rfl, by decide, rfl, by decide, by decide, uw_X7, tw_395⟩
theorem f_X7_39 : FOK RX7 39 9 1 := ⟨RX7, TX7, 5, rfl, by decide, rfl, by decide, by decide, uw_X7, tw_389⟩
theorem v_X7_26 : VOK RX7 26 yX7_faultOfShares cX7_faultOfShares 1 (some .int) 9 0 := ⟨tw_768, tw_770, ts_14, tw_15, tw_771, ⟨_, _, rfl⟩, by decide, by decide, ⟨rfl, by decide, by decide, by decide⟩⟩
theorem v_X7_32 : VOK RX7 32 yX7_isBelowZero cX7_isBelowZero 2 (some .boolean) 9 0 := ⟨tw_772, tw_774, ts_15, tw_15, tw_775, ⟨_, _, rfl⟩, by decide, by decide, ⟨rfl, by decide, by decide, by decide⟩⟩
theorem v_X7_42 : VOK RX7 42 yX7_sum cX7_sum 4 (some .long) 9 0 := ⟨tw_776, tw_777, tw_778, tw_15, tw_779, ⟨_, _, rfl⟩, by decide, by decide, ⟨rfl, by decide, by decide, by decide⟩⟩
theorem v_X7_29 : VOK RX7 29 yX7_faultOfPairs cX7_faultOfPairs 6 (some .int) 9 0 := ⟨tw_780, tw_782, ts_16, tw_15, tw_783, ⟨_, _, rfl⟩, by decide, by decide, ⟨rfl, by decide, by decide, by decide⟩⟩
theorem f_X1_28 : FOK RX1 28 9 0 := ⟨RX7, TX7, 5, rfl, by decide, rfl, by decide, by decide, uw_X7, tw_386⟩
theorem v_X1_31 : VOK RX1 31 yX1_cutBoards cX1_cutBoards 4 none 3 1 := ⟨tw_1022, tw_1024, ts_41, tw_4, tw_1025, ⟨_, _, rfl⟩, by decide, by decide, ⟨rfl, by decide, by decide, by decide⟩⟩
theorem f_X1_41 : FOK RX1 41 9 4 := ⟨RX7, TX7, 5, rfl, by decide, rfl, by decide, by decide, uw_X7, tw_399⟩
theorem v_X1_49 : VOK RX1 49 yX1_greatestUncut cX1_greatestUncut 4 (some .int) 3 1 := ⟨tw_1027, tw_1029, ts_42, tw_4, tw_1030, ⟨_, _, rfl⟩, by decide, by decide, ⟨rfl, by decide, by decide, by decide⟩⟩
theorem f_X1_53 : FOK RX1 53 9 3 := ⟨RX7, TX7, 5, rfl, by decide, rfl, by decide, by decide, uw_X7, tw_396⟩
theorem v_X1_57 : VOK RX1 57 yX1_boardFor cX1_boardFor 7 (some .int) 3 2 := ⟨tw_1031, tw_1033, ts_43, tw_4, tw_1034, ⟨_, _, rfl⟩, by decide, by decide, ⟨rfl, by decide, by decide, by decide⟩⟩
theorem f_X1_18 : FOK RX1 18 3 2 := ⟨RX1, TX1, 3, rfl, by decide, rfl, by decide, by decide, uw_X1, tw_132⟩
theorem f_X1_15 : FOK RX1 15 3 1 := ⟨RX1, TX1, 3, rfl, by decide, rfl, by decide, by decide, uw_X1, tw_131⟩
theorem f_X1_61 : FOK RX1 61 9 2 := ⟨RX7, TX7, 5, rfl, by decide, rfl, by decide, by decide, uw_X7, tw_393⟩
theorem f_X1_64 : FOK RX1 64 9 1 := ⟨RX7, TX7, 5, rfl, by decide, rfl, by decide, by decide, uw_X7, tw_390⟩
theorem v_X1_35 : VOK RX1 35 yX1_mixParts cX1_mixParts 6 none 3 1 := ⟨tw_1035, tw_1037, ts_44, tw_4, tw_1038, ⟨_, _, rfl⟩, by decide, by decide, ⟨rfl, by decide, by decide, by decide⟩⟩
theorem v_X1_67 : VOK RX1 67 yX1_share cX1_share 9 (some .long) 3 1 := ⟨tw_1039, tw_1041, ts_45, tw_4, tw_1042, ⟨_, _, rfl⟩, by decide, by decide, ⟨rfl, by decide, by decide, by decide⟩⟩
theorem v_X1_75 : VOK RX1 75 yX7_sum cX7_sum 4 (some .long) 9 0 := ⟨tw_1043, tw_777, tw_778, tw_15, tw_779, ⟨_, _, rfl⟩, by decide, by decide, ⟨rfl, by decide, by decide, by decide⟩⟩
theorem v_X1_71 : VOK RX1 71 yX1_greatestRest cX1_greatestRest 4 (some .int) 3 1 := ⟨tw_1044, tw_1046, ts_46, tw_4, tw_1047, ⟨_, _, rfl⟩, by decide, by decide, ⟨rfl, by decide, by decide, by decide⟩⟩
theorem v_X1_38 : VOK RX1 38 yX1_loadPoints cX1_loadPoints 5 none 3 1 := ⟨tw_1048, tw_1050, ts_47, tw_4, tw_1051, ⟨_, _, rfl⟩, by decide, by decide, ⟨rfl, by decide, by decide, by decide⟩⟩
theorem v_X1_44 : VOK RX1 44 yX1_countUp cX1_countUp 7 none 3 1 := ⟨tw_1052, tw_1054, ts_48, tw_4, tw_1055, ⟨_, _, rfl⟩, by decide, by decide, ⟨rfl, by decide, by decide, by decide⟩⟩
theorem p_X2_7 : POK RX2 7 4 0 0 true := ⟨RX2, TX2, 4, tyX2, rfl, by decide, rfl, by decide, by decide, uw_X2, tw_281, tyX2_ok, nmX2, rfl, rfl, fun _ => rfl⟩
theorem p_X2_13 : POK RX2 13 4 1 0 true := ⟨RX2, TX2, 4, tyX2, rfl, by decide, rfl, by decide, by decide, uw_X2, tw_283, tyX2_ok, nmX2, rfl, rfl, fun _ => rfl⟩
theorem p_X2_16 : POK RX2 16 4 2 0 true := ⟨RX2, TX2, 4, tyX2, rfl, by decide, rfl, by decide, by decide, uw_X2, tw_285, tyX2_ok, nmX2, rfl, rfl, fun _ => rfl⟩
theorem p_X3_11 : POK RX3 11 5 0 2 true := ⟨RX3, TX3, 2, tyX3, rfl, by decide, rfl, by decide, by decide, uw_X3, tw_164, tyX3_ok, nmX3, rfl, fun o => by cases o <;> exact ⟨rfl, rfl⟩, fun _ => rfl⟩
theorem f_X3_15 : FOK RX3 15 5 1 := ⟨RX3, TX3, 2, rfl, by decide, rfl, by decide, by decide, uw_X3, tw_165⟩
theorem f_X3_11 : FOK RX3 11 5 0 := ⟨RX3, TX3, 2, rfl, by decide, rfl, by decide, by decide, uw_X3, tw_164⟩
theorem p_X3_15 : POK RX3 15 5 1 0 false := ⟨RX3, TX3, 2, tyX3, rfl, by decide, rfl, by decide, by decide, uw_X3, tw_165, tyX3_ok, nmX3, rfl, rfl, (fun h => by cases h)⟩
theorem n_X4_7 : NOK RX4 7 1 := ⟨RJx4a65c, TJx4a65c, 3, tyJx4a65c, rfl, rfl, by decide, by decide, uw_Jx4a65c, tyJx4a65c_ok, tw_332, tw_333, tw_13, by decide⟩
theorem i_X4_9 : IOK RX4 9 yJx4a65c_init_da8c8 cJx4a65c_init_da8c8 1 0 := ⟨Or.inl tw_334, tw_335, tw_13, tw_336, rfl, ⟨by decide, by decide, by decide⟩⟩
theorem i_Jx4a65c_1 : IOK RJx4a65c 1 yJxc12de_init_da8c8 cJxc12de_init_da8c8 1 0 := ⟨Or.inl tw_337, tw_338, tw_12, tw_339, rfl, ⟨by decide, by decide, by decide⟩⟩
theorem i_Jxc12de_1 : IOK RJxc12de 1 yJxa1e45_init_da8c8 cJxa1e45_init_da8c8 1 0 := ⟨Or.inl tw_340, tw_341, tw_11, tw_342, rfl, ⟨by decide, by decide, by decide⟩⟩
theorem p_Jxc12de_7 : POK RJxc12de 7 1 0 0 false := ⟨RJx4a65c, TJx4a65c, 3, tyJx4a65c, rfl, by decide, rfl, by decide, by decide, uw_Jx4a65c, tw_348, tyJx4a65c_ok, nmJx4a65c, rfl, rfl, (fun h => by cases h)⟩
theorem p_Jx4a65c_9 : POK RJx4a65c 9 1 1 2 false := ⟨RJx4a65c, TJx4a65c, 3, tyJx4a65c, rfl, by decide, rfl, by decide, by decide, uw_Jx4a65c, tw_346, tyJx4a65c_ok, nmJx4a65c, rfl, fun o => by cases o <;> exact ⟨rfl, rfl⟩, (fun h => by cases h)⟩
theorem p_X4_10 : POK RX4 10 6 4 2 true := ⟨RX4, TX4, 16, tyX4, rfl, by decide, rfl, by decide, by decide, uw_X4, tw_472, tyX4_ok, nmX4, rfl, fun o => by cases o <;> exact ⟨rfl, rfl⟩, fun _ => rfl⟩
theorem p_X4_16 : POK RX4 16 6 5 2 true := ⟨RX4, TX4, 16, tyX4, rfl, by decide, rfl, by decide, by decide, uw_X4, tw_476, tyX4_ok, nmX4, rfl, fun o => by cases o <;> exact ⟨rfl, rfl⟩, fun _ => rfl⟩
theorem n_X4_19 : NOK RX4 19 7 := ⟨RX5, TX5, 1, tyX5, rfl, rfl, by decide, by decide, uw_X5, tyX5_ok, tw_358, tw_149, tw_6, by decide⟩
theorem i_X4_21 : IOK RX4 21 yX5_init cX5_init 1 0 := ⟨Or.inr (by decide), tw_151, tw_6, tw_152, rfl, ⟨by decide, by decide, by decide⟩⟩
theorem p_X5_11 : POK RX5 11 7 0 2 true := ⟨RX5, TX5, 1, tyX5, rfl, by decide, rfl, by decide, by decide, uw_X5, tw_154, tyX5_ok, nmX5, rfl, fun o => by cases o <;> exact ⟨rfl, rfl⟩, fun _ => rfl⟩
theorem p_X4_22 : POK RX4 22 6 6 2 true := ⟨RX4, TX4, 16, tyX4, rfl, by decide, rfl, by decide, by decide, uw_X4, tw_480, tyX4_ok, nmX4, rfl, fun o => by cases o <;> exact ⟨rfl, rfl⟩, fun _ => rfl⟩
theorem n_X4_26 : NOK RX4 26 2 := ⟨RX0, TX0, 3, tyX0, rfl, rfl, by decide, by decide, uw_X0, tyX0_ok, tw_360, tw_361, tw_14, by decide⟩
theorem i_X4_28 : IOK RX4 28 yX0_init cX0_init 1 0 := ⟨Or.inr (by decide), tw_363, tw_14, tw_364, rfl, ⟨by decide, by decide, by decide⟩⟩
theorem p_X4_29 : POK RX4 29 6 8 2 true := ⟨RX4, TX4, 16, tyX4, rfl, by decide, rfl, by decide, by decide, uw_X4, tw_486, tyX4_ok, nmX4, rfl, fun o => by cases o <;> exact ⟨rfl, rfl⟩, fun _ => rfl⟩
theorem p_X4_33 : POK RX4 33 6 9 2 true := ⟨RX4, TX4, 16, tyX4, rfl, by decide, rfl, by decide, by decide, uw_X4, tw_489, tyX4_ok, nmX4, rfl, fun o => by cases o <;> exact ⟨rfl, rfl⟩, fun _ => rfl⟩
theorem n_X4_36 : NOK RX4 36 9 := ⟨RX7, TX7, 5, tyX7, rfl, rfl, by decide, by decide, uw_X7, tyX7_ok, tw_379, tw_380, tw_15, by decide⟩
theorem i_X4_38 : IOK RX4 38 yX7_init cX7_init 1 0 := ⟨Or.inr (by decide), tw_382, tw_15, tw_383, rfl, ⟨by decide, by decide, by decide⟩⟩
theorem p_X7_11 : POK RX7 11 9 0 0 false := ⟨RX7, TX7, 5, tyX7, rfl, by decide, rfl, by decide, by decide, uw_X7, tw_385, tyX7_ok, nmX7, rfl, rfl, (fun h => by cases h)⟩
theorem p_X7_15 : POK RX7 15 9 3 2 true := ⟨RX7, TX7, 5, tyX7, rfl, by decide, rfl, by decide, by decide, uw_X7, tw_395, tyX7_ok, nmX7, rfl, fun o => by cases o <;> exact ⟨rfl, rfl⟩, fun _ => rfl⟩
theorem p_X4_39 : POK RX4 39 6 10 2 true := ⟨RX4, TX4, 16, tyX4, rfl, by decide, rfl, by decide, by decide, uw_X4, tw_492, tyX4_ok, nmX4, rfl, fun o => by cases o <;> exact ⟨rfl, rfl⟩, fun _ => rfl⟩
theorem n_X4_43 : NOK RX4 43 12 := ⟨RX10, TX10, 8, tyX10, rfl, rfl, by decide, by decide, uw_X10, tyX10_ok, tw_412, tw_413, tw_16, by decide⟩
theorem i_X4_45 : IOK RX4 45 yX10_init cX10_init 1 0 := ⟨Or.inl tw_414, tw_415, tw_16, tw_416, rfl, ⟨by decide, by decide, by decide⟩⟩
theorem v_X10_9 : VOK RX10 9 yX10_wipe cX10_wipe 1 none 12 0 := ⟨tw_418, tw_178, tw_179, tw_16, tw_180, ⟨_, _, rfl⟩, by decide, by decide, ⟨rfl, by decide, by decide, by decide⟩⟩
theorem p_X10_14 : POK RX10 14 12 0 0 false := ⟨RX10, TX10, 8, tyX10, rfl, by decide, rfl, by decide, by decide, uw_X10, tw_419, tyX10_ok, nmX10, rfl, rfl, (fun h => by cases h)⟩
theorem p_X10_18 : POK RX10 18 12 1 0 false := ⟨RX10, TX10, 8, tyX10, rfl, by decide, rfl, by decide, by decide, uw_X10, tw_422, tyX10_ok, nmX10, rfl, rfl, (fun h => by cases h)⟩
theorem p_X10_21 : POK RX10 21 12 2 0 false := ⟨RX10, TX10, 8, tyX10, rfl, by decide, rfl, by decide, by decide, uw_X10, tw_426, tyX10_ok, nmX10, rfl, rfl, (fun h => by cases h)⟩
theorem p_X10_24 : POK RX10 24 12 3 0 false := ⟨RX10, TX10, 8, tyX10, rfl, by decide, rfl, by decide, by decide, uw_X10, tw_429, tyX10_ok, nmX10, rfl, rfl, (fun h => by cases h)⟩
theorem p_X10_27 : POK RX10 27 12 4 0 false := ⟨RX10, TX10, 8, tyX10, rfl, by decide, rfl, by decide, by decide, uw_X10, tw_432, tyX10_ok, nmX10, rfl, rfl, (fun h => by cases h)⟩
theorem p_X10_30 : POK RX10 30 12 5 0 false := ⟨RX10, TX10, 8, tyX10, rfl, by decide, rfl, by decide, by decide, uw_X10, tw_435, tyX10_ok, nmX10, rfl, rfl, (fun h => by cases h)⟩
theorem p_X10_33 : POK RX10 33 12 6 0 false := ⟨RX10, TX10, 8, tyX10, rfl, by decide, rfl, by decide, by decide, uw_X10, tw_438, tyX10_ok, nmX10, rfl, rfl, (fun h => by cases h)⟩
theorem p_X10_36 : POK RX10 36 12 7 0 false := ⟨RX10, TX10, 8, tyX10, rfl, by decide, rfl, by decide, by decide, uw_X10, tw_441, tyX10_ok, nmX10, rfl, rfl, (fun h => by cases h)⟩
theorem p_X4_46 : POK RX4 46 6 15 2 true := ⟨RX4, TX4, 16, tyX4, rfl, by decide, rfl, by decide, by decide, uw_X4, tw_503, tyX4_ok, nmX4, rfl, fun o => by cases o <;> exact ⟨rfl, rfl⟩, fun _ => rfl⟩
theorem p_X4_50 : POK RX4 50 6 0 0 true := ⟨RX4, TX4, 16, tyX4, rfl, by decide, rfl, by decide, by decide, uw_X4, tw_460, tyX4_ok, nmX4, rfl, rfl, fun _ => rfl⟩
theorem p_X4_54 : POK RX4 54 6 1 2 true := ⟨RX4, TX4, 16, tyX4, rfl, by decide, rfl, by decide, by decide, uw_X4, tw_465, tyX4_ok, nmX4, rfl, fun o => by cases o <;> exact ⟨rfl, rfl⟩, fun _ => rfl⟩
theorem p_X4_58 : POK RX4 58 6 2 0 true := ⟨RX4, TX4, 16, tyX4, rfl, by decide, rfl, by decide, by decide, uw_X4, tw_467, tyX4_ok, nmX4, rfl, rfl, fun _ => rfl⟩
theorem p_X4_61 : POK RX4 61 6 3 0 true := ⟨RX4, TX4, 16, tyX4, rfl, by decide, rfl, by decide, by decide, uw_X4, tw_471, tyX4_ok, nmX4, rfl, rfl, fun _ => rfl⟩
theorem f_X4_64 : FOK RX4 64 6 11 := ⟨RX4, TX4, 16, rfl, by decide, rfl, by decide, by decide, uw_X4, tw_495⟩
theorem f_X4_46 : FOK RX4 46 6 15 := ⟨RX4, TX4, 16, rfl, by decide, rfl, by decide, by decide, uw_X4, tw_503⟩
theorem f_X4_67 : FOK RX4 67 12 1 := ⟨RX10, TX10, 8, rfl, by decide, rfl, by decide, by decide, uw_X10, tw_423⟩
theorem v_X4_70 : VOK RX4 70 yX4_hasPlan cX4_hasPlan 1 (some .boolean) 6 0 := ⟨tw_758, tw_701, tw_702, tw_10, tw_703, ⟨_, _, rfl⟩, by decide, by decide, ⟨rfl, by decide, by decide, by decide⟩⟩
theorem f_X4_58 : FOK RX4 58 6 2 := ⟨RX4, TX4, 16, rfl, by decide, rfl, by decide, by decide, uw_X4, tw_467⟩
theorem f_X4_10 : FOK RX4 10 6 4 := ⟨RX4, TX4, 16, rfl, by decide, rfl, by decide, by decide, uw_X4, tw_472⟩
theorem v_X4_74 : VOK RX4 74 yJx4a65c_size_8abf5 cJx4a65c_size_8abf5 1 (some .int) 1 0 := ⟨tw_555, tw_556, tw_557, tw_13, tw_558, ⟨_, _, rfl⟩, by decide, by decide, ⟨rfl, by decide, by decide, by decide⟩⟩
theorem f_Jx4a65c_48 : FOK RJx4a65c 48 1 2 := ⟨RJx4a65c, TJx4a65c, 3, rfl, by decide, rfl, by decide, by decide, uw_Jx4a65c, tw_347⟩
theorem v_X4_78 : VOK RX4 78 yJx4a65c_get_915e3 cJx4a65c_get_915e3 2 (some (.object "java/lang/Object")) 1 1 := ⟨tw_559, tw_560, tw_561, tw_13, tw_562, ⟨_, _, rfl⟩, by decide, by decide, ⟨rfl, by decide, by decide, by decide⟩⟩
theorem s_Jx4a65c_118 : SOK RJx4a65c 118 yJ15_checkIndex_7cf53 cJ15_checkIndex_7cf53 2 (some .int) 2 := ⟨tw_563, tw_564, tw_17, tw_565, ⟨by decide, by decide, by decide⟩⟩
theorem s_J15_105 : SOK RJ15 105 yJ3_checkIndex_8e157 cJ3_checkIndex_8e157 3 (some .int) 3 := ⟨tw_566, tw_567, tw_18, tw_568, ⟨by decide, by decide, by decide⟩⟩
theorem v_Jx4a65c_123 : VOK RJx4a65c 123 yJx4a65c_elementData_915e3 cJx4a65c_elementData_915e3 2 (some (.object "java/lang/Object")) 1 1 := ⟨tw_569, tw_570, tw_571, tw_13, tw_572, ⟨_, _, rfl⟩, by decide, by decide, ⟨rfl, by decide, by decide, by decide⟩⟩
theorem f_Jx4a65c_9 : FOK RJx4a65c 9 1 1 := ⟨RJx4a65c, TJx4a65c, 3, rfl, by decide, rfl, by decide, by decide, uw_Jx4a65c, tw_346⟩
theorem f_X4_54 : FOK RX4 54 6 1 := ⟨RX4, TX4, 16, rfl, by decide, rfl, by decide, by decide, uw_X4, tw_465⟩
theorem f_X4_82 : FOK RX4 82 4 0 := ⟨RX2, TX2, 4, rfl, by decide, rfl, by decide, by decide, uw_X2, tw_282⟩
theorem f_X4_61 : FOK RX4 61 6 3 := ⟨RX4, TX4, 16, rfl, by decide, rfl, by decide, by decide, uw_X4, tw_471⟩
theorem f_X4_50 : FOK RX4 50 6 0 := ⟨RX4, TX4, 16, rfl, by decide, rfl, by decide, by decide, uw_X4, tw_460⟩
theorem f_X5_11 : FOK RX5 11 7 0 := ⟨RX5, TX5, 1, rfl, by decide, rfl, by decide, by decide, uw_X5, tw_154⟩
theorem p_X6_11 : POK RX6 11 8 1 2 true := ⟨RX6, TX6, 8, tyX6, rfl, by decide, rfl, by decide, by decide, uw_X6, tw_96, tyX6_ok, nmX6, rfl, fun o => by cases o <;> exact ⟨rfl, rfl⟩, fun _ => rfl⟩
theorem p_X6_17 : POK RX6 17 8 2 2 true := ⟨RX6, TX6, 8, tyX6, rfl, by decide, rfl, by decide, by decide, uw_X6, tw_97, tyX6_ok, nmX6, rfl, fun o => by cases o <;> exact ⟨rfl, rfl⟩, fun _ => rfl⟩
theorem p_X6_21 : POK RX6 21 8 4 2 true := ⟨RX6, TX6, 8, tyX6, rfl, by decide, rfl, by decide, by decide, uw_X6, tw_99, tyX6_ok, nmX6, rfl, fun o => by cases o <;> exact ⟨rfl, rfl⟩, fun _ => rfl⟩
theorem p_X6_24 : POK RX6 24 8 0 2 true := ⟨RX6, TX6, 8, tyX6, rfl, by decide, rfl, by decide, by decide, uw_X6, tw_95, tyX6_ok, nmX6, rfl, fun o => by cases o <;> exact ⟨rfl, rfl⟩, fun _ => rfl⟩
theorem v_X6_28 : VOK RX6 28 yX6_reckon cX6_reckon 1 none 8 0 := ⟨tw_883, tw_885, ts_33, tw_3, tw_886, ⟨_, _, rfl⟩, by decide, by decide, ⟨rfl, by decide, by decide, by decide⟩⟩
theorem f_X6_38 : FOK RX6 38 8 7 := ⟨RX6, TX6, 8, rfl, by decide, rfl, by decide, by decide, uw_X6, tw_103⟩
theorem v_X6_42 : VOK RX6 42 yX6_sortJobs cX6_sortJobs 5 none 8 0 := ⟨tw_887, tw_889, ts_34, tw_3, tw_890, ⟨_, _, rfl⟩, by decide, by decide, ⟨rfl, by decide, by decide, by decide⟩⟩
theorem p_X6_54 : POK RX6 54 8 3 0 false := ⟨RX6, TX6, 8, tyX6, rfl, by decide, rfl, by decide, by decide, uw_X6, tw_98, tyX6_ok, nmX6, rfl, rfl, (fun h => by cases h)⟩
theorem f_X6_24 : FOK RX6 24 8 0 := ⟨RX6, TX6, 8, rfl, by decide, rfl, by decide, by decide, uw_X6, tw_95⟩
theorem f_X6_57 : FOK RX6 57 11 7 := ⟨RX9, TX9, 8, rfl, by decide, rfl, by decide, by decide, uw_X9, tw_68⟩
theorem f_X6_17 : FOK RX6 17 8 2 := ⟨RX6, TX6, 8, rfl, by decide, rfl, by decide, by decide, uw_X6, tw_97⟩
theorem f_X6_62 : FOK RX6 62 11 5 := ⟨RX9, TX9, 8, rfl, by decide, rfl, by decide, by decide, uw_X9, tw_62⟩
theorem f_X6_65 : FOK RX6 65 6 4 := ⟨RX4, TX4, 16, rfl, by decide, rfl, by decide, by decide, uw_X4, tw_473⟩
theorem v_X6_69 : VOK RX6 69 yJx4a65c_size_8abf5 cJx4a65c_size_8abf5 1 (some .int) 1 0 := ⟨tw_891, tw_556, tw_557, tw_13, tw_558, ⟨_, _, rfl⟩, by decide, by decide, ⟨rfl, by decide, by decide, by decide⟩⟩
theorem v_X6_75 : VOK RX6 75 yX6_putSorted cX6_putSorted 2 none 8 1 := ⟨tw_892, tw_894, ts_35, tw_3, tw_895, ⟨_, _, rfl⟩, by decide, by decide, ⟨rfl, by decide, by decide, by decide⟩⟩
theorem f_X6_54 : FOK RX6 54 8 3 := ⟨RX6, TX6, 8, rfl, by decide, rfl, by decide, by decide, uw_X6, tw_98⟩
theorem f_X6_11 : FOK RX6 11 8 1 := ⟨RX6, TX6, 8, rfl, by decide, rfl, by decide, by decide, uw_X6, tw_96⟩
theorem f_X6_79 : FOK RX6 79 6 5 := ⟨RX4, TX4, 16, rfl, by decide, rfl, by decide, by decide, uw_X4, tw_477⟩
theorem v_X6_82 : VOK RX6 82 yJx4a65c_get_915e3 cJx4a65c_get_915e3 2 (some (.object "java/lang/Object")) 1 1 := ⟨tw_896, tw_560, tw_561, tw_13, tw_562, ⟨_, _, rfl⟩, by decide, by decide, ⟨rfl, by decide, by decide, by decide⟩⟩
theorem f_X6_86 : FOK RX6 86 6 0 := ⟨RX4, TX4, 16, rfl, by decide, rfl, by decide, by decide, uw_X4, tw_461⟩
theorem v_X6_45 : VOK RX6 45 yX6_reckonHeads cX6_reckonHeads 5 none 8 0 := ⟨tw_897, tw_899, ts_36, tw_3, tw_900, ⟨_, _, rfl⟩, by decide, by decide, ⟨rfl, by decide, by decide, by decide⟩⟩
theorem f_X6_89 : FOK RX6 89 6 13 := ⟨RX4, TX4, 16, rfl, by decide, rfl, by decide, by decide, uw_X4, tw_499⟩
theorem f_X6_98 : FOK RX6 98 6 2 := ⟨RX4, TX4, 16, rfl, by decide, rfl, by decide, by decide, uw_X4, tw_468⟩
theorem p_X6_89 : POK RX6 89 6 13 0 false := ⟨RX4, TX4, 16, tyX4, rfl, by decide, rfl, by decide, by decide, uw_X4, tw_499, tyX4_ok, nmX4, rfl, rfl, (fun h => by cases h)⟩
theorem v_X6_48 : VOK RX6 48 yX6_reckonTails cX6_reckonTails 5 none 8 0 := ⟨tw_902, tw_904, ts_37, tw_3, tw_905, ⟨_, _, rfl⟩, by decide, by decide, ⟨rfl, by decide, by decide, by decide⟩⟩
theorem f_X6_101 : FOK RX6 101 6 14 := ⟨RX4, TX4, 16, rfl, by decide, rfl, by decide, by decide, uw_X4, tw_501⟩
theorem p_X6_101 : POK RX6 101 6 14 0 false := ⟨RX4, TX4, 16, tyX4, rfl, by decide, rfl, by decide, by decide, uw_X4, tw_501, tyX4_ok, nmX4, rfl, rfl, (fun h => by cases h)⟩
theorem v_X6_51 : VOK RX6 51 yX6_followChain cX6_followChain 3 none 8 0 := ⟨tw_906, tw_908, ts_38, tw_3, tw_909, ⟨_, _, rfl⟩, by decide, by decide, ⟨rfl, by decide, by decide, by decide⟩⟩
theorem s_X6_104 : SOK RX6 104 yX6_longerOf cX6_longerOf 2 (some (.object "SetWorkshop$Job")) 2 := ⟨tw_910, tw_911, tw_3, tw_912, ⟨by decide, by decide, by decide⟩⟩
theorem p_X6_35 : POK RX6 35 8 6 0 false := ⟨RX6, TX6, 8, tyX6, rfl, by decide, rfl, by decide, by decide, uw_X6, tw_102, tyX6_ok, nmX6, rfl, rfl, (fun h => by cases h)⟩
theorem p_X6_31 : POK RX6 31 8 5 0 false := ⟨RX6, TX6, 8, tyX6, rfl, by decide, rfl, by decide, by decide, uw_X6, tw_101, tyX6_ok, nmX6, rfl, rfl, (fun h => by cases h)⟩
theorem f_X6_31 : FOK RX6 31 8 5 := ⟨RX6, TX6, 8, rfl, by decide, rfl, by decide, by decide, uw_X6, tw_101⟩
theorem f_X6_21 : FOK RX6 21 8 4 := ⟨RX6, TX6, 8, rfl, by decide, rfl, by decide, by decide, uw_X6, tw_99⟩
theorem s_X6_108 : SOK RX6 108 yX6_longestBehind cX6_longestBehind 3 (some (.object "SetWorkshop$Job")) 1 := ⟨tw_913, tw_914, tw_3, tw_915, ⟨by decide, by decide, by decide⟩⟩
theorem p_X6_38 : POK RX6 38 8 7 3 false := ⟨RX6, TX6, 8, tyX6, rfl, by decide, rfl, by decide, by decide, uw_X6, tw_103, tyX6_ok, nmX6, rfl, rfl, (fun h => by cases h)⟩
theorem f_X6_35 : FOK RX6 35 8 6 := ⟨RX6, TX6, 8, rfl, by decide, rfl, by decide, by decide, uw_X6, tw_102⟩
theorem p_X8_9 : POK RX8 9 10 1 2 true := ⟨RX8, TX8, 18, tyX8, rfl, by decide, rfl, by decide, by decide, uw_X8, tw_190, tyX8_ok, nmX8, rfl, fun o => by cases o <;> exact ⟨rfl, rfl⟩, fun _ => rfl⟩
theorem p_X8_15 : POK RX8 15 10 2 2 true := ⟨RX8, TX8, 18, tyX8, rfl, by decide, rfl, by decide, by decide, uw_X8, tw_192, tyX8_ok, nmX8, rfl, fun o => by cases o <;> exact ⟨rfl, rfl⟩, fun _ => rfl⟩
theorem p_X8_18 : POK RX8 18 10 3 2 true := ⟨RX8, TX8, 18, tyX8, rfl, by decide, rfl, by decide, by decide, uw_X8, tw_193, tyX8_ok, nmX8, rfl, fun o => by cases o <;> exact ⟨rfl, rfl⟩, fun _ => rfl⟩
theorem p_X8_24 : POK RX8 24 10 4 2 true := ⟨RX8, TX8, 18, tyX8, rfl, by decide, rfl, by decide, by decide, uw_X8, tw_195, tyX8_ok, nmX8, rfl, fun o => by cases o <;> exact ⟨rfl, rfl⟩, fun _ => rfl⟩
theorem p_X8_28 : POK RX8 28 10 5 2 true := ⟨RX8, TX8, 18, tyX8, rfl, by decide, rfl, by decide, by decide, uw_X8, tw_196, tyX8_ok, nmX8, rfl, fun o => by cases o <;> exact ⟨rfl, rfl⟩, fun _ => rfl⟩
theorem n_X8_31 : NOK RX8 31 7 := ⟨RX5, TX5, 1, tyX5, rfl, rfl, by decide, by decide, uw_X5, tyX5_ok, tw_148, tw_149, tw_6, by decide⟩
theorem i_X8_33 : IOK RX8 33 yX5_init cX5_init 1 0 := ⟨Or.inr (by decide), tw_151, tw_6, tw_152, rfl, ⟨by decide, by decide, by decide⟩⟩
theorem p_X8_34 : POK RX8 34 10 6 2 true := ⟨RX8, TX8, 18, tyX8, rfl, by decide, rfl, by decide, by decide, uw_X8, tw_197, tyX8_ok, nmX8, rfl, fun o => by cases o <;> exact ⟨rfl, rfl⟩, fun _ => rfl⟩
theorem n_X8_38 : NOK RX8 38 5 := ⟨RX3, TX3, 2, tyX3, rfl, rfl, by decide, by decide, uw_X3, tyX3_ok, tw_158, tw_159, tw_7, by decide⟩
theorem i_X8_40 : IOK RX8 40 yX3_init cX3_init 1 0 := ⟨Or.inr (by decide), tw_161, tw_7, tw_162, rfl, ⟨by decide, by decide, by decide⟩⟩
theorem p_X8_41 : POK RX8 41 10 7 2 true := ⟨RX8, TX8, 18, tyX8, rfl, by decide, rfl, by decide, by decide, uw_X8, tw_198, tyX8_ok, nmX8, rfl, fun o => by cases o <;> exact ⟨rfl, rfl⟩, fun _ => rfl⟩
theorem p_X8_45 : POK RX8 45 10 0 2 true := ⟨RX8, TX8, 18, tyX8, rfl, by decide, rfl, by decide, by decide, uw_X8, tw_189, tyX8_ok, nmX8, rfl, fun o => by cases o <;> exact ⟨rfl, rfl⟩, fun _ => rfl⟩
theorem v_X8_49 : VOK RX8 49 yX8_wipe cX8_wipe 2 none 10 0 := ⟨tw_173, tw_175, ts_0, tw_5, tw_176, ⟨_, _, rfl⟩, by decide, by decide, ⟨rfl, by decide, by decide, by decide⟩⟩
theorem f_X8_45 : FOK RX8 45 10 0 := ⟨RX8, TX8, 18, rfl, by decide, rfl, by decide, by decide, uw_X8, tw_189⟩
theorem f_X8_79 : FOK RX8 79 11 7 := ⟨RX9, TX9, 8, rfl, by decide, rfl, by decide, by decide, uw_X9, tw_66⟩
theorem f_X8_84 : FOK RX8 84 11 5 := ⟨RX9, TX9, 8, rfl, by decide, rfl, by decide, by decide, uw_X9, tw_61⟩
theorem f_X8_70 : FOK RX8 70 6 15 := ⟨RX4, TX4, 16, rfl, by decide, rfl, by decide, by decide, uw_X4, tw_504⟩
theorem v_X8_108 : VOK RX8 108 yX10_wipe cX10_wipe 1 none 12 0 := ⟨tw_177, tw_178, tw_179, tw_16, tw_180, ⟨_, _, rfl⟩, by decide, by decide, ⟨rfl, by decide, by decide, by decide⟩⟩
theorem f_X8_18 : FOK RX8 18 10 3 := ⟨RX8, TX8, 18, rfl, by decide, rfl, by decide, by decide, uw_X8, tw_193⟩
theorem f_X8_24 : FOK RX8 24 10 4 := ⟨RX8, TX8, 18, rfl, by decide, rfl, by decide, by decide, uw_X8, tw_195⟩
theorem f_X8_41 : FOK RX8 41 10 7 := ⟨RX8, TX8, 18, rfl, by decide, rfl, by decide, by decide, uw_X8, tw_198⟩
theorem p_X8_109 : POK RX8 109 5 1 0 false := ⟨RX3, TX3, 2, tyX3, rfl, by decide, rfl, by decide, by decide, uw_X3, tw_166, tyX3_ok, nmX3, rfl, rfl, (fun h => by cases h)⟩
theorem p_X8_52 : POK RX8 52 10 8 3 false := ⟨RX8, TX8, 18, tyX8, rfl, by decide, rfl, by decide, by decide, uw_X8, tw_200, tyX8_ok, nmX8, rfl, rfl, (fun h => by cases h)⟩
theorem p_X8_66 : POK RX8 66 10 9 0 false := ⟨RX8, TX8, 18, tyX8, rfl, by decide, rfl, by decide, by decide, uw_X8, tw_202, tyX8_ok, nmX8, rfl, rfl, (fun h => by cases h)⟩
theorem p_X8_112 : POK RX8 112 10 10 0 false := ⟨RX8, TX8, 18, tyX8, rfl, by decide, rfl, by decide, by decide, uw_X8, tw_204, tyX8_ok, nmX8, rfl, rfl, (fun h => by cases h)⟩
theorem p_X8_115 : POK RX8 115 10 11 0 false := ⟨RX8, TX8, 18, tyX8, rfl, by decide, rfl, by decide, by decide, uw_X8, tw_206, tyX8_ok, nmX8, rfl, rfl, (fun h => by cases h)⟩
theorem p_X8_118 : POK RX8 118 10 12 0 false := ⟨RX8, TX8, 18, tyX8, rfl, by decide, rfl, by decide, by decide, uw_X8, tw_208, tyX8_ok, nmX8, rfl, rfl, (fun h => by cases h)⟩
theorem p_X8_98 : POK RX8 98 10 13 0 false := ⟨RX8, TX8, 18, tyX8, rfl, by decide, rfl, by decide, by decide, uw_X8, tw_209, tyX8_ok, nmX8, rfl, rfl, (fun h => by cases h)⟩
theorem p_X8_121 : POK RX8 121 10 14 0 false := ⟨RX8, TX8, 18, tyX8, rfl, by decide, rfl, by decide, by decide, uw_X8, tw_210, tyX8_ok, nmX8, rfl, rfl, (fun h => by cases h)⟩
theorem p_X8_124 : POK RX8 124 10 15 0 false := ⟨RX8, TX8, 18, tyX8, rfl, by decide, rfl, by decide, by decide, uw_X8, tw_211, tyX8_ok, nmX8, rfl, rfl, (fun h => by cases h)⟩
theorem p_X8_127 : POK RX8 127 10 17 1 false := ⟨RX8, TX8, 18, tyX8, rfl, by decide, rfl, by decide, by decide, uw_X8, tw_213, tyX8_ok, nmX8, rfl, rfl, (fun h => by cases h)⟩
theorem v_X8_131 : VOK RX8 131 yX8_forgetMarks cX8_forgetMarks 1 none 10 0 := ⟨tw_181, tw_183, ts_1, tw_5, tw_184, ⟨_, _, rfl⟩, by decide, by decide, ⟨rfl, by decide, by decide, by decide⟩⟩
theorem f_X8_34 : FOK RX8 34 10 6 := ⟨RX8, TX8, 18, rfl, by decide, rfl, by decide, by decide, uw_X8, tw_197⟩
theorem v_X8_134 : VOK RX8 134 yX5_clear cX5_clear 2 none 7 0 := ⟨tw_185, tw_186, tw_187, tw_6, tw_188, ⟨_, _, rfl⟩, by decide, by decide, ⟨rfl, by decide, by decide, by decide⟩⟩
theorem p_X8_137 : POK RX8 137 10 16 3 false := ⟨RX8, TX8, 18, tyX8, rfl, by decide, rfl, by decide, by decide, uw_X8, tw_212, tyX8_ok, nmX8, rfl, rfl, (fun h => by cases h)⟩
theorem f_X8_52 : FOK RX8 52 10 8 := ⟨RX8, TX8, 18, rfl, by decide, rfl, by decide, by decide, uw_X8, tw_200⟩
theorem v_X8_56 : VOK RX8 56 yX8_layOut cX8_layOut 3 none 10 0 := ⟨tw_712, tw_714, ts_7, tw_5, tw_715, ⟨_, _, rfl⟩, by decide, by decide, ⟨rfl, by decide, by decide, by decide⟩⟩
theorem f_X8_9 : FOK RX8 9 10 1 := ⟨RX8, TX8, 18, rfl, by decide, rfl, by decide, by decide, uw_X8, tw_190⟩
theorem f_X8_140 : FOK RX8 140 11 4 := ⟨RX9, TX9, 8, rfl, by decide, rfl, by decide, by decide, uw_X9, tw_59⟩
theorem f_X8_15 : FOK RX8 15 10 2 := ⟨RX8, TX8, 18, rfl, by decide, rfl, by decide, by decide, uw_X8, tw_192⟩
theorem f_X8_143 : FOK RX8 143 11 1 := ⟨RX9, TX9, 8, rfl, by decide, rfl, by decide, by decide, uw_X9, tw_50⟩
theorem f_X8_146 : FOK RX8 146 11 0 := ⟨RX9, TX9, 8, rfl, by decide, rfl, by decide, by decide, uw_X9, tw_47⟩
theorem f_X8_93 : FOK RX8 93 4 2 := ⟨RX2, TX2, 4, rfl, by decide, rfl, by decide, by decide, uw_X2, tw_286⟩
theorem p_X8_150 : POK RX8 150 4 3 0 false := ⟨RX2, TX2, 4, tyX2, rfl, by decide, rfl, by decide, by decide, uw_X2, tw_287, tyX2_ok, nmX2, rfl, rfl, (fun h => by cases h)⟩
theorem f_X8_153 : FOK RX8 153 6 4 := ⟨RX4, TX4, 16, rfl, by decide, rfl, by decide, by decide, uw_X4, tw_475⟩
theorem v_X8_157 : VOK RX8 157 yJx4a65c_size_8abf5 cJx4a65c_size_8abf5 1 (some .int) 1 0 := ⟨tw_716, tw_556, tw_557, tw_13, tw_558, ⟨_, _, rfl⟩, by decide, by decide, ⟨rfl, by decide, by decide, by decide⟩⟩
theorem p_X8_162 : POK RX8 162 12 7 0 false := ⟨RX10, TX10, 8, tyX10, rfl, by decide, rfl, by decide, by decide, uw_X10, tw_442, tyX10_ok, nmX10, rfl, rfl, (fun h => by cases h)⟩
theorem s_X8_165 : SOK RX8 165 yX8_addGiven cX8_addGiven 4 none 2 := ⟨tw_717, tw_718, tw_5, tw_719, ⟨by decide, by decide, by decide⟩⟩
theorem f_X8_172 : FOK RX8 172 6 9 := ⟨RX4, TX4, 16, rfl, by decide, rfl, by decide, by decide, uw_X4, tw_491⟩
theorem f_X8_176 : FOK RX8 176 2 2 := ⟨RX0, TX0, 3, rfl, by decide, rfl, by decide, by decide, uw_X0, tw_371⟩
theorem f_X8_179 : FOK RX8 179 2 0 := ⟨RX0, TX0, 3, rfl, by decide, rfl, by decide, by decide, uw_X0, tw_367⟩
theorem f_X8_182 : FOK RX8 182 2 1 := ⟨RX0, TX0, 3, rfl, by decide, rfl, by decide, by decide, uw_X0, tw_369⟩
theorem f_X8_28 : FOK RX8 28 10 5 := ⟨RX8, TX8, 18, rfl, by decide, rfl, by decide, by decide, uw_X8, tw_196⟩
theorem f_X8_169 : FOK RX8 169 11 6 := ⟨RX9, TX9, 8, rfl, by decide, rfl, by decide, by decide, uw_X9, tw_65⟩
theorem v_X8_59 : VOK RX8 59 yX8_turnAwayHopeless cX8_turnAwayHopeless 3 none 10 0 := ⟨tw_720, tw_722, ts_8, tw_5, tw_723, ⟨_, _, rfl⟩, by decide, by decide, ⟨rfl, by decide, by decide, by decide⟩⟩
theorem v_X8_185 : VOK RX8 185 yX8_isHopeless cX8_isHopeless 5 (some .boolean) 10 1 := ⟨tw_724, tw_726, ts_9, tw_5, tw_727, ⟨_, _, rfl⟩, by decide, by decide, ⟨rfl, by decide, by decide, by decide⟩⟩
theorem f_X8_101 : FOK RX8 101 6 1 := ⟨RX4, TX4, 16, rfl, by decide, rfl, by decide, by decide, uw_X4, tw_466⟩
theorem f_X8_201 : FOK RX8 201 6 8 := ⟨RX4, TX4, 16, rfl, by decide, rfl, by decide, by decide, uw_X4, tw_488⟩
theorem v_X8_204 : VOK RX8 204 yX0_amountOf cX0_amountOf 3 (some .int) 2 1 := ⟨tw_728, tw_729, tw_730, tw_14, tw_731, ⟨_, _, rfl⟩, by decide, by decide, ⟨rfl, by decide, by decide, by decide⟩⟩
theorem v_X8_189 : VOK RX8 189 yX5_add cX5_add 2 none 7 1 := ⟨tw_732, tw_645, tw_646, tw_6, tw_647, ⟨_, _, rfl⟩, by decide, by decide, ⟨rfl, by decide, by decide, by decide⟩⟩
theorem v_X8_90 : VOK RX8 90 yX5_has cX5_has 2 (some .boolean) 7 1 := ⟨tw_733, tw_574, tw_575, tw_6, tw_576, ⟨_, _, rfl⟩, by decide, by decide, ⟨rfl, by decide, by decide, by decide⟩⟩
theorem v_X8_197 : VOK RX8 197 yX8_turnAway cX8_turnAway 2 none 10 1 := ⟨tw_738, tw_740, ts_10, tw_5, tw_741, ⟨_, _, rfl⟩, by decide, by decide, ⟨rfl, by decide, by decide, by decide⟩⟩
theorem p_X8_74 : POK RX8 74 12 0 0 false := ⟨RX10, TX10, 8, tyX10, rfl, by decide, rfl, by decide, by decide, uw_X10, tw_420, tyX10_ok, nmX10, rfl, rfl, (fun h => by cases h)⟩
theorem f_X8_112 : FOK RX8 112 10 10 := ⟨RX8, TX8, 18, rfl, by decide, rfl, by decide, by decide, uw_X8, tw_204⟩
theorem f_X8_208 : FOK RX8 208 6 0 := ⟨RX4, TX4, 16, rfl, by decide, rfl, by decide, by decide, uw_X4, tw_463⟩
theorem v_X8_211 : VOK RX8 211 yX3_put cX3_put 7 none 5 3 := ⟨tw_742, tw_743, tw_744, tw_7, tw_745, ⟨_, _, rfl⟩, by decide, by decide, ⟨rfl, by decide, by decide, by decide⟩⟩
theorem f_X8_87 : FOK RX8 87 6 6 := ⟨RX4, TX4, 16, rfl, by decide, rfl, by decide, by decide, uw_X4, tw_481⟩
theorem v_X8_193 : VOK RX8 193 yX5_meets cX5_meets 3 (some .boolean) 7 1 := ⟨tw_734, tw_735, tw_736, tw_6, tw_737, ⟨_, _, rfl⟩, by decide, by decide, ⟨rfl, by decide, by decide, by decide⟩⟩
theorem f_X8_66 : FOK RX8 66 10 9 := ⟨RX8, TX8, 18, rfl, by decide, rfl, by decide, by decide, uw_X8, tw_202⟩
theorem v_X8_62 : VOK RX8 62 yX8_passMinute cX8_passMinute 2 (some .boolean) 10 1 := ⟨tw_746, tw_748, ts_11, tw_5, tw_749, ⟨_, _, rfl⟩, by decide, by decide, ⟨rfl, by decide, by decide, by decide⟩⟩
theorem v_X8_215 : VOK RX8 215 yX8_endJobs cX8_endJobs 4 none 10 0 := ⟨tw_750, tw_752, ts_12, tw_5, tw_753, ⟨_, _, rfl⟩, by decide, by decide, ⟨rfl, by decide, by decide, by decide⟩⟩
theorem f_X8_233 : FOK RX8 233 11 2 := ⟨RX9, TX9, 8, rfl, by decide, rfl, by decide, by decide, uw_X9, tw_53⟩
theorem v_X8_236 : VOK RX8 236 yX4_endMinute cX4_endMinute 1 (some .int) 6 0 := ⟨tw_754, tw_755, tw_756, tw_10, tw_757, ⟨_, _, rfl⟩, by decide, by decide, ⟨rfl, by decide, by decide, by decide⟩⟩
theorem v_X8_239 : VOK RX8 239 yX4_hasPlan cX4_hasPlan 1 (some .boolean) 6 0 := ⟨tw_759, tw_701, tw_702, tw_10, tw_703, ⟨_, _, rfl⟩, by decide, by decide, ⟨rfl, by decide, by decide, by decide⟩⟩
theorem f_X8_246 : FOK RX8 246 6 10 := ⟨RX4, TX4, 16, rfl, by decide, rfl, by decide, by decide, uw_X4, tw_494⟩
theorem v_X8_250 : VOK RX8 250 yX7_fault cX7_fault 1 (some .int) 9 0 := ⟨tw_760, tw_761, tw_762, tw_15, tw_763, ⟨_, _, rfl⟩, by decide, by decide, ⟨rfl, by decide, by decide, by decide⟩⟩
theorem f_X8_243 : FOK RX8 243 6 12 := ⟨RX4, TX4, 16, rfl, by decide, rfl, by decide, by decide, uw_X4, tw_498⟩
theorem v_X8_258 : VOK RX8 258 yX8_fail cX8_fail 3 none 10 2 := ⟨tw_794, tw_796, ts_19, tw_5, tw_797, ⟨_, _, rfl⟩, by decide, by decide, ⟨rfl, by decide, by decide, by decide⟩⟩
theorem v_X8_262 : VOK RX8 262 yX8_leave cX8_leave 5 none 10 3 := ⟨tw_788, tw_790, ts_18, tw_5, tw_791, ⟨_, _, rfl⟩, by decide, by decide, ⟨rfl, by decide, by decide, by decide⟩⟩
theorem p_X8_279 : POK RX8 279 12 2 0 false := ⟨RX10, TX10, 8, tyX10, rfl, by decide, rfl, by decide, by decide, uw_X10, tw_427, tyX10_ok, nmX10, rfl, rfl, (fun h => by cases h)⟩
theorem f_X8_282 : FOK RX8 282 12 1 := ⟨RX10, TX10, 8, rfl, by decide, rfl, by decide, by decide, uw_X10, tw_424⟩
theorem p_X8_105 : POK RX8 105 12 4 0 false := ⟨RX10, TX10, 8, tyX10, rfl, by decide, rfl, by decide, by decide, uw_X10, tw_433, tyX10_ok, nmX10, rfl, rfl, (fun h => by cases h)⟩
theorem f_X8_285 : FOK RX8 285 12 3 := ⟨RX10, TX10, 8, rfl, by decide, rfl, by decide, by decide, uw_X10, tw_430⟩
theorem f_X8_150 : FOK RX8 150 4 3 := ⟨RX2, TX2, 4, rfl, by decide, rfl, by decide, by decide, uw_X2, tw_287⟩
theorem f_X8_127 : FOK RX8 127 10 17 := ⟨RX8, TX8, 18, rfl, by decide, rfl, by decide, by decide, uw_X8, tw_213⟩
theorem f_X8_288 : FOK RX8 288 6 7 := ⟨RX4, TX4, 16, rfl, by decide, rfl, by decide, by decide, uw_X4, tw_485⟩
theorem f_X8_124 : FOK RX8 124 10 15 := ⟨RX8, TX8, 18, rfl, by decide, rfl, by decide, by decide, uw_X8, tw_211⟩
theorem f_X8_115 : FOK RX8 115 10 11 := ⟨RX8, TX8, 18, rfl, by decide, rfl, by decide, by decide, uw_X8, tw_206⟩
theorem p_X8_273 : POK RX8 273 12 6 0 false := ⟨RX10, TX10, 8, tyX10, rfl, by decide, rfl, by decide, by decide, uw_X10, tw_439, tyX10_ok, nmX10, rfl, rfl, (fun h => by cases h)⟩
theorem v_X8_276 : VOK RX8 276 yX8_bringBackRest cX8_bringBackRest 6 none 10 1 := ⟨tw_798, tw_800, ts_20, tw_5, tw_801, ⟨_, _, rfl⟩, by decide, by decide, ⟨rfl, by decide, by decide, by decide⟩⟩
theorem f_X8_293 : FOK RX8 293 6 2 := ⟨RX4, TX4, 16, rfl, by decide, rfl, by decide, by decide, uw_X4, tw_470⟩
theorem f_X8_105 : FOK RX8 105 12 4 := ⟨RX10, TX10, 8, rfl, by decide, rfl, by decide, by decide, uw_X10, tw_433⟩
theorem v_X8_255 : VOK RX8 255 yX8_finish cX8_finish 3 none 10 1 := ⟨tw_784, tw_786, ts_17, tw_5, tw_787, ⟨_, _, rfl⟩, by decide, by decide, ⟨rfl, by decide, by decide, by decide⟩⟩
theorem f_X8_118 : FOK RX8 118 10 12 := ⟨RX8, TX8, 18, rfl, by decide, rfl, by decide, by decide, uw_X8, tw_208⟩
theorem f_X8_266 : FOK RX8 266 6 5 := ⟨RX4, TX4, 16, rfl, by decide, rfl, by decide, by decide, uw_X4, tw_479⟩
theorem v_X8_269 : VOK RX8 269 yJx4a65c_get_915e3 cJx4a65c_get_915e3 2 (some (.object "java/lang/Object")) 1 1 := ⟨tw_793, tw_560, tw_561, tw_13, tw_562, ⟨_, _, rfl⟩, by decide, by decide, ⟨rfl, by decide, by decide, by decide⟩⟩
theorem f_X8_162 : FOK RX8 162 12 7 := ⟨RX10, TX10, 8, rfl, by decide, rfl, by decide, by decide, uw_X10, tw_442⟩
theorem v_X8_218 : VOK RX8 218 yX8_cancelLeaning cX8_cancelLeaning 3 none 10 0 := ⟨tw_802, tw_804, ts_21, tw_5, tw_805, ⟨_, _, rfl⟩, by decide, by decide, ⟨rfl, by decide, by decide, by decide⟩⟩
theorem f_X8_137 : FOK RX8 137 10 16 := ⟨RX8, TX8, 18, rfl, by decide, rfl, by decide, by decide, uw_X8, tw_212⟩
theorem f_X8_121 : FOK RX8 121 10 14 := ⟨RX8, TX8, 18, rfl, by decide, rfl, by decide, by decide, uw_X8, tw_210⟩
theorem f_X8_74 : FOK RX8 74 12 0 := ⟨RX10, TX10, 8, rfl, by decide, rfl, by decide, by decide, uw_X10, tw_420⟩
theorem v_X8_224 : VOK RX8 224 yX8_beginJobs cX8_beginJobs 4 none 10 0 := ⟨tw_830, tw_832, ts_28, tw_5, tw_833, ⟨_, _, rfl⟩, by decide, by decide, ⟨rfl, by decide, by decide, by decide⟩⟩
theorem v_X8_306 : VOK RX8 306 yX8_canBegin cX8_canBegin 2 (some .boolean) 10 1 := ⟨tw_818, tw_820, ts_25, tw_5, tw_821, ⟨_, _, rfl⟩, by decide, by decide, ⟨rfl, by decide, by decide, by decide⟩⟩
theorem v_X8_312 : VOK RX8 312 yX8_isThere cX8_isThere 3 (some .boolean) 10 1 := ⟨tw_822, tw_824, ts_26, tw_5, tw_825, ⟨_, _, rfl⟩, by decide, by decide, ⟨rfl, by decide, by decide, by decide⟩⟩
theorem v_X8_309 : VOK RX8 309 yX8_begin cX8_begin 5 none 10 1 := ⟨tw_834, tw_836, ts_29, tw_5, tw_837, ⟨_, _, rfl⟩, by decide, by decide, ⟨rfl, by decide, by decide, by decide⟩⟩
theorem v_X8_316 : VOK RX8 316 yX8_leastFreeWorker cX8_leastFreeWorker 4 (some .int) 10 1 := ⟨tw_838, tw_840, ts_30, tw_5, tw_841, ⟨_, _, rfl⟩, by decide, by decide, ⟨rfl, by decide, by decide, by decide⟩⟩
theorem f_X8_323 : FOK RX8 323 4 1 := ⟨RX2, TX2, 4, rfl, by decide, rfl, by decide, by decide, uw_X2, tw_284⟩
theorem p_X8_285 : POK RX8 285 12 3 0 false := ⟨RX10, TX10, 8, tyX10, rfl, by decide, rfl, by decide, by decide, uw_X10, tw_430, tyX10_ok, nmX10, rfl, rfl, (fun h => by cases h)⟩
theorem p_X8_282 : POK RX8 282 12 1 0 false := ⟨RX10, TX10, 8, tyX10, rfl, by decide, rfl, by decide, by decide, uw_X10, tw_424, tyX10_ok, nmX10, rfl, rfl, (fun h => by cases h)⟩
theorem v_X8_320 : VOK RX8 320 yX8_takeMachines cX8_takeMachines 3 none 10 1 := ⟨tw_842, tw_844, ts_31, tw_5, tw_845, ⟨_, _, rfl⟩, by decide, by decide, ⟨rfl, by decide, by decide, by decide⟩⟩
theorem f_X8_326 : FOK RX8 326 11 3 := ⟨RX9, TX9, 8, rfl, by decide, rfl, by decide, by decide, uw_X9, tw_56⟩
theorem v_X8_230 : VOK RX8 230 yX8_nextMinute cX8_nextMinute 5 (some .int) 10 1 := ⟨tw_846, tw_848, ts_32, tw_5, tw_849, ⟨_, _, rfl⟩, by decide, by decide, ⟨rfl, by decide, by decide, by decide⟩⟩
theorem v_X8_227 : VOK RX8 227 yX8_giveUp cX8_giveUp 2 none 10 0 := ⟨tw_826, tw_828, ts_27, tw_5, tw_829, ⟨_, _, rfl⟩, by decide, by decide, ⟨rfl, by decide, by decide, by decide⟩⟩
theorem v_X8_221 : VOK RX8 221 yX8_stopAtDeadline cX8_stopAtDeadline 1 none 10 0 := ⟨tw_806, tw_808, ts_22, tw_5, tw_809, ⟨_, _, rfl⟩, by decide, by decide, ⟨rfl, by decide, by decide, by decide⟩⟩
theorem v_X8_299 : VOK RX8 299 yX8_someoneWouldBegin cX8_someoneWouldBegin 2 (some .boolean) 10 0 := ⟨tw_814, tw_816, ts_24, tw_5, tw_817, ⟨_, _, rfl⟩, by decide, by decide, ⟨rfl, by decide, by decide, by decide⟩⟩
theorem v_X8_296 : VOK RX8 296 yX8_interruptAll cX8_interruptAll 5 none 10 0 := ⟨tw_810, tw_812, ts_23, tw_5, tw_813, ⟨_, _, rfl⟩, by decide, by decide, ⟨rfl, by decide, by decide, by decide⟩⟩
theorem f_X8_302 : FOK RX8 302 9 0 := ⟨RX7, TX7, 5, rfl, by decide, rfl, by decide, by decide, uw_X7, tw_388⟩
theorem p_X8_303 : POK RX8 303 12 5 0 false := ⟨RX10, TX10, 8, tyX10, rfl, by decide, rfl, by decide, by decide, uw_X10, tw_437, tyX10_ok, nmX10, rfl, rfl, (fun h => by cases h)⟩
theorem f_X8_98 : FOK RX8 98 10 13 := ⟨RX8, TX8, 18, rfl, by decide, rfl, by decide, by decide, uw_X8, tw_209⟩
theorem p_X9_11 : POK RX9 11 11 0 2 true := ⟨RX9, TX9, 8, tyX9, rfl, by decide, rfl, by decide, by decide, uw_X9, tw_45, tyX9_ok, nmX9, rfl, fun o => by cases o <;> exact ⟨rfl, rfl⟩, fun _ => rfl⟩
theorem p_X9_17 : POK RX9 17 11 4 2 true := ⟨RX9, TX9, 8, tyX9, rfl, by decide, rfl, by decide, by decide, uw_X9, tw_57, tyX9_ok, nmX9, rfl, fun o => by cases o <;> exact ⟨rfl, rfl⟩, fun _ => rfl⟩
theorem p_X9_23 : POK RX9 23 11 5 2 true := ⟨RX9, TX9, 8, tyX9, rfl, by decide, rfl, by decide, by decide, uw_X9, tw_60, tyX9_ok, nmX9, rfl, fun o => by cases o <;> exact ⟨rfl, rfl⟩, fun _ => rfl⟩
theorem p_X9_27 : POK RX9 27 11 6 2 true := ⟨RX9, TX9, 8, tyX9, rfl, by decide, rfl, by decide, by decide, uw_X9, tw_64, tyX9_ok, nmX9, rfl, fun o => by cases o <;> exact ⟨rfl, rfl⟩, fun _ => rfl⟩
theorem f_X9_30 : FOK RX9 30 11 1 := ⟨RX9, TX9, 8, rfl, by decide, rfl, by decide, by decide, uw_X9, tw_48⟩
theorem f_X9_34 : FOK RX9 34 11 3 := ⟨RX9, TX9, 8, rfl, by decide, rfl, by decide, by decide, uw_X9, tw_55⟩
theorem f_X9_37 : FOK RX9 37 11 7 := ⟨RX9, TX9, 8, rfl, by decide, rfl, by decide, by decide, uw_X9, tw_67⟩
theorem f_X9_11 : FOK RX9 11 11 0 := ⟨RX9, TX9, 8, rfl, by decide, rfl, by decide, by decide, uw_X9, tw_45⟩
theorem n_X9_9 : NOK RX9 9 4 := ⟨RX2, TX2, 4, tyX2, rfl, rfl, by decide, by decide, uw_X2, tyX2_ok, tw_41, tw_276, tw_9, by decide⟩
theorem f_X9_40 : FOK RX9 40 11 2 := ⟨RX9, TX9, 8, rfl, by decide, rfl, by decide, by decide, uw_X9, tw_52⟩
theorem i_X9_43 : IOK RX9 43 yX2_init cX2_init 4 3 := ⟨Or.inl tw_277, tw_278, tw_9, tw_279, rfl, ⟨by decide, by decide, by decide⟩⟩
theorem p_X9_40 : POK RX9 40 11 2 0 false := ⟨RX9, TX9, 8, tyX9, rfl, by decide, rfl, by decide, by decide, uw_X9, tw_52, tyX9_ok, nmX9, rfl, rfl, (fun h => by cases h)⟩
theorem p_X9_30 : POK RX9 30 11 1 0 false := ⟨RX9, TX9, 8, tyX9, rfl, by decide, rfl, by decide, by decide, uw_X9, tw_48, tyX9_ok, nmX9, rfl, rfl, (fun h => by cases h)⟩
theorem p_X9_34 : POK RX9 34 11 3 0 false := ⟨RX9, TX9, 8, tyX9, rfl, by decide, rfl, by decide, by decide, uw_X9, tw_55, tyX9_ok, nmX9, rfl, rfl, (fun h => by cases h)⟩
theorem n_X9_21 : NOK RX9 21 6 := ⟨RX4, TX4, 16, tyX4, rfl, rfl, by decide, by decide, uw_X4, tyX4_ok, tw_43, tw_327, tw_10, by decide⟩
theorem i_X9_46 : IOK RX9 46 yX4_init cX4_init 5 4 := ⟨Or.inl tw_328, tw_329, tw_10, tw_330, rfl, ⟨by decide, by decide, by decide⟩⟩
theorem f_X9_23 : FOK RX9 23 11 5 := ⟨RX9, TX9, 8, rfl, by decide, rfl, by decide, by decide, uw_X9, tw_60⟩
theorem f_X9_27 : FOK RX9 27 11 6 := ⟨RX9, TX9, 8, rfl, by decide, rfl, by decide, by decide, uw_X9, tw_64⟩
theorem v_X9_49 : VOK RX9 49 yX4_comesAheadOf cX4_comesAheadOf 2 (some .boolean) 6 1 := ⟨tw_539, tw_540, tw_541, tw_10, tw_542, ⟨_, _, rfl⟩, by decide, by decide, ⟨rfl, by decide, by decide, by decide⟩⟩
theorem p_X9_37 : POK RX9 37 11 7 0 false := ⟨RX9, TX9, 8, tyX9, rfl, by decide, rfl, by decide, by decide, uw_X9, tw_67, tyX9_ok, nmX9, rfl, rfl, (fun h => by cases h)⟩
theorem f_X9_53 : FOK RX9 53 6 0 := ⟨RX4, TX4, 16, rfl, by decide, rfl, by decide, by decide, uw_X4, tw_462⟩
theorem f_X9_56 : FOK RX9 56 6 4 := ⟨RX4, TX4, 16, rfl, by decide, rfl, by decide, by decide, uw_X4, tw_474⟩
theorem v_X9_60 : VOK RX9 60 yJx4a65c_add_9ea2d cJx4a65c_add_9ea2d 2 (some .boolean) 1 1 := ⟨tw_581, tw_582, tw_583, tw_13, tw_584, ⟨_, _, rfl⟩, by decide, by decide, ⟨rfl, by decide, by decide, by decide⟩⟩
theorem n_X11_7 : NOK RX11 7 11 := ⟨RX9, TX9, 8, tyX9, rfl, rfl, by decide, by decide, uw_X9, tyX9_ok, tw_35, tw_36, tw_2, by decide⟩
theorem i_X11_9 : IOK RX11 9 yX9_init cX9_init 1 0 := ⟨Or.inr (by decide), tw_38, tw_2, tw_39, rfl, ⟨by decide, by decide, by decide⟩⟩
theorem p_X11_10 : POK RX11 10 13 0 2 true := ⟨RX11, TX11, 4, tyX11, rfl, by decide, rfl, by decide, by decide, uw_X11, tw_251, tyX11_ok, nmX11, rfl, fun o => by cases o <;> exact ⟨rfl, rfl⟩, fun _ => rfl⟩
theorem n_X11_16 : NOK RX11 16 8 := ⟨RX6, TX6, 8, tyX6, rfl, rfl, by decide, by decide, uw_X6, tyX6_ok, tw_88, tw_89, tw_3, by decide⟩
theorem f_X11_10 : FOK RX11 10 13 0 := ⟨RX11, TX11, 4, rfl, by decide, rfl, by decide, by decide, uw_X11, tw_251⟩
theorem i_X11_18 : IOK RX11 18 yX6_init cX6_init 2 1 := ⟨Or.inl tw_90, tw_91, tw_3, tw_92, rfl, ⟨by decide, by decide, by decide⟩⟩
theorem p_X11_21 : POK RX11 21 13 1 2 true := ⟨RX11, TX11, 4, tyX11, rfl, by decide, rfl, by decide, by decide, uw_X11, tw_252, tyX11_ok, nmX11, rfl, fun o => by cases o <;> exact ⟨rfl, rfl⟩, fun _ => rfl⟩
theorem n_X11_25 : NOK RX11 25 3 := ⟨RX1, TX1, 3, tyX1, rfl, rfl, by decide, by decide, uw_X1, tyX1_ok, tw_123, tw_124, tw_4, by decide⟩
theorem i_X11_27 : IOK RX11 27 yX1_init cX1_init 1 0 := ⟨Or.inr (by decide), tw_126, tw_4, tw_127, rfl, ⟨by decide, by decide, by decide⟩⟩
theorem p_X11_28 : POK RX11 28 13 2 2 true := ⟨RX11, TX11, 4, tyX11, rfl, by decide, rfl, by decide, by decide, uw_X11, tw_253, tyX11_ok, nmX11, rfl, fun o => by cases o <;> exact ⟨rfl, rfl⟩, fun _ => rfl⟩
theorem n_X11_32 : NOK RX11 32 10 := ⟨RX8, TX8, 18, tyX8, rfl, rfl, by decide, by decide, uw_X8, tyX8_ok, tw_141, tw_142, tw_5, by decide⟩
theorem i_X11_34 : IOK RX11 34 yX8_init cX8_init 2 1 := ⟨Or.inl tw_143, tw_144, tw_5, tw_145, rfl, ⟨by decide, by decide, by decide⟩⟩
theorem p_X11_35 : POK RX11 35 13 3 2 true := ⟨RX11, TX11, 4, tyX11, rfl, by decide, rfl, by decide, by decide, uw_X11, tw_254, tyX11_ok, nmX11, rfl, fun o => by cases o <;> exact ⟨rfl, rfl⟩, fun _ => rfl⟩
theorem f_X11_39 : FOK RX11 39 11 1 := ⟨RX9, TX9, 8, rfl, by decide, rfl, by decide, by decide, uw_X9, tw_49⟩
theorem f_X11_43 : FOK RX11 43 11 2 := ⟨RX9, TX9, 8, rfl, by decide, rfl, by decide, by decide, uw_X9, tw_51⟩
theorem f_X11_35 : FOK RX11 35 13 3 := ⟨RX11, TX11, 4, rfl, by decide, rfl, by decide, by decide, uw_X11, tw_254⟩
theorem v_X11_46 : VOK RX11 46 yX8_empty cX8_empty 2 (some .boolean) 10 0 := ⟨tw_268, tw_269, tw_270, tw_5, tw_271, ⟨_, _, rfl⟩, by decide, by decide, ⟨rfl, by decide, by decide, by decide⟩⟩
theorem v_X11_50 : VOK RX11 50 yX9_addCraft cX9_addCraft 2 (some .int) 11 1 := ⟨tw_272, tw_273, tw_274, tw_2, tw_275, ⟨_, _, rfl⟩, by decide, by decide, ⟨rfl, by decide, by decide, by decide⟩⟩
theorem f_X11_54 : FOK RX11 54 11 3 := ⟨RX9, TX9, 8, rfl, by decide, rfl, by decide, by decide, uw_X9, tw_54⟩
theorem v_X11_57 : VOK RX11 57 yX9_addMachine cX9_addMachine 1 (some .int) 11 0 := ⟨tw_301, tw_302, tw_303, tw_2, tw_304, ⟨_, _, rfl⟩, by decide, by decide, ⟨rfl, by decide, by decide, by decide⟩⟩
theorem v_X11_61 : VOK RX11 61 yX9_hasStock cX9_hasStock 2 (some .boolean) 11 1 := ⟨tw_309, tw_310, tw_311, tw_2, tw_312, ⟨_, _, rfl⟩, by decide, by decide, ⟨rfl, by decide, by decide, by decide⟩⟩
theorem f_X11_66 : FOK RX11 66 11 4 := ⟨RX9, TX9, 8, rfl, by decide, rfl, by decide, by decide, uw_X9, tw_58⟩
theorem v_X11_72 : VOK RX11 72 yX9_hasCraft cX9_hasCraft 2 (some .boolean) 11 1 := ⟨tw_319, tw_320, tw_321, tw_2, tw_322, ⟨_, _, rfl⟩, by decide, by decide, ⟨rfl, by decide, by decide, by decide⟩⟩
theorem f_X11_75 : FOK RX11 75 11 7 := ⟨RX9, TX9, 8, rfl, by decide, rfl, by decide, by decide, uw_X9, tw_69⟩
theorem f_X11_21 : FOK RX11 21 13 1 := ⟨RX11, TX11, 4, rfl, by decide, rfl, by decide, by decide, uw_X11, tw_252⟩
theorem p_X11_78 : POK RX11 78 8 7 3 false := ⟨RX6, TX6, 8, tyX6, rfl, by decide, rfl, by decide, by decide, uw_X6, tw_104, tyX6_ok, nmX6, rfl, rfl, (fun h => by cases h)⟩
theorem f_X11_82 : FOK RX11 82 11 0 := ⟨RX9, TX9, 8, rfl, by decide, rfl, by decide, by decide, uw_X9, tw_46⟩
theorem v_X11_86 : VOK RX11 86 yX9_addJob cX9_addJob 6 (some .int) 11 3 := ⟨tw_323, tw_324, tw_325, tw_2, tw_326, ⟨_, _, rfl⟩, by decide, by decide, ⟨rfl, by decide, by decide, by decide⟩⟩
theorem v_X11_90 : VOK RX11 90 yX9_hasJob cX9_hasJob 2 (some .boolean) 11 1 := ⟨tw_547, tw_548, tw_549, tw_2, tw_550, ⟨_, _, rfl⟩, by decide, by decide, ⟨rfl, by decide, by decide, by decide⟩⟩
theorem f_X11_93 : FOK RX11 93 11 5 := ⟨RX9, TX9, 8, rfl, by decide, rfl, by decide, by decide, uw_X9, tw_63⟩
theorem v_X11_97 : VOK RX11 97 yX4_isDirectlyBehind cX4_isDirectlyBehind 3 (some .boolean) 6 1 := ⟨tw_551, tw_552, tw_553, tw_10, tw_554, ⟨_, _, rfl⟩, by decide, by decide, ⟨rfl, by decide, by decide, by decide⟩⟩
theorem f_X11_103 : FOK RX11 103 6 6 := ⟨RX4, TX4, 16, rfl, by decide, rfl, by decide, by decide, uw_X4, tw_482⟩
theorem v_X11_107 : VOK RX11 107 yX5_has cX5_has 2 (some .boolean) 7 1 := ⟨tw_573, tw_574, tw_575, tw_6, tw_576, ⟨_, _, rfl⟩, by decide, by decide, ⟨rfl, by decide, by decide, by decide⟩⟩
theorem v_X11_112 : VOK RX11 112 yX9_join cX9_join 5 none 11 2 := ⟨tw_577, tw_578, tw_579, tw_2, tw_580, ⟨_, _, rfl⟩, by decide, by decide, ⟨rfl, by decide, by decide, by decide⟩⟩
theorem v_X11_116 : VOK RX11 116 yX9_hasMachine cX9_hasMachine 2 (some .boolean) 11 1 := ⟨tw_656, tw_657, tw_658, tw_2, tw_659, ⟨_, _, rfl⟩, by decide, by decide, ⟨rfl, by decide, by decide, by decide⟩⟩
theorem f_X11_119 : FOK RX11 119 6 7 := ⟨RX4, TX4, 16, rfl, by decide, rfl, by decide, by decide, uw_X4, tw_484⟩
theorem p_X11_119 : POK RX11 119 6 7 1 false := ⟨RX4, TX4, 16, tyX4, rfl, by decide, rfl, by decide, by decide, uw_X4, tw_484, tyX4_ok, nmX4, rfl, rfl, (fun h => by cases h)⟩
theorem v_X11_123 : VOK RX11 123 yX11_statusOfAmount cX11_statusOfAmount 4 (some .int) 13 3 := ⟨tw_664, tw_666, ts_5, tw_1, tw_667, ⟨_, _, rfl⟩, by decide, by decide, ⟨rfl, by decide, by decide, by decide⟩⟩
theorem f_X11_127 : FOK RX11 127 6 8 := ⟨RX4, TX4, 16, rfl, by decide, rfl, by decide, by decide, uw_X4, tw_487⟩
theorem v_X11_131 : VOK RX11 131 yX0_put cX0_put 4 none 2 2 := ⟨tw_668, tw_669, tw_670, tw_14, tw_671, ⟨_, _, rfl⟩, by decide, by decide, ⟨rfl, by decide, by decide, by decide⟩⟩
theorem f_X11_137 : FOK RX11 137 6 9 := ⟨RX4, TX4, 16, rfl, by decide, rfl, by decide, by decide, uw_X4, tw_490⟩
theorem f_X11_142 : FOK RX11 142 6 10 := ⟨RX4, TX4, 16, rfl, by decide, rfl, by decide, by decide, uw_X4, tw_493⟩
theorem p_X11_146 : POK RX11 146 9 0 0 false := ⟨RX7, TX7, 5, tyX7, rfl, by decide, rfl, by decide, by decide, uw_X7, tw_387, tyX7_ok, nmX7, rfl, rfl, (fun h => by cases h)⟩
theorem p_X11_149 : POK RX11 149 9 1 0 false := ⟨RX7, TX7, 5, tyX7, rfl, by decide, rfl, by decide, by decide, uw_X7, tw_391, tyX7_ok, nmX7, rfl, rfl, (fun h => by cases h)⟩
theorem p_X11_152 : POK RX11 152 9 2 0 false := ⟨RX7, TX7, 5, tyX7, rfl, by decide, rfl, by decide, by decide, uw_X7, tw_394, tyX7_ok, nmX7, rfl, rfl, (fun h => by cases h)⟩
theorem f_X11_155 : FOK RX11 155 9 4 := ⟨RX7, TX7, 5, rfl, by decide, rfl, by decide, by decide, uw_X7, tw_400⟩
theorem f_X11_158 : FOK RX11 158 9 3 := ⟨RX7, TX7, 5, rfl, by decide, rfl, by decide, by decide, uw_X7, tw_397⟩
theorem p_X11_155 : POK RX11 155 9 4 0 false := ⟨RX7, TX7, 5, tyX7, rfl, by decide, rfl, by decide, by decide, uw_X7, tw_400, tyX7_ok, nmX7, rfl, rfl, (fun h => by cases h)⟩
theorem f_X11_162 : FOK RX11 162 6 2 := ⟨RX4, TX4, 16, rfl, by decide, rfl, by decide, by decide, uw_X4, tw_469⟩
theorem p_X11_165 : POK RX11 165 6 11 0 false := ⟨RX4, TX4, 16, tyX4, rfl, by decide, rfl, by decide, by decide, uw_X4, tw_496, tyX4_ok, nmX4, rfl, rfl, (fun h => by cases h)⟩
theorem p_X11_168 : POK RX11 168 6 12 0 false := ⟨RX4, TX4, 16, tyX4, rfl, by decide, rfl, by decide, by decide, uw_X4, tw_497, tyX4_ok, nmX4, rfl, rfl, (fun h => by cases h)⟩
theorem v_X11_171 : VOK RX11 171 yX4_hasPlan cX4_hasPlan 1 (some .boolean) 6 0 := ⟨tw_700, tw_701, tw_702, tw_10, tw_703, ⟨_, _, rfl⟩, by decide, by decide, ⟨rfl, by decide, by decide, by decide⟩⟩
theorem v_X11_174 : VOK RX11 174 yX8_work cX8_work 4 (some .int) 10 1 := ⟨tw_708, tw_709, tw_710, tw_5, tw_711, ⟨_, _, rfl⟩, by decide, by decide, ⟨rfl, by decide, by decide, by decide⟩⟩
theorem v_X11_177 : VOK RX11 177 yX11_knownJob cX11_knownJob 2 (some (.object "SetWorkshop$Job")) 13 1 := ⟨tw_936, tw_938, ts_39, tw_1, tw_939, ⟨_, _, rfl⟩, by decide, by decide, ⟨rfl, by decide, by decide, by decide⟩⟩
theorem f_X11_223 : FOK RX11 223 10 11 := ⟨RX8, TX8, 18, rfl, by decide, rfl, by decide, by decide, uw_X8, tw_207⟩
theorem v_X11_226 : VOK RX11 226 yX8_failedJob cX8_failedJob 4 (some .int) 10 1 := ⟨tw_1079, tw_1080, tw_1081, tw_5, tw_1082, ⟨_, _, rfl⟩, by decide, by decide, ⟨rfl, by decide, by decide, by decide⟩⟩
theorem f_X11_181 : FOK RX11 181 6 15 := ⟨RX4, TX4, 16, rfl, by decide, rfl, by decide, by decide, uw_X4, tw_505⟩
theorem f_X11_205 : FOK RX11 205 12 6 := ⟨RX10, TX10, 8, rfl, by decide, rfl, by decide, by decide, uw_X10, tw_440⟩
theorem f_X11_193 : FOK RX11 193 12 2 := ⟨RX10, TX10, 8, rfl, by decide, rfl, by decide, by decide, uw_X10, tw_428⟩
theorem f_X11_238 : FOK RX11 238 10 8 := ⟨RX8, TX8, 18, rfl, by decide, rfl, by decide, by decide, uw_X8, tw_201⟩
theorem f_X11_241 : FOK RX11 241 10 1 := ⟨RX8, TX8, 18, rfl, by decide, rfl, by decide, by decide, uw_X8, tw_191⟩
theorem f_X11_246 : FOK RX11 246 10 3 := ⟨RX8, TX8, 18, rfl, by decide, rfl, by decide, by decide, uw_X8, tw_194⟩
theorem v_X11_251 : VOK RX11 251 yX8_idleMinutes cX8_idleMinutes 5 (some .long) 10 1 := ⟨tw_1108, tw_1109, tw_1110, tw_5, tw_1111, ⟨_, _, rfl⟩, by decide, by decide, ⟨rfl, by decide, by decide, by decide⟩⟩
theorem f_X11_255 : FOK RX11 255 10 7 := ⟨RX8, TX8, 18, rfl, by decide, rfl, by decide, by decide, uw_X8, tw_199⟩
theorem v_X11_259 : VOK RX11 259 yX3_minuteOf cX3_minuteOf 2 (some .int) 5 1 := ⟨tw_863, tw_864, tw_865, tw_7, tw_866, ⟨_, _, rfl⟩, by decide, by decide, ⟨rfl, by decide, by decide, by decide⟩⟩
theorem v_X11_264 : VOK RX11 264 yX3_jobOf cX3_jobOf 2 (some .int) 5 1 := ⟨tw_867, tw_868, tw_869, tw_7, tw_870, ⟨_, _, rfl⟩, by decide, by decide, ⟨rfl, by decide, by decide, by decide⟩⟩
theorem v_X11_267 : VOK RX11 267 yX3_kindOf cX3_kindOf 2 (some .int) 5 1 := ⟨tw_871, tw_872, tw_873, tw_7, tw_874, ⟨_, _, rfl⟩, by decide, by decide, ⟨rfl, by decide, by decide, by decide⟩⟩
theorem v_X11_270 : VOK RX11 270 yX6_chainLength cX6_chainLength 1 (some .int) 8 0 := ⟨tw_879, tw_880, tw_881, tw_3, tw_882, ⟨_, _, rfl⟩, by decide, by decide, ⟨rfl, by decide, by decide, by decide⟩⟩
theorem f_X11_273 : FOK RX11 273 8 4 := ⟨RX6, TX6, 8, rfl, by decide, rfl, by decide, by decide, uw_X6, tw_100⟩
theorem f_X11_276 : FOK RX11 276 6 0 := ⟨RX4, TX4, 16, rfl, by decide, rfl, by decide, by decide, uw_X4, tw_464⟩
theorem f_X11_288 : FOK RX11 288 10 9 := ⟨RX8, TX8, 18, rfl, by decide, rfl, by decide, by decide, uw_X8, tw_203⟩
theorem f_X11_291 : FOK RX11 291 5 1 := ⟨RX3, TX3, 2, rfl, by decide, rfl, by decide, by decide, uw_X3, tw_167⟩
theorem f_X11_292 : FOK RX11 292 10 10 := ⟨RX8, TX8, 18, rfl, by decide, rfl, by decide, by decide, uw_X8, tw_205⟩
theorem v_X11_279 : VOK RX11 279 yX6_longestTail cX6_longestTail 1 (some .int) 8 0 := ⟨tw_924, tw_925, tw_926, tw_3, tw_927, ⟨_, _, rfl⟩, by decide, by decide, ⟨rfl, by decide, by decide, by decide⟩⟩
theorem p_X12_9 : POK RX12 9 14 5 2 true := ⟨RX12, TX12, 48, tyX12, rfl, by decide, rfl, by decide, by decide, uw_X12, tw_1138, tyX12_ok, nmX12, rfl, fun o => by cases o <;> exact ⟨rfl, rfl⟩, fun _ => rfl⟩
theorem p_X12_13 : POK RX12 13 14 6 2 true := ⟨RX12, TX12, 48, tyX12, rfl, by decide, rfl, by decide, by decide, uw_X12, tw_1139, tyX12_ok, nmX12, rfl, fun o => by cases o <;> exact ⟨rfl, rfl⟩, fun _ => rfl⟩
theorem p_X12_16 : POK RX12 16 14 7 2 true := ⟨RX12, TX12, 48, tyX12, rfl, by decide, rfl, by decide, by decide, uw_X12, tw_1140, tyX12_ok, nmX12, rfl, fun o => by cases o <;> exact ⟨rfl, rfl⟩, fun _ => rfl⟩
theorem p_X12_19 : POK RX12 19 14 8 2 true := ⟨RX12, TX12, 48, tyX12, rfl, by decide, rfl, by decide, by decide, uw_X12, tw_1141, tyX12_ok, nmX12, rfl, fun o => by cases o <;> exact ⟨rfl, rfl⟩, fun _ => rfl⟩
theorem p_X12_22 : POK RX12 22 14 9 2 true := ⟨RX12, TX12, 48, tyX12, rfl, by decide, rfl, by decide, by decide, uw_X12, tw_1142, tyX12_ok, nmX12, rfl, fun o => by cases o <;> exact ⟨rfl, rfl⟩, fun _ => rfl⟩
theorem p_X12_26 : POK RX12 26 14 10 2 true := ⟨RX12, TX12, 48, tyX12, rfl, by decide, rfl, by decide, by decide, uw_X12, tw_1143, tyX12_ok, nmX12, rfl, fun o => by cases o <;> exact ⟨rfl, rfl⟩, fun _ => rfl⟩
theorem p_X12_30 : POK RX12 30 14 11 2 true := ⟨RX12, TX12, 48, tyX12, rfl, by decide, rfl, by decide, by decide, uw_X12, tw_1144, tyX12_ok, nmX12, rfl, fun o => by cases o <;> exact ⟨rfl, rfl⟩, fun _ => rfl⟩
theorem p_X12_33 : POK RX12 33 14 12 2 true := ⟨RX12, TX12, 48, tyX12, rfl, by decide, rfl, by decide, by decide, uw_X12, tw_1145, tyX12_ok, nmX12, rfl, fun o => by cases o <;> exact ⟨rfl, rfl⟩, fun _ => rfl⟩
theorem p_X12_36 : POK RX12 36 14 13 2 true := ⟨RX12, TX12, 48, tyX12, rfl, by decide, rfl, by decide, by decide, uw_X12, tw_1146, tyX12_ok, nmX12, rfl, fun o => by cases o <;> exact ⟨rfl, rfl⟩, fun _ => rfl⟩
theorem p_X12_39 : POK RX12 39 14 14 2 true := ⟨RX12, TX12, 48, tyX12, rfl, by decide, rfl, by decide, by decide, uw_X12, tw_1147, tyX12_ok, nmX12, rfl, fun o => by cases o <;> exact ⟨rfl, rfl⟩, fun _ => rfl⟩
theorem p_X12_42 : POK RX12 42 14 15 2 true := ⟨RX12, TX12, 48, tyX12, rfl, by decide, rfl, by decide, by decide, uw_X12, tw_1148, tyX12_ok, nmX12, rfl, fun o => by cases o <;> exact ⟨rfl, rfl⟩, fun _ => rfl⟩
theorem p_X12_45 : POK RX12 45 14 16 2 true := ⟨RX12, TX12, 48, tyX12, rfl, by decide, rfl, by decide, by decide, uw_X12, tw_1149, tyX12_ok, nmX12, rfl, fun o => by cases o <;> exact ⟨rfl, rfl⟩, fun _ => rfl⟩
theorem p_X12_48 : POK RX12 48 14 17 2 true := ⟨RX12, TX12, 48, tyX12, rfl, by decide, rfl, by decide, by decide, uw_X12, tw_1150, tyX12_ok, nmX12, rfl, fun o => by cases o <;> exact ⟨rfl, rfl⟩, fun _ => rfl⟩
theorem p_X12_51 : POK RX12 51 14 18 2 true := ⟨RX12, TX12, 48, tyX12, rfl, by decide, rfl, by decide, by decide, uw_X12, tw_1151, tyX12_ok, nmX12, rfl, fun o => by cases o <;> exact ⟨rfl, rfl⟩, fun _ => rfl⟩
theorem p_X12_54 : POK RX12 54 14 19 2 true := ⟨RX12, TX12, 48, tyX12, rfl, by decide, rfl, by decide, by decide, uw_X12, tw_1152, tyX12_ok, nmX12, rfl, fun o => by cases o <;> exact ⟨rfl, rfl⟩, fun _ => rfl⟩
theorem p_X12_57 : POK RX12 57 14 20 2 true := ⟨RX12, TX12, 48, tyX12, rfl, by decide, rfl, by decide, by decide, uw_X12, tw_1153, tyX12_ok, nmX12, rfl, fun o => by cases o <;> exact ⟨rfl, rfl⟩, fun _ => rfl⟩
theorem p_X12_60 : POK RX12 60 14 21 2 true := ⟨RX12, TX12, 48, tyX12, rfl, by decide, rfl, by decide, by decide, uw_X12, tw_1154, tyX12_ok, nmX12, rfl, fun o => by cases o <;> exact ⟨rfl, rfl⟩, fun _ => rfl⟩
theorem p_X12_63 : POK RX12 63 14 26 2 true := ⟨RX12, TX12, 48, tyX12, rfl, by decide, rfl, by decide, by decide, uw_X12, tw_1159, tyX12_ok, nmX12, rfl, fun o => by cases o <;> exact ⟨rfl, rfl⟩, fun _ => rfl⟩
theorem p_X12_66 : POK RX12 66 14 27 2 true := ⟨RX12, TX12, 48, tyX12, rfl, by decide, rfl, by decide, by decide, uw_X12, tw_1160, tyX12_ok, nmX12, rfl, fun o => by cases o <;> exact ⟨rfl, rfl⟩, fun _ => rfl⟩
theorem p_X12_69 : POK RX12 69 14 28 2 true := ⟨RX12, TX12, 48, tyX12, rfl, by decide, rfl, by decide, by decide, uw_X12, tw_1161, tyX12_ok, nmX12, rfl, fun o => by cases o <;> exact ⟨rfl, rfl⟩, fun _ => rfl⟩
theorem p_X12_72 : POK RX12 72 14 29 2 true := ⟨RX12, TX12, 48, tyX12, rfl, by decide, rfl, by decide, by decide, uw_X12, tw_1162, tyX12_ok, nmX12, rfl, fun o => by cases o <;> exact ⟨rfl, rfl⟩, fun _ => rfl⟩
theorem p_X12_75 : POK RX12 75 14 30 2 true := ⟨RX12, TX12, 48, tyX12, rfl, by decide, rfl, by decide, by decide, uw_X12, tw_1163, tyX12_ok, nmX12, rfl, fun o => by cases o <;> exact ⟨rfl, rfl⟩, fun _ => rfl⟩
theorem p_X12_78 : POK RX12 78 14 31 2 true := ⟨RX12, TX12, 48, tyX12, rfl, by decide, rfl, by decide, by decide, uw_X12, tw_1164, tyX12_ok, nmX12, rfl, fun o => by cases o <;> exact ⟨rfl, rfl⟩, fun _ => rfl⟩
theorem p_X12_81 : POK RX12 81 14 32 2 true := ⟨RX12, TX12, 48, tyX12, rfl, by decide, rfl, by decide, by decide, uw_X12, tw_1165, tyX12_ok, nmX12, rfl, fun o => by cases o <;> exact ⟨rfl, rfl⟩, fun _ => rfl⟩
theorem p_X12_84 : POK RX12 84 14 33 2 true := ⟨RX12, TX12, 48, tyX12, rfl, by decide, rfl, by decide, by decide, uw_X12, tw_1166, tyX12_ok, nmX12, rfl, fun o => by cases o <;> exact ⟨rfl, rfl⟩, fun _ => rfl⟩
theorem p_X12_87 : POK RX12 87 14 34 2 true := ⟨RX12, TX12, 48, tyX12, rfl, by decide, rfl, by decide, by decide, uw_X12, tw_1167, tyX12_ok, nmX12, rfl, fun o => by cases o <;> exact ⟨rfl, rfl⟩, fun _ => rfl⟩
theorem p_X12_90 : POK RX12 90 14 35 2 true := ⟨RX12, TX12, 48, tyX12, rfl, by decide, rfl, by decide, by decide, uw_X12, tw_1168, tyX12_ok, nmX12, rfl, fun o => by cases o <;> exact ⟨rfl, rfl⟩, fun _ => rfl⟩
theorem p_X12_94 : POK RX12 94 14 36 2 true := ⟨RX12, TX12, 48, tyX12, rfl, by decide, rfl, by decide, by decide, uw_X12, tw_1169, tyX12_ok, nmX12, rfl, fun o => by cases o <;> exact ⟨rfl, rfl⟩, fun _ => rfl⟩
theorem p_X12_97 : POK RX12 97 14 37 2 true := ⟨RX12, TX12, 48, tyX12, rfl, by decide, rfl, by decide, by decide, uw_X12, tw_1170, tyX12_ok, nmX12, rfl, fun o => by cases o <;> exact ⟨rfl, rfl⟩, fun _ => rfl⟩
theorem p_X12_100 : POK RX12 100 14 38 2 true := ⟨RX12, TX12, 48, tyX12, rfl, by decide, rfl, by decide, by decide, uw_X12, tw_1171, tyX12_ok, nmX12, rfl, fun o => by cases o <;> exact ⟨rfl, rfl⟩, fun _ => rfl⟩
theorem p_X12_103 : POK RX12 103 14 40 2 true := ⟨RX12, TX12, 48, tyX12, rfl, by decide, rfl, by decide, by decide, uw_X12, tw_1173, tyX12_ok, nmX12, rfl, fun o => by cases o <;> exact ⟨rfl, rfl⟩, fun _ => rfl⟩
theorem p_X12_106 : POK RX12 106 14 42 2 true := ⟨RX12, TX12, 48, tyX12, rfl, by decide, rfl, by decide, by decide, uw_X12, tw_1175, tyX12_ok, nmX12, rfl, fun o => by cases o <;> exact ⟨rfl, rfl⟩, fun _ => rfl⟩
theorem p_X12_109 : POK RX12 109 14 43 2 true := ⟨RX12, TX12, 48, tyX12, rfl, by decide, rfl, by decide, by decide, uw_X12, tw_1176, tyX12_ok, nmX12, rfl, fun o => by cases o <;> exact ⟨rfl, rfl⟩, fun _ => rfl⟩
theorem p_X12_112 : POK RX12 112 14 44 2 true := ⟨RX12, TX12, 48, tyX12, rfl, by decide, rfl, by decide, by decide, uw_X12, tw_1177, tyX12_ok, nmX12, rfl, fun o => by cases o <;> exact ⟨rfl, rfl⟩, fun _ => rfl⟩
theorem p_X12_115 : POK RX12 115 14 45 2 true := ⟨RX12, TX12, 48, tyX12, rfl, by decide, rfl, by decide, by decide, uw_X12, tw_1178, tyX12_ok, nmX12, rfl, fun o => by cases o <;> exact ⟨rfl, rfl⟩, fun _ => rfl⟩
theorem p_X12_118 : POK RX12 118 14 46 2 true := ⟨RX12, TX12, 48, tyX12, rfl, by decide, rfl, by decide, by decide, uw_X12, tw_1179, tyX12_ok, nmX12, rfl, fun o => by cases o <;> exact ⟨rfl, rfl⟩, fun _ => rfl⟩
theorem p_X12_121 : POK RX12 121 14 47 2 true := ⟨RX12, TX12, 48, tyX12, rfl, by decide, rfl, by decide, by decide, uw_X12, tw_1180, tyX12_ok, nmX12, rfl, fun o => by cases o <;> exact ⟨rfl, rfl⟩, fun _ => rfl⟩
theorem f_X12_124 : FOK RX12 124 14 0 := ⟨RX12, TX12, 48, rfl, by decide, rfl, by decide, by decide, uw_X12, tw_1133⟩
theorem f_X12_128 : FOK RX12 128 14 4 := ⟨RX12, TX12, 48, rfl, by decide, rfl, by decide, by decide, uw_X12, tw_1137⟩
theorem p_X12_131 : POK RX12 131 14 22 3 false := ⟨RX12, TX12, 48, tyX12, rfl, by decide, rfl, by decide, by decide, uw_X12, tw_1155, tyX12_ok, nmX12, rfl, rfl, (fun h => by cases h)⟩
theorem p_X12_124 : POK RX12 124 14 0 0 false := ⟨RX12, TX12, 48, tyX12, rfl, by decide, rfl, by decide, by decide, uw_X12, tw_1133, tyX12_ok, nmX12, rfl, rfl, (fun h => by cases h)⟩
theorem f_X12_135 : FOK RX12 135 14 1 := ⟨RX12, TX12, 48, rfl, by decide, rfl, by decide, by decide, uw_X12, tw_1134⟩
theorem f_X12_138 : FOK RX12 138 14 2 := ⟨RX12, TX12, 48, rfl, by decide, rfl, by decide, by decide, uw_X12, tw_1135⟩
theorem f_X12_9 : FOK RX12 9 14 5 := ⟨RX12, TX12, 48, rfl, by decide, rfl, by decide, by decide, uw_X12, tw_1138⟩
theorem p_X12_138 : POK RX12 138 14 2 0 false := ⟨RX12, TX12, 48, tyX12, rfl, by decide, rfl, by decide, by decide, uw_X12, tw_1135, tyX12_ok, nmX12, rfl, rfl, (fun h => by cases h)⟩
theorem p_X12_135 : POK RX12 135 14 1 0 false := ⟨RX12, TX12, 48, tyX12, rfl, by decide, rfl, by decide, by decide, uw_X12, tw_1134, tyX12_ok, nmX12, rfl, rfl, (fun h => by cases h)⟩
theorem v_X12_141 : VOK RX12 141 yX12_done cX12_done 2 (some .int) 14 1 := ⟨tw_1287, tw_1289, ts_49, tw_8, tw_1290, ⟨_, _, rfl⟩, by decide, by decide, ⟨rfl, by decide, by decide, by decide⟩⟩
theorem f_X12_145 : FOK RX12 145 14 3 := ⟨RX12, TX12, 48, rfl, by decide, rfl, by decide, by decide, uw_X12, tw_1136⟩
theorem p_X12_145 : POK RX12 145 14 3 0 false := ⟨RX12, TX12, 48, tyX12, rfl, by decide, rfl, by decide, by decide, uw_X12, tw_1136, tyX12_ok, nmX12, rfl, rfl, (fun h => by cases h)⟩
theorem s_X12_148 : SOK RX12 148 yX12_isStock cX12_isStock 1 (some .boolean) 1 := ⟨tw_1299, tw_1300, tw_8, tw_1301, ⟨by decide, by decide, by decide⟩⟩
theorem f_X12_13 : FOK RX12 13 14 6 := ⟨RX12, TX12, 48, rfl, by decide, rfl, by decide, by decide, uw_X12, tw_1139⟩
theorem p_X12_128 : POK RX12 128 14 4 0 false := ⟨RX12, TX12, 48, tyX12, rfl, by decide, rfl, by decide, by decide, uw_X12, tw_1137, tyX12_ok, nmX12, rfl, rfl, (fun h => by cases h)⟩
theorem f_X12_16 : FOK RX12 16 14 7 := ⟨RX12, TX12, 48, rfl, by decide, rfl, by decide, by decide, uw_X12, tw_1140⟩
theorem f_X12_19 : FOK RX12 19 14 8 := ⟨RX12, TX12, 48, rfl, by decide, rfl, by decide, by decide, uw_X12, tw_1141⟩
theorem f_X12_22 : FOK RX12 22 14 9 := ⟨RX12, TX12, 48, rfl, by decide, rfl, by decide, by decide, uw_X12, tw_1142⟩
theorem f_X12_42 : FOK RX12 42 14 15 := ⟨RX12, TX12, 48, rfl, by decide, rfl, by decide, by decide, uw_X12, tw_1148⟩
theorem f_X12_54 : FOK RX12 54 14 19 := ⟨RX12, TX12, 48, rfl, by decide, rfl, by decide, by decide, uw_X12, tw_1152⟩
theorem f_X12_57 : FOK RX12 57 14 20 := ⟨RX12, TX12, 48, rfl, by decide, rfl, by decide, by decide, uw_X12, tw_1153⟩
theorem v_X12_154 : VOK RX12 154 yX12_isJob cX12_isJob 2 (some .boolean) 14 1 := ⟨tw_1312, tw_1314, ts_50, tw_8, tw_1315, ⟨_, _, rfl⟩, by decide, by decide, ⟨rfl, by decide, by decide, by decide⟩⟩
theorem f_X12_26 : FOK RX12 26 14 10 := ⟨RX12, TX12, 48, rfl, by decide, rfl, by decide, by decide, uw_X12, tw_1143⟩
theorem f_X12_30 : FOK RX12 30 14 11 := ⟨RX12, TX12, 48, rfl, by decide, rfl, by decide, by decide, uw_X12, tw_1144⟩
theorem f_X12_33 : FOK RX12 33 14 12 := ⟨RX12, TX12, 48, rfl, by decide, rfl, by decide, by decide, uw_X12, tw_1145⟩
theorem f_X12_36 : FOK RX12 36 14 13 := ⟨RX12, TX12, 48, rfl, by decide, rfl, by decide, by decide, uw_X12, tw_1146⟩
theorem f_X12_39 : FOK RX12 39 14 14 := ⟨RX12, TX12, 48, rfl, by decide, rfl, by decide, by decide, uw_X12, tw_1147⟩
theorem f_X12_45 : FOK RX12 45 14 16 := ⟨RX12, TX12, 48, rfl, by decide, rfl, by decide, by decide, uw_X12, tw_1149⟩
theorem f_X12_48 : FOK RX12 48 14 17 := ⟨RX12, TX12, 48, rfl, by decide, rfl, by decide, by decide, uw_X12, tw_1150⟩
theorem f_X12_51 : FOK RX12 51 14 18 := ⟨RX12, TX12, 48, rfl, by decide, rfl, by decide, by decide, uw_X12, tw_1151⟩
theorem f_X12_60 : FOK RX12 60 14 21 := ⟨RX12, TX12, 48, rfl, by decide, rfl, by decide, by decide, uw_X12, tw_1154⟩
theorem p_X12_163 : POK RX12 163 14 41 0 false := ⟨RX12, TX12, 48, tyX12, rfl, by decide, rfl, by decide, by decide, uw_X12, tw_1174, tyX12_ok, nmX12, rfl, rfl, (fun h => by cases h)⟩
theorem f_X12_103 : FOK RX12 103 14 40 := ⟨RX12, TX12, 48, rfl, by decide, rfl, by decide, by decide, uw_X12, tw_1173⟩
theorem v_X12_166 : VOK RX12 166 yX12_cuts cX12_cuts 11 (some .int) 14 1 := ⟨tw_1385, tw_1387, ts_59, tw_8, tw_1388, ⟨_, _, rfl⟩, by decide, by decide, ⟨rfl, by decide, by decide, by decide⟩⟩
theorem v_X12_181 : VOK RX12 181 yX12_number cX12_number 3 (some .int) 14 2 := ⟨tw_1389, tw_1391, ts_60, tw_8, tw_1392, ⟨_, _, rfl⟩, by decide, by decide, ⟨rfl, by decide, by decide, by decide⟩⟩
theorem f_X12_106 : FOK RX12 106 14 42 := ⟨RX12, TX12, 48, rfl, by decide, rfl, by decide, by decide, uw_X12, tw_1175⟩
theorem f_X12_109 : FOK RX12 109 14 43 := ⟨RX12, TX12, 48, rfl, by decide, rfl, by decide, by decide, uw_X12, tw_1176⟩
theorem v_X12_169 : VOK RX12 169 yX12_mixes cX12_mixes 8 (some .int) 14 1 := ⟨tw_1393, tw_1395, ts_61, tw_8, tw_1396, ⟨_, _, rfl⟩, by decide, by decide, ⟨rfl, by decide, by decide, by decide⟩⟩
theorem v_X12_184 : VOK RX12 184 yX12_isBelow cX12_isBelow 3 (some .boolean) 14 1 := ⟨tw_1397, tw_1399, ts_62, tw_8, tw_1400, ⟨_, _, rfl⟩, by decide, by decide, ⟨rfl, by decide, by decide, by decide⟩⟩
theorem v_X12_187 : VOK RX12 187 yX12_sumOf cX12_sumOf 5 (some .long) 14 1 := ⟨tw_1401, tw_1403, ts_63, tw_8, tw_1404, ⟨_, _, rfl⟩, by decide, by decide, ⟨rfl, by decide, by decide, by decide⟩⟩
theorem v_X12_191 : VOK RX12 191 yX12_shares cX12_shares 7 (some .long) 14 2 := ⟨tw_1405, tw_1407, ts_64, tw_8, tw_1408, ⟨_, _, rfl⟩, by decide, by decide, ⟨rfl, by decide, by decide, by decide⟩⟩
theorem f_X12_163 : FOK RX12 163 14 41 := ⟨RX12, TX12, 48, rfl, by decide, rfl, by decide, by decide, uw_X12, tw_1174⟩
theorem v_X12_172 : VOK RX12 172 yX12_loads cX12_loads 7 (some .int) 14 1 := ⟨tw_1409, tw_1411, ts_65, tw_8, tw_1412, ⟨_, _, rfl⟩, by decide, by decide, ⟨rfl, by decide, by decide, by decide⟩⟩
theorem v_X12_175 : VOK RX12 175 yX12_checks cX12_checks 6 (some .int) 14 1 := ⟨tw_1413, tw_1415, ts_66, tw_8, tw_1416, ⟨_, _, rfl⟩, by decide, by decide, ⟨rfl, by decide, by decide, by decide⟩⟩
theorem v_X12_178 : VOK RX12 178 yX12_counts cX12_counts 5 (some .int) 14 1 := ⟨tw_1417, tw_1419, ts_67, tw_8, tw_1420, ⟨_, _, rfl⟩, by decide, by decide, ⟨rfl, by decide, by decide, by decide⟩⟩
theorem f_X12_94 : FOK RX12 94 14 36 := ⟨RX12, TX12, 48, rfl, by decide, rfl, by decide, by decide, uw_X12, tw_1169⟩
theorem f_X12_199 : FOK RX12 199 14 25 := ⟨RX12, TX12, 48, rfl, by decide, rfl, by decide, by decide, uw_X12, tw_1158⟩
theorem f_X12_202 : FOK RX12 202 14 24 := ⟨RX12, TX12, 48, rfl, by decide, rfl, by decide, by decide, uw_X12, tw_1157⟩
theorem f_X12_97 : FOK RX12 97 14 37 := ⟨RX12, TX12, 48, rfl, by decide, rfl, by decide, by decide, uw_X12, tw_1170⟩
theorem f_X12_100 : FOK RX12 100 14 38 := ⟨RX12, TX12, 48, rfl, by decide, rfl, by decide, by decide, uw_X12, tw_1171⟩
theorem p_X12_199 : POK RX12 199 14 25 0 false := ⟨RX12, TX12, 48, tyX12, rfl, by decide, rfl, by decide, by decide, uw_X12, tw_1158, tyX12_ok, nmX12, rfl, rfl, (fun h => by cases h)⟩
theorem p_X12_202 : POK RX12 202 14 24 0 false := ⟨RX12, TX12, 48, tyX12, rfl, by decide, rfl, by decide, by decide, uw_X12, tw_1157, tyX12_ok, nmX12, rfl, rfl, (fun h => by cases h)⟩
theorem p_X12_205 : POK RX12 205 14 39 0 false := ⟨RX12, TX12, 48, tyX12, rfl, by decide, rfl, by decide, by decide, uw_X12, tw_1172, tyX12_ok, nmX12, rfl, rfl, (fun h => by cases h)⟩
theorem f_X12_81 : FOK RX12 81 14 32 := ⟨RX12, TX12, 48, rfl, by decide, rfl, by decide, by decide, uw_X12, tw_1165⟩
theorem f_X12_84 : FOK RX12 84 14 33 := ⟨RX12, TX12, 48, rfl, by decide, rfl, by decide, by decide, uw_X12, tw_1166⟩
theorem f_X12_87 : FOK RX12 87 14 34 := ⟨RX12, TX12, 48, rfl, by decide, rfl, by decide, by decide, uw_X12, tw_1167⟩
theorem f_X12_90 : FOK RX12 90 14 35 := ⟨RX12, TX12, 48, rfl, by decide, rfl, by decide, by decide, uw_X12, tw_1168⟩
theorem f_X12_63 : FOK RX12 63 14 26 := ⟨RX12, TX12, 48, rfl, by decide, rfl, by decide, by decide, uw_X12, tw_1159⟩
theorem f_X12_66 : FOK RX12 66 14 27 := ⟨RX12, TX12, 48, rfl, by decide, rfl, by decide, by decide, uw_X12, tw_1160⟩
theorem f_X12_69 : FOK RX12 69 14 28 := ⟨RX12, TX12, 48, rfl, by decide, rfl, by decide, by decide, uw_X12, tw_1161⟩
theorem f_X12_72 : FOK RX12 72 14 29 := ⟨RX12, TX12, 48, rfl, by decide, rfl, by decide, by decide, uw_X12, tw_1162⟩
theorem f_X12_75 : FOK RX12 75 14 30 := ⟨RX12, TX12, 48, rfl, by decide, rfl, by decide, by decide, uw_X12, tw_1163⟩
theorem f_X12_78 : FOK RX12 78 14 31 := ⟨RX12, TX12, 48, rfl, by decide, rfl, by decide, by decide, uw_X12, tw_1164⟩
theorem f_X12_112 : FOK RX12 112 14 44 := ⟨RX12, TX12, 48, rfl, by decide, rfl, by decide, by decide, uw_X12, tw_1177⟩
theorem v_X12_208 : VOK RX12 208 yX12_isHopeless cX12_isHopeless 6 (some .boolean) 14 1 := ⟨tw_1357, tw_1359, ts_52, tw_8, tw_1360, ⟨_, _, rfl⟩, by decide, by decide, ⟨rfl, by decide, by decide, by decide⟩⟩
theorem v_X12_211 : VOK RX12 211 yX12_tells cX12_tells 3 none 14 2 := ⟨tw_1361, tw_1363, ts_53, tw_8, tw_1364, ⟨_, _, rfl⟩, by decide, by decide, ⟨rfl, by decide, by decide, by decide⟩⟩
theorem v_X12_215 : VOK RX12 215 yX12_farOf cX12_farOf 2 (some .int) 14 1 := ⟨tw_1427, tw_1429, ts_69, tw_8, tw_1430, ⟨_, _, rfl⟩, by decide, by decide, ⟨rfl, by decide, by decide, by decide⟩⟩
theorem v_X12_218 : VOK RX12 218 yX12_frees cX12_frees 3 none 14 1 := ⟨tw_1377, tw_1379, ts_57, tw_8, tw_1380, ⟨_, _, rfl⟩, by decide, by decide, ⟨rfl, by decide, by decide, by decide⟩⟩
theorem v_X12_222 : VOK RX12 222 yX12_bodyOf cX12_bodyOf 3 (some .int) 14 1 := ⟨tw_1381, tw_1383, ts_58, tw_8, tw_1384, ⟨_, _, rfl⟩, by decide, by decide, ⟨rfl, by decide, by decide, by decide⟩⟩
theorem v_X12_225 : VOK RX12 225 yX12_restBack cX12_restBack 5 none 14 1 := ⟨tw_1423, tw_1425, ts_68, tw_8, tw_1426, ⟨_, _, rfl⟩, by decide, by decide, ⟨rfl, by decide, by decide, by decide⟩⟩
theorem v_X12_228 : VOK RX12 228 yX12_freeWorker cX12_freeWorker 4 (some .int) 14 1 := ⟨tw_1459, tw_1461, ts_77, tw_8, tw_1462, ⟨_, _, rfl⟩, by decide, by decide, ⟨rfl, by decide, by decide, by decide⟩⟩
theorem f_X12_205 : FOK RX12 205 14 39 := ⟨RX12, TX12, 48, rfl, by decide, rfl, by decide, by decide, uw_X12, tw_1172⟩
theorem f_X12_115 : FOK RX12 115 14 45 := ⟨RX12, TX12, 48, rfl, by decide, rfl, by decide, by decide, uw_X12, tw_1178⟩
theorem v_X12_231 : VOK RX12 231 yX12_isReady cX12_isReady 3 (some .boolean) 14 1 := ⟨tw_1451, tw_1453, ts_75, tw_8, tw_1454, ⟨_, _, rfl⟩, by decide, by decide, ⟨rfl, by decide, by decide, by decide⟩⟩
theorem v_X12_234 : VOK RX12 234 yX12_nextReady cX12_nextReady 4 (some .int) 14 1 := ⟨tw_1447, tw_1449, ts_74, tw_8, tw_1450, ⟨_, _, rfl⟩, by decide, by decide, ⟨rfl, by decide, by decide, by decide⟩⟩
theorem v_X12_237 : VOK RX12 237 yX12_canBegin cX12_canBegin 3 (some .boolean) 14 1 := ⟨tw_1455, tw_1457, ts_76, tw_8, tw_1458, ⟨_, _, rfl⟩, by decide, by decide, ⟨rfl, by decide, by decide, by decide⟩⟩
theorem v_X12_240 : VOK RX12 240 yX12_beginsWork cX12_beginsWork 3 none 14 1 := ⟨tw_1463, tw_1465, ts_78, tw_8, tw_1466, ⟨_, _, rfl⟩, by decide, by decide, ⟨rfl, by decide, by decide, by decide⟩⟩
theorem v_X12_243 : VOK RX12 243 yX12_endOf cX12_endOf 2 (some .int) 14 1 := ⟨tw_1369, tw_1371, ts_55, tw_8, tw_1372, ⟨_, _, rfl⟩, by decide, by decide, ⟨rfl, by decide, by decide, by decide⟩⟩
theorem v_X12_246 : VOK RX12 246 yX12_ends cX12_ends 3 none 14 1 := ⟨tw_1373, tw_1375, ts_56, tw_8, tw_1376, ⟨_, _, rfl⟩, by decide, by decide, ⟨rfl, by decide, by decide, by decide⟩⟩
theorem v_X12_249 : VOK RX12 249 yX12_cancels cX12_cancels 3 none 14 0 := ⟨tw_1431, tw_1433, ts_70, tw_8, tw_1434, ⟨_, _, rfl⟩, by decide, by decide, ⟨rfl, by decide, by decide, by decide⟩⟩
theorem v_X12_259 : VOK RX12 259 yX12_hands cX12_hands 5 (some .boolean) 14 1 := ⟨tw_1443, tw_1445, ts_73, tw_8, tw_1446, ⟨_, _, rfl⟩, by decide, by decide, ⟨rfl, by decide, by decide, by decide⟩⟩
theorem v_X12_252 : VOK RX12 252 yX12_isAnyAtWork cX12_isAnyAtWork 2 (some .boolean) 14 0 := ⟨tw_1435, tw_1437, ts_71, tw_8, tw_1438, ⟨_, _, rfl⟩, by decide, by decide, ⟨rfl, by decide, by decide, by decide⟩⟩
theorem v_X12_256 : VOK RX12 256 yX12_interrupts cX12_interrupts 2 none 14 1 := ⟨tw_1439, tw_1441, ts_72, tw_8, tw_1442, ⟨_, _, rfl⟩, by decide, by decide, ⟨rfl, by decide, by decide, by decide⟩⟩
theorem v_X12_266 : VOK RX12 266 yX12_neverBegin cX12_neverBegin 2 none 14 0 := ⟨tw_1468, tw_1470, ts_79, tw_8, tw_1471, ⟨_, _, rfl⟩, by decide, by decide, ⟨rfl, by decide, by decide, by decide⟩⟩
theorem v_X12_269 : VOK RX12 269 yX12_areAllDone cX12_areAllDone 2 (some .boolean) 14 0 := ⟨tw_1472, tw_1474, ts_80, tw_8, tw_1475, ⟨_, _, rfl⟩, by decide, by decide, ⟨rfl, by decide, by decide, by decide⟩⟩
theorem v_X12_272 : VOK RX12 272 yX12_begins cX12_begins 3 none 14 0 := ⟨tw_1353, tw_1355, ts_51, tw_8, tw_1356, ⟨_, _, rfl⟩, by decide, by decide, ⟨rfl, by decide, by decide, by decide⟩⟩
theorem v_X12_275 : VOK RX12 275 yX12_goesOn cX12_goesOn 5 (some .int) 14 1 := ⟨tw_1365, tw_1367, ts_54, tw_8, tw_1368, ⟨_, _, rfl⟩, by decide, by decide, ⟨rfl, by decide, by decide, by decide⟩⟩
theorem p_X12_278 : POK RX12 278 14 23 0 false := ⟨RX12, TX12, 48, tyX12, rfl, by decide, rfl, by decide, by decide, uw_X12, tw_1156, tyX12_ok, nmX12, rfl, rfl, (fun h => by cases h)⟩
theorem f_X12_278 : FOK RX12 278 14 23 := ⟨RX12, TX12, 48, rfl, by decide, rfl, by decide, by decide, uw_X12, tw_1156⟩
theorem v_X12_281 : VOK RX12 281 yX12_isAhead cX12_isAhead 3 (some .boolean) 14 2 := ⟨tw_1476, tw_1478, ts_81, tw_8, tw_1479, ⟨_, _, rfl⟩, by decide, by decide, ⟨rfl, by decide, by decide, by decide⟩⟩
theorem v_X12_285 : VOK RX12 285 yX12_swaps cX12_swaps 6 none 14 2 := ⟨tw_1480, tw_1482, ts_82, tw_8, tw_1483, ⟨_, _, rfl⟩, by decide, by decide, ⟨rfl, by decide, by decide, by decide⟩⟩
theorem f_X12_131 : FOK RX12 131 14 22 := ⟨RX12, TX12, 48, rfl, by decide, rfl, by decide, by decide, uw_X12, tw_1155⟩
theorem v_X12_288 : VOK RX12 288 yX12_causeOf cX12_causeOf 3 (some .int) 14 1 := ⟨tw_1492, tw_1494, ts_83, tw_8, tw_1495, ⟨_, _, rfl⟩, by decide, by decide, ⟨rfl, by decide, by decide, by decide⟩⟩
theorem v_X12_291 : VOK RX12 291 yX12_failedAt cX12_failedAt 4 (some .int) 14 1 := ⟨tw_1516, tw_1518, ts_84, tw_8, tw_1519, ⟨_, _, rfl⟩, by decide, by decide, ⟨rfl, by decide, by decide, by decide⟩⟩
theorem f_X12_118 : FOK RX12 118 14 46 := ⟨RX12, TX12, 48, rfl, by decide, rfl, by decide, by decide, uw_X12, tw_1179⟩
theorem f_X12_121 : FOK RX12 121 14 47 := ⟨RX12, TX12, 48, rfl, by decide, rfl, by decide, by decide, uw_X12, tw_1180⟩
theorem v_X12_294 : VOK RX12 294 yX12_lengths cX12_lengths 4 (some .int) 14 0 := ⟨tw_1540, tw_1542, ts_85, tw_8, tw_1543, ⟨_, _, rfl⟩, by decide, by decide, ⟨rfl, by decide, by decide, by decide⟩⟩
theorem v_X12_298 : VOK RX12 298 yX12_nextOfChain cX12_nextOfChain 4 (some .int) 14 1 := ⟨tw_1544, tw_1546, ts_86, tw_8, tw_1547, ⟨_, _, rfl⟩, by decide, by decide, ⟨rfl, by decide, by decide, by decide⟩⟩
