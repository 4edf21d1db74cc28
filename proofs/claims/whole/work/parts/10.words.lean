theorem tb_ws (ws : List Cond) (ps : List Nat) (hp : ws = ps.filterMap (fun i => lw_tbl[i]?)) (hg : ws.all goodWord = true) : ∀ w ∈ ws, w ∈ TBL := fun w hw => by
  have h1 := List.all_eq_true.mp hg w hw
  rw [hp] at hw
  obtain ⟨i, -, hi⟩ := List.mem_filterMap.mp hw
  exact List.mem_filter.mpr ⟨List.mem_of_getElem? hi, h1⟩
set_option maxRecDepth 20000 in
theorem cf_0 : vwCl[0]? = some (RX0, TX0, 6) ∧ 0 < 12 ∧ 6 = (tcl (0 + 1)).length ∧ (∀ w ∈ u_ws RX0 TX0 6, w ∈ TBL) ∧ (∀ k, k < 6 → parseFieldDescriptor (TX0 k).2.2.1 = some (tyX0 k)) ∧ (∀ a, a < 6 → ∀ b, b < 6 → a ≠ b → (TX0 a).2.1 ≠ (TX0 b).2.1) := ⟨rfl, by decide, by decide, tb_ws _ [335, 337, 339, 341, 343, 345] (by decide +kernel) (by decide +kernel), tyX0_ok, nmX0⟩
set_option maxRecDepth 20000 in
theorem cf_1 : vwCl[1]? = some (RX1, TX1, 9) ∧ 1 < 12 ∧ 9 = (tcl (1 + 1)).length ∧ (∀ w ∈ u_ws RX1 TX1 9, w ∈ TBL) ∧ (∀ k, k < 9 → parseFieldDescriptor (TX1 k).2.2.1 = some (tyX1 k)) ∧ (∀ a, a < 9 → ∀ b, b < 9 → a ≠ b → (TX1 a).2.1 ≠ (TX1 b).2.1) := ⟨rfl, by decide, by decide, tb_ws _ [148, 150, 152, 154, 156, 158, 160, 162, 164] (by decide +kernel) (by decide +kernel), tyX1_ok, nmX1⟩
set_option maxRecDepth 20000 in
theorem cf_2 : vwCl[2]? = some (RX2, TX2, 1) ∧ 2 < 12 ∧ 1 = (tcl (2 + 1)).length ∧ (∀ w ∈ u_ws RX2 TX2 1, w ∈ TBL) ∧ (∀ k, k < 1 → parseFieldDescriptor (TX2 k).2.2.1 = some (tyX2 k)) ∧ (∀ a, a < 1 → ∀ b, b < 1 → a ≠ b → (TX2 a).2.1 ≠ (TX2 b).2.1) := ⟨rfl, by decide, by decide, tb_ws _ [195] (by decide +kernel) (by decide +kernel), tyX2_ok, nmX2⟩
set_option maxRecDepth 20000 in
theorem cf_3 : vwCl[3]? = some (RX3, TX3, 3) ∧ 3 < 12 ∧ 3 = (tcl (3 + 1)).length ∧ (∀ w ∈ u_ws RX3 TX3 3, w ∈ TBL) ∧ (∀ k, k < 3 → parseFieldDescriptor (TX3 k).2.2.1 = some (tyX3 k)) ∧ (∀ a, a < 3 → ∀ b, b < 3 → a ≠ b → (TX3 a).2.1 ≠ (TX3 b).2.1) := ⟨rfl, by decide, by decide, tb_ws _ [309, 311, 313] (by decide +kernel) (by decide +kernel), tyX3_ok, nmX3⟩
set_option maxRecDepth 20000 in
theorem cf_4 : vwCl[4]? = some (RX4, TX4, 3) ∧ 4 < 12 ∧ 3 = (tcl (4 + 1)).length ∧ (∀ w ∈ u_ws RX4 TX4 3, w ∈ TBL) ∧ (∀ k, k < 3 → parseFieldDescriptor (TX4 k).2.2.1 = some (tyX4 k)) ∧ (∀ a, a < 3 → ∀ b, b < 3 → a ≠ b → (TX4 a).2.1 ≠ (TX4 b).2.1) := ⟨rfl, by decide, by decide, tb_ws _ [359, 361, 363] (by decide +kernel) (by decide +kernel), tyX4_ok, nmX4⟩
set_option maxRecDepth 20000 in
theorem cf_5 : vwCl[5]? = some (RX5, TX5, 4) ∧ 5 < 12 ∧ 4 = (tcl (5 + 1)).length ∧ (∀ w ∈ u_ws RX5 TX5 4, w ∈ TBL) ∧ (∀ k, k < 4 → parseFieldDescriptor (TX5 k).2.2.1 = some (tyX5 k)) ∧ (∀ a, a < 4 → ∀ b, b < 4 → a ≠ b → (TX5 a).2.1 ≠ (TX5 b).2.1) := ⟨rfl, by decide, by decide, tb_ws _ [379, 381, 383, 385] (by decide +kernel) (by decide +kernel), tyX5_ok, nmX5⟩
set_option maxRecDepth 20000 in
theorem cf_6 : vwCl[6]? = some (RX6, TX6, 4) ∧ 6 < 12 ∧ 4 = (tcl (6 + 1)).length ∧ (∀ w ∈ u_ws RX6 TX6 4, w ∈ TBL) ∧ (∀ k, k < 4 → parseFieldDescriptor (TX6 k).2.2.1 = some (tyX6 k)) ∧ (∀ a, a < 4 → ∀ b, b < 4 → a ≠ b → (TX6 a).2.1 ≠ (TX6 b).2.1) := ⟨rfl, by decide, by decide, tb_ws _ [180, 182, 184, 186] (by decide +kernel) (by decide +kernel), tyX6_ok, nmX6⟩
set_option maxRecDepth 20000 in
theorem cf_7 : vwCl[7]? = some (RX7, TX7, 5) ∧ 7 < 12 ∧ 5 = (tcl (7 + 1)).length ∧ (∀ w ∈ u_ws RX7 TX7 5, w ∈ TBL) ∧ (∀ k, k < 5 → parseFieldDescriptor (TX7 k).2.2.1 = some (tyX7 k)) ∧ (∀ a, a < 5 → ∀ b, b < 5 → a ≠ b → (TX7 a).2.1 ≠ (TX7 b).2.1) := ⟨rfl, by decide, by decide, tb_ws _ [289, 291, 293, 295, 297] (by decide +kernel) (by decide +kernel), tyX7_ok, nmX7⟩
set_option maxRecDepth 20000 in
theorem cf_8 : vwCl[8]? = some (RX8, TX8, 5) ∧ 8 < 12 ∧ 5 = (tcl (8 + 1)).length ∧ (∀ w ∈ u_ws RX8 TX8 5, w ∈ TBL) ∧ (∀ k, k < 5 → parseFieldDescriptor (TX8 k).2.2.1 = some (tyX8 k)) ∧ (∀ a, a < 5 → ∀ b, b < 5 → a ≠ b → (TX8 a).2.1 ≠ (TX8 b).2.1) := ⟨rfl, by decide, by decide, tb_ws _ [266, 268, 270, 272, 274] (by decide +kernel) (by decide +kernel), tyX8_ok, nmX8⟩
set_option maxRecDepth 20000 in
theorem cf_9 : vwCl[9]? = some (RX9, TX9, 14) ∧ 9 < 12 ∧ 14 = (tcl (9 + 1)).length ∧ (∀ w ∈ u_ws RX9 TX9 14, w ∈ TBL) ∧ (∀ k, k < 14 → parseFieldDescriptor (TX9 k).2.2.1 = some (tyX9 k)) ∧ (∀ a, a < 14 → ∀ b, b < 14 → a ≠ b → (TX9 a).2.1 ≠ (TX9 b).2.1) := ⟨rfl, by decide, by decide, tb_ws _ [226, 228, 230, 232, 234, 236, 238, 240, 242, 244, 246, 248, 250, 252] (by decide +kernel) (by decide +kernel), tyX9_ok, nmX9⟩
set_option maxRecDepth 20000 in
theorem cf_10 : vwCl[10]? = some (RX10, TX10, 17) ∧ 10 < 12 ∧ 17 = (tcl (10 + 1)).length ∧ (∀ w ∈ u_ws RX10 TX10 17, w ∈ TBL) ∧ (∀ k, k < 17 → parseFieldDescriptor (TX10 k).2.2.1 = some (tyX10 k)) ∧ (∀ a, a < 17 → ∀ b, b < 17 → a ≠ b → (TX10 a).2.1 ≠ (TX10 b).2.1) := ⟨rfl, by decide, by decide, tb_ws _ [405, 407, 409, 411, 413, 415, 417, 419, 421, 423, 425, 427, 429, 431, 433, 435, 437] (by decide +kernel) (by decide +kernel), tyX10_ok, nmX10⟩
set_option maxRecDepth 20000 in
theorem cf_11 : vwCl[11]? = some (RX11, TX11, 54) ∧ 11 < 12 ∧ 54 = (tcl (11 + 1)).length ∧ (∀ w ∈ u_ws RX11 TX11 54, w ∈ TBL) ∧ (∀ k, k < 54 → parseFieldDescriptor (TX11 k).2.2.1 = some (tyX11 k)) ∧ (∀ a, a < 54 → ∀ b, b < 54 → a ≠ b → (TX11 a).2.1 ≠ (TX11 b).2.1) := ⟨rfl, by decide, by decide, tb_ws _ [1159, 1161, 1163, 1165, 1167, 1169, 1171, 1173, 1175, 1177, 1179, 1181, 1183, 1185, 1187, 1189, 1191, 1193, 1195, 1197, 1199, 1201, 1203, 1205, 1207, 1209, 1211, 1213, 1215, 1217, 1219, 1221, 1223, 1225, 1227, 1229, 1231, 1233, 1235, 1237, 1239, 1241, 1243, 1245, 1247, 1249, 1251, 1253, 1255, 1257, 1259, 1261, 1263, 1265] (by decide +kernel) (by decide +kernel), tyX11_ok, nmX11⟩
theorem wk_X10_10 : Cond.fieldLink RX10 10 (TX10 0).1 (TX10 0).2.1 (TX10 0).2.2.1 ∈ TBL := tb_in 388 (by decide +kernel) (by decide +kernel)
theorem wf_X10_10 : FL RX10 10 11 704 2 := FL.mk 10 0 cf_10 rfl rfl (by decide) (by decide) wk_X10_10
theorem wp_X10_10 : FP RX10 10 11 704 2 true (.object "LoosePlug$World") := FP.mk 10 0 cf_10 rfl rfl (by decide) (by decide) wk_X10_10 rfl (fun _ => rfl) (by decide +kernel)
theorem wk_X10_16 : Cond.fieldLink RX10 16 (TX10 1).1 (TX10 1).2.1 (TX10 1).2.2.1 ∈ TBL := tb_in 389 (by decide +kernel) (by decide +kernel)
theorem wf_X10_16 : FL RX10 16 11 705 2 := FL.mk 10 1 cf_10 rfl rfl (by decide) (by decide) wk_X10_16
theorem wp_X10_16 : FP RX10 16 11 705 2 true (.object "LoosePlug$World") := FP.mk 10 1 cf_10 rfl rfl (by decide) (by decide) wk_X10_16 rfl (fun _ => rfl) (by decide +kernel)
theorem wk_X10_19 : Cond.fieldLink RX10 19 (TX10 2).1 (TX10 2).2.1 (TX10 2).2.2.1 ∈ TBL := tb_in 390 (by decide +kernel) (by decide +kernel)
theorem wf_X10_19 : FL RX10 19 11 706 0 := FL.mk 10 2 cf_10 rfl rfl (by decide) (by decide) wk_X10_19
theorem wp_X10_19 : FP RX10 19 11 706 0 false .boolean := FP.mk 10 2 cf_10 rfl rfl (by decide) (by decide) wk_X10_19 rfl (fun h => by cases h) (by decide +kernel)
theorem wk_X10_23 : Cond.fieldLink RX10 23 (TX10 3).1 (TX10 3).2.1 (TX10 3).2.2.1 ∈ TBL := tb_in 391 (by decide +kernel) (by decide +kernel)
theorem wf_X10_23 : FL RX10 23 11 707 2 := FL.mk 10 3 cf_10 rfl rfl (by decide) (by decide) wk_X10_23
theorem wp_X10_23 : FP RX10 23 11 707 2 true (.array .char) := FP.mk 10 3 cf_10 rfl rfl (by decide) (by decide) wk_X10_23 rfl (fun _ => rfl) (by decide +kernel)
theorem wk_X10_27 : Cond.fieldLink RX10 27 (TX10 4).1 (TX10 4).2.1 (TX10 4).2.2.1 ∈ TBL := tb_in 392 (by decide +kernel) (by decide +kernel)
theorem wf_X10_27 : FL RX10 27 11 708 0 := FL.mk 10 4 cf_10 rfl rfl (by decide) (by decide) wk_X10_27
theorem wp_X10_27 : FP RX10 27 11 708 0 false .int := FP.mk 10 4 cf_10 rfl rfl (by decide) (by decide) wk_X10_27 rfl (fun h => by cases h) (by decide +kernel)
theorem wk_X10_34 : Cond.fieldLink RX10 34 (TX10 5).1 (TX10 5).2.1 (TX10 5).2.2.1 ∈ TBL := tb_in 393 (by decide +kernel) (by decide +kernel)
theorem wf_X10_34 : FL RX10 34 11 709 2 := FL.mk 10 5 cf_10 rfl rfl (by decide) (by decide) wk_X10_34
theorem wp_X10_34 : FP RX10 34 11 709 2 true (.object "LoosePlug$Tokens") := FP.mk 10 5 cf_10 rfl rfl (by decide) (by decide) wk_X10_34 rfl (fun _ => rfl) (by decide +kernel)
theorem wk_X10_43 : Cond.fieldLink RX10 43 (TX10 6).1 (TX10 6).2.1 (TX10 6).2.2.1 ∈ TBL := tb_in 394 (by decide +kernel) (by decide +kernel)
theorem wf_X10_43 : FL RX10 43 11 710 2 := FL.mk 10 6 cf_10 rfl rfl (by decide) (by decide) wk_X10_43
theorem wp_X10_43 : FP RX10 43 11 710 2 true (.object "LoosePlug$StoryText") := FP.mk 10 6 cf_10 rfl rfl (by decide) (by decide) wk_X10_43 rfl (fun _ => rfl) (by decide +kernel)
theorem wk_X10_50 : Cond.fieldLink RX10 50 (TX10 7).1 (TX10 7).2.1 (TX10 7).2.2.1 ∈ TBL := tb_in 395 (by decide +kernel) (by decide +kernel)
theorem wf_X10_50 : FL RX10 50 11 711 2 := FL.mk 10 7 cf_10 rfl rfl (by decide) (by decide) wk_X10_50
theorem wp_X10_50 : FP RX10 50 11 711 2 true (.object "LoosePlug$RuleText") := FP.mk 10 7 cf_10 rfl rfl (by decide) (by decide) wk_X10_50 rfl (fun _ => rfl) (by decide +kernel)
theorem wk_X10_54 : Cond.fieldLink RX10 54 (TX10 8).1 (TX10 8).2.1 (TX10 8).2.2.1 ∈ TBL := tb_in 396 (by decide +kernel) (by decide +kernel)
theorem wf_X10_54 : FL RX10 54 11 712 2 := FL.mk 10 8 cf_10 rfl rfl (by decide) (by decide) wk_X10_54
theorem wp_X10_54 : FP RX10 54 11 712 2 true (.array .int) := FP.mk 10 8 cf_10 rfl rfl (by decide) (by decide) wk_X10_54 rfl (fun _ => rfl) (by decide +kernel)
theorem wk_X10_58 : Cond.fieldLink RX10 58 (TX10 9).1 (TX10 9).2.1 (TX10 9).2.2.1 ∈ TBL := tb_in 397 (by decide +kernel) (by decide +kernel)
theorem wf_X10_58 : FL RX10 58 11 713 2 := FL.mk 10 9 cf_10 rfl rfl (by decide) (by decide) wk_X10_58
theorem wp_X10_58 : FP RX10 58 11 713 2 true (.array .int) := FP.mk 10 9 cf_10 rfl rfl (by decide) (by decide) wk_X10_58 rfl (fun _ => rfl) (by decide +kernel)
theorem wk_X10_61 : Cond.fieldLink RX10 61 (TX10 10).1 (TX10 10).2.1 (TX10 10).2.2.1 ∈ TBL := tb_in 398 (by decide +kernel) (by decide +kernel)
theorem wf_X10_61 : FL RX10 61 11 714 2 := FL.mk 10 10 cf_10 rfl rfl (by decide) (by decide) wk_X10_61
theorem wp_X10_61 : FP RX10 61 11 714 2 true (.array .int) := FP.mk 10 10 cf_10 rfl rfl (by decide) (by decide) wk_X10_61 rfl (fun _ => rfl) (by decide +kernel)
theorem wk_X10_64 : Cond.fieldLink RX10 64 (TX10 11).1 (TX10 11).2.1 (TX10 11).2.2.1 ∈ TBL := tb_in 399 (by decide +kernel) (by decide +kernel)
theorem wf_X10_64 : FL RX10 64 11 715 2 := FL.mk 10 11 cf_10 rfl rfl (by decide) (by decide) wk_X10_64
theorem wp_X10_64 : FP RX10 64 11 715 2 true (.array .int) := FP.mk 10 11 cf_10 rfl rfl (by decide) (by decide) wk_X10_64 rfl (fun _ => rfl) (by decide +kernel)
theorem wk_X10_67 : Cond.fieldLink RX10 67 (TX10 12).1 (TX10 12).2.1 (TX10 12).2.2.1 ∈ TBL := tb_in 400 (by decide +kernel) (by decide +kernel)
theorem wf_X10_67 : FL RX10 67 11 716 2 := FL.mk 10 12 cf_10 rfl rfl (by decide) (by decide) wk_X10_67
theorem wp_X10_67 : FP RX10 67 11 716 2 true (.array .int) := FP.mk 10 12 cf_10 rfl rfl (by decide) (by decide) wk_X10_67 rfl (fun _ => rfl) (by decide +kernel)
theorem wk_X10_70 : Cond.fieldLink RX10 70 (TX10 13).1 (TX10 13).2.1 (TX10 13).2.2.1 ∈ TBL := tb_in 401 (by decide +kernel) (by decide +kernel)
theorem wf_X10_70 : FL RX10 70 11 717 0 := FL.mk 10 13 cf_10 rfl rfl (by decide) (by decide) wk_X10_70
theorem wp_X10_70 : FP RX10 70 11 717 0 false .int := FP.mk 10 13 cf_10 rfl rfl (by decide) (by decide) wk_X10_70 rfl (fun h => by cases h) (by decide +kernel)
theorem wk_X10_75 : Cond.fieldLink RX10 75 (TX10 14).1 (TX10 14).2.1 (TX10 14).2.2.1 ∈ TBL := tb_in 402 (by decide +kernel) (by decide +kernel)
theorem wf_X10_75 : FL RX10 75 11 718 2 := FL.mk 10 14 cf_10 rfl rfl (by decide) (by decide) wk_X10_75
theorem wp_X10_75 : FP RX10 75 11 718 2 true (.array (.object "LoosePlug$Sheet")) := FP.mk 10 14 cf_10 rfl rfl (by decide) (by decide) wk_X10_75 rfl (fun _ => rfl) (by decide +kernel)
theorem wk_X10_81 : Cond.fieldLink RX10 81 (TX10 15).1 (TX10 15).2.1 (TX10 15).2.2.1 ∈ TBL := tb_in 403 (by decide +kernel) (by decide +kernel)
theorem wf_X10_81 : FL RX10 81 11 719 2 := FL.mk 10 15 cf_10 rfl rfl (by decide) (by decide) wk_X10_81
theorem wp_X10_81 : FP RX10 81 11 719 2 true (.array (.object "LoosePlug$Shelf")) := FP.mk 10 15 cf_10 rfl rfl (by decide) (by decide) wk_X10_81 rfl (fun _ => rfl) (by decide +kernel)
theorem wk_X10_88 : Cond.fieldLink RX10 88 (TX10 16).1 (TX10 16).2.1 (TX10 16).2.2.1 ∈ TBL := tb_in 404 (by decide +kernel) (by decide +kernel)
theorem wf_X10_88 : FL RX10 88 11 720 2 := FL.mk 10 16 cf_10 rfl rfl (by decide) (by decide) wk_X10_88
theorem wp_X10_88 : FP RX10 88 11 720 2 true (.object "LoosePlug$Actor") := FP.mk 10 16 cf_10 rfl rfl (by decide) (by decide) wk_X10_88 rfl (fun _ => rfl) (by decide +kernel)
theorem wk_X10_98 : Cond.fieldLink RX10 98 (TX9 4).1 (TX9 4).2.1 (TX9 4).2.2.1 ∈ TBL := tb_in 207 (by decide +kernel) (by decide +kernel)
theorem wf_X10_98 : FL RX10 98 10 644 0 := FL.mk 9 4 cf_9 rfl rfl (by decide) (by decide) wk_X10_98
theorem wp_X10_98 : FP RX10 98 10 644 0 false .int := FP.mk 9 4 cf_9 rfl rfl (by decide) (by decide) wk_X10_98 rfl (fun h => by cases h) (by decide +kernel)
theorem wk_X10_101 : Cond.fieldLink RX10 101 (TX9 8).1 (TX9 8).2.1 (TX9 8).2.2.1 ∈ TBL := tb_in 215 (by decide +kernel) (by decide +kernel)
theorem wf_X10_101 : FL RX10 101 10 648 2 := FL.mk 9 8 cf_9 rfl rfl (by decide) (by decide) wk_X10_101
theorem wk_X10_116 : Cond.fieldLink RX10 116 (TX1 0).1 (TX1 0).2.1 (TX1 0).2.2.1 ∈ TBL := tb_in 128 (by decide +kernel) (by decide +kernel)
theorem wf_X10_116 : FL RX10 116 2 128 0 := FL.mk 1 0 cf_1 rfl rfl (by decide) (by decide) wk_X10_116
theorem wp_X10_116 : FP RX10 116 2 128 0 false .int := FP.mk 1 0 cf_1 rfl rfl (by decide) (by decide) wk_X10_116 rfl (fun h => by cases h) (by decide +kernel)
theorem wk_X10_119 : Cond.fieldLink RX10 119 (TX1 1).1 (TX1 1).2.1 (TX1 1).2.2.1 ∈ TBL := tb_in 130 (by decide +kernel) (by decide +kernel)
theorem wf_X10_119 : FL RX10 119 2 129 0 := FL.mk 1 1 cf_1 rfl rfl (by decide) (by decide) wk_X10_119
theorem wp_X10_119 : FP RX10 119 2 129 0 false .int := FP.mk 1 1 cf_1 rfl rfl (by decide) (by decide) wk_X10_119 rfl (fun h => by cases h) (by decide +kernel)
theorem wk_X10_122 : Cond.fieldLink RX10 122 (TX1 2).1 (TX1 2).2.1 (TX1 2).2.2.1 ∈ TBL := tb_in 132 (by decide +kernel) (by decide +kernel)
theorem wf_X10_122 : FL RX10 122 2 130 0 := FL.mk 1 2 cf_1 rfl rfl (by decide) (by decide) wk_X10_122
theorem wp_X10_122 : FP RX10 122 2 130 0 false .int := FP.mk 1 2 cf_1 rfl rfl (by decide) (by decide) wk_X10_122 rfl (fun h => by cases h) (by decide +kernel)
theorem wk_X10_125 : Cond.fieldLink RX10 125 (TX1 3).1 (TX1 3).2.1 (TX1 3).2.2.1 ∈ TBL := tb_in 134 (by decide +kernel) (by decide +kernel)
theorem wf_X10_125 : FL RX10 125 2 131 0 := FL.mk 1 3 cf_1 rfl rfl (by decide) (by decide) wk_X10_125
theorem wp_X10_125 : FP RX10 125 2 131 0 false .int := FP.mk 1 3 cf_1 rfl rfl (by decide) (by decide) wk_X10_125 rfl (fun h => by cases h) (by decide +kernel)
theorem wk_X10_128 : Cond.fieldLink RX10 128 (TX1 4).1 (TX1 4).2.1 (TX1 4).2.2.1 ∈ TBL := tb_in 137 (by decide +kernel) (by decide +kernel)
theorem wf_X10_128 : FL RX10 128 2 132 0 := FL.mk 1 4 cf_1 rfl rfl (by decide) (by decide) wk_X10_128
theorem wp_X10_128 : FP RX10 128 2 132 0 false .int := FP.mk 1 4 cf_1 rfl rfl (by decide) (by decide) wk_X10_128 rfl (fun h => by cases h) (by decide +kernel)
theorem wk_X10_131 : Cond.fieldLink RX10 131 (TX1 5).1 (TX1 5).2.1 (TX1 5).2.2.1 ∈ TBL := tb_in 140 (by decide +kernel) (by decide +kernel)
theorem wf_X10_131 : FL RX10 131 2 133 0 := FL.mk 1 5 cf_1 rfl rfl (by decide) (by decide) wk_X10_131
theorem wp_X10_131 : FP RX10 131 2 133 0 false .int := FP.mk 1 5 cf_1 rfl rfl (by decide) (by decide) wk_X10_131 rfl (fun h => by cases h) (by decide +kernel)
theorem wk_X10_134 : Cond.fieldLink RX10 134 (TX1 6).1 (TX1 6).2.1 (TX1 6).2.2.1 ∈ TBL := tb_in 142 (by decide +kernel) (by decide +kernel)
theorem wf_X10_134 : FL RX10 134 2 134 0 := FL.mk 1 6 cf_1 rfl rfl (by decide) (by decide) wk_X10_134
theorem wp_X10_134 : FP RX10 134 2 134 0 false .boolean := FP.mk 1 6 cf_1 rfl rfl (by decide) (by decide) wk_X10_134 rfl (fun h => by cases h) (by decide +kernel)
theorem wk_X10_140 : Cond.fieldLink RX10 140 (TX1 7).1 (TX1 7).2.1 (TX1 7).2.2.1 ∈ TBL := tb_in 145 (by decide +kernel) (by decide +kernel)
theorem wf_X10_140 : FL RX10 140 2 135 0 := FL.mk 1 7 cf_1 rfl rfl (by decide) (by decide) wk_X10_140
theorem wp_X10_140 : FP RX10 140 2 135 0 false .int := FP.mk 1 7 cf_1 rfl rfl (by decide) (by decide) wk_X10_140 rfl (fun h => by cases h) (by decide +kernel)
theorem wk_X10_143 : Cond.fieldLink RX10 143 (TX1 8).1 (TX1 8).2.1 (TX1 8).2.2.1 ∈ TBL := tb_in 147 (by decide +kernel) (by decide +kernel)
theorem wf_X10_143 : FL RX10 143 2 136 0 := FL.mk 1 8 cf_1 rfl rfl (by decide) (by decide) wk_X10_143
theorem wp_X10_143 : FP RX10 143 2 136 0 false .int := FP.mk 1 8 cf_1 rfl rfl (by decide) (by decide) wk_X10_143 rfl (fun h => by cases h) (by decide +kernel)
theorem wk_X10_146 : Cond.fieldLink RX10 146 (TX9 0).1 (TX9 0).2.1 (TX9 0).2.2.1 ∈ TBL := tb_in 199 (by decide +kernel) (by decide +kernel)
theorem wf_X10_146 : FL RX10 146 10 640 0 := FL.mk 9 0 cf_9 rfl rfl (by decide) (by decide) wk_X10_146
theorem wp_X10_146 : FP RX10 146 10 640 0 false .int := FP.mk 9 0 cf_9 rfl rfl (by decide) (by decide) wk_X10_146 rfl (fun h => by cases h) (by decide +kernel)
theorem wk_X10_153 : Cond.fieldLink RX10 153 (TX9 1).1 (TX9 1).2.1 (TX9 1).2.2.1 ∈ TBL := tb_in 201 (by decide +kernel) (by decide +kernel)
theorem wf_X10_153 : FL RX10 153 10 641 0 := FL.mk 9 1 cf_9 rfl rfl (by decide) (by decide) wk_X10_153
theorem wp_X10_153 : FP RX10 153 10 641 0 false .int := FP.mk 9 1 cf_9 rfl rfl (by decide) (by decide) wk_X10_153 rfl (fun h => by cases h) (by decide +kernel)
theorem wk_X10_156 : Cond.fieldLink RX10 156 (TX9 2).1 (TX9 2).2.1 (TX9 2).2.2.1 ∈ TBL := tb_in 203 (by decide +kernel) (by decide +kernel)
theorem wf_X10_156 : FL RX10 156 10 642 0 := FL.mk 9 2 cf_9 rfl rfl (by decide) (by decide) wk_X10_156
theorem wp_X10_156 : FP RX10 156 10 642 0 false .int := FP.mk 9 2 cf_9 rfl rfl (by decide) (by decide) wk_X10_156 rfl (fun h => by cases h) (by decide +kernel)
theorem wk_X10_162 : Cond.fieldLink RX10 162 (TX9 5).1 (TX9 5).2.1 (TX9 5).2.2.1 ∈ TBL := tb_in 209 (by decide +kernel) (by decide +kernel)
theorem wf_X10_162 : FL RX10 162 10 645 0 := FL.mk 9 5 cf_9 rfl rfl (by decide) (by decide) wk_X10_162
theorem wp_X10_162 : FP RX10 162 10 645 0 false .int := FP.mk 9 5 cf_9 rfl rfl (by decide) (by decide) wk_X10_162 rfl (fun h => by cases h) (by decide +kernel)
theorem wk_X10_179 : Cond.fieldLink RX10 179 (TX9 9).1 (TX9 9).2.1 (TX9 9).2.2.1 ∈ TBL := tb_in 217 (by decide +kernel) (by decide +kernel)
theorem wf_X10_179 : FL RX10 179 10 649 2 := FL.mk 9 9 cf_9 rfl rfl (by decide) (by decide) wk_X10_179
theorem wk_X10_182 : Cond.fieldLink RX10 182 (TX9 10).1 (TX9 10).2.1 (TX9 10).2.2.1 ∈ TBL := tb_in 219 (by decide +kernel) (by decide +kernel)
theorem wf_X10_182 : FL RX10 182 10 650 2 := FL.mk 9 10 cf_9 rfl rfl (by decide) (by decide) wk_X10_182
theorem wk_X10_185 : Cond.fieldLink RX10 185 (TX9 11).1 (TX9 11).2.1 (TX9 11).2.2.1 ∈ TBL := tb_in 221 (by decide +kernel) (by decide +kernel)
theorem wf_X10_185 : FL RX10 185 10 651 2 := FL.mk 9 11 cf_9 rfl rfl (by decide) (by decide) wk_X10_185
theorem wk_X10_188 : Cond.fieldLink RX10 188 (TX9 3).1 (TX9 3).2.1 (TX9 3).2.2.1 ∈ TBL := tb_in 205 (by decide +kernel) (by decide +kernel)
theorem wf_X10_188 : FL RX10 188 10 643 0 := FL.mk 9 3 cf_9 rfl rfl (by decide) (by decide) wk_X10_188
theorem wp_X10_188 : FP RX10 188 10 643 0 false .int := FP.mk 9 3 cf_9 rfl rfl (by decide) (by decide) wk_X10_188 rfl (fun h => by cases h) (by decide +kernel)
theorem wk_X10_193 : Cond.fieldLink RX10 193 (TX9 6).1 (TX9 6).2.1 (TX9 6).2.2.1 ∈ TBL := tb_in 211 (by decide +kernel) (by decide +kernel)
theorem wf_X10_193 : FL RX10 193 10 646 0 := FL.mk 9 6 cf_9 rfl rfl (by decide) (by decide) wk_X10_193
theorem wp_X10_193 : FP RX10 193 10 646 0 false .int := FP.mk 9 6 cf_9 rfl rfl (by decide) (by decide) wk_X10_193 rfl (fun h => by cases h) (by decide +kernel)
theorem wk_X10_206 : Cond.fieldLink RX10 206 (TX9 12).1 (TX9 12).2.1 (TX9 12).2.2.1 ∈ TBL := tb_in 223 (by decide +kernel) (by decide +kernel)
theorem wf_X10_206 : FL RX10 206 10 652 2 := FL.mk 9 12 cf_9 rfl rfl (by decide) (by decide) wk_X10_206
theorem wk_X10_287 : Cond.fieldLink RX10 287 (TX9 7).1 (TX9 7).2.1 (TX9 7).2.2.1 ∈ TBL := tb_in 213 (by decide +kernel) (by decide +kernel)
theorem wf_X10_287 : FL RX10 287 10 647 0 := FL.mk 9 7 cf_9 rfl rfl (by decide) (by decide) wk_X10_287
theorem wp_X10_287 : FP RX10 287 10 647 0 false .int := FP.mk 9 7 cf_9 rfl rfl (by decide) (by decide) wk_X10_287 rfl (fun h => by cases h) (by decide +kernel)
theorem wk_X10_298 : Cond.fieldLink RX10 298 (TX9 13).1 (TX9 13).2.1 (TX9 13).2.2.1 ∈ TBL := tb_in 225 (by decide +kernel) (by decide +kernel)
theorem wf_X10_298 : FL RX10 298 10 653 2 := FL.mk 9 13 cf_9 rfl rfl (by decide) (by decide) wk_X10_298
theorem wk_X10_324 : Cond.fieldLink RX10 324 (TX4 0).1 (TX4 0).2.1 (TX4 0).2.2.1 ∈ TBL := tb_in 354 (by decide +kernel) (by decide +kernel)
theorem wf_X10_324 : FL RX10 324 5 320 0 := FL.mk 4 0 cf_4 rfl rfl (by decide) (by decide) wk_X10_324
theorem wp_X10_324 : FP RX10 324 5 320 0 false .int := FP.mk 4 0 cf_4 rfl rfl (by decide) (by decide) wk_X10_324 rfl (fun h => by cases h) (by decide +kernel)
theorem wk_X10_333 : Cond.fieldLink RX10 333 (TX4 2).1 (TX4 2).2.1 (TX4 2).2.2.1 ∈ TBL := tb_in 358 (by decide +kernel) (by decide +kernel)
theorem wf_X10_333 : FL RX10 333 5 322 2 := FL.mk 4 2 cf_4 rfl rfl (by decide) (by decide) wk_X10_333
theorem wk_X10_343 : Cond.fieldLink RX10 343 (TX4 1).1 (TX4 1).2.1 (TX4 1).2.2.1 ∈ TBL := tb_in 356 (by decide +kernel) (by decide +kernel)
theorem wf_X10_343 : FL RX10 343 5 321 0 := FL.mk 4 1 cf_4 rfl rfl (by decide) (by decide) wk_X10_343
theorem wp_X10_343 : FP RX10 343 5 321 0 false .int := FP.mk 4 1 cf_4 rfl rfl (by decide) (by decide) wk_X10_343 rfl (fun h => by cases h) (by decide +kernel)
theorem wk_X10_356 : Cond.fieldLink RX10 356 (TX5 1).1 (TX5 1).2.1 (TX5 1).2.2.1 ∈ TBL := tb_in 374 (by decide +kernel) (by decide +kernel)
theorem wf_X10_356 : FL RX10 356 6 385 0 := FL.mk 5 1 cf_5 rfl rfl (by decide) (by decide) wk_X10_356
theorem wp_X10_356 : FP RX10 356 6 385 0 false .int := FP.mk 5 1 cf_5 rfl rfl (by decide) (by decide) wk_X10_356 rfl (fun h => by cases h) (by decide +kernel)
theorem wk_X10_362 : Cond.fieldLink RX10 362 (TX5 0).1 (TX5 0).2.1 (TX5 0).2.2.1 ∈ TBL := tb_in 372 (by decide +kernel) (by decide +kernel)
theorem wf_X10_362 : FL RX10 362 6 384 0 := FL.mk 5 0 cf_5 rfl rfl (by decide) (by decide) wk_X10_362
theorem wp_X10_362 : FP RX10 362 6 384 0 false .int := FP.mk 5 0 cf_5 rfl rfl (by decide) (by decide) wk_X10_362 rfl (fun h => by cases h) (by decide +kernel)
theorem wk_X10_365 : Cond.fieldLink RX10 365 (TX5 2).1 (TX5 2).2.1 (TX5 2).2.2.1 ∈ TBL := tb_in 376 (by decide +kernel) (by decide +kernel)
theorem wf_X10_365 : FL RX10 365 6 386 0 := FL.mk 5 2 cf_5 rfl rfl (by decide) (by decide) wk_X10_365
theorem wp_X10_365 : FP RX10 365 6 386 0 false .int := FP.mk 5 2 cf_5 rfl rfl (by decide) (by decide) wk_X10_365 rfl (fun h => by cases h) (by decide +kernel)
theorem wk_X10_366 : Cond.fieldLink RX10 366 (TX5 3).1 (TX5 3).2.1 (TX5 3).2.2.1 ∈ TBL := tb_in 378 (by decide +kernel) (by decide +kernel)
theorem wf_X10_366 : FL RX10 366 6 387 0 := FL.mk 5 3 cf_5 rfl rfl (by decide) (by decide) wk_X10_366
theorem wp_X10_366 : FP RX10 366 6 387 0 false .int := FP.mk 5 3 cf_5 rfl rfl (by decide) (by decide) wk_X10_366 rfl (fun h => by cases h) (by decide +kernel)
theorem wk_X10_386 : Cond.fieldLink RX10 386 (TX0 2).1 (TX0 2).2.1 (TX0 2).2.2.1 ∈ TBL := tb_in 331 (by decide +kernel) (by decide +kernel)
theorem wf_X10_386 : FL RX10 386 1 66 0 := FL.mk 0 2 cf_0 rfl rfl (by decide) (by decide) wk_X10_386
theorem wp_X10_386 : FP RX10 386 1 66 0 false .boolean := FP.mk 0 2 cf_0 rfl rfl (by decide) (by decide) wk_X10_386 rfl (fun h => by cases h) (by decide +kernel)
theorem wk_X10_389 : Cond.fieldLink RX10 389 (TX0 1).1 (TX0 1).2.1 (TX0 1).2.2.1 ∈ TBL := tb_in 329 (by decide +kernel) (by decide +kernel)
theorem wf_X10_389 : FL RX10 389 1 65 0 := FL.mk 0 1 cf_0 rfl rfl (by decide) (by decide) wk_X10_389
theorem wp_X10_389 : FP RX10 389 1 65 0 false .int := FP.mk 0 1 cf_0 rfl rfl (by decide) (by decide) wk_X10_389 rfl (fun h => by cases h) (by decide +kernel)
theorem wk_X10_392 : Cond.fieldLink RX10 392 (TX0 0).1 (TX0 0).2.1 (TX0 0).2.2.1 ∈ TBL := tb_in 327 (by decide +kernel) (by decide +kernel)
theorem wf_X10_392 : FL RX10 392 1 64 2 := FL.mk 0 0 cf_0 rfl rfl (by decide) (by decide) wk_X10_392
theorem wk_X0_9 : Cond.fieldLink RX0 9 (TX0 0).1 (TX0 0).2.1 (TX0 0).2.2.1 ∈ TBL := tb_in 326 (by decide +kernel) (by decide +kernel)
theorem wf_X0_9 : FL RX0 9 1 64 2 := FL.mk 0 0 cf_0 rfl rfl (by decide) (by decide) wk_X0_9
theorem wp_X0_9 : FP RX0 9 1 64 2 true (.array .int) := FP.mk 0 0 cf_0 rfl rfl (by decide) (by decide) wk_X0_9 rfl (fun _ => rfl) (by decide +kernel)
theorem wk_X0_15 : Cond.fieldLink RX0 15 (TX0 1).1 (TX0 1).2.1 (TX0 1).2.2.1 ∈ TBL := tb_in 328 (by decide +kernel) (by decide +kernel)
theorem wf_X0_15 : FL RX0 15 1 65 0 := FL.mk 0 1 cf_0 rfl rfl (by decide) (by decide) wk_X0_15
theorem wp_X0_15 : FP RX0 15 1 65 0 false .int := FP.mk 0 1 cf_0 rfl rfl (by decide) (by decide) wk_X0_15 rfl (fun h => by cases h) (by decide +kernel)
theorem wk_X0_19 : Cond.fieldLink RX0 19 (TX0 2).1 (TX0 2).2.1 (TX0 2).2.2.1 ∈ TBL := tb_in 330 (by decide +kernel) (by decide +kernel)
theorem wf_X0_19 : FL RX0 19 1 66 0 := FL.mk 0 2 cf_0 rfl rfl (by decide) (by decide) wk_X0_19
theorem wp_X0_19 : FP RX0 19 1 66 0 false .boolean := FP.mk 0 2 cf_0 rfl rfl (by decide) (by decide) wk_X0_19 rfl (fun h => by cases h) (by decide +kernel)
theorem wk_X0_23 : Cond.fieldLink RX0 23 (TX0 3).1 (TX0 3).2.1 (TX0 3).2.2.1 ∈ TBL := tb_in 332 (by decide +kernel) (by decide +kernel)
theorem wf_X0_23 : FL RX0 23 1 67 0 := FL.mk 0 3 cf_0 rfl rfl (by decide) (by decide) wk_X0_23
theorem wp_X0_23 : FP RX0 23 1 67 0 false .int := FP.mk 0 3 cf_0 rfl rfl (by decide) (by decide) wk_X0_23 rfl (fun h => by cases h) (by decide +kernel)
theorem wk_X0_26 : Cond.fieldLink RX0 26 (TX0 4).1 (TX0 4).2.1 (TX0 4).2.2.1 ∈ TBL := tb_in 333 (by decide +kernel) (by decide +kernel)
theorem wf_X0_26 : FL RX0 26 1 68 0 := FL.mk 0 4 cf_0 rfl rfl (by decide) (by decide) wk_X0_26
theorem wp_X0_26 : FP RX0 26 1 68 0 false .int := FP.mk 0 4 cf_0 rfl rfl (by decide) (by decide) wk_X0_26 rfl (fun h => by cases h) (by decide +kernel)
theorem wk_X0_29 : Cond.fieldLink RX0 29 (TX0 5).1 (TX0 5).2.1 (TX0 5).2.2.1 ∈ TBL := tb_in 334 (by decide +kernel) (by decide +kernel)
theorem wf_X0_29 : FL RX0 29 1 69 0 := FL.mk 0 5 cf_0 rfl rfl (by decide) (by decide) wk_X0_29
theorem wp_X0_29 : FP RX0 29 1 69 0 false .int := FP.mk 0 5 cf_0 rfl rfl (by decide) (by decide) wk_X0_29 rfl (fun h => by cases h) (by decide +kernel)
theorem wk_X1_9 : Cond.fieldLink RX1 9 (TX1 0).1 (TX1 0).2.1 (TX1 0).2.2.1 ∈ TBL := tb_in 127 (by decide +kernel) (by decide +kernel)
theorem wf_X1_9 : FL RX1 9 2 128 0 := FL.mk 1 0 cf_1 rfl rfl (by decide) (by decide) wk_X1_9
theorem wp_X1_9 : FP RX1 9 2 128 0 false .int := FP.mk 1 0 cf_1 rfl rfl (by decide) (by decide) wk_X1_9 rfl (fun h => by cases h) (by decide +kernel)
theorem wk_X1_15 : Cond.fieldLink RX1 15 (TX1 1).1 (TX1 1).2.1 (TX1 1).2.2.1 ∈ TBL := tb_in 129 (by decide +kernel) (by decide +kernel)
theorem wf_X1_15 : FL RX1 15 2 129 0 := FL.mk 1 1 cf_1 rfl rfl (by decide) (by decide) wk_X1_15
theorem wp_X1_15 : FP RX1 15 2 129 0 false .int := FP.mk 1 1 cf_1 rfl rfl (by decide) (by decide) wk_X1_15 rfl (fun h => by cases h) (by decide +kernel)
theorem wk_X1_18 : Cond.fieldLink RX1 18 (TX1 2).1 (TX1 2).2.1 (TX1 2).2.2.1 ∈ TBL := tb_in 131 (by decide +kernel) (by decide +kernel)
theorem wf_X1_18 : FL RX1 18 2 130 0 := FL.mk 1 2 cf_1 rfl rfl (by decide) (by decide) wk_X1_18
theorem wp_X1_18 : FP RX1 18 2 130 0 false .int := FP.mk 1 2 cf_1 rfl rfl (by decide) (by decide) wk_X1_18 rfl (fun h => by cases h) (by decide +kernel)
theorem wk_X1_21 : Cond.fieldLink RX1 21 (TX1 3).1 (TX1 3).2.1 (TX1 3).2.2.1 ∈ TBL := tb_in 133 (by decide +kernel) (by decide +kernel)
theorem wf_X1_21 : FL RX1 21 2 131 0 := FL.mk 1 3 cf_1 rfl rfl (by decide) (by decide) wk_X1_21
theorem wp_X1_21 : FP RX1 21 2 131 0 false .int := FP.mk 1 3 cf_1 rfl rfl (by decide) (by decide) wk_X1_21 rfl (fun h => by cases h) (by decide +kernel)
theorem wk_X1_24 : Cond.fieldLink RX1 24 (TX1 4).1 (TX1 4).2.1 (TX1 4).2.2.1 ∈ TBL := tb_in 136 (by decide +kernel) (by decide +kernel)
theorem wf_X1_24 : FL RX1 24 2 132 0 := FL.mk 1 4 cf_1 rfl rfl (by decide) (by decide) wk_X1_24
theorem wp_X1_24 : FP RX1 24 2 132 0 false .int := FP.mk 1 4 cf_1 rfl rfl (by decide) (by decide) wk_X1_24 rfl (fun h => by cases h) (by decide +kernel)
theorem wk_X1_27 : Cond.fieldLink RX1 27 (TX1 5).1 (TX1 5).2.1 (TX1 5).2.2.1 ∈ TBL := tb_in 139 (by decide +kernel) (by decide +kernel)
theorem wf_X1_27 : FL RX1 27 2 133 0 := FL.mk 1 5 cf_1 rfl rfl (by decide) (by decide) wk_X1_27
theorem wp_X1_27 : FP RX1 27 2 133 0 false .int := FP.mk 1 5 cf_1 rfl rfl (by decide) (by decide) wk_X1_27 rfl (fun h => by cases h) (by decide +kernel)
theorem wk_X1_30 : Cond.fieldLink RX1 30 (TX1 6).1 (TX1 6).2.1 (TX1 6).2.2.1 ∈ TBL := tb_in 141 (by decide +kernel) (by decide +kernel)
theorem wf_X1_30 : FL RX1 30 2 134 0 := FL.mk 1 6 cf_1 rfl rfl (by decide) (by decide) wk_X1_30
theorem wp_X1_30 : FP RX1 30 2 134 0 false .boolean := FP.mk 1 6 cf_1 rfl rfl (by decide) (by decide) wk_X1_30 rfl (fun h => by cases h) (by decide +kernel)
theorem wk_X1_34 : Cond.fieldLink RX1 34 (TX1 7).1 (TX1 7).2.1 (TX1 7).2.2.1 ∈ TBL := tb_in 144 (by decide +kernel) (by decide +kernel)
theorem wf_X1_34 : FL RX1 34 2 135 0 := FL.mk 1 7 cf_1 rfl rfl (by decide) (by decide) wk_X1_34
theorem wp_X1_34 : FP RX1 34 2 135 0 false .int := FP.mk 1 7 cf_1 rfl rfl (by decide) (by decide) wk_X1_34 rfl (fun h => by cases h) (by decide +kernel)
theorem wk_X1_37 : Cond.fieldLink RX1 37 (TX1 8).1 (TX1 8).2.1 (TX1 8).2.2.1 ∈ TBL := tb_in 146 (by decide +kernel) (by decide +kernel)
theorem wf_X1_37 : FL RX1 37 2 136 0 := FL.mk 1 8 cf_1 rfl rfl (by decide) (by decide) wk_X1_37
theorem wp_X1_37 : FP RX1 37 2 136 0 false .int := FP.mk 1 8 cf_1 rfl rfl (by decide) (by decide) wk_X1_37 rfl (fun h => by cases h) (by decide +kernel)
theorem wk_X2_9 : Cond.fieldLink RX2 9 (TX2 0).1 (TX2 0).2.1 (TX2 0).2.2.1 ∈ TBL := tb_in 194 (by decide +kernel) (by decide +kernel)
theorem wf_X2_9 : FL RX2 9 3 192 2 := FL.mk 2 0 cf_2 rfl rfl (by decide) (by decide) wk_X2_9
theorem wp_X2_9 : FP RX2 9 3 192 2 true (.array .int) := FP.mk 2 0 cf_2 rfl rfl (by decide) (by decide) wk_X2_9 rfl (fun _ => rfl) (by decide +kernel)
theorem wk_X3_9 : Cond.fieldLink RX3 9 (TX3 1).1 (TX3 1).2.1 (TX3 1).2.2.1 ∈ TBL := tb_in 307 (by decide +kernel) (by decide +kernel)
theorem wf_X3_9 : FL RX3 9 4 257 2 := FL.mk 3 1 cf_3 rfl rfl (by decide) (by decide) wk_X3_9
theorem wp_X3_9 : FP RX3 9 4 257 2 true (.array .int) := FP.mk 3 1 cf_3 rfl rfl (by decide) (by decide) wk_X3_9 rfl (fun _ => rfl) (by decide +kernel)
theorem wk_X3_15 : Cond.fieldLink RX3 15 (TX3 2).1 (TX3 2).2.1 (TX3 2).2.2.1 ∈ TBL := tb_in 308 (by decide +kernel) (by decide +kernel)
theorem wf_X3_15 : FL RX3 15 4 258 0 := FL.mk 3 2 cf_3 rfl rfl (by decide) (by decide) wk_X3_15
theorem wp_X3_15 : FP RX3 15 4 258 0 false .int := FP.mk 3 2 cf_3 rfl rfl (by decide) (by decide) wk_X3_15 rfl (fun h => by cases h) (by decide +kernel)
theorem wk_X3_19 : Cond.fieldLink RX3 19 (TX3 0).1 (TX3 0).2.1 (TX3 0).2.2.1 ∈ TBL := tb_in 306 (by decide +kernel) (by decide +kernel)
theorem wf_X3_19 : FL RX3 19 4 256 2 := FL.mk 3 0 cf_3 rfl rfl (by decide) (by decide) wk_X3_19
theorem wp_X3_19 : FP RX3 19 4 256 2 true (.object "LoosePlug$Tokens") := FP.mk 3 0 cf_3 rfl rfl (by decide) (by decide) wk_X3_19 rfl (fun _ => rfl) (by decide +kernel)
theorem wk_X4_9 : Cond.fieldLink RX4 9 (TX4 0).1 (TX4 0).2.1 (TX4 0).2.2.1 ∈ TBL := tb_in 353 (by decide +kernel) (by decide +kernel)
theorem wf_X4_9 : FL RX4 9 5 320 0 := FL.mk 4 0 cf_4 rfl rfl (by decide) (by decide) wk_X4_9
theorem wp_X4_9 : FP RX4 9 5 320 0 false .int := FP.mk 4 0 cf_4 rfl rfl (by decide) (by decide) wk_X4_9 rfl (fun h => by cases h) (by decide +kernel)
theorem wk_X4_15 : Cond.fieldLink RX4 15 (TX4 1).1 (TX4 1).2.1 (TX4 1).2.2.1 ∈ TBL := tb_in 355 (by decide +kernel) (by decide +kernel)
theorem wf_X4_15 : FL RX4 15 5 321 0 := FL.mk 4 1 cf_4 rfl rfl (by decide) (by decide) wk_X4_15
theorem wp_X4_15 : FP RX4 15 5 321 0 false .int := FP.mk 4 1 cf_4 rfl rfl (by decide) (by decide) wk_X4_15 rfl (fun h => by cases h) (by decide +kernel)
theorem wk_X4_18 : Cond.fieldLink RX4 18 (TX4 2).1 (TX4 2).2.1 (TX4 2).2.2.1 ∈ TBL := tb_in 357 (by decide +kernel) (by decide +kernel)
theorem wf_X4_18 : FL RX4 18 5 322 2 := FL.mk 4 2 cf_4 rfl rfl (by decide) (by decide) wk_X4_18
theorem wp_X4_18 : FP RX4 18 5 322 2 true (.array .int) := FP.mk 4 2 cf_4 rfl rfl (by decide) (by decide) wk_X4_18 rfl (fun _ => rfl) (by decide +kernel)
theorem wk_X5_9 : Cond.fieldLink RX5 9 (TX5 0).1 (TX5 0).2.1 (TX5 0).2.2.1 ∈ TBL := tb_in 371 (by decide +kernel) (by decide +kernel)
theorem wf_X5_9 : FL RX5 9 6 384 0 := FL.mk 5 0 cf_5 rfl rfl (by decide) (by decide) wk_X5_9
theorem wp_X5_9 : FP RX5 9 6 384 0 false .int := FP.mk 5 0 cf_5 rfl rfl (by decide) (by decide) wk_X5_9 rfl (fun h => by cases h) (by decide +kernel)
theorem wk_X5_15 : Cond.fieldLink RX5 15 (TX5 1).1 (TX5 1).2.1 (TX5 1).2.2.1 ∈ TBL := tb_in 373 (by decide +kernel) (by decide +kernel)
theorem wf_X5_15 : FL RX5 15 6 385 0 := FL.mk 5 1 cf_5 rfl rfl (by decide) (by decide) wk_X5_15
theorem wp_X5_15 : FP RX5 15 6 385 0 false .int := FP.mk 5 1 cf_5 rfl rfl (by decide) (by decide) wk_X5_15 rfl (fun h => by cases h) (by decide +kernel)
theorem wk_X5_18 : Cond.fieldLink RX5 18 (TX5 2).1 (TX5 2).2.1 (TX5 2).2.2.1 ∈ TBL := tb_in 375 (by decide +kernel) (by decide +kernel)
theorem wf_X5_18 : FL RX5 18 6 386 0 := FL.mk 5 2 cf_5 rfl rfl (by decide) (by decide) wk_X5_18
theorem wp_X5_18 : FP RX5 18 6 386 0 false .int := FP.mk 5 2 cf_5 rfl rfl (by decide) (by decide) wk_X5_18 rfl (fun h => by cases h) (by decide +kernel)
theorem wk_X5_21 : Cond.fieldLink RX5 21 (TX5 3).1 (TX5 3).2.1 (TX5 3).2.2.1 ∈ TBL := tb_in 377 (by decide +kernel) (by decide +kernel)
theorem wf_X5_21 : FL RX5 21 6 387 0 := FL.mk 5 3 cf_5 rfl rfl (by decide) (by decide) wk_X5_21
theorem wp_X5_21 : FP RX5 21 6 387 0 false .int := FP.mk 5 3 cf_5 rfl rfl (by decide) (by decide) wk_X5_21 rfl (fun h => by cases h) (by decide +kernel)
theorem wk_X6_9 : Cond.fieldLink RX6 9 (TX6 0).1 (TX6 0).2.1 (TX6 0).2.2.1 ∈ TBL := tb_in 173 (by decide +kernel) (by decide +kernel)
theorem wf_X6_9 : FL RX6 9 7 448 0 := FL.mk 6 0 cf_6 rfl rfl (by decide) (by decide) wk_X6_9
theorem wp_X6_9 : FP RX6 9 7 448 0 true .int := FP.mk 6 0 cf_6 rfl rfl (by decide) (by decide) wk_X6_9 rfl (fun _ => rfl) (by decide +kernel)
theorem wk_X6_15 : Cond.fieldLink RX6 15 (TX6 1).1 (TX6 1).2.1 (TX6 1).2.2.1 ∈ TBL := tb_in 175 (by decide +kernel) (by decide +kernel)
theorem wf_X6_15 : FL RX6 15 7 449 0 := FL.mk 6 1 cf_6 rfl rfl (by decide) (by decide) wk_X6_15
theorem wp_X6_15 : FP RX6 15 7 449 0 true .int := FP.mk 6 1 cf_6 rfl rfl (by decide) (by decide) wk_X6_15 rfl (fun _ => rfl) (by decide +kernel)
theorem wk_X6_18 : Cond.fieldLink RX6 18 (TX6 2).1 (TX6 2).2.1 (TX6 2).2.2.1 ∈ TBL := tb_in 177 (by decide +kernel) (by decide +kernel)
theorem wf_X6_18 : FL RX6 18 7 450 0 := FL.mk 6 2 cf_6 rfl rfl (by decide) (by decide) wk_X6_18
theorem wp_X6_18 : FP RX6 18 7 450 0 true .int := FP.mk 6 2 cf_6 rfl rfl (by decide) (by decide) wk_X6_18 rfl (fun _ => rfl) (by decide +kernel)
theorem wk_X6_21 : Cond.fieldLink RX6 21 (TX6 3).1 (TX6 3).2.1 (TX6 3).2.2.1 ∈ TBL := tb_in 179 (by decide +kernel) (by decide +kernel)
theorem wf_X6_21 : FL RX6 21 7 451 2 := FL.mk 6 3 cf_6 rfl rfl (by decide) (by decide) wk_X6_21
theorem wp_X6_21 : FP RX6 21 7 451 2 true (.array .int) := FP.mk 6 3 cf_6 rfl rfl (by decide) (by decide) wk_X6_21 rfl (fun _ => rfl) (by decide +kernel)
theorem wk_X7_9 : Cond.fieldLink RX7 9 (TX7 1).1 (TX7 1).2.1 (TX7 1).2.2.1 ∈ TBL := tb_in 285 (by decide +kernel) (by decide +kernel)
theorem wf_X7_9 : FL RX7 9 8 513 2 := FL.mk 7 1 cf_7 rfl rfl (by decide) (by decide) wk_X7_9
theorem wp_X7_9 : FP RX7 9 8 513 2 true (.array .int) := FP.mk 7 1 cf_7 rfl rfl (by decide) (by decide) wk_X7_9 rfl (fun _ => rfl) (by decide +kernel)
theorem wk_X7_15 : Cond.fieldLink RX7 15 (TX7 2).1 (TX7 2).2.1 (TX7 2).2.2.1 ∈ TBL := tb_in 286 (by decide +kernel) (by decide +kernel)
theorem wf_X7_15 : FL RX7 15 8 514 0 := FL.mk 7 2 cf_7 rfl rfl (by decide) (by decide) wk_X7_15
theorem wp_X7_15 : FP RX7 15 8 514 0 false .int := FP.mk 7 2 cf_7 rfl rfl (by decide) (by decide) wk_X7_15 rfl (fun h => by cases h) (by decide +kernel)
theorem wk_X7_19 : Cond.fieldLink RX7 19 (TX7 3).1 (TX7 3).2.1 (TX7 3).2.2.1 ∈ TBL := tb_in 287 (by decide +kernel) (by decide +kernel)
theorem wf_X7_19 : FL RX7 19 8 515 0 := FL.mk 7 3 cf_7 rfl rfl (by decide) (by decide) wk_X7_19
theorem wp_X7_19 : FP RX7 19 8 515 0 false .int := FP.mk 7 3 cf_7 rfl rfl (by decide) (by decide) wk_X7_19 rfl (fun h => by cases h) (by decide +kernel)
theorem wk_X7_22 : Cond.fieldLink RX7 22 (TX7 4).1 (TX7 4).2.1 (TX7 4).2.2.1 ∈ TBL := tb_in 288 (by decide +kernel) (by decide +kernel)
theorem wf_X7_22 : FL RX7 22 8 516 0 := FL.mk 7 4 cf_7 rfl rfl (by decide) (by decide) wk_X7_22
theorem wp_X7_22 : FP RX7 22 8 516 0 false .int := FP.mk 7 4 cf_7 rfl rfl (by decide) (by decide) wk_X7_22 rfl (fun h => by cases h) (by decide +kernel)
theorem wk_X7_25 : Cond.fieldLink RX7 25 (TX7 0).1 (TX7 0).2.1 (TX7 0).2.2.1 ∈ TBL := tb_in 284 (by decide +kernel) (by decide +kernel)
theorem wf_X7_25 : FL RX7 25 8 512 2 := FL.mk 7 0 cf_7 rfl rfl (by decide) (by decide) wk_X7_25
theorem wp_X7_25 : FP RX7 25 8 512 2 true (.object "LoosePlug$Tokens") := FP.mk 7 0 cf_7 rfl rfl (by decide) (by decide) wk_X7_25 rfl (fun _ => rfl) (by decide +kernel)
theorem wk_X8_9 : Cond.fieldLink RX8 9 (TX8 0).1 (TX8 0).2.1 (TX8 0).2.2.1 ∈ TBL := tb_in 261 (by decide +kernel) (by decide +kernel)
theorem wf_X8_9 : FL RX8 9 9 576 2 := FL.mk 8 0 cf_8 rfl rfl (by decide) (by decide) wk_X8_9
theorem wp_X8_9 : FP RX8 9 9 576 2 true (.array .int) := FP.mk 8 0 cf_8 rfl rfl (by decide) (by decide) wk_X8_9 rfl (fun _ => rfl) (by decide +kernel)
theorem wk_X8_15 : Cond.fieldLink RX8 15 (TX8 1).1 (TX8 1).2.1 (TX8 1).2.2.1 ∈ TBL := tb_in 262 (by decide +kernel) (by decide +kernel)
theorem wf_X8_15 : FL RX8 15 9 577 2 := FL.mk 8 1 cf_8 rfl rfl (by decide) (by decide) wk_X8_15
theorem wp_X8_15 : FP RX8 15 9 577 2 true (.array .int) := FP.mk 8 1 cf_8 rfl rfl (by decide) (by decide) wk_X8_15 rfl (fun _ => rfl) (by decide +kernel)
theorem wk_X8_18 : Cond.fieldLink RX8 18 (TX8 2).1 (TX8 2).2.1 (TX8 2).2.2.1 ∈ TBL := tb_in 263 (by decide +kernel) (by decide +kernel)
theorem wf_X8_18 : FL RX8 18 9 578 2 := FL.mk 8 2 cf_8 rfl rfl (by decide) (by decide) wk_X8_18
theorem wp_X8_18 : FP RX8 18 9 578 2 true (.array .int) := FP.mk 8 2 cf_8 rfl rfl (by decide) (by decide) wk_X8_18 rfl (fun _ => rfl) (by decide +kernel)
theorem wk_X8_21 : Cond.fieldLink RX8 21 (TX8 3).1 (TX8 3).2.1 (TX8 3).2.2.1 ∈ TBL := tb_in 264 (by decide +kernel) (by decide +kernel)
theorem wf_X8_21 : FL RX8 21 9 579 0 := FL.mk 8 3 cf_8 rfl rfl (by decide) (by decide) wk_X8_21
theorem wp_X8_21 : FP RX8 21 9 579 0 false .int := FP.mk 8 3 cf_8 rfl rfl (by decide) (by decide) wk_X8_21 rfl (fun h => by cases h) (by decide +kernel)
theorem wk_X8_25 : Cond.fieldLink RX8 25 (TX8 4).1 (TX8 4).2.1 (TX8 4).2.2.1 ∈ TBL := tb_in 265 (by decide +kernel) (by decide +kernel)
theorem wf_X8_25 : FL RX8 25 9 580 0 := FL.mk 8 4 cf_8 rfl rfl (by decide) (by decide) wk_X8_25
theorem wp_X8_25 : FP RX8 25 9 580 0 false .int := FP.mk 8 4 cf_8 rfl rfl (by decide) (by decide) wk_X8_25 rfl (fun h => by cases h) (by decide +kernel)
theorem wk_X9_9 : Cond.fieldLink RX9 9 (TX9 0).1 (TX9 0).2.1 (TX9 0).2.2.1 ∈ TBL := tb_in 198 (by decide +kernel) (by decide +kernel)
theorem wf_X9_9 : FL RX9 9 10 640 0 := FL.mk 9 0 cf_9 rfl rfl (by decide) (by decide) wk_X9_9
theorem wp_X9_9 : FP RX9 9 10 640 0 false .int := FP.mk 9 0 cf_9 rfl rfl (by decide) (by decide) wk_X9_9 rfl (fun h => by cases h) (by decide +kernel)
theorem wk_X9_15 : Cond.fieldLink RX9 15 (TX9 1).1 (TX9 1).2.1 (TX9 1).2.2.1 ∈ TBL := tb_in 200 (by decide +kernel) (by decide +kernel)
theorem wf_X9_15 : FL RX9 15 10 641 0 := FL.mk 9 1 cf_9 rfl rfl (by decide) (by decide) wk_X9_15
theorem wp_X9_15 : FP RX9 15 10 641 0 false .int := FP.mk 9 1 cf_9 rfl rfl (by decide) (by decide) wk_X9_15 rfl (fun h => by cases h) (by decide +kernel)
theorem wk_X9_18 : Cond.fieldLink RX9 18 (TX9 2).1 (TX9 2).2.1 (TX9 2).2.2.1 ∈ TBL := tb_in 202 (by decide +kernel) (by decide +kernel)
theorem wf_X9_18 : FL RX9 18 10 642 0 := FL.mk 9 2 cf_9 rfl rfl (by decide) (by decide) wk_X9_18
theorem wp_X9_18 : FP RX9 18 10 642 0 false .int := FP.mk 9 2 cf_9 rfl rfl (by decide) (by decide) wk_X9_18 rfl (fun h => by cases h) (by decide +kernel)
theorem wk_X9_21 : Cond.fieldLink RX9 21 (TX9 3).1 (TX9 3).2.1 (TX9 3).2.2.1 ∈ TBL := tb_in 204 (by decide +kernel) (by decide +kernel)
theorem wf_X9_21 : FL RX9 21 10 643 0 := FL.mk 9 3 cf_9 rfl rfl (by decide) (by decide) wk_X9_21
theorem wp_X9_21 : FP RX9 21 10 643 0 false .int := FP.mk 9 3 cf_9 rfl rfl (by decide) (by decide) wk_X9_21 rfl (fun h => by cases h) (by decide +kernel)
theorem wk_X9_24 : Cond.fieldLink RX9 24 (TX9 4).1 (TX9 4).2.1 (TX9 4).2.2.1 ∈ TBL := tb_in 206 (by decide +kernel) (by decide +kernel)
theorem wf_X9_24 : FL RX9 24 10 644 0 := FL.mk 9 4 cf_9 rfl rfl (by decide) (by decide) wk_X9_24
theorem wp_X9_24 : FP RX9 24 10 644 0 false .int := FP.mk 9 4 cf_9 rfl rfl (by decide) (by decide) wk_X9_24 rfl (fun h => by cases h) (by decide +kernel)
theorem wk_X9_27 : Cond.fieldLink RX9 27 (TX9 5).1 (TX9 5).2.1 (TX9 5).2.2.1 ∈ TBL := tb_in 208 (by decide +kernel) (by decide +kernel)
theorem wf_X9_27 : FL RX9 27 10 645 0 := FL.mk 9 5 cf_9 rfl rfl (by decide) (by decide) wk_X9_27
theorem wp_X9_27 : FP RX9 27 10 645 0 false .int := FP.mk 9 5 cf_9 rfl rfl (by decide) (by decide) wk_X9_27 rfl (fun h => by cases h) (by decide +kernel)
theorem wk_X9_30 : Cond.fieldLink RX9 30 (TX9 6).1 (TX9 6).2.1 (TX9 6).2.2.1 ∈ TBL := tb_in 210 (by decide +kernel) (by decide +kernel)
theorem wf_X9_30 : FL RX9 30 10 646 0 := FL.mk 9 6 cf_9 rfl rfl (by decide) (by decide) wk_X9_30
theorem wp_X9_30 : FP RX9 30 10 646 0 false .int := FP.mk 9 6 cf_9 rfl rfl (by decide) (by decide) wk_X9_30 rfl (fun h => by cases h) (by decide +kernel)
theorem wk_X9_33 : Cond.fieldLink RX9 33 (TX9 7).1 (TX9 7).2.1 (TX9 7).2.2.1 ∈ TBL := tb_in 212 (by decide +kernel) (by decide +kernel)
theorem wf_X9_33 : FL RX9 33 10 647 0 := FL.mk 9 7 cf_9 rfl rfl (by decide) (by decide) wk_X9_33
theorem wp_X9_33 : FP RX9 33 10 647 0 false .int := FP.mk 9 7 cf_9 rfl rfl (by decide) (by decide) wk_X9_33 rfl (fun h => by cases h) (by decide +kernel)
theorem wk_X9_38 : Cond.fieldLink RX9 38 (TX9 8).1 (TX9 8).2.1 (TX9 8).2.2.1 ∈ TBL := tb_in 214 (by decide +kernel) (by decide +kernel)
theorem wf_X9_38 : FL RX9 38 10 648 2 := FL.mk 9 8 cf_9 rfl rfl (by decide) (by decide) wk_X9_38
theorem wp_X9_38 : FP RX9 38 10 648 2 true (.array (.object "LoosePlug$Part")) := FP.mk 9 8 cf_9 rfl rfl (by decide) (by decide) wk_X9_38 rfl (fun _ => rfl) (by decide +kernel)
theorem wk_X9_42 : Cond.fieldLink RX9 42 (TX9 9).1 (TX9 9).2.1 (TX9 9).2.2.1 ∈ TBL := tb_in 216 (by decide +kernel) (by decide +kernel)
theorem wf_X9_42 : FL RX9 42 10 649 2 := FL.mk 9 9 cf_9 rfl rfl (by decide) (by decide) wk_X9_42
theorem wp_X9_42 : FP RX9 42 10 649 2 true (.array .int) := FP.mk 9 9 cf_9 rfl rfl (by decide) (by decide) wk_X9_42 rfl (fun _ => rfl) (by decide +kernel)
theorem wk_X9_46 : Cond.fieldLink RX9 46 (TX9 10).1 (TX9 10).2.1 (TX9 10).2.2.1 ∈ TBL := tb_in 218 (by decide +kernel) (by decide +kernel)
theorem wf_X9_46 : FL RX9 46 10 650 2 := FL.mk 9 10 cf_9 rfl rfl (by decide) (by decide) wk_X9_46
theorem wp_X9_46 : FP RX9 46 10 650 2 true (.array .int) := FP.mk 9 10 cf_9 rfl rfl (by decide) (by decide) wk_X9_46 rfl (fun _ => rfl) (by decide +kernel)
theorem wk_X9_49 : Cond.fieldLink RX9 49 (TX9 11).1 (TX9 11).2.1 (TX9 11).2.2.1 ∈ TBL := tb_in 220 (by decide +kernel) (by decide +kernel)
theorem wf_X9_49 : FL RX9 49 10 651 2 := FL.mk 9 11 cf_9 rfl rfl (by decide) (by decide) wk_X9_49
theorem wp_X9_49 : FP RX9 49 10 651 2 true (.array .int) := FP.mk 9 11 cf_9 rfl rfl (by decide) (by decide) wk_X9_49 rfl (fun _ => rfl) (by decide +kernel)
theorem wk_X9_54 : Cond.fieldLink RX9 54 (TX9 12).1 (TX9 12).2.1 (TX9 12).2.2.1 ∈ TBL := tb_in 222 (by decide +kernel) (by decide +kernel)
theorem wf_X9_54 : FL RX9 54 10 652 2 := FL.mk 9 12 cf_9 rfl rfl (by decide) (by decide) wk_X9_54
theorem wp_X9_54 : FP RX9 54 10 652 2 true (.array (.object "LoosePlug$Story")) := FP.mk 9 12 cf_9 rfl rfl (by decide) (by decide) wk_X9_54 rfl (fun _ => rfl) (by decide +kernel)
theorem wk_X9_60 : Cond.fieldLink RX9 60 (TX9 13).1 (TX9 13).2.1 (TX9 13).2.2.1 ∈ TBL := tb_in 224 (by decide +kernel) (by decide +kernel)
theorem wf_X9_60 : FL RX9 60 10 653 2 := FL.mk 9 13 cf_9 rfl rfl (by decide) (by decide) wk_X9_60
theorem wp_X9_60 : FP RX9 60 10 653 2 true (.array (.object "LoosePlug$Rule")) := FP.mk 9 13 cf_9 rfl rfl (by decide) (by decide) wk_X9_60 rfl (fun _ => rfl) (by decide +kernel)
theorem wk_X9_76 : Cond.fieldLink RX9 76 (TX6 1).1 (TX6 1).2.1 (TX6 1).2.2.1 ∈ TBL := tb_in 176 (by decide +kernel) (by decide +kernel)
theorem wf_X9_76 : FL RX9 76 7 449 0 := FL.mk 6 1 cf_6 rfl rfl (by decide) (by decide) wk_X9_76
theorem wk_X9_79 : Cond.fieldLink RX9 79 (TX6 2).1 (TX6 2).2.1 (TX6 2).2.2.1 ∈ TBL := tb_in 178 (by decide +kernel) (by decide +kernel)
theorem wf_X9_79 : FL RX9 79 7 450 0 := FL.mk 6 2 cf_6 rfl rfl (by decide) (by decide) wk_X9_79
theorem wk_X9_116 : Cond.fieldLink RX9 116 (TX6 0).1 (TX6 0).2.1 (TX6 0).2.2.1 ∈ TBL := tb_in 174 (by decide +kernel) (by decide +kernel)
theorem wf_X9_116 : FL RX9 116 7 448 0 := FL.mk 6 0 cf_6 rfl rfl (by decide) (by decide) wk_X9_116
theorem wk_X9_131 : Cond.fieldLink RX9 131 (TX1 4).1 (TX1 4).2.1 (TX1 4).2.2.1 ∈ TBL := tb_in 138 (by decide +kernel) (by decide +kernel)
theorem wf_X9_131 : FL RX9 131 2 132 0 := FL.mk 1 4 cf_1 rfl rfl (by decide) (by decide) wk_X9_131
theorem wp_X9_131 : FP RX9 131 2 132 0 false .int := FP.mk 1 4 cf_1 rfl rfl (by decide) (by decide) wk_X9_131 rfl (fun h => by cases h) (by decide +kernel)
theorem wk_X9_134 : Cond.fieldLink RX9 134 (TX1 3).1 (TX1 3).2.1 (TX1 3).2.2.1 ∈ TBL := tb_in 135 (by decide +kernel) (by decide +kernel)
theorem wf_X9_134 : FL RX9 134 2 131 0 := FL.mk 1 3 cf_1 rfl rfl (by decide) (by decide) wk_X9_134
theorem wp_X9_134 : FP RX9 134 2 131 0 false .int := FP.mk 1 3 cf_1 rfl rfl (by decide) (by decide) wk_X9_134 rfl (fun h => by cases h) (by decide +kernel)
theorem wk_X9_141 : Cond.fieldLink RX9 141 (TX1 6).1 (TX1 6).2.1 (TX1 6).2.2.1 ∈ TBL := tb_in 143 (by decide +kernel) (by decide +kernel)
theorem wf_X9_141 : FL RX9 141 2 134 0 := FL.mk 1 6 cf_1 rfl rfl (by decide) (by decide) wk_X9_141
theorem wp_X9_141 : FP RX9 141 2 134 0 false .boolean := FP.mk 1 6 cf_1 rfl rfl (by decide) (by decide) wk_X9_141 rfl (fun h => by cases h) (by decide +kernel)
theorem wk_X11_7 : Cond.fieldLink RX11 7 (TX11 2).1 (TX11 2).2.1 (TX11 2).2.2.1 ∈ TBL := tb_in 1107 (by decide +kernel) (by decide +kernel)
theorem wf_X11_7 : FL RX11 7 12 770 0 := FL.mk 11 2 cf_11 rfl rfl (by decide) (by decide) wk_X11_7
theorem wp_X11_7 : FP RX11 7 12 770 0 false .int := FP.mk 11 2 cf_11 rfl rfl (by decide) (by decide) wk_X11_7 rfl (fun h => by cases h) (by decide +kernel)
theorem wk_X11_13 : Cond.fieldLink RX11 13 (TX11 5).1 (TX11 5).2.1 (TX11 5).2.2.1 ∈ TBL := tb_in 1110 (by decide +kernel) (by decide +kernel)
theorem wf_X11_13 : FL RX11 13 12 773 2 := FL.mk 11 5 cf_11 rfl rfl (by decide) (by decide) wk_X11_13
theorem wp_X11_13 : FP RX11 13 12 773 2 true (.array .int) := FP.mk 11 5 cf_11 rfl rfl (by decide) (by decide) wk_X11_13 rfl (fun _ => rfl) (by decide +kernel)
theorem wk_X11_17 : Cond.fieldLink RX11 17 (TX11 7).1 (TX11 7).2.1 (TX11 7).2.2.1 ∈ TBL := tb_in 1112 (by decide +kernel) (by decide +kernel)
theorem wf_X11_17 : FL RX11 17 12 775 2 := FL.mk 11 7 cf_11 rfl rfl (by decide) (by decide) wk_X11_17
theorem wp_X11_17 : FP RX11 17 12 775 2 true (.array .int) := FP.mk 11 7 cf_11 rfl rfl (by decide) (by decide) wk_X11_17 rfl (fun _ => rfl) (by decide +kernel)
theorem wk_X11_20 : Cond.fieldLink RX11 20 (TX11 9).1 (TX11 9).2.1 (TX11 9).2.2.1 ∈ TBL := tb_in 1114 (by decide +kernel) (by decide +kernel)
theorem wf_X11_20 : FL RX11 20 12 777 2 := FL.mk 11 9 cf_11 rfl rfl (by decide) (by decide) wk_X11_20
theorem wp_X11_20 : FP RX11 20 12 777 2 true (.array .int) := FP.mk 11 9 cf_11 rfl rfl (by decide) (by decide) wk_X11_20 rfl (fun _ => rfl) (by decide +kernel)
theorem wk_X11_23 : Cond.fieldLink RX11 23 (TX11 11).1 (TX11 11).2.1 (TX11 11).2.2.1 ∈ TBL := tb_in 1116 (by decide +kernel) (by decide +kernel)
theorem wf_X11_23 : FL RX11 23 12 779 2 := FL.mk 11 11 cf_11 rfl rfl (by decide) (by decide) wk_X11_23
theorem wp_X11_23 : FP RX11 23 12 779 2 true (.array .int) := FP.mk 11 11 cf_11 rfl rfl (by decide) (by decide) wk_X11_23 rfl (fun _ => rfl) (by decide +kernel)
theorem wk_X11_26 : Cond.fieldLink RX11 26 (TX11 12).1 (TX11 12).2.1 (TX11 12).2.2.1 ∈ TBL := tb_in 1117 (by decide +kernel) (by decide +kernel)
theorem wf_X11_26 : FL RX11 26 12 780 2 := FL.mk 11 12 cf_11 rfl rfl (by decide) (by decide) wk_X11_26
theorem wp_X11_26 : FP RX11 26 12 780 2 true (.array .int) := FP.mk 11 12 cf_11 rfl rfl (by decide) (by decide) wk_X11_26 rfl (fun _ => rfl) (by decide +kernel)
theorem wk_X11_29 : Cond.fieldLink RX11 29 (TX11 13).1 (TX11 13).2.1 (TX11 13).2.2.1 ∈ TBL := tb_in 1118 (by decide +kernel) (by decide +kernel)
theorem wf_X11_29 : FL RX11 29 12 781 2 := FL.mk 11 13 cf_11 rfl rfl (by decide) (by decide) wk_X11_29
theorem wp_X11_29 : FP RX11 29 12 781 2 true (.array .int) := FP.mk 11 13 cf_11 rfl rfl (by decide) (by decide) wk_X11_29 rfl (fun _ => rfl) (by decide +kernel)
theorem wk_X11_32 : Cond.fieldLink RX11 32 (TX11 21).1 (TX11 21).2.1 (TX11 21).2.2.1 ∈ TBL := tb_in 1126 (by decide +kernel) (by decide +kernel)
theorem wf_X11_32 : FL RX11 32 12 789 2 := FL.mk 11 21 cf_11 rfl rfl (by decide) (by decide) wk_X11_32
theorem wp_X11_32 : FP RX11 32 12 789 2 true (.array .int) := FP.mk 11 21 cf_11 rfl rfl (by decide) (by decide) wk_X11_32 rfl (fun _ => rfl) (by decide +kernel)
theorem wk_X11_35 : Cond.fieldLink RX11 35 (TX11 24).1 (TX11 24).2.1 (TX11 24).2.2.1 ∈ TBL := tb_in 1129 (by decide +kernel) (by decide +kernel)
theorem wf_X11_35 : FL RX11 35 12 792 2 := FL.mk 11 24 cf_11 rfl rfl (by decide) (by decide) wk_X11_35
theorem wp_X11_35 : FP RX11 35 12 792 2 true (.array .int) := FP.mk 11 24 cf_11 rfl rfl (by decide) (by decide) wk_X11_35 rfl (fun _ => rfl) (by decide +kernel)
theorem wk_X11_38 : Cond.fieldLink RX11 38 (TX11 26).1 (TX11 26).2.1 (TX11 26).2.2.1 ∈ TBL := tb_in 1131 (by decide +kernel) (by decide +kernel)
theorem wf_X11_38 : FL RX11 38 12 794 2 := FL.mk 11 26 cf_11 rfl rfl (by decide) (by decide) wk_X11_38
theorem wp_X11_38 : FP RX11 38 12 794 2 true (.array .int) := FP.mk 11 26 cf_11 rfl rfl (by decide) (by decide) wk_X11_38 rfl (fun _ => rfl) (by decide +kernel)
theorem wk_X11_41 : Cond.fieldLink RX11 41 (TX11 27).1 (TX11 27).2.1 (TX11 27).2.2.1 ∈ TBL := tb_in 1132 (by decide +kernel) (by decide +kernel)
theorem wf_X11_41 : FL RX11 41 12 795 2 := FL.mk 11 27 cf_11 rfl rfl (by decide) (by decide) wk_X11_41
theorem wp_X11_41 : FP RX11 41 12 795 2 true (.array .int) := FP.mk 11 27 cf_11 rfl rfl (by decide) (by decide) wk_X11_41 rfl (fun _ => rfl) (by decide +kernel)
theorem wk_X11_44 : Cond.fieldLink RX11 44 (TX11 28).1 (TX11 28).2.1 (TX11 28).2.2.1 ∈ TBL := tb_in 1133 (by decide +kernel) (by decide +kernel)
theorem wf_X11_44 : FL RX11 44 12 796 2 := FL.mk 11 28 cf_11 rfl rfl (by decide) (by decide) wk_X11_44
theorem wp_X11_44 : FP RX11 44 12 796 2 true (.array .int) := FP.mk 11 28 cf_11 rfl rfl (by decide) (by decide) wk_X11_44 rfl (fun _ => rfl) (by decide +kernel)
theorem wk_X11_47 : Cond.fieldLink RX11 47 (TX11 34).1 (TX11 34).2.1 (TX11 34).2.2.1 ∈ TBL := tb_in 1139 (by decide +kernel) (by decide +kernel)
theorem wf_X11_47 : FL RX11 47 12 802 2 := FL.mk 11 34 cf_11 rfl rfl (by decide) (by decide) wk_X11_47
theorem wp_X11_47 : FP RX11 47 12 802 2 true (.array .int) := FP.mk 11 34 cf_11 rfl rfl (by decide) (by decide) wk_X11_47 rfl (fun _ => rfl) (by decide +kernel)
theorem wk_X11_50 : Cond.fieldLink RX11 50 (TX11 35).1 (TX11 35).2.1 (TX11 35).2.2.1 ∈ TBL := tb_in 1140 (by decide +kernel) (by decide +kernel)
theorem wf_X11_50 : FL RX11 50 12 803 2 := FL.mk 11 35 cf_11 rfl rfl (by decide) (by decide) wk_X11_50
theorem wp_X11_50 : FP RX11 50 12 803 2 true (.array .int) := FP.mk 11 35 cf_11 rfl rfl (by decide) (by decide) wk_X11_50 rfl (fun _ => rfl) (by decide +kernel)
theorem wk_X11_53 : Cond.fieldLink RX11 53 (TX11 36).1 (TX11 36).2.1 (TX11 36).2.2.1 ∈ TBL := tb_in 1141 (by decide +kernel) (by decide +kernel)
theorem wf_X11_53 : FL RX11 53 12 804 2 := FL.mk 11 36 cf_11 rfl rfl (by decide) (by decide) wk_X11_53
theorem wp_X11_53 : FP RX11 53 12 804 2 true (.array .int) := FP.mk 11 36 cf_11 rfl rfl (by decide) (by decide) wk_X11_53 rfl (fun _ => rfl) (by decide +kernel)
theorem wk_X11_56 : Cond.fieldLink RX11 56 (TX11 38).1 (TX11 38).2.1 (TX11 38).2.2.1 ∈ TBL := tb_in 1143 (by decide +kernel) (by decide +kernel)
theorem wf_X11_56 : FL RX11 56 12 806 2 := FL.mk 11 38 cf_11 rfl rfl (by decide) (by decide) wk_X11_56
theorem wp_X11_56 : FP RX11 56 12 806 2 true (.array .int) := FP.mk 11 38 cf_11 rfl rfl (by decide) (by decide) wk_X11_56 rfl (fun _ => rfl) (by decide +kernel)
theorem wk_X11_59 : Cond.fieldLink RX11 59 (TX11 39).1 (TX11 39).2.1 (TX11 39).2.2.1 ∈ TBL := tb_in 1144 (by decide +kernel) (by decide +kernel)
theorem wf_X11_59 : FL RX11 59 12 807 2 := FL.mk 11 39 cf_11 rfl rfl (by decide) (by decide) wk_X11_59
theorem wp_X11_59 : FP RX11 59 12 807 2 true (.array .int) := FP.mk 11 39 cf_11 rfl rfl (by decide) (by decide) wk_X11_59 rfl (fun _ => rfl) (by decide +kernel)
theorem wk_X11_62 : Cond.fieldLink RX11 62 (TX11 40).1 (TX11 40).2.1 (TX11 40).2.2.1 ∈ TBL := tb_in 1145 (by decide +kernel) (by decide +kernel)
theorem wf_X11_62 : FL RX11 62 12 808 2 := FL.mk 11 40 cf_11 rfl rfl (by decide) (by decide) wk_X11_62
theorem wp_X11_62 : FP RX11 62 12 808 2 true (.array .long) := FP.mk 11 40 cf_11 rfl rfl (by decide) (by decide) wk_X11_62 rfl (fun _ => rfl) (by decide +kernel)
theorem wk_X11_66 : Cond.fieldLink RX11 66 (TX11 41).1 (TX11 41).2.1 (TX11 41).2.2.1 ∈ TBL := tb_in 1146 (by decide +kernel) (by decide +kernel)
theorem wf_X11_66 : FL RX11 66 12 809 2 := FL.mk 11 41 cf_11 rfl rfl (by decide) (by decide) wk_X11_66
theorem wp_X11_66 : FP RX11 66 12 809 2 true (.array .int) := FP.mk 11 41 cf_11 rfl rfl (by decide) (by decide) wk_X11_66 rfl (fun _ => rfl) (by decide +kernel)
theorem wk_X11_69 : Cond.fieldLink RX11 69 (TX11 42).1 (TX11 42).2.1 (TX11 42).2.2.1 ∈ TBL := tb_in 1147 (by decide +kernel) (by decide +kernel)
theorem wf_X11_69 : FL RX11 69 12 810 2 := FL.mk 11 42 cf_11 rfl rfl (by decide) (by decide) wk_X11_69
theorem wp_X11_69 : FP RX11 69 12 810 2 true (.array .int) := FP.mk 11 42 cf_11 rfl rfl (by decide) (by decide) wk_X11_69 rfl (fun _ => rfl) (by decide +kernel)
theorem wk_X11_72 : Cond.fieldLink RX11 72 (TX11 43).1 (TX11 43).2.1 (TX11 43).2.2.1 ∈ TBL := tb_in 1148 (by decide +kernel) (by decide +kernel)
theorem wf_X11_72 : FL RX11 72 12 811 2 := FL.mk 11 43 cf_11 rfl rfl (by decide) (by decide) wk_X11_72
theorem wp_X11_72 : FP RX11 72 12 811 2 true (.array .int) := FP.mk 11 43 cf_11 rfl rfl (by decide) (by decide) wk_X11_72 rfl (fun _ => rfl) (by decide +kernel)
theorem wk_X11_75 : Cond.fieldLink RX11 75 (TX11 47).1 (TX11 47).2.1 (TX11 47).2.2.1 ∈ TBL := tb_in 1152 (by decide +kernel) (by decide +kernel)
theorem wf_X11_75 : FL RX11 75 12 815 2 := FL.mk 11 47 cf_11 rfl rfl (by decide) (by decide) wk_X11_75
theorem wp_X11_75 : FP RX11 75 12 815 2 true (.array .int) := FP.mk 11 47 cf_11 rfl rfl (by decide) (by decide) wk_X11_75 rfl (fun _ => rfl) (by decide +kernel)
theorem wk_X11_78 : Cond.fieldLink RX11 78 (TX11 51).1 (TX11 51).2.1 (TX11 51).2.2.1 ∈ TBL := tb_in 1156 (by decide +kernel) (by decide +kernel)
theorem wf_X11_78 : FL RX11 78 12 819 2 := FL.mk 11 51 cf_11 rfl rfl (by decide) (by decide) wk_X11_78
theorem wp_X11_78 : FP RX11 78 12 819 2 true (.array .int) := FP.mk 11 51 cf_11 rfl rfl (by decide) (by decide) wk_X11_78 rfl (fun _ => rfl) (by decide +kernel)
theorem wk_X11_81 : Cond.fieldLink RX11 81 (TX11 53).1 (TX11 53).2.1 (TX11 53).2.2.1 ∈ TBL := tb_in 1158 (by decide +kernel) (by decide +kernel)
theorem wf_X11_81 : FL RX11 81 12 821 2 := FL.mk 11 53 cf_11 rfl rfl (by decide) (by decide) wk_X11_81
theorem wp_X11_81 : FP RX11 81 12 821 2 true (.array .int) := FP.mk 11 53 cf_11 rfl rfl (by decide) (by decide) wk_X11_81 rfl (fun _ => rfl) (by decide +kernel)
theorem wk_X11_84 : Cond.fieldLink RX11 84 (TX11 4).1 (TX11 4).2.1 (TX11 4).2.2.1 ∈ TBL := tb_in 1109 (by decide +kernel) (by decide +kernel)
theorem wf_X11_84 : FL RX11 84 12 772 0 := FL.mk 11 4 cf_11 rfl rfl (by decide) (by decide) wk_X11_84
theorem wp_X11_84 : FP RX11 84 12 772 0 false .int := FP.mk 11 4 cf_11 rfl rfl (by decide) (by decide) wk_X11_84 rfl (fun h => by cases h) (by decide +kernel)
theorem wk_X11_91 : Cond.fieldLink RX11 91 (TX11 8).1 (TX11 8).2.1 (TX11 8).2.2.1 ∈ TBL := tb_in 1113 (by decide +kernel) (by decide +kernel)
theorem wf_X11_91 : FL RX11 91 12 776 0 := FL.mk 11 8 cf_11 rfl rfl (by decide) (by decide) wk_X11_91
theorem wp_X11_91 : FP RX11 91 12 776 0 false .int := FP.mk 11 8 cf_11 rfl rfl (by decide) (by decide) wk_X11_91 rfl (fun h => by cases h) (by decide +kernel)
theorem wk_X11_103 : Cond.fieldLink RX11 103 (TX11 0).1 (TX11 0).2.1 (TX11 0).2.2.1 ∈ TBL := tb_in 1105 (by decide +kernel) (by decide +kernel)
theorem wf_X11_103 : FL RX11 103 12 768 0 := FL.mk 11 0 cf_11 rfl rfl (by decide) (by decide) wk_X11_103
theorem wp_X11_103 : FP RX11 103 12 768 0 false .int := FP.mk 11 0 cf_11 rfl rfl (by decide) (by decide) wk_X11_103 rfl (fun h => by cases h) (by decide +kernel)
theorem wk_X11_113 : Cond.fieldLink RX11 113 (TX11 1).1 (TX11 1).2.1 (TX11 1).2.2.1 ∈ TBL := tb_in 1106 (by decide +kernel) (by decide +kernel)
theorem wf_X11_113 : FL RX11 113 12 769 0 := FL.mk 11 1 cf_11 rfl rfl (by decide) (by decide) wk_X11_113
theorem wp_X11_113 : FP RX11 113 12 769 0 false .int := FP.mk 11 1 cf_11 rfl rfl (by decide) (by decide) wk_X11_113 rfl (fun h => by cases h) (by decide +kernel)
theorem wk_X11_116 : Cond.fieldLink RX11 116 (TX11 6).1 (TX11 6).2.1 (TX11 6).2.2.1 ∈ TBL := tb_in 1111 (by decide +kernel) (by decide +kernel)
theorem wf_X11_116 : FL RX11 116 12 774 0 := FL.mk 11 6 cf_11 rfl rfl (by decide) (by decide) wk_X11_116
theorem wp_X11_116 : FP RX11 116 12 774 0 false .int := FP.mk 11 6 cf_11 rfl rfl (by decide) (by decide) wk_X11_116 rfl (fun h => by cases h) (by decide +kernel)
theorem wk_X11_134 : Cond.fieldLink RX11 134 (TX11 3).1 (TX11 3).2.1 (TX11 3).2.2.1 ∈ TBL := tb_in 1108 (by decide +kernel) (by decide +kernel)
theorem wf_X11_134 : FL RX11 134 12 771 0 := FL.mk 11 3 cf_11 rfl rfl (by decide) (by decide) wk_X11_134
theorem wp_X11_134 : FP RX11 134 12 771 0 false .int := FP.mk 11 3 cf_11 rfl rfl (by decide) (by decide) wk_X11_134 rfl (fun h => by cases h) (by decide +kernel)
theorem wk_X11_137 : Cond.fieldLink RX11 137 (TX11 14).1 (TX11 14).2.1 (TX11 14).2.2.1 ∈ TBL := tb_in 1119 (by decide +kernel) (by decide +kernel)
theorem wf_X11_137 : FL RX11 137 12 782 0 := FL.mk 11 14 cf_11 rfl rfl (by decide) (by decide) wk_X11_137
theorem wp_X11_137 : FP RX11 137 12 782 0 false .int := FP.mk 11 14 cf_11 rfl rfl (by decide) (by decide) wk_X11_137 rfl (fun h => by cases h) (by decide +kernel)
theorem wk_X11_142 : Cond.fieldLink RX11 142 (TX11 17).1 (TX11 17).2.1 (TX11 17).2.2.1 ∈ TBL := tb_in 1122 (by decide +kernel) (by decide +kernel)
theorem wf_X11_142 : FL RX11 142 12 785 0 := FL.mk 11 17 cf_11 rfl rfl (by decide) (by decide) wk_X11_142
theorem wp_X11_142 : FP RX11 142 12 785 0 false .int := FP.mk 11 17 cf_11 rfl rfl (by decide) (by decide) wk_X11_142 rfl (fun h => by cases h) (by decide +kernel)
theorem wk_X11_145 : Cond.fieldLink RX11 145 (TX11 16).1 (TX11 16).2.1 (TX11 16).2.2.1 ∈ TBL := tb_in 1121 (by decide +kernel) (by decide +kernel)
theorem wf_X11_145 : FL RX11 145 12 784 0 := FL.mk 11 16 cf_11 rfl rfl (by decide) (by decide) wk_X11_145
theorem wp_X11_145 : FP RX11 145 12 784 0 false .int := FP.mk 11 16 cf_11 rfl rfl (by decide) (by decide) wk_X11_145 rfl (fun h => by cases h) (by decide +kernel)
theorem wk_X11_157 : Cond.fieldLink RX11 157 (TX11 15).1 (TX11 15).2.1 (TX11 15).2.2.1 ∈ TBL := tb_in 1120 (by decide +kernel) (by decide +kernel)
theorem wf_X11_157 : FL RX11 157 12 783 0 := FL.mk 11 15 cf_11 rfl rfl (by decide) (by decide) wk_X11_157
theorem wp_X11_157 : FP RX11 157 12 783 0 false .int := FP.mk 11 15 cf_11 rfl rfl (by decide) (by decide) wk_X11_157 rfl (fun h => by cases h) (by decide +kernel)
theorem wk_X11_160 : Cond.fieldLink RX11 160 (TX11 18).1 (TX11 18).2.1 (TX11 18).2.2.1 ∈ TBL := tb_in 1123 (by decide +kernel) (by decide +kernel)
theorem wf_X11_160 : FL RX11 160 12 786 1 := FL.mk 11 18 cf_11 rfl rfl (by decide) (by decide) wk_X11_160
theorem wp_X11_160 : FP RX11 160 12 786 1 false .long := FP.mk 11 18 cf_11 rfl rfl (by decide) (by decide) wk_X11_160 rfl (fun h => by cases h) (by decide +kernel)
theorem wk_X11_164 : Cond.fieldLink RX11 164 (TX11 19).1 (TX11 19).2.1 (TX11 19).2.2.1 ∈ TBL := tb_in 1124 (by decide +kernel) (by decide +kernel)
theorem wf_X11_164 : FL RX11 164 12 787 0 := FL.mk 11 19 cf_11 rfl rfl (by decide) (by decide) wk_X11_164
theorem wp_X11_164 : FP RX11 164 12 787 0 false .int := FP.mk 11 19 cf_11 rfl rfl (by decide) (by decide) wk_X11_164 rfl (fun h => by cases h) (by decide +kernel)
theorem wk_X11_173 : Cond.fieldLink RX11 173 (TX11 20).1 (TX11 20).2.1 (TX11 20).2.2.1 ∈ TBL := tb_in 1125 (by decide +kernel) (by decide +kernel)
theorem wf_X11_173 : FL RX11 173 12 788 0 := FL.mk 11 20 cf_11 rfl rfl (by decide) (by decide) wk_X11_173
theorem wp_X11_173 : FP RX11 173 12 788 0 false .boolean := FP.mk 11 20 cf_11 rfl rfl (by decide) (by decide) wk_X11_173 rfl (fun h => by cases h) (by decide +kernel)
theorem wk_X11_241 : Cond.fieldLink RX11 241 (TX11 22).1 (TX11 22).2.1 (TX11 22).2.2.1 ∈ TBL := tb_in 1127 (by decide +kernel) (by decide +kernel)
theorem wf_X11_241 : FL RX11 241 12 790 1 := FL.mk 11 22 cf_11 rfl rfl (by decide) (by decide) wk_X11_241
theorem wp_X11_241 : FP RX11 241 12 790 1 false .long := FP.mk 11 22 cf_11 rfl rfl (by decide) (by decide) wk_X11_241 rfl (fun h => by cases h) (by decide +kernel)
theorem wk_X11_244 : Cond.fieldLink RX11 244 (TX11 23).1 (TX11 23).2.1 (TX11 23).2.2.1 ∈ TBL := tb_in 1128 (by decide +kernel) (by decide +kernel)
theorem wf_X11_244 : FL RX11 244 12 791 1 := FL.mk 11 23 cf_11 rfl rfl (by decide) (by decide) wk_X11_244
theorem wp_X11_244 : FP RX11 244 12 791 1 false .long := FP.mk 11 23 cf_11 rfl rfl (by decide) (by decide) wk_X11_244 rfl (fun h => by cases h) (by decide +kernel)
theorem wk_X11_276 : Cond.fieldLink RX11 276 (TX11 25).1 (TX11 25).2.1 (TX11 25).2.2.1 ∈ TBL := tb_in 1130 (by decide +kernel) (by decide +kernel)
theorem wf_X11_276 : FL RX11 276 12 793 0 := FL.mk 11 25 cf_11 rfl rfl (by decide) (by decide) wk_X11_276
theorem wp_X11_276 : FP RX11 276 12 793 0 false .int := FP.mk 11 25 cf_11 rfl rfl (by decide) (by decide) wk_X11_276 rfl (fun h => by cases h) (by decide +kernel)
theorem wk_X11_290 : Cond.fieldLink RX11 290 (TX11 29).1 (TX11 29).2.1 (TX11 29).2.2.1 ∈ TBL := tb_in 1134 (by decide +kernel) (by decide +kernel)
theorem wf_X11_290 : FL RX11 290 12 797 0 := FL.mk 11 29 cf_11 rfl rfl (by decide) (by decide) wk_X11_290
theorem wp_X11_290 : FP RX11 290 12 797 0 false .int := FP.mk 11 29 cf_11 rfl rfl (by decide) (by decide) wk_X11_290 rfl (fun h => by cases h) (by decide +kernel)
theorem wk_X11_293 : Cond.fieldLink RX11 293 (TX11 30).1 (TX11 30).2.1 (TX11 30).2.2.1 ∈ TBL := tb_in 1135 (by decide +kernel) (by decide +kernel)
theorem wf_X11_293 : FL RX11 293 12 798 0 := FL.mk 11 30 cf_11 rfl rfl (by decide) (by decide) wk_X11_293
theorem wp_X11_293 : FP RX11 293 12 798 0 false .int := FP.mk 11 30 cf_11 rfl rfl (by decide) (by decide) wk_X11_293 rfl (fun h => by cases h) (by decide +kernel)
theorem wk_X11_306 : Cond.fieldLink RX11 306 (TX11 31).1 (TX11 31).2.1 (TX11 31).2.2.1 ∈ TBL := tb_in 1136 (by decide +kernel) (by decide +kernel)
theorem wf_X11_306 : FL RX11 306 12 799 0 := FL.mk 11 31 cf_11 rfl rfl (by decide) (by decide) wk_X11_306
theorem wp_X11_306 : FP RX11 306 12 799 0 false .int := FP.mk 11 31 cf_11 rfl rfl (by decide) (by decide) wk_X11_306 rfl (fun h => by cases h) (by decide +kernel)
theorem wk_X11_326 : Cond.fieldLink RX11 326 (TX11 33).1 (TX11 33).2.1 (TX11 33).2.2.1 ∈ TBL := tb_in 1138 (by decide +kernel) (by decide +kernel)
theorem wf_X11_326 : FL RX11 326 12 801 0 := FL.mk 11 33 cf_11 rfl rfl (by decide) (by decide) wk_X11_326
theorem wp_X11_326 : FP RX11 326 12 801 0 false .boolean := FP.mk 11 33 cf_11 rfl rfl (by decide) (by decide) wk_X11_326 rfl (fun h => by cases h) (by decide +kernel)
theorem wk_X11_336 : Cond.fieldLink RX11 336 (TX11 32).1 (TX11 32).2.1 (TX11 32).2.2.1 ∈ TBL := tb_in 1137 (by decide +kernel) (by decide +kernel)
theorem wf_X11_336 : FL RX11 336 12 800 0 := FL.mk 11 32 cf_11 rfl rfl (by decide) (by decide) wk_X11_336
theorem wp_X11_336 : FP RX11 336 12 800 0 false .int := FP.mk 11 32 cf_11 rfl rfl (by decide) (by decide) wk_X11_336 rfl (fun h => by cases h) (by decide +kernel)
theorem wk_X11_364 : Cond.fieldLink RX11 364 (TX11 10).1 (TX11 10).2.1 (TX11 10).2.2.1 ∈ TBL := tb_in 1115 (by decide +kernel) (by decide +kernel)
theorem wf_X11_364 : FL RX11 364 12 778 0 := FL.mk 11 10 cf_11 rfl rfl (by decide) (by decide) wk_X11_364
theorem wp_X11_364 : FP RX11 364 12 778 0 false .int := FP.mk 11 10 cf_11 rfl rfl (by decide) (by decide) wk_X11_364 rfl (fun h => by cases h) (by decide +kernel)
theorem wk_X11_382 : Cond.fieldLink RX11 382 (TX11 37).1 (TX11 37).2.1 (TX11 37).2.2.1 ∈ TBL := tb_in 1142 (by decide +kernel) (by decide +kernel)
theorem wf_X11_382 : FL RX11 382 12 805 0 := FL.mk 11 37 cf_11 rfl rfl (by decide) (by decide) wk_X11_382
theorem wp_X11_382 : FP RX11 382 12 805 0 false .int := FP.mk 11 37 cf_11 rfl rfl (by decide) (by decide) wk_X11_382 rfl (fun h => by cases h) (by decide +kernel)
theorem wk_X11_403 : Cond.fieldLink RX11 403 (TX11 48).1 (TX11 48).2.1 (TX11 48).2.2.1 ∈ TBL := tb_in 1153 (by decide +kernel) (by decide +kernel)
theorem wf_X11_403 : FL RX11 403 12 816 0 := FL.mk 11 48 cf_11 rfl rfl (by decide) (by decide) wk_X11_403
theorem wp_X11_403 : FP RX11 403 12 816 0 false .int := FP.mk 11 48 cf_11 rfl rfl (by decide) (by decide) wk_X11_403 rfl (fun h => by cases h) (by decide +kernel)
theorem wk_X11_406 : Cond.fieldLink RX11 406 (TX11 44).1 (TX11 44).2.1 (TX11 44).2.2.1 ∈ TBL := tb_in 1149 (by decide +kernel) (by decide +kernel)
theorem wf_X11_406 : FL RX11 406 12 812 0 := FL.mk 11 44 cf_11 rfl rfl (by decide) (by decide) wk_X11_406
theorem wp_X11_406 : FP RX11 406 12 812 0 false .int := FP.mk 11 44 cf_11 rfl rfl (by decide) (by decide) wk_X11_406 rfl (fun h => by cases h) (by decide +kernel)
theorem wk_X11_412 : Cond.fieldLink RX11 412 (TX11 45).1 (TX11 45).2.1 (TX11 45).2.2.1 ∈ TBL := tb_in 1150 (by decide +kernel) (by decide +kernel)
theorem wf_X11_412 : FL RX11 412 12 813 0 := FL.mk 11 45 cf_11 rfl rfl (by decide) (by decide) wk_X11_412
theorem wp_X11_412 : FP RX11 412 12 813 0 false .int := FP.mk 11 45 cf_11 rfl rfl (by decide) (by decide) wk_X11_412 rfl (fun h => by cases h) (by decide +kernel)
theorem wk_X11_421 : Cond.fieldLink RX11 421 (TX11 46).1 (TX11 46).2.1 (TX11 46).2.2.1 ∈ TBL := tb_in 1151 (by decide +kernel) (by decide +kernel)
theorem wf_X11_421 : FL RX11 421 12 814 0 := FL.mk 11 46 cf_11 rfl rfl (by decide) (by decide) wk_X11_421
theorem wp_X11_421 : FP RX11 421 12 814 0 false .int := FP.mk 11 46 cf_11 rfl rfl (by decide) (by decide) wk_X11_421 rfl (fun h => by cases h) (by decide +kernel)
theorem wk_X11_424 : Cond.fieldLink RX11 424 (TX11 49).1 (TX11 49).2.1 (TX11 49).2.2.1 ∈ TBL := tb_in 1154 (by decide +kernel) (by decide +kernel)
theorem wf_X11_424 : FL RX11 424 12 817 0 := FL.mk 11 49 cf_11 rfl rfl (by decide) (by decide) wk_X11_424
theorem wp_X11_424 : FP RX11 424 12 817 0 false .boolean := FP.mk 11 49 cf_11 rfl rfl (by decide) (by decide) wk_X11_424 rfl (fun h => by cases h) (by decide +kernel)
theorem wk_X11_442 : Cond.fieldLink RX11 442 (TX11 52).1 (TX11 52).2.1 (TX11 52).2.2.1 ∈ TBL := tb_in 1157 (by decide +kernel) (by decide +kernel)
theorem wf_X11_442 : FL RX11 442 12 820 0 := FL.mk 11 52 cf_11 rfl rfl (by decide) (by decide) wk_X11_442
theorem wp_X11_442 : FP RX11 442 12 820 0 false .int := FP.mk 11 52 cf_11 rfl rfl (by decide) (by decide) wk_X11_442 rfl (fun h => by cases h) (by decide +kernel)
theorem wk_X11_453 : Cond.fieldLink RX11 453 (TX11 50).1 (TX11 50).2.1 (TX11 50).2.2.1 ∈ TBL := tb_in 1155 (by decide +kernel) (by decide +kernel)
theorem wf_X11_453 : FL RX11 453 12 818 0 := FL.mk 11 50 cf_11 rfl rfl (by decide) (by decide) wk_X11_453
theorem wp_X11_453 : FP RX11 453 12 818 0 false .boolean := FP.mk 11 50 cf_11 rfl rfl (by decide) (by decide) wk_X11_453 rfl (fun h => by cases h) (by decide +kernel)
theorem wl_X10_9 : Cond.methodLink RX10 9 yX9_init ∈ TBL := tb_in 112 (by decide +kernel) (by decide +kernel)
theorem wl_X10_40 : Cond.methodLink RX10 40 yX7_init ∈ TBL := tb_in 280 (by decide +kernel) (by decide +kernel)
theorem wl_X10_49 : Cond.methodLink RX10 49 yX3_init ∈ TBL := tb_in 302 (by decide +kernel) (by decide +kernel)
theorem wl_X10_94 : Cond.methodLink RX10 94 yX10_within ∈ TBL := tb_in 444 (by decide +kernel) (by decide +kernel)
theorem wl_X10_105 : Cond.methodLink RX10 105 yX1_begin ∈ TBL := tb_in 447 (by decide +kernel) (by decide +kernel)
theorem wl_X10_111 : Cond.methodLink RX10 111 yX9_hasPart ∈ TBL := tb_in 455 (by decide +kernel) (by decide +kernel)
theorem wl_X10_137 : Cond.methodLink RX10 137 yX10_isDay ∈ TBL := tb_in 464 (by decide +kernel) (by decide +kernel)
theorem wl_X10_149 : Cond.methodLink RX10 149 yX1_takesOn ∈ TBL := tb_in 467 (by decide +kernel) (by decide +kernel)
theorem wl_X10_159 : Cond.methodLink RX10 159 yX10_isWay ∈ TBL := tb_in 487 (by decide +kernel) (by decide +kernel)
theorem wl_X10_165 : Cond.methodLink RX10 165 yX1_isIn ∈ TBL := tb_in 490 (by decide +kernel) (by decide +kernel)
theorem wl_X10_168 : Cond.methodLink RX10 168 yX1_lateOn ∈ TBL := tb_in 494 (by decide +kernel) (by decide +kernel)
theorem wl_X10_171 : Cond.methodLink RX10 171 yX9_draw ∈ TBL := tb_in 499 (by decide +kernel) (by decide +kernel)
theorem wl_X10_175 : Cond.methodLink RX10 175 yX9_addRun ∈ TBL := tb_in 504 (by decide +kernel) (by decide +kernel)
theorem wl_X10_196 : Cond.methodLink RX10 196 yX10_useTape ∈ TBL := tb_in 529 (by decide +kernel) (by decide +kernel)
theorem wl_X10_199 : Cond.methodLink RX10 199 yX7_readWhole ∈ TBL := tb_in 626 (by decide +kernel) (by decide +kernel)
theorem wl_X10_203 : Cond.methodLink RX10 203 yX8_place ∈ TBL := tb_in 654 (by decide +kernel) (by decide +kernel)
theorem wl_X10_210 : Cond.methodLink RX10 210 yX7_told ∈ TBL := tb_in 658 (by decide +kernel) (by decide +kernel)
theorem wl_X10_214 : Cond.methodLink RX10 214 yX9_hasStory ∈ TBL := tb_in 685 (by decide +kernel) (by decide +kernel)
theorem wl_X10_217 : Cond.methodLink RX10 217 yX9_given ∈ TBL := tb_in 689 (by decide +kernel) (by decide +kernel)
theorem wl_X10_220 : Cond.methodLink RX10 220 yX6_foundAt ∈ TBL := tb_in 711 (by decide +kernel) (by decide +kernel)
theorem wl_X10_226 : Cond.methodLink RX10 226 yX9_missed ∈ TBL := tb_in 722 (by decide +kernel) (by decide +kernel)
theorem wl_X10_229 : Cond.methodLink RX10 229 yX9_leastMissed ∈ TBL := tb_in 738 (by decide +kernel) (by decide +kernel)
theorem wl_X10_234 : Cond.methodLink RX10 234 yX9_weighed ∈ TBL := tb_in 748 (by decide +kernel) (by decide +kernel)
theorem wl_X10_238 : Cond.methodLink RX10 238 yX10_fraction ∈ TBL := tb_in 758 (by decide +kernel) (by decide +kernel)
theorem wl_X10_242 : Cond.methodLink RX10 242 yX9_areStories ∈ TBL := tb_in 775 (by decide +kernel) (by decide +kernel)
theorem wl_X10_245 : Cond.methodLink RX10 245 yX10_gatherTwos ∈ TBL := tb_in 779 (by decide +kernel) (by decide +kernel)
theorem wl_X10_248 : Cond.methodLink RX10 248 yX10_twosParted ∈ TBL := tb_in 788 (by decide +kernel) (by decide +kernel)
theorem wl_X10_251 : Cond.methodLink RX10 251 yX9_hoursOf ∈ TBL := tb_in 796 (by decide +kernel) (by decide +kernel)
theorem wl_X10_254 : Cond.methodLink RX10 254 yX10_partsAll ∈ TBL := tb_in 800 (by decide +kernel) (by decide +kernel)
theorem wl_X10_258 : Cond.methodLink RX10 258 yX9_spanSum ∈ TBL := tb_in 808 (by decide +kernel) (by decide +kernel)
theorem wl_X10_261 : Cond.methodLink RX10 261 yX9_spanRoot ∈ TBL := tb_in 812 (by decide +kernel) (by decide +kernel)
theorem wl_X10_264 : Cond.methodLink RX10 264 yX9_countRuns ∈ TBL := tb_in 820 (by decide +kernel) (by decide +kernel)
theorem wl_X10_267 : Cond.methodLink RX10 267 yX9_sumRuns ∈ TBL := tb_in 828 (by decide +kernel) (by decide +kernel)
theorem wl_X10_270 : Cond.methodLink RX10 270 yJ9_abs_0f7a4 ∈ TBL := tb_in 832 (by decide +kernel) (by decide +kernel)
theorem wl_X10_275 : Cond.methodLink RX10 275 yX10_fitsOfTwo ∈ TBL := tb_in 841 (by decide +kernel) (by decide +kernel)
theorem wl_X10_280 : Cond.methodLink RX10 280 yX9_orderRuns ∈ TBL := tb_in 851 (by decide +kernel) (by decide +kernel)
theorem wl_X10_284 : Cond.methodLink RX10 284 yJ9_abs_067f4 ∈ TBL := tb_in 761 (by decide +kernel) (by decide +kernel)
theorem wl_X10_290 : Cond.methodLink RX10 290 yX3_begin ∈ TBL := tb_in 863 (by decide +kernel) (by decide +kernel)
theorem wl_X10_292 : Cond.methodLink RX10 292 yX3_either ∈ TBL := tb_in 867 (by decide +kernel) (by decide +kernel)
theorem wl_X10_295 : Cond.methodLink RX10 295 yX8_isNow ∈ TBL := tb_in 903 (by decide +kernel) (by decide +kernel)
theorem wl_X10_302 : Cond.methodLink RX10 302 yX3_told ∈ TBL := tb_in 904 (by decide +kernel) (by decide +kernel)
theorem wl_X10_305 : Cond.methodLink RX10 305 yX9_tellFacts ∈ TBL := tb_in 915 (by decide +kernel) (by decide +kernel)
theorem wl_X10_309 : Cond.methodLink RX10 309 yX2_isMet ∈ TBL := tb_in 926 (by decide +kernel) (by decide +kernel)
theorem wl_X10_315 : Cond.methodLink RX10 315 yX10_isInRows ∈ TBL := tb_in 948 (by decide +kernel) (by decide +kernel)
theorem wl_X10_318 : Cond.methodLink RX10 318 yX10_isSheet ∈ TBL := tb_in 964 (by decide +kernel) (by decide +kernel)
theorem wl_X10_321 : Cond.methodLink RX10 321 yX4_begin ∈ TBL := tb_in 967 (by decide +kernel) (by decide +kernel)
theorem wl_X10_327 : Cond.methodLink RX10 327 yX4_hasItem ∈ TBL := tb_in 978 (by decide +kernel) (by decide +kernel)
theorem wl_X10_330 : Cond.methodLink RX10 330 yX4_write ∈ TBL := tb_in 982 (by decide +kernel) (by decide +kernel)
theorem wl_X10_336 : Cond.methodLink RX10 336 yX10_isShelf ∈ TBL := tb_in 994 (by decide +kernel) (by decide +kernel)
theorem wl_X10_339 : Cond.methodLink RX10 339 yX5_holdPart ∈ TBL := tb_in 997 (by decide +kernel) (by decide +kernel)
theorem wl_X10_346 : Cond.methodLink RX10 346 yX5_holdRow ∈ TBL := tb_in 1001 (by decide +kernel) (by decide +kernel)
theorem wl_X10_349 : Cond.methodLink RX10 349 yX5_holdNothing ∈ TBL := tb_in 1005 (by decide +kernel) (by decide +kernel)
theorem wl_X10_352 : Cond.methodLink RX10 352 yX10_holdsPart ∈ TBL := tb_in 1013 (by decide +kernel) (by decide +kernel)
theorem wl_X10_359 : Cond.methodLink RX10 359 yX10_isUnder ∈ TBL := tb_in 1017 (by decide +kernel) (by decide +kernel)
theorem wl_X10_367 : Cond.methodLink RX10 367 yX0_forget ∈ TBL := tb_in 1024 (by decide +kernel) (by decide +kernel)
theorem wl_X10_370 : Cond.methodLink RX10 370 yX0_play ∈ TBL := tb_in 1028 (by decide +kernel) (by decide +kernel)
theorem wl_X10_374 : Cond.methodLink RX10 374 yX0_takes ∈ TBL := tb_in 1032 (by decide +kernel) (by decide +kernel)
theorem wl_X10_377 : Cond.methodLink RX10 377 yX0_shares ∈ TBL := tb_in 1044 (by decide +kernel) (by decide +kernel)
theorem wl_X10_380 : Cond.methodLink RX10 380 yX0_bounds ∈ TBL := tb_in 1053 (by decide +kernel) (by decide +kernel)
theorem wl_X10_383 : Cond.methodLink RX10 383 yX0_tells ∈ TBL := tb_in 1065 (by decide +kernel) (by decide +kernel)
theorem wl_X10_395 : Cond.methodLink RX10 395 yX9_become ∈ TBL := tb_in 1087 (by decide +kernel) (by decide +kernel)
theorem wl_X10_399 : Cond.methodLink RX10 399 yX8_readAll ∈ TBL := tb_in 533 (by decide +kernel) (by decide +kernel)
theorem wl_X10_403 : Cond.methodLink RX10 403 yX10_commonDivisor ∈ TBL := tb_in 764 (by decide +kernel) (by decide +kernel)
theorem wl_X10_407 : Cond.methodLink RX10 407 yJ9_max_7cf53 ∈ TBL := tb_in 844 (by decide +kernel) (by decide +kernel)
theorem wl_X10_410 : Cond.methodLink RX10 410 yJ9_min_7cf53 ∈ TBL := tb_in 845 (by decide +kernel) (by decide +kernel)
theorem wl_X10_413 : Cond.methodLink RX10 413 yX9_partsBetween ∈ TBL := tb_in 783 (by decide +kernel) (by decide +kernel)
theorem wl_X0_32 : Cond.methodLink RX0 32 yX0_began ∈ TBL := tb_in 1036 (by decide +kernel) (by decide +kernel)
theorem wl_X0_36 : Cond.methodLink RX0 36 yX0_takesOfPart ∈ TBL := tb_in 1040 (by decide +kernel) (by decide +kernel)
theorem wl_X0_40 : Cond.methodLink RX0 40 yX0_sharesOfPart ∈ TBL := tb_in 1048 (by decide +kernel) (by decide +kernel)
theorem wl_X0_43 : Cond.methodLink RX0 43 yX0_takes ∈ TBL := tb_in 1052 (by decide +kernel) (by decide +kernel)
theorem wl_X0_46 : Cond.methodLink RX0 46 yX0_boundsOfLoose ∈ TBL := tb_in 1057 (by decide +kernel) (by decide +kernel)
theorem wl_X0_49 : Cond.methodLink RX0 49 yX0_boundsOfPart ∈ TBL := tb_in 1061 (by decide +kernel) (by decide +kernel)
theorem wl_X0_52 : Cond.methodLink RX0 52 yX0_tellsOfPart ∈ TBL := tb_in 1069 (by decide +kernel) (by decide +kernel)
theorem wl_X0_55 : Cond.methodLink RX0 55 yX0_bounds ∈ TBL := tb_in 1074 (by decide +kernel) (by decide +kernel)
theorem wl_X0_58 : Cond.methodLink RX0 58 yX0_shares ∈ TBL := tb_in 1073 (by decide +kernel) (by decide +kernel)
theorem wl_X1_40 : Cond.methodLink RX1 40 yX1_takesOn ∈ TBL := tb_in 498 (by decide +kernel) (by decide +kernel)
theorem wl_X2_15 : Cond.methodLink RX2 15 yX2_valueOf ∈ TBL := tb_in 930 (by decide +kernel) (by decide +kernel)
theorem wl_X2_19 : Cond.methodLink RX2 19 yX2_joined ∈ TBL := tb_in 933 (by decide +kernel) (by decide +kernel)
theorem wl_X3_25 : Cond.methodLink RX3 25 yJ7_copyOf_59c91 ∈ TBL := tb_in 909 (by decide +kernel) (by decide +kernel)
theorem wl_X3_31 : Cond.methodLink RX3 31 yX2_init ∈ TBL := tb_in 910 (by decide +kernel) (by decide +kernel)
theorem wl_X3_34 : Cond.methodLink RX3 34 yX3_both ∈ TBL := tb_in 871 (by decide +kernel) (by decide +kernel)
theorem wl_X3_38 : Cond.methodLink RX3 38 yX8_take ∈ TBL := tb_in 880 (by decide +kernel) (by decide +kernel)
theorem wl_X3_43 : Cond.methodLink RX3 43 yX3_emit ∈ TBL := tb_in 882 (by decide +kernel) (by decide +kernel)
theorem wl_X3_47 : Cond.methodLink RX3 47 yX3_one ∈ TBL := tb_in 875 (by decide +kernel) (by decide +kernel)
theorem wl_X3_50 : Cond.methodLink RX3 50 yX8_isNow ∈ TBL := tb_in 879 (by decide +kernel) (by decide +kernel)
theorem wl_X3_53 : Cond.methodLink RX3 53 yX3_either ∈ TBL := tb_in 881 (by decide +kernel) (by decide +kernel)
theorem wl_X3_56 : Cond.methodLink RX3 56 yX3_sum ∈ TBL := tb_in 886 (by decide +kernel) (by decide +kernel)
theorem wl_X3_59 : Cond.methodLink RX3 59 yX8_code ∈ TBL := tb_in 898 (by decide +kernel) (by decide +kernel)
theorem wl_X3_62 : Cond.methodLink RX3 62 yX3_term ∈ TBL := tb_in 890 (by decide +kernel) (by decide +kernel)
theorem wl_X3_65 : Cond.methodLink RX3 65 yX3_at ∈ TBL := tb_in 894 (by decide +kernel) (by decide +kernel)
theorem wl_X3_68 : Cond.methodLink RX3 68 yX8_value ∈ TBL := tb_in 902 (by decide +kernel) (by decide +kernel)
theorem wl_X4_22 : Cond.methodLink RX4 22 yJ7_fill_53178 ∈ TBL := tb_in 971 (by decide +kernel) (by decide +kernel)
theorem wl_X6_25 : Cond.methodLink RX6 25 yX6_clauseCount ∈ TBL := tb_in 715 (by decide +kernel) (by decide +kernel)
theorem wl_X6_29 : Cond.methodLink RX6 29 yX6_partOf ∈ TBL := tb_in 716 (by decide +kernel) (by decide +kernel)
theorem wl_X6_33 : Cond.methodLink RX6 33 yX6_amountOn ∈ TBL := tb_in 717 (by decide +kernel) (by decide +kernel)
theorem wl_X7_29 : Cond.methodLink RX7 29 yX8_take ∈ TBL := tb_in 630 (by decide +kernel) (by decide +kernel)
theorem wl_X7_35 : Cond.methodLink RX7 35 yX7_readBy ∈ TBL := tb_in 634 (by decide +kernel) (by decide +kernel)
theorem wl_X7_39 : Cond.methodLink RX7 39 yX7_readClauses ∈ TBL := tb_in 642 (by decide +kernel) (by decide +kernel)
theorem wl_X7_42 : Cond.methodLink RX7 42 yX8_isNow ∈ TBL := tb_in 650 (by decide +kernel) (by decide +kernel)
theorem wl_X7_47 : Cond.methodLink RX7 47 yJ7_copyOf_59c91 ∈ TBL := tb_in 663 (by decide +kernel) (by decide +kernel)
theorem wl_X7_53 : Cond.methodLink RX7 53 yX6_init ∈ TBL := tb_in 679 (by decide +kernel) (by decide +kernel)
theorem wl_X7_56 : Cond.methodLink RX7 56 yX7_readClause ∈ TBL := tb_in 646 (by decide +kernel) (by decide +kernel)
theorem wl_X7_59 : Cond.methodLink RX7 59 yX8_value ∈ TBL := tb_in 638 (by decide +kernel) (by decide +kernel)
theorem wl_X8_28 : Cond.methodLink RX8 28 yX8_isLetter ∈ TBL := tb_in 537 (by decide +kernel) (by decide +kernel)
theorem wl_X8_32 : Cond.methodLink RX8 32 yX8_endOfRun ∈ TBL := tb_in 540 (by decide +kernel) (by decide +kernel)
theorem wl_X8_36 : Cond.methodLink RX8 36 yX8_wordCode ∈ TBL := tb_in 543 (by decide +kernel) (by decide +kernel)
theorem wl_X8_40 : Cond.methodLink RX8 40 yX8_add ∈ TBL := tb_in 616 (by decide +kernel) (by decide +kernel)
theorem wl_X8_44 : Cond.methodLink RX8 44 yX8_isDigit ∈ TBL := tb_in 620 (by decide +kernel) (by decide +kernel)
theorem wl_X8_47 : Cond.methodLink RX8 47 yX8_number ∈ TBL := tb_in 623 (by decide +kernel) (by decide +kernel)
theorem wl_X8_50 : Cond.methodLink RX8 50 yX8_spelling ∈ TBL := tb_in 546 (by decide +kernel) (by decide +kernel)
theorem wl_X8_54 : Cond.methodLink RX8 54 yX8_isSpelled ∈ TBL := tb_in 565 (by decide +kernel) (by decide +kernel)
theorem wl_X8_58 : Cond.methodLink RX8 58 yJ0_length_8abf5 ∈ TBL := tb_in 568 (by decide +kernel) (by decide +kernel)
theorem wl_X8_64 : Cond.methodLink RX8 64 yJ0_charAt_5068e ∈ TBL := tb_in 578 (by decide +kernel) (by decide +kernel)
theorem wl_X9_65 : Cond.methodLink RX9 65 yX6_init ∈ TBL := tb_in 169 (by decide +kernel) (by decide +kernel)
theorem wl_X9_68 : Cond.methodLink RX9 68 yX2_init ∈ TBL := tb_in 190 (by decide +kernel) (by decide +kernel)
theorem wl_X9_71 : Cond.methodLink RX9 71 yX1_become ∈ TBL := tb_in 1091 (by decide +kernel) (by decide +kernel)
theorem wl_X9_82 : Cond.methodLink RX9 82 yX6_clauseCount ∈ TBL := tb_in 693 (by decide +kernel) (by decide +kernel)
theorem wl_X9_86 : Cond.methodLink RX9 86 yX6_partOf ∈ TBL := tb_in 697 (by decide +kernel) (by decide +kernel)
theorem wl_X9_90 : Cond.methodLink RX9 90 yX9_hasPart ∈ TBL := tb_in 701 (by decide +kernel) (by decide +kernel)
theorem wl_X9_94 : Cond.methodLink RX9 94 yX1_isIn ∈ TBL := tb_in 702 (by decide +kernel) (by decide +kernel)
theorem wl_X9_97 : Cond.methodLink RX9 97 yX6_amountOn ∈ TBL := tb_in 703 (by decide +kernel) (by decide +kernel)
theorem wl_X9_101 : Cond.methodLink RX9 101 yX9_given ∈ TBL := tb_in 730 (by decide +kernel) (by decide +kernel)
theorem wl_X9_105 : Cond.methodLink RX9 105 yJ9_abs_0f7a4 ∈ TBL := tb_in 731 (by decide +kernel) (by decide +kernel)
theorem wl_X9_110 : Cond.methodLink RX9 110 yX9_farFrom ∈ TBL := tb_in 726 (by decide +kernel) (by decide +kernel)
theorem wl_X9_113 : Cond.methodLink RX9 113 yX9_missed ∈ TBL := tb_in 742 (by decide +kernel) (by decide +kernel)
theorem wl_X9_119 : Cond.methodLink RX9 119 yJ9_max_7cf53 ∈ TBL := tb_in 752 (by decide +kernel) (by decide +kernel)
theorem wl_X9_128 : Cond.methodLink RX9 128 yX6_foundAt ∈ TBL := tb_in 787 (by decide +kernel) (by decide +kernel)
theorem wl_X9_137 : Cond.methodLink RX9 137 yX9_isRun ∈ TBL := tb_in 824 (by decide +kernel) (by decide +kernel)
theorem wl_X9_145 : Cond.methodLink RX9 145 yX9_countRuns ∈ TBL := tb_in 919 (by decide +kernel) (by decide +kernel)
theorem wl_X9_148 : Cond.methodLink RX9 148 yX9_sumRuns ∈ TBL := tb_in 920 (by decide +kernel) (by decide +kernel)
theorem wl_X9_151 : Cond.methodLink RX9 151 yX9_leastMissed ∈ TBL := tb_in 921 (by decide +kernel) (by decide +kernel)
theorem wl_L_9 : Cond.methodLink RL 9 yX10_init ∈ TBL := tb_in 104 (by decide +kernel) (by decide +kernel)
theorem wl_L_12 : Cond.methodLink RL 12 yX11_init ∈ TBL := tb_in 1101 (by decide +kernel) (by decide +kernel)
theorem wl_L_13 : Cond.methodLink RL 13 yX10_part ∈ TBL := tb_in 440 (by decide +kernel) (by decide +kernel)
theorem wl_L_17 : Cond.methodLink RL 17 yX11_part ∈ TBL := tb_in 1269 (by decide +kernel) (by decide +kernel)
theorem wl_L_18 : Cond.methodLink RL 18 yX10_of ∈ TBL := tb_in 451 (by decide +kernel) (by decide +kernel)
theorem wl_L_22 : Cond.methodLink RL 22 yX11_of ∈ TBL := tb_in 1276 (by decide +kernel) (by decide +kernel)
theorem wl_L_23 : Cond.methodLink RL 23 yX10_fail ∈ TBL := tb_in 460 (by decide +kernel) (by decide +kernel)
theorem wl_L_27 : Cond.methodLink RL 27 yX11_fail ∈ TBL := tb_in 1289 (by decide +kernel) (by decide +kernel)
theorem wl_L_28 : Cond.methodLink RL 28 yX10_later ∈ TBL := tb_in 471 (by decide +kernel) (by decide +kernel)
theorem wl_L_32 : Cond.methodLink RL 32 yX11_later ∈ TBL := tb_in 1300 (by decide +kernel) (by decide +kernel)
theorem wl_L_33 : Cond.methodLink RL 33 yX10_noise ∈ TBL := tb_in 475 (by decide +kernel) (by decide +kernel)
theorem wl_L_36 : Cond.methodLink RL 36 yX11_noise ∈ TBL := tb_in 1304 (by decide +kernel) (by decide +kernel)
theorem wl_L_37 : Cond.methodLink RL 37 yX10_lots ∈ TBL := tb_in 479 (by decide +kernel) (by decide +kernel)
theorem wl_L_40 : Cond.methodLink RL 40 yX11_lots ∈ TBL := tb_in 1308 (by decide +kernel) (by decide +kernel)
theorem wl_L_41 : Cond.methodLink RL 41 yX10_run ∈ TBL := tb_in 483 (by decide +kernel) (by decide +kernel)
theorem wl_L_44 : Cond.methodLink RL 44 yX11_run ∈ TBL := tb_in 1312 (by decide +kernel) (by decide +kernel)
theorem wl_L_45 : Cond.methodLink RL 45 yX10_older ∈ TBL := tb_in 508 (by decide +kernel) (by decide +kernel)
theorem wl_L_48 : Cond.methodLink RL 48 yX11_older ∈ TBL := tb_in 1332 (by decide +kernel) (by decide +kernel)
theorem wl_L_49 : Cond.methodLink RL 49 yX10_ran ∈ TBL := tb_in 512 (by decide +kernel) (by decide +kernel)
theorem wl_L_52 : Cond.methodLink RL 52 yX11_ran ∈ TBL := tb_in 1336 (by decide +kernel) (by decide +kernel)
theorem wl_L_53 : Cond.methodLink RL 53 yX10_tryout ∈ TBL := tb_in 516 (by decide +kernel) (by decide +kernel)
theorem wl_L_57 : Cond.methodLink RL 57 yX11_tryout ∈ TBL := tb_in 1340 (by decide +kernel) (by decide +kernel)
theorem wl_L_60 : Cond.methodLink RL 60 yX10_feed ∈ TBL := tb_in 520 (by decide +kernel) (by decide +kernel)
theorem wl_L_64 : Cond.methodLink RL 64 yX11_feed ∈ TBL := tb_in 1344 (by decide +kernel) (by decide +kernel)
theorem wl_L_65 : Cond.methodLink RL 65 yX10_story ∈ TBL := tb_in 525 (by decide +kernel) (by decide +kernel)
theorem wl_L_68 : Cond.methodLink RL 68 yX11_story ∈ TBL := tb_in 1349 (by decide +kernel) (by decide +kernel)
theorem wl_L_69 : Cond.methodLink RL 69 yX10_gives ∈ TBL := tb_in 681 (by decide +kernel) (by decide +kernel)
theorem wl_L_72 : Cond.methodLink RL 72 yX11_gives ∈ TBL := tb_in 1408 (by decide +kernel) (by decide +kernel)
theorem wl_L_73 : Cond.methodLink RL 73 yX10_finds ∈ TBL := tb_in 707 (by decide +kernel) (by decide +kernel)
theorem wl_L_76 : Cond.methodLink RL 76 yX11_finds ∈ TBL := tb_in 1420 (by decide +kernel) (by decide +kernel)
theorem wl_L_77 : Cond.methodLink RL 77 yX10_miss ∈ TBL := tb_in 718 (by decide +kernel) (by decide +kernel)
theorem wl_L_80 : Cond.methodLink RL 80 yX11_miss ∈ TBL := tb_in 1428 (by decide +kernel) (by decide +kernel)
theorem wl_L_81 : Cond.methodLink RL 81 yX10_likely ∈ TBL := tb_in 734 (by decide +kernel) (by decide +kernel)
theorem wl_L_85 : Cond.methodLink RL 85 yX11_likely ∈ TBL := tb_in 1443 (by decide +kernel) (by decide +kernel)
theorem wl_L_86 : Cond.methodLink RL 86 yX10_odds ∈ TBL := tb_in 743 (by decide +kernel) (by decide +kernel)
theorem wl_L_90 : Cond.methodLink RL 90 yX11_odds ∈ TBL := tb_in 1451 (by decide +kernel) (by decide +kernel)
theorem wl_L_91 : Cond.methodLink RL 91 yX10_same ∈ TBL := tb_in 767 (by decide +kernel) (by decide +kernel)
theorem wl_L_94 : Cond.methodLink RL 94 yX11_same ∈ TBL := tb_in 1466 (by decide +kernel) (by decide +kernel)
theorem wl_L_95 : Cond.methodLink RL 95 yX10_next ∈ TBL := tb_in 771 (by decide +kernel) (by decide +kernel)
theorem wl_L_98 : Cond.methodLink RL 98 yX11_next ∈ TBL := tb_in 1470 (by decide +kernel) (by decide +kernel)
theorem wl_L_99 : Cond.methodLink RL 99 yX10_least ∈ TBL := tb_in 792 (by decide +kernel) (by decide +kernel)
theorem wl_L_102 : Cond.methodLink RL 102 yX11_least ∈ TBL := tb_in 1482 (by decide +kernel) (by decide +kernel)
theorem wl_L_103 : Cond.methodLink RL 103 yX10_span ∈ TBL := tb_in 804 (by decide +kernel) (by decide +kernel)
theorem wl_L_106 : Cond.methodLink RL 106 yX11_span ∈ TBL := tb_in 1490 (by decide +kernel) (by decide +kernel)
theorem wl_L_107 : Cond.methodLink RL 107 yX10_sure ∈ TBL := tb_in 816 (by decide +kernel) (by decide +kernel)
theorem wl_L_110 : Cond.methodLink RL 110 yX11_sure ∈ TBL := tb_in 1502 (by decide +kernel) (by decide +kernel)
theorem wl_L_111 : Cond.methodLink RL 111 yX10_could ∈ TBL := tb_in 833 (by decide +kernel) (by decide +kernel)
theorem wl_L_114 : Cond.methodLink RL 114 yX11_could ∈ TBL := tb_in 1510 (by decide +kernel) (by decide +kernel)
theorem wl_L_115 : Cond.methodLink RL 115 yX10_fits ∈ TBL := tb_in 837 (by decide +kernel) (by decide +kernel)
theorem wl_L_118 : Cond.methodLink RL 118 yX11_fits ∈ TBL := tb_in 1517 (by decide +kernel) (by decide +kernel)
theorem wl_L_119 : Cond.methodLink RL 119 yX10_jump ∈ TBL := tb_in 846 (by decide +kernel) (by decide +kernel)
theorem wl_L_122 : Cond.methodLink RL 122 yX11_jump ∈ TBL := tb_in 1521 (by decide +kernel) (by decide +kernel)
theorem wl_L_123 : Cond.methodLink RL 123 yX10_month ∈ TBL := tb_in 855 (by decide +kernel) (by decide +kernel)
theorem wl_L_127 : Cond.methodLink RL 127 yX11_month ∈ TBL := tb_in 1530 (by decide +kernel) (by decide +kernel)
theorem wl_L_128 : Cond.methodLink RL 128 yX10_house ∈ TBL := tb_in 859 (by decide +kernel) (by decide +kernel)
theorem wl_L_131 : Cond.methodLink RL 131 yX11_house ∈ TBL := tb_in 1534 (by decide +kernel) (by decide +kernel)
theorem wl_L_132 : Cond.methodLink RL 132 yX10_fact ∈ TBL := tb_in 911 (by decide +kernel) (by decide +kernel)
theorem wl_L_135 : Cond.methodLink RL 135 yX11_fact ∈ TBL := tb_in 1603 (by decide +kernel) (by decide +kernel)
theorem wl_L_136 : Cond.methodLink RL 136 yX10_holds ∈ TBL := tb_in 922 (by decide +kernel) (by decide +kernel)
theorem wl_L_139 : Cond.methodLink RL 139 yX11_holds ∈ TBL := tb_in 1611 (by decide +kernel) (by decide +kernel)
theorem wl_L_140 : Cond.methodLink RL 140 yX10_sign ∈ TBL := tb_in 936 (by decide +kernel) (by decide +kernel)
theorem wl_L_143 : Cond.methodLink RL 143 yX11_sign ∈ TBL := tb_in 1626 (by decide +kernel) (by decide +kernel)
theorem wl_L_144 : Cond.methodLink RL 144 yX10_prove ∈ TBL := tb_in 940 (by decide +kernel) (by decide +kernel)
theorem wl_L_147 : Cond.methodLink RL 147 yX11_prove ∈ TBL := tb_in 1630 (by decide +kernel) (by decide +kernel)
theorem wl_L_148 : Cond.methodLink RL 148 yX10_row ∈ TBL := tb_in 944 (by decide +kernel) (by decide +kernel)
theorem wl_L_151 : Cond.methodLink RL 151 yX11_row ∈ TBL := tb_in 1634 (by decide +kernel) (by decide +kernel)
theorem wl_L_152 : Cond.methodLink RL 152 yX10_alterRow ∈ TBL := tb_in 952 (by decide +kernel) (by decide +kernel)
theorem wl_L_155 : Cond.methodLink RL 155 yX11_alterRow ∈ TBL := tb_in 1642 (by decide +kernel) (by decide +kernel)
theorem wl_L_156 : Cond.methodLink RL 156 yX10_judge ∈ TBL := tb_in 956 (by decide +kernel) (by decide +kernel)
theorem wl_L_159 : Cond.methodLink RL 159 yX11_judge ∈ TBL := tb_in 1646 (by decide +kernel) (by decide +kernel)
theorem wl_L_160 : Cond.methodLink RL 160 yX10_sheet ∈ TBL := tb_in 960 (by decide +kernel) (by decide +kernel)
theorem wl_L_163 : Cond.methodLink RL 163 yX11_sheet ∈ TBL := tb_in 1650 (by decide +kernel) (by decide +kernel)
theorem wl_L_164 : Cond.methodLink RL 164 yX10_put ∈ TBL := tb_in 974 (by decide +kernel) (by decide +kernel)
theorem wl_L_167 : Cond.methodLink RL 167 yX11_put ∈ TBL := tb_in 1657 (by decide +kernel) (by decide +kernel)
theorem wl_L_168 : Cond.methodLink RL 168 yX10_item ∈ TBL := tb_in 986 (by decide +kernel) (by decide +kernel)
theorem wl_L_171 : Cond.methodLink RL 171 yX11_item ∈ TBL := tb_in 1661 (by decide +kernel) (by decide +kernel)
theorem wl_L_172 : Cond.methodLink RL 172 yX10_shelf ∈ TBL := tb_in 990 (by decide +kernel) (by decide +kernel)
theorem wl_L_175 : Cond.methodLink RL 175 yX11_shelf ∈ TBL := tb_in 1669 (by decide +kernel) (by decide +kernel)
theorem wl_L_176 : Cond.methodLink RL 176 yX10_taken ∈ TBL := tb_in 1009 (by decide +kernel) (by decide +kernel)
theorem wl_L_179 : Cond.methodLink RL 179 yX11_taken ∈ TBL := tb_in 1677 (by decide +kernel) (by decide +kernel)
theorem wl_L_180 : Cond.methodLink RL 180 yX10_act ∈ TBL := tb_in 1020 (by decide +kernel) (by decide +kernel)
theorem wl_L_183 : Cond.methodLink RL 183 yX11_act ∈ TBL := tb_in 1688 (by decide +kernel) (by decide +kernel)
theorem wl_L_184 : Cond.methodLink RL 184 yX10_trace ∈ TBL := tb_in 1075 (by decide +kernel) (by decide +kernel)
theorem wl_L_187 : Cond.methodLink RL 187 yX11_trace ∈ TBL := tb_in 1724 (by decide +kernel) (by decide +kernel)
theorem wl_L_188 : Cond.methodLink RL 188 yX10_many ∈ TBL := tb_in 1079 (by decide +kernel) (by decide +kernel)
theorem wl_L_191 : Cond.methodLink RL 191 yX11_many ∈ TBL := tb_in 1728 (by decide +kernel) (by decide +kernel)
theorem wl_L_192 : Cond.methodLink RL 192 yX10_keep ∈ TBL := tb_in 1083 (by decide +kernel) (by decide +kernel)
theorem wl_L_195 : Cond.methodLink RL 195 yX11_keep ∈ TBL := tb_in 1732 (by decide +kernel) (by decide +kernel)
theorem wl_L_196 : Cond.methodLink RL 196 yX10_back ∈ TBL := tb_in 1095 (by decide +kernel) (by decide +kernel)
theorem wl_L_199 : Cond.methodLink RL 199 yX11_back ∈ TBL := tb_in 1744 (by decide +kernel) (by decide +kernel)
theorem wl_X11_87 : Cond.methodLink RX11 87 yX11_in ∈ TBL := tb_in 1273 (by decide +kernel) (by decide +kernel)
theorem wl_X11_94 : Cond.methodLink RX11 94 yX11_its ∈ TBL := tb_in 1284 (by decide +kernel) (by decide +kernel)
theorem wl_X11_98 : Cond.methodLink RX11 98 yX11_isPart ∈ TBL := tb_in 1280 (by decide +kernel) (by decide +kernel)
theorem wl_X11_106 : Cond.methodLink RX11 106 yX11_takes ∈ TBL := tb_in 1296 (by decide +kernel) (by decide +kernel)
theorem wl_X11_110 : Cond.methodLink RX11 110 yX11_isDay ∈ TBL := tb_in 1293 (by decide +kernel) (by decide +kernel)
theorem wl_X11_119 : Cond.methodLink RX11 119 yX11_isSide ∈ TBL := tb_in 1316 (by decide +kernel) (by decide +kernel)
theorem wl_X11_123 : Cond.methodLink RX11 123 yX11_isOn ∈ TBL := tb_in 1320 (by decide +kernel) (by decide +kernel)
theorem wl_X11_127 : Cond.methodLink RX11 127 yX11_lacks ∈ TBL := tb_in 1324 (by decide +kernel) (by decide +kernel)
theorem wl_X11_130 : Cond.methodLink RX11 130 yX11_addRun ∈ TBL := tb_in 1328 (by decide +kernel) (by decide +kernel)
theorem wl_X11_148 : Cond.methodLink RX11 148 yX11_byteAt ∈ TBL := tb_in 1361 (by decide +kernel) (by decide +kernel)
theorem wl_X11_151 : Cond.methodLink RX11 151 yX11_isLetter ∈ TBL := tb_in 1365 (by decide +kernel) (by decide +kernel)
theorem wl_X11_154 : Cond.methodLink RX11 154 yX11_isDigit ∈ TBL := tb_in 1368 (by decide +kernel) (by decide +kernel)
theorem wl_X11_177 : Cond.methodLink RX11 177 yX11_advance ∈ TBL := tb_in 1357 (by decide +kernel) (by decide +kernel)
theorem wl_X11_180 : Cond.methodLink RX11 180 yX11_isWord ∈ TBL := tb_in 1375 (by decide +kernel) (by decide +kernel)
theorem wl_X11_184 : Cond.methodLink RX11 184 yX11_isNumber ∈ TBL := tb_in 1397 (by decide +kernel) (by decide +kernel)
theorem wl_X11_188 : Cond.methodLink RX11 188 yX11_isMark ∈ TBL := tb_in 1389 (by decide +kernel) (by decide +kernel)
theorem wl_X11_191 : Cond.methodLink RX11 191 yX11_wantNumber ∈ TBL := tb_in 1393 (by decide +kernel) (by decide +kernel)
theorem wl_X11_197 : Cond.methodLink RX11 197 yX11_wantWord ∈ TBL := tb_in 1381 (by decide +kernel) (by decide +kernel)
theorem wl_X11_203 : Cond.methodLink RX11 203 yX11_wantInt ∈ TBL := tb_in 1385 (by decide +kernel) (by decide +kernel)
theorem wl_X11_210 : Cond.methodLink RX11 210 yX11_begin ∈ TBL := tb_in 1353 (by decide +kernel) (by decide +kernel)
theorem wl_X11_217 : Cond.methodLink RX11 217 yX11_wantClauses ∈ TBL := tb_in 1401 (by decide +kernel) (by decide +kernel)
theorem wl_X11_220 : Cond.methodLink RX11 220 yX11_isStory ∈ TBL := tb_in 1412 (by decide +kernel) (by decide +kernel)
theorem wl_X11_223 : Cond.methodLink RX11 223 yX11_givesBy ∈ TBL := tb_in 1416 (by decide +kernel) (by decide +kernel)
theorem wl_X11_226 : Cond.methodLink RX11 226 yX11_findsBy ∈ TBL := tb_in 1424 (by decide +kernel) (by decide +kernel)
theorem wl_X11_229 : Cond.methodLink RX11 229 yX11_size ∈ TBL := tb_in 1440 (by decide +kernel) (by decide +kernel)
theorem wl_X11_232 : Cond.methodLink RX11 232 yX11_far ∈ TBL := tb_in 1436 (by decide +kernel) (by decide +kernel)
theorem wl_X11_235 : Cond.methodLink RX11 235 yX11_missOf ∈ TBL := tb_in 1432 (by decide +kernel) (by decide +kernel)
theorem wl_X11_238 : Cond.methodLink RX11 238 yX11_likelyOne ∈ TBL := tb_in 1447 (by decide +kernel) (by decide +kernel)
theorem wl_X11_253 : Cond.methodLink RX11 253 yX11_weightOf ∈ TBL := tb_in 1455 (by decide +kernel) (by decide +kernel)
theorem wl_X11_257 : Cond.methodLink RX11 257 yX11_lowest ∈ TBL := tb_in 1462 (by decide +kernel) (by decide +kernel)
theorem wl_X11_261 : Cond.methodLink RX11 261 yX11_isSet ∈ TBL := tb_in 1474 (by decide +kernel) (by decide +kernel)
theorem wl_X11_264 : Cond.methodLink RX11 264 yX11_partedBy ∈ TBL := tb_in 1478 (by decide +kernel) (by decide +kernel)
theorem wl_X11_267 : Cond.methodLink RX11 267 yX11_parting ∈ TBL := tb_in 1486 (by decide +kernel) (by decide +kernel)
theorem wl_X11_270 : Cond.methodLink RX11 270 yX11_spanOf ∈ TBL := tb_in 1494 (by decide +kernel) (by decide +kernel)
theorem wl_X11_273 : Cond.methodLink RX11 273 yX11_rootOf ∈ TBL := tb_in 1498 (by decide +kernel) (by decide +kernel)
theorem wl_X11_279 : Cond.methodLink RX11 279 yX11_sumOf ∈ TBL := tb_in 1506 (by decide +kernel) (by decide +kernel)
theorem wl_X11_282 : Cond.methodLink RX11 282 yX11_isFar ∈ TBL := tb_in 1514 (by decide +kernel) (by decide +kernel)
theorem wl_X11_287 : Cond.methodLink RX11 287 yX11_sortRuns ∈ TBL := tb_in 1526 (by decide +kernel) (by decide +kernel)
theorem wl_X11_296 : Cond.methodLink RX11 296 yX11_top ∈ TBL := tb_in 1581 (by decide +kernel) (by decide +kernel)
theorem wl_X11_299 : Cond.methodLink RX11 299 yX11_binds ∈ TBL := tb_in 1594 (by decide +kernel) (by decide +kernel)
theorem wl_X11_302 : Cond.methodLink RX11 302 yX11_emit ∈ TBL := tb_in 1573 (by decide +kernel) (by decide +kernel)
theorem wl_X11_309 : Cond.methodLink RX11 309 yX11_pend ∈ TBL := tb_in 1552 (by decide +kernel) (by decide +kernel)
theorem wl_X11_332 : Cond.methodLink RX11 332 yX11_opens ∈ TBL := tb_in 1548 (by decide +kernel) (by decide +kernel)
theorem wl_X11_340 : Cond.methodLink RX11 340 yX11_factHere ∈ TBL := tb_in 1562 (by decide +kernel) (by decide +kernel)
theorem wl_X11_343 : Cond.methodLink RX11 343 yX11_ends ∈ TBL := tb_in 1577 (by decide +kernel) (by decide +kernel)
theorem wl_X11_345 : Cond.methodLink RX11 345 yX11_settle ∈ TBL := tb_in 1590 (by decide +kernel) (by decide +kernel)
theorem wl_X11_352 : Cond.methodLink RX11 352 yX11_beginOne ∈ TBL := tb_in 1542 (by decide +kernel) (by decide +kernel)
theorem wl_X11_355 : Cond.methodLink RX11 355 yX11_beginAt ∈ TBL := tb_in 1557 (by decide +kernel) (by decide +kernel)
theorem wl_X11_358 : Cond.methodLink RX11 358 yX11_goOnEnded ∈ TBL := tb_in 1585 (by decide +kernel) (by decide +kernel)
theorem wl_X11_361 : Cond.methodLink RX11 361 yX11_goOnAt ∈ TBL := tb_in 1599 (by decide +kernel) (by decide +kernel)
theorem wl_X11_367 : Cond.methodLink RX11 367 yX11_wantRule ∈ TBL := tb_in 1538 (by decide +kernel) (by decide +kernel)
theorem wl_X11_370 : Cond.methodLink RX11 370 yX11_factOf ∈ TBL := tb_in 1607 (by decide +kernel) (by decide +kernel)
theorem wl_X11_373 : Cond.methodLink RX11 373 yX11_joined ∈ TBL := tb_in 1623 (by decide +kernel) (by decide +kernel)
theorem wl_X11_376 : Cond.methodLink RX11 376 yX11_findFacts ∈ TBL := tb_in 1615 (by decide +kernel) (by decide +kernel)
theorem wl_X11_379 : Cond.methodLink RX11 379 yX11_isSo ∈ TBL := tb_in 1619 (by decide +kernel) (by decide +kernel)
theorem wl_X11_385 : Cond.methodLink RX11 385 yX11_isRow ∈ TBL := tb_in 1638 (by decide +kernel) (by decide +kernel)
theorem wl_X11_388 : Cond.methodLink RX11 388 yX11_isShelf ∈ TBL := tb_in 1654 (by decide +kernel) (by decide +kernel)
theorem wl_X11_391 : Cond.methodLink RX11 391 yX11_lacksSort ∈ TBL := tb_in 1665 (by decide +kernel) (by decide +kernel)
theorem wl_X11_394 : Cond.methodLink RX11 394 yX11_isHeld ∈ TBL := tb_in 1673 (by decide +kernel) (by decide +kernel)
theorem wl_X11_397 : Cond.methodLink RX11 397 yX11_kindOn ∈ TBL := tb_in 1681 (by decide +kernel) (by decide +kernel)
theorem wl_X11_400 : Cond.methodLink RX11 400 yX11_isUnder ∈ TBL := tb_in 1685 (by decide +kernel) (by decide +kernel)
theorem wl_X11_409 : Cond.methodLink RX11 409 yX11_body ∈ TBL := tb_in 1696 (by decide +kernel) (by decide +kernel)
theorem wl_X11_415 : Cond.methodLink RX11 415 yX11_takesIt ∈ TBL := tb_in 1692 (by decide +kernel) (by decide +kernel)
theorem wl_X11_418 : Cond.methodLink RX11 418 yX11_plainShares ∈ TBL := tb_in 1704 (by decide +kernel) (by decide +kernel)
theorem wl_X11_427 : Cond.methodLink RX11 427 yX11_plainBounds ∈ TBL := tb_in 1712 (by decide +kernel) (by decide +kernel)
theorem wl_X11_430 : Cond.methodLink RX11 430 yX11_sharesIt ∈ TBL := tb_in 1700 (by decide +kernel) (by decide +kernel)
theorem wl_X11_433 : Cond.methodLink RX11 433 yX11_plainTells ∈ TBL := tb_in 1720 (by decide +kernel) (by decide +kernel)
theorem wl_X11_436 : Cond.methodLink RX11 436 yX11_boundsIt ∈ TBL := tb_in 1708 (by decide +kernel) (by decide +kernel)
theorem wl_X11_439 : Cond.methodLink RX11 439 yX11_tellsIt ∈ TBL := tb_in 1716 (by decide +kernel) (by decide +kernel)
theorem wl_X11_445 : Cond.methodLink RX11 445 yX11_move ∈ TBL := tb_in 1740 (by decide +kernel) (by decide +kernel)
theorem wl_X11_449 : Cond.methodLink RX11 449 yX11_moveAll ∈ TBL := tb_in 1736 (by decide +kernel) (by decide +kernel)
theorem wl_J0_335 : Cond.methodLink RJ0 335 yJ0_coder_7d493 ∈ TBL := tb_in 572 (by decide +kernel) (by decide +kernel)
theorem wl_J0_492 : Cond.methodLink RJ0 492 yJ0_isLatin1_aae02 ∈ TBL := tb_in 582 (by decide +kernel) (by decide +kernel)
theorem wl_J0_495 : Cond.methodLink RJ0 495 yJ1_charAt_3b067 ∈ TBL := tb_in 586 (by decide +kernel) (by decide +kernel)
theorem wl_J0_498 : Cond.methodLink RJ0 498 yJ2_charAt_3b067 ∈ TBL := tb_in 597 (by decide +kernel) (by decide +kernel)
theorem wl_J0_1059 : Cond.methodLink RJ0 1059 yJ3_checkIndex_8e157 ∈ TBL := tb_in 594 (by decide +kernel) (by decide +kernel)
theorem wl_J1_9 : Cond.methodLink RJ1 9 yJ0_checkIndex_df160 ∈ TBL := tb_in 589 (by decide +kernel) (by decide +kernel)
theorem wl_J2_48 : Cond.methodLink RJ2 48 yJ2_length_9d52b ∈ TBL := tb_in 603 (by decide +kernel) (by decide +kernel)
theorem wl_J2_67 : Cond.methodLink RJ2 67 yJ2_checkIndex_2214a ∈ TBL := tb_in 600 (by decide +kernel) (by decide +kernel)
theorem wl_J2_71 : Cond.methodLink RJ2 71 yJ2_getChar_3b067 ∈ TBL := tb_in 607 (by decide +kernel) (by decide +kernel)
theorem wl_J2_414 : Cond.methodLink RJ2 414 yJ0_checkIndex_df160 ∈ TBL := tb_in 606 (by decide +kernel) (by decide +kernel)
theorem wl_J7_304 : Cond.methodLink RJ7 304 yJ9_min_7cf53 ∈ TBL := tb_in 673 (by decide +kernel) (by decide +kernel)
theorem wo_X10_1 : Cond.methodLink RX10 1 objectInit ∈ TBL := tb_in 107 (by decide +kernel) (by decide +kernel)
theorem wo_X0_3 : Cond.methodLink RX0 3 objectInit ∈ TBL := tb_in 325 (by decide +kernel) (by decide +kernel)
theorem wo_X1_3 : Cond.methodLink RX1 3 objectInit ∈ TBL := tb_in 126 (by decide +kernel) (by decide +kernel)
theorem wo_X2_3 : Cond.methodLink RX2 3 objectInit ∈ TBL := tb_in 193 (by decide +kernel) (by decide +kernel)
theorem wo_X3_3 : Cond.methodLink RX3 3 objectInit ∈ TBL := tb_in 305 (by decide +kernel) (by decide +kernel)
theorem wo_X4_3 : Cond.methodLink RX4 3 objectInit ∈ TBL := tb_in 352 (by decide +kernel) (by decide +kernel)
theorem wo_X5_3 : Cond.methodLink RX5 3 objectInit ∈ TBL := tb_in 370 (by decide +kernel) (by decide +kernel)
theorem wo_X6_3 : Cond.methodLink RX6 3 objectInit ∈ TBL := tb_in 172 (by decide +kernel) (by decide +kernel)
theorem wo_X7_3 : Cond.methodLink RX7 3 objectInit ∈ TBL := tb_in 283 (by decide +kernel) (by decide +kernel)
theorem wo_X8_3 : Cond.methodLink RX8 3 objectInit ∈ TBL := tb_in 260 (by decide +kernel) (by decide +kernel)
theorem wo_X9_3 : Cond.methodLink RX9 3 objectInit ∈ TBL := tb_in 115 (by decide +kernel) (by decide +kernel)
theorem wo_X11_1 : Cond.methodLink RX11 1 objectInit ∈ TBL := tb_in 1104 (by decide +kernel) (by decide +kernel)
theorem wo_inst : Cond.instanceMethod objectInit ∈ TBL := tb_in 108 (by decide +kernel) (by decide +kernel)
theorem wo_code : Cond.code objectInit ⟨#[0xb1]⟩ 1 none ∈ TBL := tb_in 109 (by decide +kernel) (by decide +kernel)
theorem ms_J0_checkIndex_df160 : MS yJ0_checkIndex_df160 cJ0_checkIndex_df160 2 none 2 := ⟨tb_in 590 (by decide +kernel) (by decide +kernel), tb_in 95 (by decide +kernel) (by decide +kernel), tb_in 591 (by decide +kernel) (by decide +kernel), by decide +kernel, by decide +kernel, by decide⟩
theorem ms_J1_charAt_3b067 : MS yJ1_charAt_3b067 cJ1_charAt_3b067 2 (some .char) 2 := ⟨tb_in 587 (by decide +kernel) (by decide +kernel), tb_in 96 (by decide +kernel) (by decide +kernel), tb_in 588 (by decide +kernel) (by decide +kernel), by decide +kernel, by decide +kernel, by decide⟩
theorem ms_J2_charAt_3b067 : MS yJ2_charAt_3b067 cJ2_charAt_3b067 2 (some .char) 2 := ⟨tb_in 598 (by decide +kernel) (by decide +kernel), tb_in 98 (by decide +kernel) (by decide +kernel), tb_in 599 (by decide +kernel) (by decide +kernel), by decide +kernel, by decide +kernel, by decide⟩
theorem ms_J2_checkIndex_2214a : MS yJ2_checkIndex_2214a cJ2_checkIndex_2214a 2 none 2 := ⟨tb_in 601 (by decide +kernel) (by decide +kernel), tb_in 98 (by decide +kernel) (by decide +kernel), tb_in 602 (by decide +kernel) (by decide +kernel), by decide +kernel, by decide +kernel, by decide⟩
theorem ms_J2_getChar_3b067 : MS yJ2_getChar_3b067 cJ2_getChar_3b067 2 (some .char) 2 := ⟨tb_in 608 (by decide +kernel) (by decide +kernel), tb_in 98 (by decide +kernel) (by decide +kernel), tb_in 609 (by decide +kernel) (by decide +kernel), by decide +kernel, by decide +kernel, by decide⟩
theorem ms_J2_length_9d52b : MS yJ2_length_9d52b cJ2_length_9d52b 1 (some .int) 1 := ⟨tb_in 604 (by decide +kernel) (by decide +kernel), tb_in 98 (by decide +kernel) (by decide +kernel), tb_in 605 (by decide +kernel) (by decide +kernel), by decide +kernel, by decide +kernel, by decide⟩
theorem ms_J3_checkIndex_8e157 : MS yJ3_checkIndex_8e157 cJ3_checkIndex_8e157 3 (some .int) 3 := ⟨tb_in 595 (by decide +kernel) (by decide +kernel), tb_in 97 (by decide +kernel) (by decide +kernel), tb_in 596 (by decide +kernel) (by decide +kernel), by decide +kernel, by decide +kernel, by decide⟩
theorem ms_J7_copyOf_59c91 : MS yJ7_copyOf_59c91 cJ7_copyOf_59c91 3 (some (.array .int)) 2 := ⟨tb_in 664 (by decide +kernel) (by decide +kernel), tb_in 99 (by decide +kernel) (by decide +kernel), tb_in 665 (by decide +kernel) (by decide +kernel), by decide +kernel, by decide +kernel, by decide⟩
theorem ms_J7_fill_53178 : MS yJ7_fill_53178 cJ7_fill_53178 4 none 2 := ⟨tb_in 972 (by decide +kernel) (by decide +kernel), tb_in 99 (by decide +kernel) (by decide +kernel), tb_in 973 (by decide +kernel) (by decide +kernel), by decide +kernel, by decide +kernel, by decide⟩
theorem ms_J9_abs_067f4 : MS yJ9_abs_067f4 cJ9_abs_067f4 2 (some .long) 1 := ⟨tb_in 762 (by decide +kernel) (by decide +kernel), tb_in 100 (by decide +kernel) (by decide +kernel), tb_in 763 (by decide +kernel) (by decide +kernel), by decide +kernel, by decide +kernel, by decide⟩
theorem ms_J9_abs_0f7a4 : MS yJ9_abs_0f7a4 cJ9_abs_0f7a4 1 (some .int) 1 := ⟨tb_in 732 (by decide +kernel) (by decide +kernel), tb_in 100 (by decide +kernel) (by decide +kernel), tb_in 733 (by decide +kernel) (by decide +kernel), by decide +kernel, by decide +kernel, by decide⟩
theorem ms_J9_max_7cf53 : MS yJ9_max_7cf53 cJ9_max_7cf53 2 (some .int) 2 := ⟨tb_in 753 (by decide +kernel) (by decide +kernel), tb_in 100 (by decide +kernel) (by decide +kernel), tb_in 754 (by decide +kernel) (by decide +kernel), by decide +kernel, by decide +kernel, by decide⟩
theorem ms_J9_min_7cf53 : MS yJ9_min_7cf53 cJ9_min_7cf53 2 (some .int) 2 := ⟨tb_in 674 (by decide +kernel) (by decide +kernel), tb_in 100 (by decide +kernel) (by decide +kernel), tb_in 675 (by decide +kernel) (by decide +kernel), by decide +kernel, by decide +kernel, by decide⟩
theorem mi_X0_began : MI yX0_began cX0_began 2 none 1 0 := ⟨⟨_, rfl, rfl⟩, by decide, tb_in 1038 (by decide +kernel) (by decide +kernel), tb_in 16 (by decide +kernel) (by decide +kernel), tb_in 91 (by decide +kernel) (by decide +kernel), tb_in 1039 (by decide +kernel) (by decide +kernel), by decide +kernel, by decide +kernel, by decide⟩
theorem mi_X0_bounds : MI yX0_bounds cX0_bounds 2 (some .int) 1 0 := ⟨⟨_, rfl, rfl⟩, by decide, tb_in 1054 (by decide +kernel) (by decide +kernel), tb_in 1055 (by decide +kernel) (by decide +kernel), tb_in 91 (by decide +kernel) (by decide +kernel), tb_in 1056 (by decide +kernel) (by decide +kernel), by decide +kernel, by decide +kernel, by decide⟩
theorem mi_X0_boundsOfLoose : MI yX0_boundsOfLoose cX0_boundsOfLoose 2 (some .int) 1 0 := ⟨⟨_, rfl, rfl⟩, by decide, tb_in 1059 (by decide +kernel) (by decide +kernel), tb_in 19 (by decide +kernel) (by decide +kernel), tb_in 91 (by decide +kernel) (by decide +kernel), tb_in 1060 (by decide +kernel) (by decide +kernel), by decide +kernel, by decide +kernel, by decide⟩
theorem mi_X0_boundsOfPart : MI yX0_boundsOfPart cX0_boundsOfPart 3 (some .int) 1 0 := ⟨⟨_, rfl, rfl⟩, by decide, tb_in 1063 (by decide +kernel) (by decide +kernel), tb_in 20 (by decide +kernel) (by decide +kernel), tb_in 91 (by decide +kernel) (by decide +kernel), tb_in 1064 (by decide +kernel) (by decide +kernel), by decide +kernel, by decide +kernel, by decide⟩
theorem mi_X0_forget : MI yX0_forget cX0_forget 1 none 0 0 := ⟨⟨_, rfl, rfl⟩, by decide, tb_in 1025 (by decide +kernel) (by decide +kernel), tb_in 1026 (by decide +kernel) (by decide +kernel), tb_in 91 (by decide +kernel) (by decide +kernel), tb_in 1027 (by decide +kernel) (by decide +kernel), by decide +kernel, by decide +kernel, by decide⟩
theorem mc_X0_init : MC yX0_init cX0_init 1 0 := ⟨by decide +kernel, tb_in 323 (by decide +kernel) (by decide +kernel), tb_in 91 (by decide +kernel) (by decide +kernel), tb_in 324 (by decide +kernel) (by decide +kernel), by decide +kernel, by decide +kernel, by decide⟩
theorem mi_X0_play : MI yX0_play cX0_play 4 none 3 0 := ⟨⟨_, rfl, rfl⟩, by decide, tb_in 1029 (by decide +kernel) (by decide +kernel), tb_in 1030 (by decide +kernel) (by decide +kernel), tb_in 91 (by decide +kernel) (by decide +kernel), tb_in 1031 (by decide +kernel) (by decide +kernel), by decide +kernel, by decide +kernel, by decide⟩
theorem mi_X0_shares : MI yX0_shares cX0_shares 2 (some .int) 1 0 := ⟨⟨_, rfl, rfl⟩, by decide, tb_in 1045 (by decide +kernel) (by decide +kernel), tb_in 1046 (by decide +kernel) (by decide +kernel), tb_in 91 (by decide +kernel) (by decide +kernel), tb_in 1047 (by decide +kernel) (by decide +kernel), by decide +kernel, by decide +kernel, by decide⟩
theorem mi_X0_sharesOfPart : MI yX0_sharesOfPart cX0_sharesOfPart 2 (some .int) 1 0 := ⟨⟨_, rfl, rfl⟩, by decide, tb_in 1050 (by decide +kernel) (by decide +kernel), tb_in 18 (by decide +kernel) (by decide +kernel), tb_in 91 (by decide +kernel) (by decide +kernel), tb_in 1051 (by decide +kernel) (by decide +kernel), by decide +kernel, by decide +kernel, by decide⟩
theorem mi_X0_takes : MI yX0_takes cX0_takes 2 (some .int) 1 0 := ⟨⟨_, rfl, rfl⟩, by decide, tb_in 1033 (by decide +kernel) (by decide +kernel), tb_in 1034 (by decide +kernel) (by decide +kernel), tb_in 91 (by decide +kernel) (by decide +kernel), tb_in 1035 (by decide +kernel) (by decide +kernel), by decide +kernel, by decide +kernel, by decide⟩
theorem mi_X0_takesOfPart : MI yX0_takesOfPart cX0_takesOfPart 2 (some .int) 1 0 := ⟨⟨_, rfl, rfl⟩, by decide, tb_in 1042 (by decide +kernel) (by decide +kernel), tb_in 17 (by decide +kernel) (by decide +kernel), tb_in 91 (by decide +kernel) (by decide +kernel), tb_in 1043 (by decide +kernel) (by decide +kernel), by decide +kernel, by decide +kernel, by decide⟩
theorem mi_X0_tells : MI yX0_tells cX0_tells 2 (some .int) 1 0 := ⟨⟨_, rfl, rfl⟩, by decide, tb_in 1066 (by decide +kernel) (by decide +kernel), tb_in 1067 (by decide +kernel) (by decide +kernel), tb_in 91 (by decide +kernel) (by decide +kernel), tb_in 1068 (by decide +kernel) (by decide +kernel), by decide +kernel, by decide +kernel, by decide⟩
theorem mi_X0_tellsOfPart : MI yX0_tellsOfPart cX0_tellsOfPart 2 (some .int) 1 0 := ⟨⟨_, rfl, rfl⟩, by decide, tb_in 1071 (by decide +kernel) (by decide +kernel), tb_in 21 (by decide +kernel) (by decide +kernel), tb_in 91 (by decide +kernel) (by decide +kernel), tb_in 1072 (by decide +kernel) (by decide +kernel), by decide +kernel, by decide +kernel, by decide⟩
theorem mi_X10_act : MI yX10_act cX10_act 6 (some .int) 3 10 := ⟨⟨_, rfl, rfl⟩, by decide, tb_in 1021 (by decide +kernel) (by decide +kernel), tb_in 1022 (by decide +kernel) (by decide +kernel), tb_in 83 (by decide +kernel) (by decide +kernel), tb_in 1023 (by decide +kernel) (by decide +kernel), by decide +kernel, by decide +kernel, by decide⟩
theorem mi_X10_alterRow : MI yX10_alterRow cX10_alterRow 5 (some .int) 3 10 := ⟨⟨_, rfl, rfl⟩, by decide, tb_in 953 (by decide +kernel) (by decide +kernel), tb_in 954 (by decide +kernel) (by decide +kernel), tb_in 83 (by decide +kernel) (by decide +kernel), tb_in 955 (by decide +kernel) (by decide +kernel), by decide +kernel, by decide +kernel, by decide⟩
theorem mi_X10_back : MI yX10_back cX10_back 1 (some .int) 0 10 := ⟨⟨_, rfl, rfl⟩, by decide, tb_in 1096 (by decide +kernel) (by decide +kernel), tb_in 1097 (by decide +kernel) (by decide +kernel), tb_in 83 (by decide +kernel) (by decide +kernel), tb_in 1098 (by decide +kernel) (by decide +kernel), by decide +kernel, by decide +kernel, by decide⟩
theorem ms_X10_commonDivisor : MS yX10_commonDivisor cX10_commonDivisor 11 (some .long) 2 := ⟨tb_in 765 (by decide +kernel) (by decide +kernel), tb_in 83 (by decide +kernel) (by decide +kernel), tb_in 766 (by decide +kernel) (by decide +kernel), by decide +kernel, by decide +kernel, by decide⟩
theorem mi_X10_could : MI yX10_could cX10_could 5 (some .int) 2 10 := ⟨⟨_, rfl, rfl⟩, by decide, tb_in 834 (by decide +kernel) (by decide +kernel), tb_in 835 (by decide +kernel) (by decide +kernel), tb_in 83 (by decide +kernel) (by decide +kernel), tb_in 836 (by decide +kernel) (by decide +kernel), by decide +kernel, by decide +kernel, by decide⟩
theorem mi_X10_fact : MI yX10_fact cX10_fact 2 (some .int) 1 10 := ⟨⟨_, rfl, rfl⟩, by decide, tb_in 912 (by decide +kernel) (by decide +kernel), tb_in 913 (by decide +kernel) (by decide +kernel), tb_in 83 (by decide +kernel) (by decide +kernel), tb_in 914 (by decide +kernel) (by decide +kernel), by decide +kernel, by decide +kernel, by decide⟩
theorem mi_X10_fail : MI yX10_fail cX10_fail 5 (some .int) 3 10 := ⟨⟨_, rfl, rfl⟩, by decide, tb_in 461 (by decide +kernel) (by decide +kernel), tb_in 462 (by decide +kernel) (by decide +kernel), tb_in 83 (by decide +kernel) (by decide +kernel), tb_in 463 (by decide +kernel) (by decide +kernel), by decide +kernel, by decide +kernel, by decide⟩
theorem mi_X10_feed : MI yX10_feed cX10_feed 5 (some .int) 2 10 := ⟨⟨_, rfl, rfl⟩, by decide, tb_in 521 (by decide +kernel) (by decide +kernel), tb_in 522 (by decide +kernel) (by decide +kernel), tb_in 83 (by decide +kernel) (by decide +kernel), tb_in 523 (by decide +kernel) (by decide +kernel), by decide +kernel, by decide +kernel, by decide⟩
theorem mi_X10_finds : MI yX10_finds cX10_finds 3 (some .int) 2 10 := ⟨⟨_, rfl, rfl⟩, by decide, tb_in 708 (by decide +kernel) (by decide +kernel), tb_in 709 (by decide +kernel) (by decide +kernel), tb_in 83 (by decide +kernel) (by decide +kernel), tb_in 710 (by decide +kernel) (by decide +kernel), by decide +kernel, by decide +kernel, by decide⟩
theorem mi_X10_fits : MI yX10_fits cX10_fits 6 (some .int) 2 10 := ⟨⟨_, rfl, rfl⟩, by decide, tb_in 838 (by decide +kernel) (by decide +kernel), tb_in 839 (by decide +kernel) (by decide +kernel), tb_in 83 (by decide +kernel) (by decide +kernel), tb_in 840 (by decide +kernel) (by decide +kernel), by decide +kernel, by decide +kernel, by decide⟩
theorem ms_X10_fitsOfTwo : MS yX10_fitsOfTwo cX10_fitsOfTwo 6 (some .int) 3 := ⟨tb_in 842 (by decide +kernel) (by decide +kernel), tb_in 83 (by decide +kernel) (by decide +kernel), tb_in 843 (by decide +kernel) (by decide +kernel), by decide +kernel, by decide +kernel, by decide⟩
theorem ms_X10_fraction : MS yX10_fraction cX10_fraction 7 (some .long) 3 := ⟨tb_in 759 (by decide +kernel) (by decide +kernel), tb_in 83 (by decide +kernel) (by decide +kernel), tb_in 760 (by decide +kernel) (by decide +kernel), by decide +kernel, by decide +kernel, by decide⟩
theorem mi_X10_gatherTwos : MI yX10_gatherTwos cX10_gatherTwos 6 (some .int) 1 10 := ⟨⟨_, rfl, rfl⟩, by decide, tb_in 781 (by decide +kernel) (by decide +kernel), tb_in 5 (by decide +kernel) (by decide +kernel), tb_in 83 (by decide +kernel) (by decide +kernel), tb_in 782 (by decide +kernel) (by decide +kernel), by decide +kernel, by decide +kernel, by decide⟩
theorem mi_X10_gives : MI yX10_gives cX10_gives 4 (some .int) 3 10 := ⟨⟨_, rfl, rfl⟩, by decide, tb_in 682 (by decide +kernel) (by decide +kernel), tb_in 683 (by decide +kernel) (by decide +kernel), tb_in 83 (by decide +kernel) (by decide +kernel), tb_in 684 (by decide +kernel) (by decide +kernel), by decide +kernel, by decide +kernel, by decide⟩
theorem mi_X10_holds : MI yX10_holds cX10_holds 3 (some .int) 2 10 := ⟨⟨_, rfl, rfl⟩, by decide, tb_in 923 (by decide +kernel) (by decide +kernel), tb_in 924 (by decide +kernel) (by decide +kernel), tb_in 83 (by decide +kernel) (by decide +kernel), tb_in 925 (by decide +kernel) (by decide +kernel), by decide +kernel, by decide +kernel, by decide⟩
theorem mi_X10_holdsPart : MI yX10_holdsPart cX10_holdsPart 2 (some .boolean) 1 10 := ⟨⟨_, rfl, rfl⟩, by decide, tb_in 1015 (by decide +kernel) (by decide +kernel), tb_in 15 (by decide +kernel) (by decide +kernel), tb_in 83 (by decide +kernel) (by decide +kernel), tb_in 1016 (by decide +kernel) (by decide +kernel), by decide +kernel, by decide +kernel, by decide⟩
theorem mi_X10_house : MI yX10_house cX10_house 1 (some .int) 0 10 := ⟨⟨_, rfl, rfl⟩, by decide, tb_in 860 (by decide +kernel) (by decide +kernel), tb_in 861 (by decide +kernel) (by decide +kernel), tb_in 83 (by decide +kernel) (by decide +kernel), tb_in 862 (by decide +kernel) (by decide +kernel), by decide +kernel, by decide +kernel, by decide⟩
theorem mc_X10_init : MC yX10_init cX10_init 2 0 := ⟨by decide +kernel, tb_in 105 (by decide +kernel) (by decide +kernel), tb_in 83 (by decide +kernel) (by decide +kernel), tb_in 106 (by decide +kernel) (by decide +kernel), by decide +kernel, by decide +kernel, by decide⟩
theorem ms_X10_isDay : MS yX10_isDay cX10_isDay 1 (some .boolean) 1 := ⟨tb_in 465 (by decide +kernel) (by decide +kernel), tb_in 83 (by decide +kernel) (by decide +kernel), tb_in 466 (by decide +kernel) (by decide +kernel), by decide +kernel, by decide +kernel, by decide⟩
theorem mi_X10_isInRows : MI yX10_isInRows cX10_isInRows 3 (some .boolean) 2 10 := ⟨⟨_, rfl, rfl⟩, by decide, tb_in 950 (by decide +kernel) (by decide +kernel), tb_in 14 (by decide +kernel) (by decide +kernel), tb_in 83 (by decide +kernel) (by decide +kernel), tb_in 951 (by decide +kernel) (by decide +kernel), by decide +kernel, by decide +kernel, by decide⟩
theorem ms_X10_isSheet : MS yX10_isSheet cX10_isSheet 1 (some .boolean) 1 := ⟨tb_in 965 (by decide +kernel) (by decide +kernel), tb_in 83 (by decide +kernel) (by decide +kernel), tb_in 966 (by decide +kernel) (by decide +kernel), by decide +kernel, by decide +kernel, by decide⟩
theorem ms_X10_isShelf : MS yX10_isShelf cX10_isShelf 1 (some .boolean) 1 := ⟨tb_in 995 (by decide +kernel) (by decide +kernel), tb_in 83 (by decide +kernel) (by decide +kernel), tb_in 996 (by decide +kernel) (by decide +kernel), by decide +kernel, by decide +kernel, by decide⟩
theorem ms_X10_isUnder : MS yX10_isUnder cX10_isUnder 2 (some .boolean) 2 := ⟨tb_in 1018 (by decide +kernel) (by decide +kernel), tb_in 83 (by decide +kernel) (by decide +kernel), tb_in 1019 (by decide +kernel) (by decide +kernel), by decide +kernel, by decide +kernel, by decide⟩
theorem ms_X10_isWay : MS yX10_isWay cX10_isWay 1 (some .boolean) 1 := ⟨tb_in 488 (by decide +kernel) (by decide +kernel), tb_in 83 (by decide +kernel) (by decide +kernel), tb_in 489 (by decide +kernel) (by decide +kernel), by decide +kernel, by decide +kernel, by decide⟩
theorem mi_X10_item : MI yX10_item cX10_item 4 (some .int) 3 10 := ⟨⟨_, rfl, rfl⟩, by decide, tb_in 987 (by decide +kernel) (by decide +kernel), tb_in 988 (by decide +kernel) (by decide +kernel), tb_in 83 (by decide +kernel) (by decide +kernel), tb_in 989 (by decide +kernel) (by decide +kernel), by decide +kernel, by decide +kernel, by decide⟩
theorem mi_X10_judge : MI yX10_judge cX10_judge 7 (some .int) 1 10 := ⟨⟨_, rfl, rfl⟩, by decide, tb_in 957 (by decide +kernel) (by decide +kernel), tb_in 958 (by decide +kernel) (by decide +kernel), tb_in 83 (by decide +kernel) (by decide +kernel), tb_in 959 (by decide +kernel) (by decide +kernel), by decide +kernel, by decide +kernel, by decide⟩
theorem mi_X10_jump : MI yX10_jump cX10_jump 18 (some .long) 2 10 := ⟨⟨_, rfl, rfl⟩, by decide, tb_in 847 (by decide +kernel) (by decide +kernel), tb_in 848 (by decide +kernel) (by decide +kernel), tb_in 83 (by decide +kernel) (by decide +kernel), tb_in 849 (by decide +kernel) (by decide +kernel), by decide +kernel, by decide +kernel, by decide⟩
theorem mi_X10_keep : MI yX10_keep cX10_keep 1 (some .int) 0 10 := ⟨⟨_, rfl, rfl⟩, by decide, tb_in 1084 (by decide +kernel) (by decide +kernel), tb_in 1085 (by decide +kernel) (by decide +kernel), tb_in 83 (by decide +kernel) (by decide +kernel), tb_in 1086 (by decide +kernel) (by decide +kernel), by decide +kernel, by decide +kernel, by decide⟩
theorem mi_X10_later : MI yX10_later cX10_later 2 (some .int) 1 10 := ⟨⟨_, rfl, rfl⟩, by decide, tb_in 472 (by decide +kernel) (by decide +kernel), tb_in 473 (by decide +kernel) (by decide +kernel), tb_in 83 (by decide +kernel) (by decide +kernel), tb_in 474 (by decide +kernel) (by decide +kernel), by decide +kernel, by decide +kernel, by decide⟩
theorem mi_X10_least : MI yX10_least cX10_least 9 (some .int) 2 10 := ⟨⟨_, rfl, rfl⟩, by decide, tb_in 793 (by decide +kernel) (by decide +kernel), tb_in 794 (by decide +kernel) (by decide +kernel), tb_in 83 (by decide +kernel) (by decide +kernel), tb_in 795 (by decide +kernel) (by decide +kernel), by decide +kernel, by decide +kernel, by decide⟩
theorem mi_X10_likely : MI yX10_likely cX10_likely 1 (some .int) 0 10 := ⟨⟨_, rfl, rfl⟩, by decide, tb_in 735 (by decide +kernel) (by decide +kernel), tb_in 736 (by decide +kernel) (by decide +kernel), tb_in 83 (by decide +kernel) (by decide +kernel), tb_in 737 (by decide +kernel) (by decide +kernel), by decide +kernel, by decide +kernel, by decide⟩
theorem mi_X10_lots : MI yX10_lots cX10_lots 2 (some .int) 1 10 := ⟨⟨_, rfl, rfl⟩, by decide, tb_in 480 (by decide +kernel) (by decide +kernel), tb_in 481 (by decide +kernel) (by decide +kernel), tb_in 83 (by decide +kernel) (by decide +kernel), tb_in 482 (by decide +kernel) (by decide +kernel), by decide +kernel, by decide +kernel, by decide⟩
theorem mi_X10_many : MI yX10_many cX10_many 2 (some .int) 1 10 := ⟨⟨_, rfl, rfl⟩, by decide, tb_in 1080 (by decide +kernel) (by decide +kernel), tb_in 1081 (by decide +kernel) (by decide +kernel), tb_in 83 (by decide +kernel) (by decide +kernel), tb_in 1082 (by decide +kernel) (by decide +kernel), by decide +kernel, by decide +kernel, by decide⟩
theorem mi_X10_miss : MI yX10_miss cX10_miss 2 (some .int) 1 10 := ⟨⟨_, rfl, rfl⟩, by decide, tb_in 719 (by decide +kernel) (by decide +kernel), tb_in 720 (by decide +kernel) (by decide +kernel), tb_in 83 (by decide +kernel) (by decide +kernel), tb_in 721 (by decide +kernel) (by decide +kernel), by decide +kernel, by decide +kernel, by decide⟩
theorem mi_X10_month : MI yX10_month cX10_month 6 (some .long) 3 10 := ⟨⟨_, rfl, rfl⟩, by decide, tb_in 856 (by decide +kernel) (by decide +kernel), tb_in 857 (by decide +kernel) (by decide +kernel), tb_in 83 (by decide +kernel) (by decide +kernel), tb_in 858 (by decide +kernel) (by decide +kernel), by decide +kernel, by decide +kernel, by decide⟩
theorem mi_X10_next : MI yX10_next cX10_next 9 (some .int) 2 10 := ⟨⟨_, rfl, rfl⟩, by decide, tb_in 772 (by decide +kernel) (by decide +kernel), tb_in 773 (by decide +kernel) (by decide +kernel), tb_in 83 (by decide +kernel) (by decide +kernel), tb_in 774 (by decide +kernel) (by decide +kernel), by decide +kernel, by decide +kernel, by decide⟩
theorem mi_X10_noise : MI yX10_noise cX10_noise 3 (some .int) 1 10 := ⟨⟨_, rfl, rfl⟩, by decide, tb_in 476 (by decide +kernel) (by decide +kernel), tb_in 477 (by decide +kernel) (by decide +kernel), tb_in 83 (by decide +kernel) (by decide +kernel), tb_in 478 (by decide +kernel) (by decide +kernel), by decide +kernel, by decide +kernel, by decide⟩
theorem mi_X10_odds : MI yX10_odds cX10_odds 6 (some .long) 2 10 := ⟨⟨_, rfl, rfl⟩, by decide, tb_in 744 (by decide +kernel) (by decide +kernel), tb_in 745 (by decide +kernel) (by decide +kernel), tb_in 83 (by decide +kernel) (by decide +kernel), tb_in 746 (by decide +kernel) (by decide +kernel), by decide +kernel, by decide +kernel, by decide⟩
theorem mi_X10_of : MI yX10_of cX10_of 4 (some .int) 2 10 := ⟨⟨_, rfl, rfl⟩, by decide, tb_in 452 (by decide +kernel) (by decide +kernel), tb_in 453 (by decide +kernel) (by decide +kernel), tb_in 83 (by decide +kernel) (by decide +kernel), tb_in 454 (by decide +kernel) (by decide +kernel), by decide +kernel, by decide +kernel, by decide⟩
theorem mi_X10_older : MI yX10_older cX10_older 4 (some .int) 3 10 := ⟨⟨_, rfl, rfl⟩, by decide, tb_in 509 (by decide +kernel) (by decide +kernel), tb_in 510 (by decide +kernel) (by decide +kernel), tb_in 83 (by decide +kernel) (by decide +kernel), tb_in 511 (by decide +kernel) (by decide +kernel), by decide +kernel, by decide +kernel, by decide⟩
theorem mi_X10_part : MI yX10_part cX10_part 7 (some .int) 5 10 := ⟨⟨_, rfl, rfl⟩, by decide, tb_in 441 (by decide +kernel) (by decide +kernel), tb_in 442 (by decide +kernel) (by decide +kernel), tb_in 83 (by decide +kernel) (by decide +kernel), tb_in 443 (by decide +kernel) (by decide +kernel), by decide +kernel, by decide +kernel, by decide⟩
theorem mi_X10_partsAll : MI yX10_partsAll cX10_partsAll 4 (some .boolean) 2 10 := ⟨⟨_, rfl, rfl⟩, by decide, tb_in 802 (by decide +kernel) (by decide +kernel), tb_in 7 (by decide +kernel) (by decide +kernel), tb_in 83 (by decide +kernel) (by decide +kernel), tb_in 803 (by decide +kernel) (by decide +kernel), by decide +kernel, by decide +kernel, by decide⟩
theorem mi_X10_prove : MI yX10_prove cX10_prove 6 (some .int) 1 10 := ⟨⟨_, rfl, rfl⟩, by decide, tb_in 941 (by decide +kernel) (by decide +kernel), tb_in 942 (by decide +kernel) (by decide +kernel), tb_in 83 (by decide +kernel) (by decide +kernel), tb_in 943 (by decide +kernel) (by decide +kernel), by decide +kernel, by decide +kernel, by decide⟩
theorem mi_X10_put : MI yX10_put cX10_put 4 (some .int) 3 10 := ⟨⟨_, rfl, rfl⟩, by decide, tb_in 975 (by decide +kernel) (by decide +kernel), tb_in 976 (by decide +kernel) (by decide +kernel), tb_in 83 (by decide +kernel) (by decide +kernel), tb_in 977 (by decide +kernel) (by decide +kernel), by decide +kernel, by decide +kernel, by decide⟩
theorem mi_X10_ran : MI yX10_ran cX10_ran 3 (some .int) 2 10 := ⟨⟨_, rfl, rfl⟩, by decide, tb_in 513 (by decide +kernel) (by decide +kernel), tb_in 514 (by decide +kernel) (by decide +kernel), tb_in 83 (by decide +kernel) (by decide +kernel), tb_in 515 (by decide +kernel) (by decide +kernel), by decide +kernel, by decide +kernel, by decide⟩
theorem mi_X10_row : MI yX10_row cX10_row 3 (some .int) 2 10 := ⟨⟨_, rfl, rfl⟩, by decide, tb_in 945 (by decide +kernel) (by decide +kernel), tb_in 946 (by decide +kernel) (by decide +kernel), tb_in 83 (by decide +kernel) (by decide +kernel), tb_in 947 (by decide +kernel) (by decide +kernel), by decide +kernel, by decide +kernel, by decide⟩
theorem mi_X10_run : MI yX10_run cX10_run 4 (some .int) 1 10 := ⟨⟨_, rfl, rfl⟩, by decide, tb_in 484 (by decide +kernel) (by decide +kernel), tb_in 485 (by decide +kernel) (by decide +kernel), tb_in 83 (by decide +kernel) (by decide +kernel), tb_in 486 (by decide +kernel) (by decide +kernel), by decide +kernel, by decide +kernel, by decide⟩
theorem mi_X10_same : MI yX10_same cX10_same 6 (some .int) 3 10 := ⟨⟨_, rfl, rfl⟩, by decide, tb_in 768 (by decide +kernel) (by decide +kernel), tb_in 769 (by decide +kernel) (by decide +kernel), tb_in 83 (by decide +kernel) (by decide +kernel), tb_in 770 (by decide +kernel) (by decide +kernel), by decide +kernel, by decide +kernel, by decide⟩
theorem mi_X10_sheet : MI yX10_sheet cX10_sheet 4 (some .int) 3 10 := ⟨⟨_, rfl, rfl⟩, by decide, tb_in 961 (by decide +kernel) (by decide +kernel), tb_in 962 (by decide +kernel) (by decide +kernel), tb_in 83 (by decide +kernel) (by decide +kernel), tb_in 963 (by decide +kernel) (by decide +kernel), by decide +kernel, by decide +kernel, by decide⟩
theorem mi_X10_shelf : MI yX10_shelf cX10_shelf 4 (some .int) 3 10 := ⟨⟨_, rfl, rfl⟩, by decide, tb_in 991 (by decide +kernel) (by decide +kernel), tb_in 992 (by decide +kernel) (by decide +kernel), tb_in 83 (by decide +kernel) (by decide +kernel), tb_in 993 (by decide +kernel) (by decide +kernel), by decide +kernel, by decide +kernel, by decide⟩
theorem mi_X10_sign : MI yX10_sign cX10_sign 6 (some .int) 0 10 := ⟨⟨_, rfl, rfl⟩, by decide, tb_in 937 (by decide +kernel) (by decide +kernel), tb_in 938 (by decide +kernel) (by decide +kernel), tb_in 83 (by decide +kernel) (by decide +kernel), tb_in 939 (by decide +kernel) (by decide +kernel), by decide +kernel, by decide +kernel, by decide⟩
theorem mi_X10_span : MI yX10_span cX10_span 3 (some .int) 2 10 := ⟨⟨_, rfl, rfl⟩, by decide, tb_in 805 (by decide +kernel) (by decide +kernel), tb_in 806 (by decide +kernel) (by decide +kernel), tb_in 83 (by decide +kernel) (by decide +kernel), tb_in 807 (by decide +kernel) (by decide +kernel), by decide +kernel, by decide +kernel, by decide⟩
theorem mi_X10_story : MI yX10_story cX10_story 2 (some .int) 1 10 := ⟨⟨_, rfl, rfl⟩, by decide, tb_in 526 (by decide +kernel) (by decide +kernel), tb_in 527 (by decide +kernel) (by decide +kernel), tb_in 83 (by decide +kernel) (by decide +kernel), tb_in 528 (by decide +kernel) (by decide +kernel), by decide +kernel, by decide +kernel, by decide⟩
theorem mi_X10_sure : MI yX10_sure cX10_sure 4 (some .int) 1 10 := ⟨⟨_, rfl, rfl⟩, by decide, tb_in 817 (by decide +kernel) (by decide +kernel), tb_in 818 (by decide +kernel) (by decide +kernel), tb_in 83 (by decide +kernel) (by decide +kernel), tb_in 819 (by decide +kernel) (by decide +kernel), by decide +kernel, by decide +kernel, by decide⟩
theorem mi_X10_taken : MI yX10_taken cX10_taken 7 (some .int) 2 10 := ⟨⟨_, rfl, rfl⟩, by decide, tb_in 1010 (by decide +kernel) (by decide +kernel), tb_in 1011 (by decide +kernel) (by decide +kernel), tb_in 83 (by decide +kernel) (by decide +kernel), tb_in 1012 (by decide +kernel) (by decide +kernel), by decide +kernel, by decide +kernel, by decide⟩
theorem mi_X10_trace : MI yX10_trace cX10_trace 2 (some .int) 1 10 := ⟨⟨_, rfl, rfl⟩, by decide, tb_in 1076 (by decide +kernel) (by decide +kernel), tb_in 1077 (by decide +kernel) (by decide +kernel), tb_in 83 (by decide +kernel) (by decide +kernel), tb_in 1078 (by decide +kernel) (by decide +kernel), by decide +kernel, by decide +kernel, by decide⟩
theorem mi_X10_tryout : MI yX10_tryout cX10_tryout 6 (some .int) 2 10 := ⟨⟨_, rfl, rfl⟩, by decide, tb_in 517 (by decide +kernel) (by decide +kernel), tb_in 518 (by decide +kernel) (by decide +kernel), tb_in 83 (by decide +kernel) (by decide +kernel), tb_in 519 (by decide +kernel) (by decide +kernel), by decide +kernel, by decide +kernel, by decide⟩
theorem mi_X10_twosParted : MI yX10_twosParted cX10_twosParted 5 (some .int) 2 10 := ⟨⟨_, rfl, rfl⟩, by decide, tb_in 790 (by decide +kernel) (by decide +kernel), tb_in 6 (by decide +kernel) (by decide +kernel), tb_in 83 (by decide +kernel) (by decide +kernel), tb_in 791 (by decide +kernel) (by decide +kernel), by decide +kernel, by decide +kernel, by decide⟩
theorem mi_X10_useTape : MI yX10_useTape cX10_useTape 1 none 0 10 := ⟨⟨_, rfl, rfl⟩, by decide, tb_in 531 (by decide +kernel) (by decide +kernel), tb_in 0 (by decide +kernel) (by decide +kernel), tb_in 83 (by decide +kernel) (by decide +kernel), tb_in 532 (by decide +kernel) (by decide +kernel), by decide +kernel, by decide +kernel, by decide⟩
theorem ms_X10_within : MS yX10_within cX10_within 3 (some .boolean) 3 := ⟨tb_in 445 (by decide +kernel) (by decide +kernel), tb_in 83 (by decide +kernel) (by decide +kernel), tb_in 446 (by decide +kernel) (by decide +kernel), by decide +kernel, by decide +kernel, by decide⟩
theorem mi_X11_act : MI yX11_act cX11_act 5 (some .int) 3 11 := ⟨⟨_, rfl, rfl⟩, by decide, tb_in 1689 (by decide +kernel) (by decide +kernel), tb_in 1690 (by decide +kernel) (by decide +kernel), tb_in 94 (by decide +kernel) (by decide +kernel), tb_in 1691 (by decide +kernel) (by decide +kernel), by decide +kernel, by decide +kernel, by decide⟩
theorem mi_X11_addRun : MI yX11_addRun cX11_addRun 4 (some .int) 3 11 := ⟨⟨_, rfl, rfl⟩, by decide, tb_in 1330 (by decide +kernel) (by decide +kernel), tb_in 27 (by decide +kernel) (by decide +kernel), tb_in 94 (by decide +kernel) (by decide +kernel), tb_in 1331 (by decide +kernel) (by decide +kernel), by decide +kernel, by decide +kernel, by decide⟩
theorem mi_X11_advance : MI yX11_advance cX11_advance 2 none 0 11 := ⟨⟨_, rfl, rfl⟩, by decide, tb_in 1359 (by decide +kernel) (by decide +kernel), tb_in 29 (by decide +kernel) (by decide +kernel), tb_in 94 (by decide +kernel) (by decide +kernel), tb_in 1360 (by decide +kernel) (by decide +kernel), by decide +kernel, by decide +kernel, by decide⟩
theorem mi_X11_alterRow : MI yX11_alterRow cX11_alterRow 5 (some .int) 3 11 := ⟨⟨_, rfl, rfl⟩, by decide, tb_in 1643 (by decide +kernel) (by decide +kernel), tb_in 1644 (by decide +kernel) (by decide +kernel), tb_in 94 (by decide +kernel) (by decide +kernel), tb_in 1645 (by decide +kernel) (by decide +kernel), by decide +kernel, by decide +kernel, by decide⟩
theorem mi_X11_back : MI yX11_back cX11_back 1 (some .int) 0 11 := ⟨⟨_, rfl, rfl⟩, by decide, tb_in 1745 (by decide +kernel) (by decide +kernel), tb_in 1746 (by decide +kernel) (by decide +kernel), tb_in 94 (by decide +kernel) (by decide +kernel), tb_in 1747 (by decide +kernel) (by decide +kernel), by decide +kernel, by decide +kernel, by decide⟩
theorem mi_X11_begin : MI yX11_begin cX11_begin 1 none 0 11 := ⟨⟨_, rfl, rfl⟩, by decide, tb_in 1355 (by decide +kernel) (by decide +kernel), tb_in 28 (by decide +kernel) (by decide +kernel), tb_in 94 (by decide +kernel) (by decide +kernel), tb_in 1356 (by decide +kernel) (by decide +kernel), by decide +kernel, by decide +kernel, by decide⟩
theorem mi_X11_beginAt : MI yX11_beginAt cX11_beginAt 1 none 0 11 := ⟨⟨_, rfl, rfl⟩, by decide, tb_in 1559 (by decide +kernel) (by decide +kernel), tb_in 57 (by decide +kernel) (by decide +kernel), tb_in 94 (by decide +kernel) (by decide +kernel), tb_in 1560 (by decide +kernel) (by decide +kernel), by decide +kernel, by decide +kernel, by decide⟩
theorem mi_X11_beginOne : MI yX11_beginOne cX11_beginOne 1 none 0 11 := ⟨⟨_, rfl, rfl⟩, by decide, tb_in 1544 (by decide +kernel) (by decide +kernel), tb_in 54 (by decide +kernel) (by decide +kernel), tb_in 94 (by decide +kernel) (by decide +kernel), tb_in 1545 (by decide +kernel) (by decide +kernel), by decide +kernel, by decide +kernel, by decide⟩
theorem ms_X11_binds : MS yX11_binds cX11_binds 1 (some .int) 1 := ⟨tb_in 1595 (by decide +kernel) (by decide +kernel), tb_in 94 (by decide +kernel) (by decide +kernel), tb_in 1596 (by decide +kernel) (by decide +kernel), by decide +kernel, by decide +kernel, by decide⟩
theorem mi_X11_body : MI yX11_body cX11_body 2 none 1 11 := ⟨⟨_, rfl, rfl⟩, by decide, tb_in 1698 (by decide +kernel) (by decide +kernel), tb_in 73 (by decide +kernel) (by decide +kernel), tb_in 94 (by decide +kernel) (by decide +kernel), tb_in 1699 (by decide +kernel) (by decide +kernel), by decide +kernel, by decide +kernel, by decide⟩
theorem mi_X11_boundsIt : MI yX11_boundsIt cX11_boundsIt 3 (some .int) 1 11 := ⟨⟨_, rfl, rfl⟩, by decide, tb_in 1710 (by decide +kernel) (by decide +kernel), tb_in 76 (by decide +kernel) (by decide +kernel), tb_in 94 (by decide +kernel) (by decide +kernel), tb_in 1711 (by decide +kernel) (by decide +kernel), by decide +kernel, by decide +kernel, by decide⟩
theorem mi_X11_byteAt : MI yX11_byteAt cX11_byteAt 2 (some .int) 1 11 := ⟨⟨_, rfl, rfl⟩, by decide, tb_in 1363 (by decide +kernel) (by decide +kernel), tb_in 30 (by decide +kernel) (by decide +kernel), tb_in 94 (by decide +kernel) (by decide +kernel), tb_in 1364 (by decide +kernel) (by decide +kernel), by decide +kernel, by decide +kernel, by decide⟩
theorem mi_X11_could : MI yX11_could cX11_could 5 (some .int) 2 11 := ⟨⟨_, rfl, rfl⟩, by decide, tb_in 1511 (by decide +kernel) (by decide +kernel), tb_in 1512 (by decide +kernel) (by decide +kernel), tb_in 94 (by decide +kernel) (by decide +kernel), tb_in 1513 (by decide +kernel) (by decide +kernel), by decide +kernel, by decide +kernel, by decide⟩
theorem mi_X11_emit : MI yX11_emit cX11_emit 2 none 1 11 := ⟨⟨_, rfl, rfl⟩, by decide, tb_in 1575 (by decide +kernel) (by decide +kernel), tb_in 59 (by decide +kernel) (by decide +kernel), tb_in 94 (by decide +kernel) (by decide +kernel), tb_in 1576 (by decide +kernel) (by decide +kernel), by decide +kernel, by decide +kernel, by decide⟩
theorem mi_X11_ends : MI yX11_ends cX11_ends 2 none 1 11 := ⟨⟨_, rfl, rfl⟩, by decide, tb_in 1579 (by decide +kernel) (by decide +kernel), tb_in 60 (by decide +kernel) (by decide +kernel), tb_in 94 (by decide +kernel) (by decide +kernel), tb_in 1580 (by decide +kernel) (by decide +kernel), by decide +kernel, by decide +kernel, by decide⟩
theorem mi_X11_fact : MI yX11_fact cX11_fact 2 (some .int) 1 11 := ⟨⟨_, rfl, rfl⟩, by decide, tb_in 1604 (by decide +kernel) (by decide +kernel), tb_in 1605 (by decide +kernel) (by decide +kernel), tb_in 94 (by decide +kernel) (by decide +kernel), tb_in 1606 (by decide +kernel) (by decide +kernel), by decide +kernel, by decide +kernel, by decide⟩
theorem mi_X11_factHere : MI yX11_factHere cX11_factHere 1 (some .int) 0 11 := ⟨⟨_, rfl, rfl⟩, by decide, tb_in 1564 (by decide +kernel) (by decide +kernel), tb_in 58 (by decide +kernel) (by decide +kernel), tb_in 94 (by decide +kernel) (by decide +kernel), tb_in 1565 (by decide +kernel) (by decide +kernel), by decide +kernel, by decide +kernel, by decide⟩
theorem mi_X11_factOf : MI yX11_factOf cX11_factOf 5 (some .int) 1 11 := ⟨⟨_, rfl, rfl⟩, by decide, tb_in 1609 (by decide +kernel) (by decide +kernel), tb_in 65 (by decide +kernel) (by decide +kernel), tb_in 94 (by decide +kernel) (by decide +kernel), tb_in 1610 (by decide +kernel) (by decide +kernel), by decide +kernel, by decide +kernel, by decide⟩
theorem mi_X11_fail : MI yX11_fail cX11_fail 4 (some .int) 3 11 := ⟨⟨_, rfl, rfl⟩, by decide, tb_in 1290 (by decide +kernel) (by decide +kernel), tb_in 1291 (by decide +kernel) (by decide +kernel), tb_in 94 (by decide +kernel) (by decide +kernel), tb_in 1292 (by decide +kernel) (by decide +kernel), by decide +kernel, by decide +kernel, by decide⟩
theorem mi_X11_far : MI yX11_far cX11_far 3 (some .int) 2 11 := ⟨⟨_, rfl, rfl⟩, by decide, tb_in 1438 (by decide +kernel) (by decide +kernel), tb_in 42 (by decide +kernel) (by decide +kernel), tb_in 94 (by decide +kernel) (by decide +kernel), tb_in 1439 (by decide +kernel) (by decide +kernel), by decide +kernel, by decide +kernel, by decide⟩
theorem mi_X11_feed : MI yX11_feed cX11_feed 5 (some .int) 2 11 := ⟨⟨_, rfl, rfl⟩, by decide, tb_in 1345 (by decide +kernel) (by decide +kernel), tb_in 1346 (by decide +kernel) (by decide +kernel), tb_in 94 (by decide +kernel) (by decide +kernel), tb_in 1347 (by decide +kernel) (by decide +kernel), by decide +kernel, by decide +kernel, by decide⟩
theorem mi_X11_findFacts : MI yX11_findFacts cX11_findFacts 2 none 0 11 := ⟨⟨_, rfl, rfl⟩, by decide, tb_in 1617 (by decide +kernel) (by decide +kernel), tb_in 66 (by decide +kernel) (by decide +kernel), tb_in 94 (by decide +kernel) (by decide +kernel), tb_in 1618 (by decide +kernel) (by decide +kernel), by decide +kernel, by decide +kernel, by decide⟩
theorem mi_X11_finds : MI yX11_finds cX11_finds 3 (some .int) 2 11 := ⟨⟨_, rfl, rfl⟩, by decide, tb_in 1421 (by decide +kernel) (by decide +kernel), tb_in 1422 (by decide +kernel) (by decide +kernel), tb_in 94 (by decide +kernel) (by decide +kernel), tb_in 1423 (by decide +kernel) (by decide +kernel), by decide +kernel, by decide +kernel, by decide⟩
theorem mi_X11_findsBy : MI yX11_findsBy cX11_findsBy 6 (some .int) 2 11 := ⟨⟨_, rfl, rfl⟩, by decide, tb_in 1426 (by decide +kernel) (by decide +kernel), tb_in 40 (by decide +kernel) (by decide +kernel), tb_in 94 (by decide +kernel) (by decide +kernel), tb_in 1427 (by decide +kernel) (by decide +kernel), by decide +kernel, by decide +kernel, by decide⟩
theorem mi_X11_fits : MI yX11_fits cX11_fits 7 (some .int) 2 11 := ⟨⟨_, rfl, rfl⟩, by decide, tb_in 1518 (by decide +kernel) (by decide +kernel), tb_in 1519 (by decide +kernel) (by decide +kernel), tb_in 94 (by decide +kernel) (by decide +kernel), tb_in 1520 (by decide +kernel) (by decide +kernel), by decide +kernel, by decide +kernel, by decide⟩
theorem mi_X11_gives : MI yX11_gives cX11_gives 4 (some .int) 3 11 := ⟨⟨_, rfl, rfl⟩, by decide, tb_in 1409 (by decide +kernel) (by decide +kernel), tb_in 1410 (by decide +kernel) (by decide +kernel), tb_in 94 (by decide +kernel) (by decide +kernel), tb_in 1411 (by decide +kernel) (by decide +kernel), by decide +kernel, by decide +kernel, by decide⟩
theorem mi_X11_givesBy : MI yX11_givesBy cX11_givesBy 9 (some .int) 3 11 := ⟨⟨_, rfl, rfl⟩, by decide, tb_in 1418 (by decide +kernel) (by decide +kernel), tb_in 39 (by decide +kernel) (by decide +kernel), tb_in 94 (by decide +kernel) (by decide +kernel), tb_in 1419 (by decide +kernel) (by decide +kernel), by decide +kernel, by decide +kernel, by decide⟩
theorem mi_X11_goOnAt : MI yX11_goOnAt cX11_goOnAt 2 none 0 11 := ⟨⟨_, rfl, rfl⟩, by decide, tb_in 1601 (by decide +kernel) (by decide +kernel), tb_in 64 (by decide +kernel) (by decide +kernel), tb_in 94 (by decide +kernel) (by decide +kernel), tb_in 1602 (by decide +kernel) (by decide +kernel), by decide +kernel, by decide +kernel, by decide⟩
theorem mi_X11_goOnEnded : MI yX11_goOnEnded cX11_goOnEnded 2 none 0 11 := ⟨⟨_, rfl, rfl⟩, by decide, tb_in 1587 (by decide +kernel) (by decide +kernel), tb_in 62 (by decide +kernel) (by decide +kernel), tb_in 94 (by decide +kernel) (by decide +kernel), tb_in 1588 (by decide +kernel) (by decide +kernel), by decide +kernel, by decide +kernel, by decide⟩
theorem mi_X11_holds : MI yX11_holds cX11_holds 3 (some .int) 2 11 := ⟨⟨_, rfl, rfl⟩, by decide, tb_in 1612 (by decide +kernel) (by decide +kernel), tb_in 1613 (by decide +kernel) (by decide +kernel), tb_in 94 (by decide +kernel) (by decide +kernel), tb_in 1614 (by decide +kernel) (by decide +kernel), by decide +kernel, by decide +kernel, by decide⟩
theorem mi_X11_house : MI yX11_house cX11_house 2 (some .int) 0 11 := ⟨⟨_, rfl, rfl⟩, by decide, tb_in 1535 (by decide +kernel) (by decide +kernel), tb_in 1536 (by decide +kernel) (by decide +kernel), tb_in 94 (by decide +kernel) (by decide +kernel), tb_in 1537 (by decide +kernel) (by decide +kernel), by decide +kernel, by decide +kernel, by decide⟩
theorem ms_X11_in : MS yX11_in cX11_in 3 (some .boolean) 3 := ⟨tb_in 1274 (by decide +kernel) (by decide +kernel), tb_in 94 (by decide +kernel) (by decide +kernel), tb_in 1275 (by decide +kernel) (by decide +kernel), by decide +kernel, by decide +kernel, by decide⟩
theorem mc_X11_init : MC yX11_init cX11_init 1 0 := ⟨by decide +kernel, tb_in 1102 (by decide +kernel) (by decide +kernel), tb_in 94 (by decide +kernel) (by decide +kernel), tb_in 1103 (by decide +kernel) (by decide +kernel), by decide +kernel, by decide +kernel, by decide⟩
theorem ms_X11_isDay : MS yX11_isDay cX11_isDay 1 (some .boolean) 1 := ⟨tb_in 1294 (by decide +kernel) (by decide +kernel), tb_in 94 (by decide +kernel) (by decide +kernel), tb_in 1295 (by decide +kernel) (by decide +kernel), by decide +kernel, by decide +kernel, by decide⟩
theorem ms_X11_isDigit : MS yX11_isDigit cX11_isDigit 1 (some .boolean) 1 := ⟨tb_in 1369 (by decide +kernel) (by decide +kernel), tb_in 94 (by decide +kernel) (by decide +kernel), tb_in 1370 (by decide +kernel) (by decide +kernel), by decide +kernel, by decide +kernel, by decide⟩
theorem ms_X11_isFar : MS yX11_isFar cX11_isFar 1 (some .boolean) 1 := ⟨tb_in 1515 (by decide +kernel) (by decide +kernel), tb_in 94 (by decide +kernel) (by decide +kernel), tb_in 1516 (by decide +kernel) (by decide +kernel), by decide +kernel, by decide +kernel, by decide⟩
theorem mi_X11_isHeld : MI yX11_isHeld cX11_isHeld 3 (some .boolean) 2 11 := ⟨⟨_, rfl, rfl⟩, by decide, tb_in 1675 (by decide +kernel) (by decide +kernel), tb_in 70 (by decide +kernel) (by decide +kernel), tb_in 94 (by decide +kernel) (by decide +kernel), tb_in 1676 (by decide +kernel) (by decide +kernel), by decide +kernel, by decide +kernel, by decide⟩
theorem ms_X11_isLetter : MS yX11_isLetter cX11_isLetter 1 (some .boolean) 1 := ⟨tb_in 1366 (by decide +kernel) (by decide +kernel), tb_in 94 (by decide +kernel) (by decide +kernel), tb_in 1367 (by decide +kernel) (by decide +kernel), by decide +kernel, by decide +kernel, by decide⟩
theorem mi_X11_isMark : MI yX11_isMark cX11_isMark 2 (some .boolean) 1 11 := ⟨⟨_, rfl, rfl⟩, by decide, tb_in 1391 (by decide +kernel) (by decide +kernel), tb_in 34 (by decide +kernel) (by decide +kernel), tb_in 94 (by decide +kernel) (by decide +kernel), tb_in 1392 (by decide +kernel) (by decide +kernel), by decide +kernel, by decide +kernel, by decide⟩
theorem mi_X11_isNumber : MI yX11_isNumber cX11_isNumber 1 (some .boolean) 0 11 := ⟨⟨_, rfl, rfl⟩, by decide, tb_in 1399 (by decide +kernel) (by decide +kernel), tb_in 36 (by decide +kernel) (by decide +kernel), tb_in 94 (by decide +kernel) (by decide +kernel), tb_in 1400 (by decide +kernel) (by decide +kernel), by decide +kernel, by decide +kernel, by decide⟩
theorem mi_X11_isOn : MI yX11_isOn cX11_isOn 3 (some .boolean) 2 11 := ⟨⟨_, rfl, rfl⟩, by decide, tb_in 1322 (by decide +kernel) (by decide +kernel), tb_in 25 (by decide +kernel) (by decide +kernel), tb_in 94 (by decide +kernel) (by decide +kernel), tb_in 1323 (by decide +kernel) (by decide +kernel), by decide +kernel, by decide +kernel, by decide⟩
theorem mi_X11_isPart : MI yX11_isPart cX11_isPart 2 (some .boolean) 1 11 := ⟨⟨_, rfl, rfl⟩, by decide, tb_in 1282 (by decide +kernel) (by decide +kernel), tb_in 22 (by decide +kernel) (by decide +kernel), tb_in 94 (by decide +kernel) (by decide +kernel), tb_in 1283 (by decide +kernel) (by decide +kernel), by decide +kernel, by decide +kernel, by decide⟩
theorem mi_X11_isRow : MI yX11_isRow cX11_isRow 3 (some .boolean) 2 11 := ⟨⟨_, rfl, rfl⟩, by decide, tb_in 1640 (by decide +kernel) (by decide +kernel), tb_in 68 (by decide +kernel) (by decide +kernel), tb_in 94 (by decide +kernel) (by decide +kernel), tb_in 1641 (by decide +kernel) (by decide +kernel), by decide +kernel, by decide +kernel, by decide⟩
theorem mi_X11_isSet : MI yX11_isSet cX11_isSet 2 (some .boolean) 1 11 := ⟨⟨_, rfl, rfl⟩, by decide, tb_in 1476 (by decide +kernel) (by decide +kernel), tb_in 46 (by decide +kernel) (by decide +kernel), tb_in 94 (by decide +kernel) (by decide +kernel), tb_in 1477 (by decide +kernel) (by decide +kernel), by decide +kernel, by decide +kernel, by decide⟩
theorem ms_X11_isShelf : MS yX11_isShelf cX11_isShelf 1 (some .boolean) 1 := ⟨tb_in 1655 (by decide +kernel) (by decide +kernel), tb_in 94 (by decide +kernel) (by decide +kernel), tb_in 1656 (by decide +kernel) (by decide +kernel), by decide +kernel, by decide +kernel, by decide⟩
theorem ms_X11_isSide : MS yX11_isSide cX11_isSide 1 (some .boolean) 1 := ⟨tb_in 1317 (by decide +kernel) (by decide +kernel), tb_in 94 (by decide +kernel) (by decide +kernel), tb_in 1318 (by decide +kernel) (by decide +kernel), by decide +kernel, by decide +kernel, by decide⟩
theorem mi_X11_isSo : MI yX11_isSo cX11_isSo 6 (some .boolean) 2 11 := ⟨⟨_, rfl, rfl⟩, by decide, tb_in 1621 (by decide +kernel) (by decide +kernel), tb_in 67 (by decide +kernel) (by decide +kernel), tb_in 94 (by decide +kernel) (by decide +kernel), tb_in 1622 (by decide +kernel) (by decide +kernel), by decide +kernel, by decide +kernel, by decide⟩
theorem mi_X11_isStory : MI yX11_isStory cX11_isStory 2 (some .boolean) 1 11 := ⟨⟨_, rfl, rfl⟩, by decide, tb_in 1414 (by decide +kernel) (by decide +kernel), tb_in 38 (by decide +kernel) (by decide +kernel), tb_in 94 (by decide +kernel) (by decide +kernel), tb_in 1415 (by decide +kernel) (by decide +kernel), by decide +kernel, by decide +kernel, by decide⟩
theorem ms_X11_isUnder : MS yX11_isUnder cX11_isUnder 2 (some .boolean) 2 := ⟨tb_in 1686 (by decide +kernel) (by decide +kernel), tb_in 94 (by decide +kernel) (by decide +kernel), tb_in 1687 (by decide +kernel) (by decide +kernel), by decide +kernel, by decide +kernel, by decide⟩
theorem mi_X11_isWord : MI yX11_isWord cX11_isWord 3 (some .boolean) 1 11 := ⟨⟨_, rfl, rfl⟩, by decide, tb_in 1377 (by decide +kernel) (by decide +kernel), tb_in 31 (by decide +kernel) (by decide +kernel), tb_in 94 (by decide +kernel) (by decide +kernel), tb_in 1378 (by decide +kernel) (by decide +kernel), by decide +kernel, by decide +kernel, by decide⟩
theorem mi_X11_item : MI yX11_item cX11_item 5 (some .int) 3 11 := ⟨⟨_, rfl, rfl⟩, by decide, tb_in 1662 (by decide +kernel) (by decide +kernel), tb_in 1663 (by decide +kernel) (by decide +kernel), tb_in 94 (by decide +kernel) (by decide +kernel), tb_in 1664 (by decide +kernel) (by decide +kernel), by decide +kernel, by decide +kernel, by decide⟩
theorem mi_X11_its : MI yX11_its cX11_its 3 (some .int) 2 11 := ⟨⟨_, rfl, rfl⟩, by decide, tb_in 1286 (by decide +kernel) (by decide +kernel), tb_in 23 (by decide +kernel) (by decide +kernel), tb_in 94 (by decide +kernel) (by decide +kernel), tb_in 1287 (by decide +kernel) (by decide +kernel), by decide +kernel, by decide +kernel, by decide⟩
theorem ms_X11_joined : MS yX11_joined cX11_joined 3 (some .int) 3 := ⟨tb_in 1624 (by decide +kernel) (by decide +kernel), tb_in 94 (by decide +kernel) (by decide +kernel), tb_in 1625 (by decide +kernel) (by decide +kernel), by decide +kernel, by decide +kernel, by decide⟩
theorem mi_X11_judge : MI yX11_judge cX11_judge 5 (some .int) 1 11 := ⟨⟨_, rfl, rfl⟩, by decide, tb_in 1647 (by decide +kernel) (by decide +kernel), tb_in 1648 (by decide +kernel) (by decide +kernel), tb_in 94 (by decide +kernel) (by decide +kernel), tb_in 1649 (by decide +kernel) (by decide +kernel), by decide +kernel, by decide +kernel, by decide⟩
theorem mi_X11_jump : MI yX11_jump cX11_jump 22 (some .long) 2 11 := ⟨⟨_, rfl, rfl⟩, by decide, tb_in 1522 (by decide +kernel) (by decide +kernel), tb_in 1523 (by decide +kernel) (by decide +kernel), tb_in 94 (by decide +kernel) (by decide +kernel), tb_in 1524 (by decide +kernel) (by decide +kernel), by decide +kernel, by decide +kernel, by decide⟩
theorem mi_X11_keep : MI yX11_keep cX11_keep 1 (some .int) 0 11 := ⟨⟨_, rfl, rfl⟩, by decide, tb_in 1733 (by decide +kernel) (by decide +kernel), tb_in 1734 (by decide +kernel) (by decide +kernel), tb_in 94 (by decide +kernel) (by decide +kernel), tb_in 1735 (by decide +kernel) (by decide +kernel), by decide +kernel, by decide +kernel, by decide⟩
theorem mi_X11_kindOn : MI yX11_kindOn cX11_kindOn 2 (some .int) 1 11 := ⟨⟨_, rfl, rfl⟩, by decide, tb_in 1683 (by decide +kernel) (by decide +kernel), tb_in 71 (by decide +kernel) (by decide +kernel), tb_in 94 (by decide +kernel) (by decide +kernel), tb_in 1684 (by decide +kernel) (by decide +kernel), by decide +kernel, by decide +kernel, by decide⟩
theorem mi_X11_lacks : MI yX11_lacks cX11_lacks 2 (some .int) 1 11 := ⟨⟨_, rfl, rfl⟩, by decide, tb_in 1326 (by decide +kernel) (by decide +kernel), tb_in 26 (by decide +kernel) (by decide +kernel), tb_in 94 (by decide +kernel) (by decide +kernel), tb_in 1327 (by decide +kernel) (by decide +kernel), by decide +kernel, by decide +kernel, by decide⟩
theorem mi_X11_lacksSort : MI yX11_lacksSort cX11_lacksSort 3 (some .int) 2 11 := ⟨⟨_, rfl, rfl⟩, by decide, tb_in 1667 (by decide +kernel) (by decide +kernel), tb_in 69 (by decide +kernel) (by decide +kernel), tb_in 94 (by decide +kernel) (by decide +kernel), tb_in 1668 (by decide +kernel) (by decide +kernel), by decide +kernel, by decide +kernel, by decide⟩
theorem mi_X11_later : MI yX11_later cX11_later 2 (some .int) 1 11 := ⟨⟨_, rfl, rfl⟩, by decide, tb_in 1301 (by decide +kernel) (by decide +kernel), tb_in 1302 (by decide +kernel) (by decide +kernel), tb_in 94 (by decide +kernel) (by decide +kernel), tb_in 1303 (by decide +kernel) (by decide +kernel), by decide +kernel, by decide +kernel, by decide⟩
theorem mi_X11_least : MI yX11_least cX11_least 10 (some .int) 2 11 := ⟨⟨_, rfl, rfl⟩, by decide, tb_in 1483 (by decide +kernel) (by decide +kernel), tb_in 1484 (by decide +kernel) (by decide +kernel), tb_in 94 (by decide +kernel) (by decide +kernel), tb_in 1485 (by decide +kernel) (by decide +kernel), by decide +kernel, by decide +kernel, by decide⟩
theorem mi_X11_likely : MI yX11_likely cX11_likely 1 (some .int) 0 11 := ⟨⟨_, rfl, rfl⟩, by decide, tb_in 1444 (by decide +kernel) (by decide +kernel), tb_in 1445 (by decide +kernel) (by decide +kernel), tb_in 94 (by decide +kernel) (by decide +kernel), tb_in 1446 (by decide +kernel) (by decide +kernel), by decide +kernel, by decide +kernel, by decide⟩
theorem mi_X11_likelyOne : MI yX11_likelyOne cX11_likelyOne 5 (some .int) 0 11 := ⟨⟨_, rfl, rfl⟩, by decide, tb_in 1449 (by decide +kernel) (by decide +kernel), tb_in 43 (by decide +kernel) (by decide +kernel), tb_in 94 (by decide +kernel) (by decide +kernel), tb_in 1450 (by decide +kernel) (by decide +kernel), by decide +kernel, by decide +kernel, by decide⟩
theorem mi_X11_lots : MI yX11_lots cX11_lots 2 (some .int) 1 11 := ⟨⟨_, rfl, rfl⟩, by decide, tb_in 1309 (by decide +kernel) (by decide +kernel), tb_in 1310 (by decide +kernel) (by decide +kernel), tb_in 94 (by decide +kernel) (by decide +kernel), tb_in 1311 (by decide +kernel) (by decide +kernel), by decide +kernel, by decide +kernel, by decide⟩
theorem mi_X11_lowest : MI yX11_lowest cX11_lowest 11 none 2 11 := ⟨⟨_, rfl, rfl⟩, by decide, tb_in 1464 (by decide +kernel) (by decide +kernel), tb_in 45 (by decide +kernel) (by decide +kernel), tb_in 94 (by decide +kernel) (by decide +kernel), tb_in 1465 (by decide +kernel) (by decide +kernel), by decide +kernel, by decide +kernel, by decide⟩
theorem mi_X11_many : MI yX11_many cX11_many 2 (some .int) 1 11 := ⟨⟨_, rfl, rfl⟩, by decide, tb_in 1729 (by decide +kernel) (by decide +kernel), tb_in 1730 (by decide +kernel) (by decide +kernel), tb_in 94 (by decide +kernel) (by decide +kernel), tb_in 1731 (by decide +kernel) (by decide +kernel), by decide +kernel, by decide +kernel, by decide⟩
theorem mi_X11_miss : MI yX11_miss cX11_miss 2 (some .int) 1 11 := ⟨⟨_, rfl, rfl⟩, by decide, tb_in 1429 (by decide +kernel) (by decide +kernel), tb_in 1430 (by decide +kernel) (by decide +kernel), tb_in 94 (by decide +kernel) (by decide +kernel), tb_in 1431 (by decide +kernel) (by decide +kernel), by decide +kernel, by decide +kernel, by decide⟩
theorem mi_X11_missOf : MI yX11_missOf cX11_missOf 4 (some .int) 1 11 := ⟨⟨_, rfl, rfl⟩, by decide, tb_in 1434 (by decide +kernel) (by decide +kernel), tb_in 41 (by decide +kernel) (by decide +kernel), tb_in 94 (by decide +kernel) (by decide +kernel), tb_in 1435 (by decide +kernel) (by decide +kernel), by decide +kernel, by decide +kernel, by decide⟩
theorem mi_X11_month : MI yX11_month cX11_month 5 (some .long) 3 11 := ⟨⟨_, rfl, rfl⟩, by decide, tb_in 1531 (by decide +kernel) (by decide +kernel), tb_in 1532 (by decide +kernel) (by decide +kernel), tb_in 94 (by decide +kernel) (by decide +kernel), tb_in 1533 (by decide +kernel) (by decide +kernel), by decide +kernel, by decide +kernel, by decide⟩
theorem mi_X11_move : MI yX11_move cX11_move 5 none 3 11 := ⟨⟨_, rfl, rfl⟩, by decide, tb_in 1742 (by decide +kernel) (by decide +kernel), tb_in 81 (by decide +kernel) (by decide +kernel), tb_in 94 (by decide +kernel) (by decide +kernel), tb_in 1743 (by decide +kernel) (by decide +kernel), by decide +kernel, by decide +kernel, by decide⟩
theorem mi_X11_moveAll : MI yX11_moveAll cX11_moveAll 2 none 1 11 := ⟨⟨_, rfl, rfl⟩, by decide, tb_in 1738 (by decide +kernel) (by decide +kernel), tb_in 80 (by decide +kernel) (by decide +kernel), tb_in 94 (by decide +kernel) (by decide +kernel), tb_in 1739 (by decide +kernel) (by decide +kernel), by decide +kernel, by decide +kernel, by decide⟩
theorem mi_X11_next : MI yX11_next cX11_next 8 (some .int) 2 11 := ⟨⟨_, rfl, rfl⟩, by decide, tb_in 1471 (by decide +kernel) (by decide +kernel), tb_in 1472 (by decide +kernel) (by decide +kernel), tb_in 94 (by decide +kernel) (by decide +kernel), tb_in 1473 (by decide +kernel) (by decide +kernel), by decide +kernel, by decide +kernel, by decide⟩
theorem mi_X11_noise : MI yX11_noise cX11_noise 3 (some .int) 1 11 := ⟨⟨_, rfl, rfl⟩, by decide, tb_in 1305 (by decide +kernel) (by decide +kernel), tb_in 1306 (by decide +kernel) (by decide +kernel), tb_in 94 (by decide +kernel) (by decide +kernel), tb_in 1307 (by decide +kernel) (by decide +kernel), by decide +kernel, by decide +kernel, by decide⟩
theorem mi_X11_odds : MI yX11_odds cX11_odds 6 (some .long) 2 11 := ⟨⟨_, rfl, rfl⟩, by decide, tb_in 1452 (by decide +kernel) (by decide +kernel), tb_in 1453 (by decide +kernel) (by decide +kernel), tb_in 94 (by decide +kernel) (by decide +kernel), tb_in 1454 (by decide +kernel) (by decide +kernel), by decide +kernel, by decide +kernel, by decide⟩
theorem mi_X11_of : MI yX11_of cX11_of 3 (some .int) 2 11 := ⟨⟨_, rfl, rfl⟩, by decide, tb_in 1277 (by decide +kernel) (by decide +kernel), tb_in 1278 (by decide +kernel) (by decide +kernel), tb_in 94 (by decide +kernel) (by decide +kernel), tb_in 1279 (by decide +kernel) (by decide +kernel), by decide +kernel, by decide +kernel, by decide⟩
theorem mi_X11_older : MI yX11_older cX11_older 4 (some .int) 3 11 := ⟨⟨_, rfl, rfl⟩, by decide, tb_in 1333 (by decide +kernel) (by decide +kernel), tb_in 1334 (by decide +kernel) (by decide +kernel), tb_in 94 (by decide +kernel) (by decide +kernel), tb_in 1335 (by decide +kernel) (by decide +kernel), by decide +kernel, by decide +kernel, by decide⟩
theorem mi_X11_opens : MI yX11_opens cX11_opens 2 none 1 11 := ⟨⟨_, rfl, rfl⟩, by decide, tb_in 1550 (by decide +kernel) (by decide +kernel), tb_in 55 (by decide +kernel) (by decide +kernel), tb_in 94 (by decide +kernel) (by decide +kernel), tb_in 1551 (by decide +kernel) (by decide +kernel), by decide +kernel, by decide +kernel, by decide⟩
theorem mi_X11_part : MI yX11_part cX11_part 7 (some .int) 5 11 := ⟨⟨_, rfl, rfl⟩, by decide, tb_in 1270 (by decide +kernel) (by decide +kernel), tb_in 1271 (by decide +kernel) (by decide +kernel), tb_in 94 (by decide +kernel) (by decide +kernel), tb_in 1272 (by decide +kernel) (by decide +kernel), by decide +kernel, by decide +kernel, by decide⟩
theorem mi_X11_partedBy : MI yX11_partedBy cX11_partedBy 6 (some .int) 2 11 := ⟨⟨_, rfl, rfl⟩, by decide, tb_in 1480 (by decide +kernel) (by decide +kernel), tb_in 47 (by decide +kernel) (by decide +kernel), tb_in 94 (by decide +kernel) (by decide +kernel), tb_in 1481 (by decide +kernel) (by decide +kernel), by decide +kernel, by decide +kernel, by decide⟩
theorem mi_X11_parting : MI yX11_parting cX11_parting 5 (some .int) 2 11 := ⟨⟨_, rfl, rfl⟩, by decide, tb_in 1488 (by decide +kernel) (by decide +kernel), tb_in 48 (by decide +kernel) (by decide +kernel), tb_in 94 (by decide +kernel) (by decide +kernel), tb_in 1489 (by decide +kernel) (by decide +kernel), by decide +kernel, by decide +kernel, by decide⟩
theorem mi_X11_pend : MI yX11_pend cX11_pend 2 none 1 11 := ⟨⟨_, rfl, rfl⟩, by decide, tb_in 1554 (by decide +kernel) (by decide +kernel), tb_in 56 (by decide +kernel) (by decide +kernel), tb_in 94 (by decide +kernel) (by decide +kernel), tb_in 1555 (by decide +kernel) (by decide +kernel), by decide +kernel, by decide +kernel, by decide⟩
theorem mi_X11_plainBounds : MI yX11_plainBounds cX11_plainBounds 2 (some .int) 1 11 := ⟨⟨_, rfl, rfl⟩, by decide, tb_in 1714 (by decide +kernel) (by decide +kernel), tb_in 77 (by decide +kernel) (by decide +kernel), tb_in 94 (by decide +kernel) (by decide +kernel), tb_in 1715 (by decide +kernel) (by decide +kernel), by decide +kernel, by decide +kernel, by decide⟩
theorem mi_X11_plainShares : MI yX11_plainShares cX11_plainShares 2 (some .int) 1 11 := ⟨⟨_, rfl, rfl⟩, by decide, tb_in 1706 (by decide +kernel) (by decide +kernel), tb_in 75 (by decide +kernel) (by decide +kernel), tb_in 94 (by decide +kernel) (by decide +kernel), tb_in 1707 (by decide +kernel) (by decide +kernel), by decide +kernel, by decide +kernel, by decide⟩
theorem mi_X11_plainTells : MI yX11_plainTells cX11_plainTells 2 (some .int) 1 11 := ⟨⟨_, rfl, rfl⟩, by decide, tb_in 1722 (by decide +kernel) (by decide +kernel), tb_in 79 (by decide +kernel) (by decide +kernel), tb_in 94 (by decide +kernel) (by decide +kernel), tb_in 1723 (by decide +kernel) (by decide +kernel), by decide +kernel, by decide +kernel, by decide⟩
theorem mi_X11_prove : MI yX11_prove cX11_prove 4 (some .int) 1 11 := ⟨⟨_, rfl, rfl⟩, by decide, tb_in 1631 (by decide +kernel) (by decide +kernel), tb_in 1632 (by decide +kernel) (by decide +kernel), tb_in 94 (by decide +kernel) (by decide +kernel), tb_in 1633 (by decide +kernel) (by decide +kernel), by decide +kernel, by decide +kernel, by decide⟩
theorem mi_X11_put : MI yX11_put cX11_put 4 (some .int) 3 11 := ⟨⟨_, rfl, rfl⟩, by decide, tb_in 1658 (by decide +kernel) (by decide +kernel), tb_in 1659 (by decide +kernel) (by decide +kernel), tb_in 94 (by decide +kernel) (by decide +kernel), tb_in 1660 (by decide +kernel) (by decide +kernel), by decide +kernel, by decide +kernel, by decide⟩
theorem mi_X11_ran : MI yX11_ran cX11_ran 3 (some .int) 2 11 := ⟨⟨_, rfl, rfl⟩, by decide, tb_in 1337 (by decide +kernel) (by decide +kernel), tb_in 1338 (by decide +kernel) (by decide +kernel), tb_in 94 (by decide +kernel) (by decide +kernel), tb_in 1339 (by decide +kernel) (by decide +kernel), by decide +kernel, by decide +kernel, by decide⟩
theorem mi_X11_rootOf : MI yX11_rootOf cX11_rootOf 4 (some .int) 1 11 := ⟨⟨_, rfl, rfl⟩, by decide, tb_in 1500 (by decide +kernel) (by decide +kernel), tb_in 50 (by decide +kernel) (by decide +kernel), tb_in 94 (by decide +kernel) (by decide +kernel), tb_in 1501 (by decide +kernel) (by decide +kernel), by decide +kernel, by decide +kernel, by decide⟩
theorem mi_X11_row : MI yX11_row cX11_row 3 (some .int) 2 11 := ⟨⟨_, rfl, rfl⟩, by decide, tb_in 1635 (by decide +kernel) (by decide +kernel), tb_in 1636 (by decide +kernel) (by decide +kernel), tb_in 94 (by decide +kernel) (by decide +kernel), tb_in 1637 (by decide +kernel) (by decide +kernel), by decide +kernel, by decide +kernel, by decide⟩
theorem mi_X11_run : MI yX11_run cX11_run 4 (some .int) 1 11 := ⟨⟨_, rfl, rfl⟩, by decide, tb_in 1313 (by decide +kernel) (by decide +kernel), tb_in 1314 (by decide +kernel) (by decide +kernel), tb_in 94 (by decide +kernel) (by decide +kernel), tb_in 1315 (by decide +kernel) (by decide +kernel), by decide +kernel, by decide +kernel, by decide⟩
theorem mi_X11_same : MI yX11_same cX11_same 6 (some .int) 3 11 := ⟨⟨_, rfl, rfl⟩, by decide, tb_in 1467 (by decide +kernel) (by decide +kernel), tb_in 1468 (by decide +kernel) (by decide +kernel), tb_in 94 (by decide +kernel) (by decide +kernel), tb_in 1469 (by decide +kernel) (by decide +kernel), by decide +kernel, by decide +kernel, by decide⟩
theorem mi_X11_settle : MI yX11_settle cX11_settle 2 none 1 11 := ⟨⟨_, rfl, rfl⟩, by decide, tb_in 1592 (by decide +kernel) (by decide +kernel), tb_in 63 (by decide +kernel) (by decide +kernel), tb_in 94 (by decide +kernel) (by decide +kernel), tb_in 1593 (by decide +kernel) (by decide +kernel), by decide +kernel, by decide +kernel, by decide⟩
theorem mi_X11_sharesIt : MI yX11_sharesIt cX11_sharesIt 3 (some .int) 1 11 := ⟨⟨_, rfl, rfl⟩, by decide, tb_in 1702 (by decide +kernel) (by decide +kernel), tb_in 74 (by decide +kernel) (by decide +kernel), tb_in 94 (by decide +kernel) (by decide +kernel), tb_in 1703 (by decide +kernel) (by decide +kernel), by decide +kernel, by decide +kernel, by decide⟩
theorem mi_X11_sheet : MI yX11_sheet cX11_sheet 5 (some .int) 3 11 := ⟨⟨_, rfl, rfl⟩, by decide, tb_in 1651 (by decide +kernel) (by decide +kernel), tb_in 1652 (by decide +kernel) (by decide +kernel), tb_in 94 (by decide +kernel) (by decide +kernel), tb_in 1653 (by decide +kernel) (by decide +kernel), by decide +kernel, by decide +kernel, by decide⟩
theorem mi_X11_shelf : MI yX11_shelf cX11_shelf 4 (some .int) 3 11 := ⟨⟨_, rfl, rfl⟩, by decide, tb_in 1670 (by decide +kernel) (by decide +kernel), tb_in 1671 (by decide +kernel) (by decide +kernel), tb_in 94 (by decide +kernel) (by decide +kernel), tb_in 1672 (by decide +kernel) (by decide +kernel), by decide +kernel, by decide +kernel, by decide⟩
theorem mi_X11_sign : MI yX11_sign cX11_sign 5 (some .int) 0 11 := ⟨⟨_, rfl, rfl⟩, by decide, tb_in 1627 (by decide +kernel) (by decide +kernel), tb_in 1628 (by decide +kernel) (by decide +kernel), tb_in 94 (by decide +kernel) (by decide +kernel), tb_in 1629 (by decide +kernel) (by decide +kernel), by decide +kernel, by decide +kernel, by decide⟩
theorem ms_X11_size : MS yX11_size cX11_size 1 (some .int) 1 := ⟨tb_in 1441 (by decide +kernel) (by decide +kernel), tb_in 94 (by decide +kernel) (by decide +kernel), tb_in 1442 (by decide +kernel) (by decide +kernel), by decide +kernel, by decide +kernel, by decide⟩
theorem mi_X11_sortRuns : MI yX11_sortRuns cX11_sortRuns 5 (some .int) 1 11 := ⟨⟨_, rfl, rfl⟩, by decide, tb_in 1528 (by decide +kernel) (by decide +kernel), tb_in 52 (by decide +kernel) (by decide +kernel), tb_in 94 (by decide +kernel) (by decide +kernel), tb_in 1529 (by decide +kernel) (by decide +kernel), by decide +kernel, by decide +kernel, by decide⟩
theorem mi_X11_span : MI yX11_span cX11_span 3 (some .int) 2 11 := ⟨⟨_, rfl, rfl⟩, by decide, tb_in 1491 (by decide +kernel) (by decide +kernel), tb_in 1492 (by decide +kernel) (by decide +kernel), tb_in 94 (by decide +kernel) (by decide +kernel), tb_in 1493 (by decide +kernel) (by decide +kernel), by decide +kernel, by decide +kernel, by decide⟩
theorem mi_X11_spanOf : MI yX11_spanOf cX11_spanOf 4 (some .int) 1 11 := ⟨⟨_, rfl, rfl⟩, by decide, tb_in 1496 (by decide +kernel) (by decide +kernel), tb_in 49 (by decide +kernel) (by decide +kernel), tb_in 94 (by decide +kernel) (by decide +kernel), tb_in 1497 (by decide +kernel) (by decide +kernel), by decide +kernel, by decide +kernel, by decide⟩
theorem mi_X11_story : MI yX11_story cX11_story 3 (some .int) 1 11 := ⟨⟨_, rfl, rfl⟩, by decide, tb_in 1350 (by decide +kernel) (by decide +kernel), tb_in 1351 (by decide +kernel) (by decide +kernel), tb_in 94 (by decide +kernel) (by decide +kernel), tb_in 1352 (by decide +kernel) (by decide +kernel), by decide +kernel, by decide +kernel, by decide⟩
theorem mi_X11_sumOf : MI yX11_sumOf cX11_sumOf 6 (some .int) 3 11 := ⟨⟨_, rfl, rfl⟩, by decide, tb_in 1508 (by decide +kernel) (by decide +kernel), tb_in 51 (by decide +kernel) (by decide +kernel), tb_in 94 (by decide +kernel) (by decide +kernel), tb_in 1509 (by decide +kernel) (by decide +kernel), by decide +kernel, by decide +kernel, by decide⟩
theorem mi_X11_sure : MI yX11_sure cX11_sure 4 (some .int) 1 11 := ⟨⟨_, rfl, rfl⟩, by decide, tb_in 1503 (by decide +kernel) (by decide +kernel), tb_in 1504 (by decide +kernel) (by decide +kernel), tb_in 94 (by decide +kernel) (by decide +kernel), tb_in 1505 (by decide +kernel) (by decide +kernel), by decide +kernel, by decide +kernel, by decide⟩
theorem mi_X11_taken : MI yX11_taken cX11_taken 4 (some .int) 2 11 := ⟨⟨_, rfl, rfl⟩, by decide, tb_in 1678 (by decide +kernel) (by decide +kernel), tb_in 1679 (by decide +kernel) (by decide +kernel), tb_in 94 (by decide +kernel) (by decide +kernel), tb_in 1680 (by decide +kernel) (by decide +kernel), by decide +kernel, by decide +kernel, by decide⟩
theorem mi_X11_takes : MI yX11_takes cX11_takes 3 (some .int) 1 11 := ⟨⟨_, rfl, rfl⟩, by decide, tb_in 1298 (by decide +kernel) (by decide +kernel), tb_in 24 (by decide +kernel) (by decide +kernel), tb_in 94 (by decide +kernel) (by decide +kernel), tb_in 1299 (by decide +kernel) (by decide +kernel), by decide +kernel, by decide +kernel, by decide⟩
theorem mi_X11_takesIt : MI yX11_takesIt cX11_takesIt 4 (some .int) 1 11 := ⟨⟨_, rfl, rfl⟩, by decide, tb_in 1694 (by decide +kernel) (by decide +kernel), tb_in 72 (by decide +kernel) (by decide +kernel), tb_in 94 (by decide +kernel) (by decide +kernel), tb_in 1695 (by decide +kernel) (by decide +kernel), by decide +kernel, by decide +kernel, by decide⟩
theorem mi_X11_tellsIt : MI yX11_tellsIt cX11_tellsIt 3 (some .int) 1 11 := ⟨⟨_, rfl, rfl⟩, by decide, tb_in 1718 (by decide +kernel) (by decide +kernel), tb_in 78 (by decide +kernel) (by decide +kernel), tb_in 94 (by decide +kernel) (by decide +kernel), tb_in 1719 (by decide +kernel) (by decide +kernel), by decide +kernel, by decide +kernel, by decide⟩
theorem mi_X11_top : MI yX11_top cX11_top 1 (some .int) 0 11 := ⟨⟨_, rfl, rfl⟩, by decide, tb_in 1583 (by decide +kernel) (by decide +kernel), tb_in 61 (by decide +kernel) (by decide +kernel), tb_in 94 (by decide +kernel) (by decide +kernel), tb_in 1584 (by decide +kernel) (by decide +kernel), by decide +kernel, by decide +kernel, by decide⟩
theorem mi_X11_trace : MI yX11_trace cX11_trace 2 (some .int) 1 11 := ⟨⟨_, rfl, rfl⟩, by decide, tb_in 1725 (by decide +kernel) (by decide +kernel), tb_in 1726 (by decide +kernel) (by decide +kernel), tb_in 94 (by decide +kernel) (by decide +kernel), tb_in 1727 (by decide +kernel) (by decide +kernel), by decide +kernel, by decide +kernel, by decide⟩
theorem mi_X11_tryout : MI yX11_tryout cX11_tryout 5 (some .int) 2 11 := ⟨⟨_, rfl, rfl⟩, by decide, tb_in 1341 (by decide +kernel) (by decide +kernel), tb_in 1342 (by decide +kernel) (by decide +kernel), tb_in 94 (by decide +kernel) (by decide +kernel), tb_in 1343 (by decide +kernel) (by decide +kernel), by decide +kernel, by decide +kernel, by decide⟩
theorem mi_X11_wantClauses : MI yX11_wantClauses cX11_wantClauses 6 none 0 11 := ⟨⟨_, rfl, rfl⟩, by decide, tb_in 1403 (by decide +kernel) (by decide +kernel), tb_in 37 (by decide +kernel) (by decide +kernel), tb_in 94 (by decide +kernel) (by decide +kernel), tb_in 1404 (by decide +kernel) (by decide +kernel), by decide +kernel, by decide +kernel, by decide⟩
theorem mi_X11_wantInt : MI yX11_wantInt cX11_wantInt 3 (some .int) 0 11 := ⟨⟨_, rfl, rfl⟩, by decide, tb_in 1387 (by decide +kernel) (by decide +kernel), tb_in 33 (by decide +kernel) (by decide +kernel), tb_in 94 (by decide +kernel) (by decide +kernel), tb_in 1388 (by decide +kernel) (by decide +kernel), by decide +kernel, by decide +kernel, by decide⟩
theorem mi_X11_wantNumber : MI yX11_wantNumber cX11_wantNumber 2 (some .int) 0 11 := ⟨⟨_, rfl, rfl⟩, by decide, tb_in 1395 (by decide +kernel) (by decide +kernel), tb_in 35 (by decide +kernel) (by decide +kernel), tb_in 94 (by decide +kernel) (by decide +kernel), tb_in 1396 (by decide +kernel) (by decide +kernel), by decide +kernel, by decide +kernel, by decide⟩
theorem mi_X11_wantRule : MI yX11_wantRule cX11_wantRule 1 none 0 11 := ⟨⟨_, rfl, rfl⟩, by decide, tb_in 1540 (by decide +kernel) (by decide +kernel), tb_in 53 (by decide +kernel) (by decide +kernel), tb_in 94 (by decide +kernel) (by decide +kernel), tb_in 1541 (by decide +kernel) (by decide +kernel), by decide +kernel, by decide +kernel, by decide⟩
theorem mi_X11_wantWord : MI yX11_wantWord cX11_wantWord 3 none 1 11 := ⟨⟨_, rfl, rfl⟩, by decide, tb_in 1383 (by decide +kernel) (by decide +kernel), tb_in 32 (by decide +kernel) (by decide +kernel), tb_in 94 (by decide +kernel) (by decide +kernel), tb_in 1384 (by decide +kernel) (by decide +kernel), by decide +kernel, by decide +kernel, by decide⟩
theorem mi_X11_weightOf : MI yX11_weightOf cX11_weightOf 6 (some .long) 1 11 := ⟨⟨_, rfl, rfl⟩, by decide, tb_in 1457 (by decide +kernel) (by decide +kernel), tb_in 44 (by decide +kernel) (by decide +kernel), tb_in 94 (by decide +kernel) (by decide +kernel), tb_in 1458 (by decide +kernel) (by decide +kernel), by decide +kernel, by decide +kernel, by decide⟩
theorem mi_X1_become : MI yX1_become cX1_become 2 none 1 1 := ⟨⟨_, rfl, rfl⟩, by decide, tb_in 1092 (by decide +kernel) (by decide +kernel), tb_in 1093 (by decide +kernel) (by decide +kernel), tb_in 85 (by decide +kernel) (by decide +kernel), tb_in 1094 (by decide +kernel) (by decide +kernel), by decide +kernel, by decide +kernel, by decide⟩
theorem mi_X1_begin : MI yX1_begin cX1_begin 6 none 5 1 := ⟨⟨_, rfl, rfl⟩, by decide, tb_in 448 (by decide +kernel) (by decide +kernel), tb_in 449 (by decide +kernel) (by decide +kernel), tb_in 85 (by decide +kernel) (by decide +kernel), tb_in 450 (by decide +kernel) (by decide +kernel), by decide +kernel, by decide +kernel, by decide⟩
theorem mc_X1_init : MC yX1_init cX1_init 1 0 := ⟨by decide +kernel, tb_in 124 (by decide +kernel) (by decide +kernel), tb_in 85 (by decide +kernel) (by decide +kernel), tb_in 125 (by decide +kernel) (by decide +kernel), by decide +kernel, by decide +kernel, by decide⟩
theorem mi_X1_isIn : MI yX1_isIn cX1_isIn 2 (some .boolean) 1 1 := ⟨⟨_, rfl, rfl⟩, by decide, tb_in 491 (by decide +kernel) (by decide +kernel), tb_in 492 (by decide +kernel) (by decide +kernel), tb_in 85 (by decide +kernel) (by decide +kernel), tb_in 493 (by decide +kernel) (by decide +kernel), by decide +kernel, by decide +kernel, by decide⟩
theorem mi_X1_lateOn : MI yX1_lateOn cX1_lateOn 2 (some .int) 1 1 := ⟨⟨_, rfl, rfl⟩, by decide, tb_in 495 (by decide +kernel) (by decide +kernel), tb_in 496 (by decide +kernel) (by decide +kernel), tb_in 85 (by decide +kernel) (by decide +kernel), tb_in 497 (by decide +kernel) (by decide +kernel), by decide +kernel, by decide +kernel, by decide⟩
theorem mi_X1_takesOn : MI yX1_takesOn cX1_takesOn 2 (some .int) 1 1 := ⟨⟨_, rfl, rfl⟩, by decide, tb_in 468 (by decide +kernel) (by decide +kernel), tb_in 469 (by decide +kernel) (by decide +kernel), tb_in 85 (by decide +kernel) (by decide +kernel), tb_in 470 (by decide +kernel) (by decide +kernel), by decide +kernel, by decide +kernel, by decide⟩
theorem mc_X2_init : MC yX2_init cX2_init 2 1 := ⟨by decide +kernel, tb_in 191 (by decide +kernel) (by decide +kernel), tb_in 87 (by decide +kernel) (by decide +kernel), tb_in 192 (by decide +kernel) (by decide +kernel), by decide +kernel, by decide +kernel, by decide⟩
theorem mi_X2_isMet : MI yX2_isMet cX2_isMet 7 (some .boolean) 2 2 := ⟨⟨_, rfl, rfl⟩, by decide, tb_in 927 (by decide +kernel) (by decide +kernel), tb_in 928 (by decide +kernel) (by decide +kernel), tb_in 87 (by decide +kernel) (by decide +kernel), tb_in 929 (by decide +kernel) (by decide +kernel), by decide +kernel, by decide +kernel, by decide⟩
theorem ms_X2_joined : MS yX2_joined cX2_joined 3 (some .int) 3 := ⟨tb_in 934 (by decide +kernel) (by decide +kernel), tb_in 87 (by decide +kernel) (by decide +kernel), tb_in 935 (by decide +kernel) (by decide +kernel), by decide +kernel, by decide +kernel, by decide⟩
theorem ms_X2_valueOf : MS yX2_valueOf cX2_valueOf 3 (some .int) 2 := ⟨tb_in 931 (by decide +kernel) (by decide +kernel), tb_in 87 (by decide +kernel) (by decide +kernel), tb_in 932 (by decide +kernel) (by decide +kernel), by decide +kernel, by decide +kernel, by decide⟩
theorem mi_X3_at : MI yX3_at cX3_at 3 (some .boolean) 1 3 := ⟨⟨_, rfl, rfl⟩, by decide, tb_in 896 (by decide +kernel) (by decide +kernel), tb_in 13 (by decide +kernel) (by decide +kernel), tb_in 90 (by decide +kernel) (by decide +kernel), tb_in 897 (by decide +kernel) (by decide +kernel), by decide +kernel, by decide +kernel, by decide⟩
theorem mi_X3_begin : MI yX3_begin cX3_begin 1 none 0 3 := ⟨⟨_, rfl, rfl⟩, by decide, tb_in 864 (by decide +kernel) (by decide +kernel), tb_in 865 (by decide +kernel) (by decide +kernel), tb_in 90 (by decide +kernel) (by decide +kernel), tb_in 866 (by decide +kernel) (by decide +kernel), by decide +kernel, by decide +kernel, by decide⟩
theorem mi_X3_both : MI yX3_both cX3_both 3 (some .boolean) 1 3 := ⟨⟨_, rfl, rfl⟩, by decide, tb_in 873 (by decide +kernel) (by decide +kernel), tb_in 8 (by decide +kernel) (by decide +kernel), tb_in 90 (by decide +kernel) (by decide +kernel), tb_in 874 (by decide +kernel) (by decide +kernel), by decide +kernel, by decide +kernel, by decide⟩
theorem mi_X3_either : MI yX3_either cX3_either 3 (some .boolean) 1 3 := ⟨⟨_, rfl, rfl⟩, by decide, tb_in 868 (by decide +kernel) (by decide +kernel), tb_in 869 (by decide +kernel) (by decide +kernel), tb_in 90 (by decide +kernel) (by decide +kernel), tb_in 870 (by decide +kernel) (by decide +kernel), by decide +kernel, by decide +kernel, by decide⟩
theorem mi_X3_emit : MI yX3_emit cX3_emit 2 none 1 3 := ⟨⟨_, rfl, rfl⟩, by decide, tb_in 884 (by decide +kernel) (by decide +kernel), tb_in 10 (by decide +kernel) (by decide +kernel), tb_in 90 (by decide +kernel) (by decide +kernel), tb_in 885 (by decide +kernel) (by decide +kernel), by decide +kernel, by decide +kernel, by decide⟩
theorem mc_X3_init : MC yX3_init cX3_init 2 1 := ⟨by decide +kernel, tb_in 303 (by decide +kernel) (by decide +kernel), tb_in 90 (by decide +kernel) (by decide +kernel), tb_in 304 (by decide +kernel) (by decide +kernel), by decide +kernel, by decide +kernel, by decide⟩
theorem mi_X3_one : MI yX3_one cX3_one 4 (some .boolean) 1 3 := ⟨⟨_, rfl, rfl⟩, by decide, tb_in 877 (by decide +kernel) (by decide +kernel), tb_in 9 (by decide +kernel) (by decide +kernel), tb_in 90 (by decide +kernel) (by decide +kernel), tb_in 878 (by decide +kernel) (by decide +kernel), by decide +kernel, by decide +kernel, by decide⟩
theorem mi_X3_sum : MI yX3_sum cX3_sum 4 (some .boolean) 1 3 := ⟨⟨_, rfl, rfl⟩, by decide, tb_in 888 (by decide +kernel) (by decide +kernel), tb_in 11 (by decide +kernel) (by decide +kernel), tb_in 90 (by decide +kernel) (by decide +kernel), tb_in 889 (by decide +kernel) (by decide +kernel), by decide +kernel, by decide +kernel, by decide⟩
theorem mi_X3_term : MI yX3_term cX3_term 3 (some .boolean) 1 3 := ⟨⟨_, rfl, rfl⟩, by decide, tb_in 892 (by decide +kernel) (by decide +kernel), tb_in 12 (by decide +kernel) (by decide +kernel), tb_in 90 (by decide +kernel) (by decide +kernel), tb_in 893 (by decide +kernel) (by decide +kernel), by decide +kernel, by decide +kernel, by decide⟩
theorem mi_X3_told : MI yX3_told cX3_told 1 (some (.object "LoosePlug$Rule")) 0 3 := ⟨⟨_, rfl, rfl⟩, by decide, tb_in 905 (by decide +kernel) (by decide +kernel), tb_in 906 (by decide +kernel) (by decide +kernel), tb_in 90 (by decide +kernel) (by decide +kernel), tb_in 907 (by decide +kernel) (by decide +kernel), by decide +kernel, by decide +kernel, by decide⟩
theorem mi_X4_begin : MI yX4_begin cX4_begin 3 none 2 4 := ⟨⟨_, rfl, rfl⟩, by decide, tb_in 968 (by decide +kernel) (by decide +kernel), tb_in 969 (by decide +kernel) (by decide +kernel), tb_in 92 (by decide +kernel) (by decide +kernel), tb_in 970 (by decide +kernel) (by decide +kernel), by decide +kernel, by decide +kernel, by decide⟩
theorem mi_X4_hasItem : MI yX4_hasItem cX4_hasItem 2 (some .boolean) 1 4 := ⟨⟨_, rfl, rfl⟩, by decide, tb_in 979 (by decide +kernel) (by decide +kernel), tb_in 980 (by decide +kernel) (by decide +kernel), tb_in 92 (by decide +kernel) (by decide +kernel), tb_in 981 (by decide +kernel) (by decide +kernel), by decide +kernel, by decide +kernel, by decide⟩
theorem mc_X4_init : MC yX4_init cX4_init 1 0 := ⟨by decide +kernel, tb_in 350 (by decide +kernel) (by decide +kernel), tb_in 92 (by decide +kernel) (by decide +kernel), tb_in 351 (by decide +kernel) (by decide +kernel), by decide +kernel, by decide +kernel, by decide⟩
theorem mi_X4_write : MI yX4_write cX4_write 3 none 2 4 := ⟨⟨_, rfl, rfl⟩, by decide, tb_in 983 (by decide +kernel) (by decide +kernel), tb_in 984 (by decide +kernel) (by decide +kernel), tb_in 92 (by decide +kernel) (by decide +kernel), tb_in 985 (by decide +kernel) (by decide +kernel), by decide +kernel, by decide +kernel, by decide⟩
theorem mi_X5_holdNothing : MI yX5_holdNothing cX5_holdNothing 1 none 0 5 := ⟨⟨_, rfl, rfl⟩, by decide, tb_in 1006 (by decide +kernel) (by decide +kernel), tb_in 1007 (by decide +kernel) (by decide +kernel), tb_in 93 (by decide +kernel) (by decide +kernel), tb_in 1008 (by decide +kernel) (by decide +kernel), by decide +kernel, by decide +kernel, by decide⟩
theorem mi_X5_holdPart : MI yX5_holdPart cX5_holdPart 2 none 1 5 := ⟨⟨_, rfl, rfl⟩, by decide, tb_in 998 (by decide +kernel) (by decide +kernel), tb_in 999 (by decide +kernel) (by decide +kernel), tb_in 93 (by decide +kernel) (by decide +kernel), tb_in 1000 (by decide +kernel) (by decide +kernel), by decide +kernel, by decide +kernel, by decide⟩
theorem mi_X5_holdRow : MI yX5_holdRow cX5_holdRow 3 none 2 5 := ⟨⟨_, rfl, rfl⟩, by decide, tb_in 1002 (by decide +kernel) (by decide +kernel), tb_in 1003 (by decide +kernel) (by decide +kernel), tb_in 93 (by decide +kernel) (by decide +kernel), tb_in 1004 (by decide +kernel) (by decide +kernel), by decide +kernel, by decide +kernel, by decide⟩
theorem mc_X5_init : MC yX5_init cX5_init 1 0 := ⟨by decide +kernel, tb_in 368 (by decide +kernel) (by decide +kernel), tb_in 93 (by decide +kernel) (by decide +kernel), tb_in 369 (by decide +kernel) (by decide +kernel), by decide +kernel, by decide +kernel, by decide⟩
theorem mi_X6_amountOn : MI yX6_amountOn cX6_amountOn 4 (some .int) 2 6 := ⟨⟨_, rfl, rfl⟩, by decide, tb_in 704 (by decide +kernel) (by decide +kernel), tb_in 705 (by decide +kernel) (by decide +kernel), tb_in 86 (by decide +kernel) (by decide +kernel), tb_in 706 (by decide +kernel) (by decide +kernel), by decide +kernel, by decide +kernel, by decide⟩
theorem mi_X6_clauseCount : MI yX6_clauseCount cX6_clauseCount 1 (some .int) 0 6 := ⟨⟨_, rfl, rfl⟩, by decide, tb_in 694 (by decide +kernel) (by decide +kernel), tb_in 695 (by decide +kernel) (by decide +kernel), tb_in 86 (by decide +kernel) (by decide +kernel), tb_in 696 (by decide +kernel) (by decide +kernel), by decide +kernel, by decide +kernel, by decide⟩
theorem mi_X6_foundAt : MI yX6_foundAt cX6_foundAt 5 (some .int) 2 6 := ⟨⟨_, rfl, rfl⟩, by decide, tb_in 712 (by decide +kernel) (by decide +kernel), tb_in 713 (by decide +kernel) (by decide +kernel), tb_in 86 (by decide +kernel) (by decide +kernel), tb_in 714 (by decide +kernel) (by decide +kernel), by decide +kernel, by decide +kernel, by decide⟩
theorem mc_X6_init : MC yX6_init cX6_init 5 4 := ⟨by decide +kernel, tb_in 170 (by decide +kernel) (by decide +kernel), tb_in 86 (by decide +kernel) (by decide +kernel), tb_in 171 (by decide +kernel) (by decide +kernel), by decide +kernel, by decide +kernel, by decide⟩
theorem mi_X6_partOf : MI yX6_partOf cX6_partOf 2 (some .int) 1 6 := ⟨⟨_, rfl, rfl⟩, by decide, tb_in 698 (by decide +kernel) (by decide +kernel), tb_in 699 (by decide +kernel) (by decide +kernel), tb_in 86 (by decide +kernel) (by decide +kernel), tb_in 700 (by decide +kernel) (by decide +kernel), by decide +kernel, by decide +kernel, by decide⟩
theorem mc_X7_init : MC yX7_init cX7_init 2 1 := ⟨by decide +kernel, tb_in 281 (by decide +kernel) (by decide +kernel), tb_in 89 (by decide +kernel) (by decide +kernel), tb_in 282 (by decide +kernel) (by decide +kernel), by decide +kernel, by decide +kernel, by decide⟩
theorem mi_X7_readBy : MI yX7_readBy cX7_readBy 2 (some .boolean) 0 7 := ⟨⟨_, rfl, rfl⟩, by decide, tb_in 636 (by decide +kernel) (by decide +kernel), tb_in 2 (by decide +kernel) (by decide +kernel), tb_in 89 (by decide +kernel) (by decide +kernel), tb_in 637 (by decide +kernel) (by decide +kernel), by decide +kernel, by decide +kernel, by decide⟩
theorem mi_X7_readClause : MI yX7_readClause cX7_readClause 2 (some .boolean) 1 7 := ⟨⟨_, rfl, rfl⟩, by decide, tb_in 648 (by decide +kernel) (by decide +kernel), tb_in 4 (by decide +kernel) (by decide +kernel), tb_in 89 (by decide +kernel) (by decide +kernel), tb_in 649 (by decide +kernel) (by decide +kernel), by decide +kernel, by decide +kernel, by decide⟩
theorem mi_X7_readClauses : MI yX7_readClauses cX7_readClauses 2 (some .boolean) 0 7 := ⟨⟨_, rfl, rfl⟩, by decide, tb_in 644 (by decide +kernel) (by decide +kernel), tb_in 3 (by decide +kernel) (by decide +kernel), tb_in 89 (by decide +kernel) (by decide +kernel), tb_in 645 (by decide +kernel) (by decide +kernel), by decide +kernel, by decide +kernel, by decide⟩
theorem mi_X7_readWhole : MI yX7_readWhole cX7_readWhole 1 (some .boolean) 0 7 := ⟨⟨_, rfl, rfl⟩, by decide, tb_in 627 (by decide +kernel) (by decide +kernel), tb_in 628 (by decide +kernel) (by decide +kernel), tb_in 89 (by decide +kernel) (by decide +kernel), tb_in 629 (by decide +kernel) (by decide +kernel), by decide +kernel, by decide +kernel, by decide⟩
theorem mi_X7_told : MI yX7_told cX7_told 2 (some (.object "LoosePlug$Story")) 1 7 := ⟨⟨_, rfl, rfl⟩, by decide, tb_in 659 (by decide +kernel) (by decide +kernel), tb_in 660 (by decide +kernel) (by decide +kernel), tb_in 89 (by decide +kernel) (by decide +kernel), tb_in 661 (by decide +kernel) (by decide +kernel), by decide +kernel, by decide +kernel, by decide⟩
theorem mi_X8_add : MI yX8_add cX8_add 4 none 3 8 := ⟨⟨_, rfl, rfl⟩, by decide, tb_in 618 (by decide +kernel) (by decide +kernel), tb_in 1 (by decide +kernel) (by decide +kernel), tb_in 88 (by decide +kernel) (by decide +kernel), tb_in 619 (by decide +kernel) (by decide +kernel), by decide +kernel, by decide +kernel, by decide⟩
theorem mi_X8_code : MI yX8_code cX8_code 1 (some .int) 0 8 := ⟨⟨_, rfl, rfl⟩, by decide, tb_in 899 (by decide +kernel) (by decide +kernel), tb_in 900 (by decide +kernel) (by decide +kernel), tb_in 88 (by decide +kernel) (by decide +kernel), tb_in 901 (by decide +kernel) (by decide +kernel), by decide +kernel, by decide +kernel, by decide⟩
theorem ms_X8_endOfRun : MS yX8_endOfRun cX8_endOfRun 6 (some .int) 5 := ⟨tb_in 541 (by decide +kernel) (by decide +kernel), tb_in 88 (by decide +kernel) (by decide +kernel), tb_in 542 (by decide +kernel) (by decide +kernel), by decide +kernel, by decide +kernel, by decide⟩
theorem mc_X8_init : MC yX8_init cX8_init 1 0 := ⟨by decide +kernel, tb_in 258 (by decide +kernel) (by decide +kernel), tb_in 88 (by decide +kernel) (by decide +kernel), tb_in 259 (by decide +kernel) (by decide +kernel), by decide +kernel, by decide +kernel, by decide⟩
theorem ms_X8_isDigit : MS yX8_isDigit cX8_isDigit 1 (some .boolean) 1 := ⟨tb_in 621 (by decide +kernel) (by decide +kernel), tb_in 88 (by decide +kernel) (by decide +kernel), tb_in 622 (by decide +kernel) (by decide +kernel), by decide +kernel, by decide +kernel, by decide⟩
theorem ms_X8_isLetter : MS yX8_isLetter cX8_isLetter 1 (some .boolean) 1 := ⟨tb_in 538 (by decide +kernel) (by decide +kernel), tb_in 88 (by decide +kernel) (by decide +kernel), tb_in 539 (by decide +kernel) (by decide +kernel), by decide +kernel, by decide +kernel, by decide⟩
theorem mi_X8_isNow : MI yX8_isNow cX8_isNow 2 (some .boolean) 1 8 := ⟨⟨_, rfl, rfl⟩, by decide, tb_in 651 (by decide +kernel) (by decide +kernel), tb_in 652 (by decide +kernel) (by decide +kernel), tb_in 88 (by decide +kernel) (by decide +kernel), tb_in 653 (by decide +kernel) (by decide +kernel), by decide +kernel, by decide +kernel, by decide⟩
theorem ms_X8_isSpelled : MS yX8_isSpelled cX8_isSpelled 5 (some .boolean) 4 := ⟨tb_in 566 (by decide +kernel) (by decide +kernel), tb_in 88 (by decide +kernel) (by decide +kernel), tb_in 567 (by decide +kernel) (by decide +kernel), by decide +kernel, by decide +kernel, by decide⟩
theorem ms_X8_number : MS yX8_number cX8_number 5 (some .int) 3 := ⟨tb_in 624 (by decide +kernel) (by decide +kernel), tb_in 88 (by decide +kernel) (by decide +kernel), tb_in 625 (by decide +kernel) (by decide +kernel), by decide +kernel, by decide +kernel, by decide⟩
theorem mi_X8_place : MI yX8_place cX8_place 1 (some .int) 0 8 := ⟨⟨_, rfl, rfl⟩, by decide, tb_in 655 (by decide +kernel) (by decide +kernel), tb_in 656 (by decide +kernel) (by decide +kernel), tb_in 88 (by decide +kernel) (by decide +kernel), tb_in 657 (by decide +kernel) (by decide +kernel), by decide +kernel, by decide +kernel, by decide⟩
theorem mi_X8_readAll : MI yX8_readAll cX8_readAll 8 none 2 8 := ⟨⟨_, rfl, rfl⟩, by decide, tb_in 534 (by decide +kernel) (by decide +kernel), tb_in 535 (by decide +kernel) (by decide +kernel), tb_in 88 (by decide +kernel) (by decide +kernel), tb_in 536 (by decide +kernel) (by decide +kernel), by decide +kernel, by decide +kernel, by decide⟩
theorem ms_X8_spelling : MS yX8_spelling cX8_spelling 1 (some (.object "java/lang/String")) 1 := ⟨tb_in 547 (by decide +kernel) (by decide +kernel), tb_in 88 (by decide +kernel) (by decide +kernel), tb_in 548 (by decide +kernel) (by decide +kernel), by decide +kernel, by decide +kernel, by decide⟩
theorem mi_X8_take : MI yX8_take cX8_take 2 (some .boolean) 1 8 := ⟨⟨_, rfl, rfl⟩, by decide, tb_in 631 (by decide +kernel) (by decide +kernel), tb_in 632 (by decide +kernel) (by decide +kernel), tb_in 88 (by decide +kernel) (by decide +kernel), tb_in 633 (by decide +kernel) (by decide +kernel), by decide +kernel, by decide +kernel, by decide⟩
theorem mi_X8_value : MI yX8_value cX8_value 1 (some .int) 0 8 := ⟨⟨_, rfl, rfl⟩, by decide, tb_in 639 (by decide +kernel) (by decide +kernel), tb_in 640 (by decide +kernel) (by decide +kernel), tb_in 88 (by decide +kernel) (by decide +kernel), tb_in 641 (by decide +kernel) (by decide +kernel), by decide +kernel, by decide +kernel, by decide⟩
theorem ms_X8_wordCode : MS yX8_wordCode cX8_wordCode 4 (some .int) 3 := ⟨tb_in 544 (by decide +kernel) (by decide +kernel), tb_in 88 (by decide +kernel) (by decide +kernel), tb_in 545 (by decide +kernel) (by decide +kernel), by decide +kernel, by decide +kernel, by decide⟩
theorem mi_X9_addRun : MI yX9_addRun cX9_addRun 4 (some .int) 3 9 := ⟨⟨_, rfl, rfl⟩, by decide, tb_in 505 (by decide +kernel) (by decide +kernel), tb_in 506 (by decide +kernel) (by decide +kernel), tb_in 84 (by decide +kernel) (by decide +kernel), tb_in 507 (by decide +kernel) (by decide +kernel), by decide +kernel, by decide +kernel, by decide⟩
theorem mi_X9_areStories : MI yX9_areStories cX9_areStories 2 (some .boolean) 1 9 := ⟨⟨_, rfl, rfl⟩, by decide, tb_in 776 (by decide +kernel) (by decide +kernel), tb_in 777 (by decide +kernel) (by decide +kernel), tb_in 84 (by decide +kernel) (by decide +kernel), tb_in 778 (by decide +kernel) (by decide +kernel), by decide +kernel, by decide +kernel, by decide⟩
theorem mi_X9_become : MI yX9_become cX9_become 3 none 1 9 := ⟨⟨_, rfl, rfl⟩, by decide, tb_in 1088 (by decide +kernel) (by decide +kernel), tb_in 1089 (by decide +kernel) (by decide +kernel), tb_in 84 (by decide +kernel) (by decide +kernel), tb_in 1090 (by decide +kernel) (by decide +kernel), by decide +kernel, by decide +kernel, by decide⟩
theorem mi_X9_countRuns : MI yX9_countRuns cX9_countRuns 6 (some .int) 3 9 := ⟨⟨_, rfl, rfl⟩, by decide, tb_in 821 (by decide +kernel) (by decide +kernel), tb_in 822 (by decide +kernel) (by decide +kernel), tb_in 84 (by decide +kernel) (by decide +kernel), tb_in 823 (by decide +kernel) (by decide +kernel), by decide +kernel, by decide +kernel, by decide⟩
theorem mi_X9_draw : MI yX9_draw cX9_draw 1 (some .int) 0 9 := ⟨⟨_, rfl, rfl⟩, by decide, tb_in 500 (by decide +kernel) (by decide +kernel), tb_in 501 (by decide +kernel) (by decide +kernel), tb_in 84 (by decide +kernel) (by decide +kernel), tb_in 502 (by decide +kernel) (by decide +kernel), by decide +kernel, by decide +kernel, by decide⟩
theorem mi_X9_farFrom : MI yX9_farFrom cX9_farFrom 3 (some .int) 2 9 := ⟨⟨_, rfl, rfl⟩, by decide, tb_in 727 (by decide +kernel) (by decide +kernel), tb_in 728 (by decide +kernel) (by decide +kernel), tb_in 84 (by decide +kernel) (by decide +kernel), tb_in 729 (by decide +kernel) (by decide +kernel), by decide +kernel, by decide +kernel, by decide⟩
theorem mi_X9_given : MI yX9_given cX9_given 8 (some .int) 3 9 := ⟨⟨_, rfl, rfl⟩, by decide, tb_in 690 (by decide +kernel) (by decide +kernel), tb_in 691 (by decide +kernel) (by decide +kernel), tb_in 84 (by decide +kernel) (by decide +kernel), tb_in 692 (by decide +kernel) (by decide +kernel), by decide +kernel, by decide +kernel, by decide⟩
theorem mi_X9_hasPart : MI yX9_hasPart cX9_hasPart 2 (some .boolean) 1 9 := ⟨⟨_, rfl, rfl⟩, by decide, tb_in 456 (by decide +kernel) (by decide +kernel), tb_in 457 (by decide +kernel) (by decide +kernel), tb_in 84 (by decide +kernel) (by decide +kernel), tb_in 458 (by decide +kernel) (by decide +kernel), by decide +kernel, by decide +kernel, by decide⟩
theorem mi_X9_hasStory : MI yX9_hasStory cX9_hasStory 2 (some .boolean) 1 9 := ⟨⟨_, rfl, rfl⟩, by decide, tb_in 686 (by decide +kernel) (by decide +kernel), tb_in 687 (by decide +kernel) (by decide +kernel), tb_in 84 (by decide +kernel) (by decide +kernel), tb_in 688 (by decide +kernel) (by decide +kernel), by decide +kernel, by decide +kernel, by decide⟩
theorem mi_X9_hoursOf : MI yX9_hoursOf cX9_hoursOf 4 (some .int) 1 9 := ⟨⟨_, rfl, rfl⟩, by decide, tb_in 797 (by decide +kernel) (by decide +kernel), tb_in 798 (by decide +kernel) (by decide +kernel), tb_in 84 (by decide +kernel) (by decide +kernel), tb_in 799 (by decide +kernel) (by decide +kernel), by decide +kernel, by decide +kernel, by decide⟩
theorem mc_X9_init : MC yX9_init cX9_init 4 0 := ⟨by decide +kernel, tb_in 113 (by decide +kernel) (by decide +kernel), tb_in 84 (by decide +kernel) (by decide +kernel), tb_in 114 (by decide +kernel) (by decide +kernel), by decide +kernel, by decide +kernel, by decide⟩
theorem mi_X9_isRun : MI yX9_isRun cX9_isRun 5 (some .boolean) 4 9 := ⟨⟨_, rfl, rfl⟩, by decide, tb_in 825 (by decide +kernel) (by decide +kernel), tb_in 826 (by decide +kernel) (by decide +kernel), tb_in 84 (by decide +kernel) (by decide +kernel), tb_in 827 (by decide +kernel) (by decide +kernel), by decide +kernel, by decide +kernel, by decide⟩
theorem mi_X9_leastMissed : MI yX9_leastMissed cX9_leastMissed 5 (some .int) 0 9 := ⟨⟨_, rfl, rfl⟩, by decide, tb_in 739 (by decide +kernel) (by decide +kernel), tb_in 740 (by decide +kernel) (by decide +kernel), tb_in 84 (by decide +kernel) (by decide +kernel), tb_in 741 (by decide +kernel) (by decide +kernel), by decide +kernel, by decide +kernel, by decide⟩
theorem mi_X9_missed : MI yX9_missed cX9_missed 4 (some .int) 1 9 := ⟨⟨_, rfl, rfl⟩, by decide, tb_in 723 (by decide +kernel) (by decide +kernel), tb_in 724 (by decide +kernel) (by decide +kernel), tb_in 84 (by decide +kernel) (by decide +kernel), tb_in 725 (by decide +kernel) (by decide +kernel), by decide +kernel, by decide +kernel, by decide⟩
theorem mi_X9_orderRuns : MI yX9_orderRuns cX9_orderRuns 6 (some .int) 2 9 := ⟨⟨_, rfl, rfl⟩, by decide, tb_in 852 (by decide +kernel) (by decide +kernel), tb_in 853 (by decide +kernel) (by decide +kernel), tb_in 84 (by decide +kernel) (by decide +kernel), tb_in 854 (by decide +kernel) (by decide +kernel), by decide +kernel, by decide +kernel, by decide⟩
theorem mi_X9_partsBetween : MI yX9_partsBetween cX9_partsBetween 5 (some .int) 2 9 := ⟨⟨_, rfl, rfl⟩, by decide, tb_in 784 (by decide +kernel) (by decide +kernel), tb_in 785 (by decide +kernel) (by decide +kernel), tb_in 84 (by decide +kernel) (by decide +kernel), tb_in 786 (by decide +kernel) (by decide +kernel), by decide +kernel, by decide +kernel, by decide⟩
theorem mi_X9_spanRoot : MI yX9_spanRoot cX9_spanRoot 4 (some .int) 1 9 := ⟨⟨_, rfl, rfl⟩, by decide, tb_in 813 (by decide +kernel) (by decide +kernel), tb_in 814 (by decide +kernel) (by decide +kernel), tb_in 84 (by decide +kernel) (by decide +kernel), tb_in 815 (by decide +kernel) (by decide +kernel), by decide +kernel, by decide +kernel, by decide⟩
theorem mi_X9_spanSum : MI yX9_spanSum cX9_spanSum 4 (some .int) 1 9 := ⟨⟨_, rfl, rfl⟩, by decide, tb_in 809 (by decide +kernel) (by decide +kernel), tb_in 810 (by decide +kernel) (by decide +kernel), tb_in 84 (by decide +kernel) (by decide +kernel), tb_in 811 (by decide +kernel) (by decide +kernel), by decide +kernel, by decide +kernel, by decide⟩
theorem mi_X9_sumRuns : MI yX9_sumRuns cX9_sumRuns 6 (some .int) 3 9 := ⟨⟨_, rfl, rfl⟩, by decide, tb_in 829 (by decide +kernel) (by decide +kernel), tb_in 830 (by decide +kernel) (by decide +kernel), tb_in 84 (by decide +kernel) (by decide +kernel), tb_in 831 (by decide +kernel) (by decide +kernel), by decide +kernel, by decide +kernel, by decide⟩
theorem mi_X9_tellFacts : MI yX9_tellFacts cX9_tellFacts 4 none 1 9 := ⟨⟨_, rfl, rfl⟩, by decide, tb_in 916 (by decide +kernel) (by decide +kernel), tb_in 917 (by decide +kernel) (by decide +kernel), tb_in 84 (by decide +kernel) (by decide +kernel), tb_in 918 (by decide +kernel) (by decide +kernel), by decide +kernel, by decide +kernel, by decide⟩
theorem mi_X9_weighed : MI yX9_weighed cX9_weighed 6 (some .long) 1 9 := ⟨⟨_, rfl, rfl⟩, by decide, tb_in 749 (by decide +kernel) (by decide +kernel), tb_in 750 (by decide +kernel) (by decide +kernel), tb_in 84 (by decide +kernel) (by decide +kernel), tb_in 751 (by decide +kernel) (by decide +kernel), by decide +kernel, by decide +kernel, by decide⟩
theorem wc_X10_115 : Cond.constant RX10 115 (-2147483648) ∈ TBL := tb_in 459 (by decide +kernel) (by decide +kernel)
theorem wc_X9_75 : Cond.constant RX9 75 (1103515245) ∈ TBL := tb_in 503 (by decide +kernel) (by decide +kernel)
theorem wc_X10_191 : Cond.constantLong RX10 191 (255) ∈ TBL := tb_in 524 (by decide +kernel) (by decide +kernel)
theorem wc_X10_232 : Cond.constantLong RX10 232 (-1) ∈ TBL := tb_in 747 (by decide +kernel) (by decide +kernel)
theorem wc_X9_122 : Cond.constantLong RX9 122 (8) ∈ TBL := tb_in 755 (by decide +kernel) (by decide +kernel)
theorem wc_X9_124 : Cond.constantLong RX9 124 (4) ∈ TBL := tb_in 756 (by decide +kernel) (by decide +kernel)
theorem wc_X9_126 : Cond.constantLong RX9 126 (2) ∈ TBL := tb_in 757 (by decide +kernel) (by decide +kernel)
theorem wc_X10_278 : Cond.constantLong RX10 278 (-2147483648) ∈ TBL := tb_in 850 (by decide +kernel) (by decide +kernel)
theorem wc_X11_102 : Cond.constant RX11 102 (-2147483648) ∈ TBL := tb_in 1288 (by decide +kernel) (by decide +kernel)
theorem wc_X11_122 : Cond.constant RX11 122 (1103515245) ∈ TBL := tb_in 1319 (by decide +kernel) (by decide +kernel)
theorem wc_X11_140 : Cond.constantLong RX11 140 (255) ∈ TBL := tb_in 1348 (by decide +kernel) (by decide +kernel)
theorem wc_X11_167 : Cond.constantLong RX11 167 (27) ∈ TBL := tb_in 1371 (by decide +kernel) (by decide +kernel)
theorem wc_X11_169 : Cond.constantLong RX11 169 (96) ∈ TBL := tb_in 1372 (by decide +kernel) (by decide +kernel)
theorem wc_X11_171 : Cond.constantLong RX11 171 (-1) ∈ TBL := tb_in 1373 (by decide +kernel) (by decide +kernel)
theorem wc_X11_213 : Cond.constantLong RX11 213 (5649913681) ∈ TBL := tb_in 1374 (by decide +kernel) (by decide +kernel)
theorem wc_X11_215 : Cond.constantLong RX11 215 (6559778) ∈ TBL := tb_in 1379 (by decide +kernel) (by decide +kernel)
theorem wc_X11_201 : Cond.constantLong RX11 201 (79) ∈ TBL := tb_in 1380 (by decide +kernel) (by decide +kernel)
theorem wc_X11_195 : Cond.constantLong RX11 195 (316163) ∈ TBL := tb_in 1405 (by decide +kernel) (by decide +kernel)
theorem wc_X11_206 : Cond.constantLong RX11 206 (131638) ∈ TBL := tb_in 1406 (by decide +kernel) (by decide +kernel)
theorem wc_X11_208 : Cond.constantLong RX11 208 (1111) ∈ TBL := tb_in 1407 (by decide +kernel) (by decide +kernel)
theorem wc_X11_247 : Cond.constantLong RX11 247 (8) ∈ TBL := tb_in 1459 (by decide +kernel) (by decide +kernel)
theorem wc_X11_249 : Cond.constantLong RX11 249 (4) ∈ TBL := tb_in 1460 (by decide +kernel) (by decide +kernel)
theorem wc_X11_251 : Cond.constantLong RX11 251 (2) ∈ TBL := tb_in 1461 (by decide +kernel) (by decide +kernel)
theorem wc_X11_285 : Cond.constantLong RX11 285 (-2147483648) ∈ TBL := tb_in 1525 (by decide +kernel) (by decide +kernel)
theorem wc_X11_329 : Cond.constantLong RX11 329 (10631) ∈ TBL := tb_in 1546 (by decide +kernel) (by decide +kernel)
theorem wc_X11_331 : Cond.constant RX11 331 (40002) ∈ TBL := tb_in 1547 (by decide +kernel) (by decide +kernel)
theorem wc_X11_335 : Cond.constant RX11 335 (40004) ∈ TBL := tb_in 1556 (by decide +kernel) (by decide +kernel)
theorem wc_X11_339 : Cond.constant RX11 339 (40003) ∈ TBL := tb_in 1561 (by decide +kernel) (by decide +kernel)
theorem wc_X11_312 : Cond.constantLong RX11 312 (2968) ∈ TBL := tb_in 1566 (by decide +kernel) (by decide +kernel)
theorem wc_X11_314 : Cond.constantLong RX11 314 (370000) ∈ TBL := tb_in 1567 (by decide +kernel) (by decide +kernel)
theorem wc_X11_316 : Cond.constantLong RX11 316 (385331) ∈ TBL := tb_in 1568 (by decide +kernel) (by decide +kernel)
theorem wc_X11_318 : Cond.constantLong RX11 318 (10989814) ∈ TBL := tb_in 1569 (by decide +kernel) (by decide +kernel)
theorem wc_X11_320 : Cond.constantLong RX11 320 (10416350) ∈ TBL := tb_in 1570 (by decide +kernel) (by decide +kernel)
theorem wc_X11_322 : Cond.constantLong RX11 322 (262972) ∈ TBL := tb_in 1571 (by decide +kernel) (by decide +kernel)
theorem wc_X11_324 : Cond.constantLong RX11 324 (277560328) ∈ TBL := tb_in 1572 (by decide +kernel) (by decide +kernel)
theorem wc_X11_348 : Cond.constantLong RX11 348 (423) ∈ TBL := tb_in 1589 (by decide +kernel) (by decide +kernel)
theorem wc_X11_350 : Cond.constant RX11 350 (40000) ∈ TBL := tb_in 1597 (by decide +kernel) (by decide +kernel)
theorem wc_X11_351 : Cond.constant RX11 351 (40001) ∈ TBL := tb_in 1598 (by decide +kernel) (by decide +kernel)
theorem wc_L_58 : Cond.constantLong RL 58 (4294967295) ∈ TBL := tb_in 1748 (by decide +kernel) (by decide +kernel)
