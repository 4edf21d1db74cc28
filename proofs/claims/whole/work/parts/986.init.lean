set_option maxHeartbeats 4000000 in
set_option maxRecDepth 100000 in
theorem bo_X10 {N : Nat} {S0 S1 : PS} {q0 : Nat} {K : PS → Prop} (h0 : S0.K q0 = 0) (e0 : S1 = S0.newO q0 11) (hK : ∀ (S' : PS) (q1 q3 q4 q5 q6 q7 q8 q9 q10 q11 q12 q13 q14 q15 q16 q17 q18 q19 q20 q21 q22 q24 q26 q27 q28 q29 q30 q31 q32 q33 q34 q35 q36 q37 q38 q39 q40 q41 q42 q43 q44 q45 q48 q51 q53 q54 q55 q57 q59 q61 q63 q65 q67 q69 q71 q73 q76 q78 q80 q82 q84 q86 q88 q90 q92 q94 q96 q98 q100 q103 q106 q109 : Nat), Bo S0 S' [(3, q78, 64 * 26 + 3, q109), (4, q109, 387, 0), (4, q109, 386, 0), (4, q109, 385, 0), (4, q109, 384, 2), (0, q109, 0, 6), (3, q78, 64 * 26 + 2, q106), (4, q106, 387, 0), (4, q106, 386, 0), (4, q106, 385, 0), (4, q106, 384, 2), (0, q106, 0, 6), (3, q78, 64 * 26 + 1, q103), (4, q103, 387, 0), (4, q103, 386, 0), (4, q103, 385, 0), (4, q103, 384, 2), (0, q103, 0, 6), (3, q78, 64 * 26 + 0, q100), (4, q100, 387, 0), (4, q100, 386, 0), (4, q100, 385, 0), (4, q100, 384, 2), (0, q100, 0, 6), (3, q76, 64 * 25 + 3, q96), (2, q96, 322, q98), (0, q98, 0, 20), (1, q98, 0, 40), (5, q98, 0, 0), (7, q98, 0, 0), (4, q96, 321, 0), (4, q96, 320, 4294967295), (0, q96, 0, 5), (3, q76, 64 * 25 + 2, q92), (2, q92, 322, q94), (0, q94, 0, 20), (1, q94, 0, 40), (5, q94, 0, 0), (7, q94, 0, 0), (4, q92, 321, 0), (4, q92, 320, 4294967295), (0, q92, 0, 5), (3, q76, 64 * 25 + 1, q88), (2, q88, 322, q90), (0, q90, 0, 20), (1, q90, 0, 40), (5, q90, 0, 0), (7, q90, 0, 0), (4, q88, 321, 0), (4, q88, 320, 4294967295), (0, q88, 0, 5), (3, q76, 64 * 25 + 0, q84), (2, q84, 322, q86), (0, q86, 0, 20), (1, q86, 0, 40), (5, q86, 0, 0), (7, q86, 0, 0), (4, q84, 321, 0), (4, q84, 320, 4294967295), (0, q84, 0, 5), (2, q0, 720, q80), (4, q80, 69, 0), (4, q80, 68, 0), (4, q80, 67, 0), (4, q80, 66, 0), (4, q80, 65, 0), (2, q80, 64, q82), (0, q82, 0, 20), (1, q82, 0, 30), (0, q80, 0, 1), (2, q0, 719, q78), (0, q78, 0, 26), (1, q78, 0, 4), (2, q0, 718, q76), (0, q76, 0, 25), (1, q76, 0, 4), (4, q0, 717, 0), (2, q0, 716, q73), (0, q73, 0, 20), (1, q73, 0, 30), (2, q0, 715, q71), (0, q71, 0, 20), (1, q71, 0, 40), (2, q0, 714, q69), (0, q69, 0, 20), (1, q69, 0, 28), (2, q0, 713, q67), (0, q67, 0, 20), (1, q67, 0, 200), (2, q0, 712, q65), (0, q65, 0, 20), (1, q65, 0, 7), (2, q0, 711, q61), (2, q61, 256, q51), (4, q61, 258, 0), (2, q61, 257, q63), (0, q63, 0, 20), (1, q63, 0, 200), (0, q61, 0, 4), (2, q0, 710, q57), (2, q57, 512, q51), (4, q57, 516, 0), (4, q57, 515, 0), (4, q57, 514, 0), (2, q57, 513, q59), (0, q59, 0, 20), (1, q59, 0, 12), (0, q57, 0, 8), (2, q0, 709, q51), (4, q51, 580, 0), (4, q51, 579, 0), (2, q51, 578, q55), (0, q55, 0, 20), (1, q55, 0, 201), (2, q51, 577, q54), (0, q54, 0, 20), (1, q54, 0, 201), (2, q51, 576, q53), (0, q53, 0, 20), (1, q53, 0, 201), (0, q51, 0, 9), (4, q0, 708, 0), (2, q0, 707, q48), (0, q48, 0, 21), (1, q48, 0, 200), (4, q0, 706, 0), (2, q0, 705, q24), (3, q31, 64 * 24 + 7, q44), (3, q31, 64 * 24 + 6, q44), (3, q31, 64 * 24 + 5, q44), (3, q31, 64 * 24 + 4, q44), (3, q31, 64 * 24 + 3, q44), (3, q31, 64 * 24 + 2, q44), (3, q31, 64 * 24 + 1, q44), (3, q31, 64 * 24 + 0, q44), (2, q44, 192, q45), (0, q45, 0, 20), (1, q45, 0, 0), (0, q44, 0, 3), (3, q30, 64 * 27 + 7, q42), (3, q30, 64 * 27 + 6, q42), (3, q30, 64 * 27 + 5, q42), (3, q30, 64 * 27 + 4, q42), (3, q30, 64 * 27 + 3, q42), (3, q30, 64 * 27 + 2, q42), (3, q30, 64 * 27 + 1, q42), (3, q30, 64 * 27 + 0, q42), (2, q42, 451, q43), (4, q42, 450, 0), (4, q42, 449, 0), (4, q42, 448, 1), (0, q43, 0, 20), (1, q43, 0, 0), (0, q42, 0, 7), (3, q26, 64 * 23 + 9, q41), (0, q41, 0, 2), (3, q26, 64 * 23 + 8, q40), (0, q40, 0, 2), (3, q26, 64 * 23 + 7, q39), (0, q39, 0, 2), (3, q26, 64 * 23 + 6, q38), (0, q38, 0, 2), (3, q26, 64 * 23 + 5, q37), (0, q37, 0, 2), (3, q26, 64 * 23 + 4, q36), (0, q36, 0, 2), (3, q26, 64 * 23 + 3, q35), (0, q35, 0, 2), (3, q26, 64 * 23 + 2, q34), (0, q34, 0, 2), (3, q26, 64 * 23 + 1, q33), (0, q33, 0, 2), (3, q26, 64 * 23 + 0, q32), (0, q32, 0, 2), (2, q24, 653, q31), (0, q31, 0, 24), (1, q31, 0, 8), (2, q24, 652, q30), (0, q30, 0, 27), (1, q30, 0, 8), (2, q24, 651, q29), (0, q29, 0, 20), (1, q29, 0, 40), (2, q24, 650, q28), (0, q28, 0, 20), (1, q28, 0, 40), (2, q24, 649, q27), (0, q27, 0, 20), (1, q27, 0, 40), (2, q24, 648, q26), (0, q26, 0, 23), (1, q26, 0, 10), (4, q24, 647, 0), (4, q24, 646, 0), (4, q24, 645, 0), (4, q24, 644, 0), (4, q24, 643, 0), (4, q24, 642, 1), (4, q24, 641, 0), (4, q24, 640, 0), (0, q24, 0, 10), (2, q0, 704, q1), (3, q8, 64 * 24 + 7, q21), (3, q8, 64 * 24 + 6, q21), (3, q8, 64 * 24 + 5, q21), (3, q8, 64 * 24 + 4, q21), (3, q8, 64 * 24 + 3, q21), (3, q8, 64 * 24 + 2, q21), (3, q8, 64 * 24 + 1, q21), (3, q8, 64 * 24 + 0, q21), (2, q21, 192, q22), (0, q22, 0, 20), (1, q22, 0, 0), (0, q21, 0, 3), (3, q7, 64 * 27 + 7, q19), (3, q7, 64 * 27 + 6, q19), (3, q7, 64 * 27 + 5, q19), (3, q7, 64 * 27 + 4, q19), (3, q7, 64 * 27 + 3, q19), (3, q7, 64 * 27 + 2, q19), (3, q7, 64 * 27 + 1, q19), (3, q7, 64 * 27 + 0, q19), (2, q19, 451, q20), (4, q19, 450, 0), (4, q19, 449, 0), (4, q19, 448, 1), (0, q20, 0, 20), (1, q20, 0, 0), (0, q19, 0, 7), (3, q3, 64 * 23 + 9, q18), (0, q18, 0, 2), (3, q3, 64 * 23 + 8, q17), (0, q17, 0, 2), (3, q3, 64 * 23 + 7, q16), (0, q16, 0, 2), (3, q3, 64 * 23 + 6, q15), (0, q15, 0, 2), (3, q3, 64 * 23 + 5, q14), (0, q14, 0, 2), (3, q3, 64 * 23 + 4, q13), (0, q13, 0, 2), (3, q3, 64 * 23 + 3, q12), (0, q12, 0, 2), (3, q3, 64 * 23 + 2, q11), (0, q11, 0, 2), (3, q3, 64 * 23 + 1, q10), (0, q10, 0, 2), (3, q3, 64 * 23 + 0, q9), (0, q9, 0, 2), (2, q1, 653, q8), (0, q8, 0, 24), (1, q8, 0, 8), (2, q1, 652, q7), (0, q7, 0, 27), (1, q7, 0, 8), (2, q1, 651, q6), (0, q6, 0, 20), (1, q6, 0, 40), (2, q1, 650, q5), (0, q5, 0, 20), (1, q5, 0, 40), (2, q1, 649, q4), (0, q4, 0, 20), (1, q4, 0, 40), (2, q1, 648, q3), (0, q3, 0, 23), (1, q3, 0, 10), (4, q1, 647, 0), (4, q1, 646, 0), (4, q1, 645, 0), (4, q1, 644, 0), (4, q1, 643, 0), (4, q1, 642, 1), (4, q1, 641, 0), (4, q1, 640, 0), (0, q1, 0, 10), (0, q0, 0, 11)] [q109, q106, q103, q100, q98, q96, q94, q92, q90, q88, q86, q84, q82, q80, q78, q76, q73, q71, q69, q67, q65, q63, q61, q59, q57, q55, q54, q53, q51, q48, q45, q44, q43, q42, q41, q40, q39, q38, q37, q36, q35, q34, q33, q32, q31, q30, q29, q28, q27, q26, q24, q22, q21, q20, q19, q18, q17, q16, q15, q14, q13, q12, q11, q10, q9, q8, q7, q6, q5, q4, q3, q1, q0] → K S') : wp_X10_init N S1 q0 K := by
  have b0 := Bo.newO Bo.nil h0 e0 (by decide)
  intro q1 T1 h1 e1
  have b1 := b0.newO h1 e1 (by decide)
  refine bo_X9 h1 e1 (fun T2 q3 q4 q5 q6 q7 q8 q9 q10 q11 q12 q13 q14 q15 q16 q17 q18 q19 q20 q21 q22 c22 => ?_)
  have b22 := Bo.tr b0 c22
  refine ⟨b22.gK 74 rfl, ?_⟩
  intro T23 e23
  have b23 := b22.setR 21 rfl rfl e23
  intro q24 T24 h24 e24
  have b24 := b23.newO h24 e24 (by decide)
  refine bo_X9 h24 e24 (fun T25 q26 q27 q28 q29 q30 q31 q32 q33 q34 q35 q36 q37 q38 q39 q40 q41 q42 q43 q44 q45 c45 => ?_)
  have b45 := Bo.tr b23 c45
  refine ⟨b45.gK 149 rfl, ?_⟩
  intro T46 e46
  have b46 := b45.setR 42 rfl rfl e46
  intro T47 e47
  have b47 := b46.setI 42 rfl rfl (show (0 : Int32) = nI 0 by decide) e47
  intro q48 T48 h48 e48
  have b48 := b47.newA h48 e48 (by decide)
  intro T49 e49
  have b49 := b48.setR 43 rfl rfl e49
  intro T50 e50
  have b50 := b49.setI 43 rfl rfl (show (0 : Int32) = nI 0 by decide) e50
  intro q51 T51 h51 e51
  have b51 := b50.newO h51 e51 (by decide)
  refine bo_X8 h51 e51 (fun T52 q53 q54 q55 c55 => ?_)
  have b55 := Bo.tr b50 c55
  refine ⟨b55.gK 167 rfl, ?_⟩
  intro T56 e56
  have b56 := b55.setR 47 rfl rfl e56
  intro q57 T57 h57 e57
  have b57 := b56.newO h57 e57 (by decide)
  refine ⟨q51, b57.gR 1 rfl, ?_⟩
  refine bo_X7 h57 e57 (fun T58 q59 c59 => ?_)
  have b59 := Bo.tr b56 c59
  refine ⟨b59.gK 176 rfl, ?_⟩
  intro T60 e60
  have b60 := b59.setR 49 rfl rfl e60
  intro q61 T61 h61 e61
  have b61 := b60.newO h61 e61 (by decide)
  refine ⟨q51, b61.gR 10 rfl, ?_⟩
  refine bo_X3 h61 e61 (fun T62 q63 c63 => ?_)
  have b63 := Bo.tr b60 c63
  refine ⟨b63.gK 183 rfl, ?_⟩
  intro T64 e64
  have b64 := b63.setR 51 rfl rfl e64
  intro q65 T65 h65 e65
  have b65 := b64.newA h65 e65 (by decide)
  intro T66 e66
  have b66 := b65.setR 52 rfl rfl e66
  intro q67 T67 h67 e67
  have b67 := b66.newA h67 e67 (by decide)
  intro T68 e68
  have b68 := b67.setR 53 rfl rfl e68
  intro q69 T69 h69 e69
  have b69 := b68.newA h69 e69 (by decide)
  intro T70 e70
  have b70 := b69.setR 54 rfl rfl e70
  intro q71 T71 h71 e71
  have b71 := b70.newA h71 e71 (by decide)
  intro T72 e72
  have b72 := b71.setR 55 rfl rfl e72
  intro q73 T73 h73 e73
  have b73 := b72.newA h73 e73 (by decide)
  intro T74 e74
  have b74 := b73.setR 56 rfl rfl e74
  intro T75 e75
  have b75 := b74.setI 56 rfl rfl (show (0 : Int32) = nI 0 by decide) e75
  intro q76 T76 h76 e76
  have b76 := b75.newA h76 e76 (by decide)
  intro T77 e77
  have b77 := b76.setR 57 rfl rfl e77
  intro q78 T78 h78 e78
  have b78 := b77.newA h78 e78 (by decide)
  intro T79 e79
  have b79 := b78.setR 58 rfl rfl e79
  intro q80 T80 h80 e80
  have b80 := b79.newO h80 e80 (by decide)
  refine bo_X0 h80 e80 (fun T81 q82 c82 => ?_)
  have b82 := Bo.tr b79 c82
  refine ⟨b82.gK 215 rfl, ?_⟩
  intro T83 e83
  have b83 := b82.setR 60 rfl rfl e83
  refine ⟨q76, b83.gR 13 rfl, ?_⟩
  intro q84 T84 h84 e84
  have b84 := b83.newO h84 e84 (by decide)
  refine bo_X4 h84 e84 (fun T85 q86 c86 => ?_)
  have b86 := Bo.tr b83 c86
  refine ⟨b86.gK 22 rfl, ?_⟩
  refine ⟨b86.gK 7 rfl, ?_⟩
  refine ⟨by rw [b86.gl 23 rfl]; exact vp_in_nI (n := 0) (by decide) (by decide), ?_⟩
  intro T87 e87
  rw [show (0 : Int32).toNatClampNeg = 0 by decide] at e87
  have b87 := b86.setQ 5 rfl (b86.gK 22 rfl) (by decide) rfl e87
  refine ⟨b87.gK 225 rfl, ?_⟩
  refine ⟨q76, b87.gR 22 rfl, ?_⟩
  intro q88 T88 h88 e88
  have b88 := b87.newO h88 e88 (by decide)
  refine bo_X4 h88 e88 (fun T89 q90 c90 => ?_)
  have b90 := Bo.tr b87 c90
  refine ⟨b90.gK 31 rfl, ?_⟩
  refine ⟨b90.gK 7 rfl, ?_⟩
  refine ⟨by rw [b90.gl 32 rfl]; exact vp_in_nI (n := 1) (by decide) (by decide), ?_⟩
  intro T91 e91
  rw [show (1 : Int32).toNatClampNeg = 1 by decide] at e91
  have b91 := b90.setQ 7 rfl (b90.gK 31 rfl) (by decide) rfl e91
  refine ⟨b91.gK 234 rfl, ?_⟩
  refine ⟨q76, b91.gR 31 rfl, ?_⟩
  intro q92 T92 h92 e92
  have b92 := b91.newO h92 e92 (by decide)
  refine bo_X4 h92 e92 (fun T93 q94 c94 => ?_)
  have b94 := Bo.tr b91 c94
  refine ⟨b94.gK 40 rfl, ?_⟩
  refine ⟨b94.gK 7 rfl, ?_⟩
  refine ⟨by rw [b94.gl 41 rfl]; exact vp_in_nI (n := 2) (by decide) (by decide), ?_⟩
  intro T95 e95
  rw [show (2 : Int32).toNatClampNeg = 2 by decide] at e95
  have b95 := b94.setQ 9 rfl (b94.gK 40 rfl) (by decide) rfl e95
  refine ⟨b95.gK 243 rfl, ?_⟩
  refine ⟨q76, b95.gR 40 rfl, ?_⟩
  intro q96 T96 h96 e96
  have b96 := b95.newO h96 e96 (by decide)
  refine bo_X4 h96 e96 (fun T97 q98 c98 => ?_)
  have b98 := Bo.tr b95 c98
  refine ⟨b98.gK 49 rfl, ?_⟩
  refine ⟨b98.gK 7 rfl, ?_⟩
  refine ⟨by rw [b98.gl 50 rfl]; exact vp_in_nI (n := 3) (by decide) (by decide), ?_⟩
  intro T99 e99
  rw [show (3 : Int32).toNatClampNeg = 3 by decide] at e99
  have b99 := b98.setQ 11 rfl (b98.gK 49 rfl) (by decide) rfl e99
  refine ⟨b99.gK 252 rfl, ?_⟩
  refine ⟨q78, b99.gR 46 rfl, ?_⟩
  intro q100 T100 h100 e100
  have b100 := b99.newO h100 e100 (by decide)
  refine bo_X5 h100 e100 (fun T101 c101 => ?_)
  have b101 := Bo.tr b99 c101
  refine ⟨b101.gK 52 rfl, ?_⟩
  refine ⟨b101.gK 4 rfl, ?_⟩
  refine ⟨by rw [b101.gl 53 rfl]; exact vp_in_nI (n := 0) (by decide) (by decide), ?_⟩
  intro T102 e102
  rw [show (0 : Int32).toNatClampNeg = 0 by decide] at e102
  have b102 := b101.setQ 11 rfl (b101.gK 52 rfl) (by decide) rfl e102
  refine ⟨b102.gK 258 rfl, ?_⟩
  refine ⟨q78, b102.gR 52 rfl, ?_⟩
  intro q103 T103 h103 e103
  have b103 := b102.newO h103 e103 (by decide)
  refine bo_X5 h103 e103 (fun T104 c104 => ?_)
  have b104 := Bo.tr b102 c104
  refine ⟨b104.gK 58 rfl, ?_⟩
  refine ⟨b104.gK 4 rfl, ?_⟩
  refine ⟨by rw [b104.gl 59 rfl]; exact vp_in_nI (n := 1) (by decide) (by decide), ?_⟩
  intro T105 e105
  rw [show (1 : Int32).toNatClampNeg = 1 by decide] at e105
  have b105 := b104.setQ 12 rfl (b104.gK 58 rfl) (by decide) rfl e105
  refine ⟨b105.gK 264 rfl, ?_⟩
  refine ⟨q78, b105.gR 58 rfl, ?_⟩
  intro q106 T106 h106 e106
  have b106 := b105.newO h106 e106 (by decide)
  refine bo_X5 h106 e106 (fun T107 c107 => ?_)
  have b107 := Bo.tr b105 c107
  refine ⟨b107.gK 64 rfl, ?_⟩
  refine ⟨b107.gK 4 rfl, ?_⟩
  refine ⟨by rw [b107.gl 65 rfl]; exact vp_in_nI (n := 2) (by decide) (by decide), ?_⟩
  intro T108 e108
  rw [show (2 : Int32).toNatClampNeg = 2 by decide] at e108
  have b108 := b107.setQ 13 rfl (b107.gK 64 rfl) (by decide) rfl e108
  refine ⟨b108.gK 270 rfl, ?_⟩
  refine ⟨q78, b108.gR 64 rfl, ?_⟩
  intro q109 T109 h109 e109
  have b109 := b108.newO h109 e109 (by decide)
  refine bo_X5 h109 e109 (fun T110 c110 => ?_)
  have b110 := Bo.tr b108 c110
  refine ⟨b110.gK 70 rfl, ?_⟩
  refine ⟨b110.gK 4 rfl, ?_⟩
  refine ⟨by rw [b110.gl 71 rfl]; exact vp_in_nI (n := 3) (by decide) (by decide), ?_⟩
  intro T111 e111
  rw [show (3 : Int32).toNatClampNeg = 3 by decide] at e111
  have b111 := b110.setQ 14 rfl (b110.gK 70 rfl) (by decide) rfl e111
  exact hK T111 q1 q3 q4 q5 q6 q7 q8 q9 q10 q11 q12 q13 q14 q15 q16 q17 q18 q19 q20 q21 q22 q24 q26 q27 q28 q29 q30 q31 q32 q33 q34 q35 q36 q37 q38 q39 q40 q41 q42 q43 q44 q45 q48 q51 q53 q54 q55 q57 q59 q61 q63 q65 q67 q69 q71 q73 q76 q78 q80 q82 q84 q86 q88 q90 q92 q94 q96 q98 q100 q103 q106 q109 b111
