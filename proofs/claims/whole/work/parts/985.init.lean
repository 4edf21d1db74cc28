set_option maxHeartbeats 4000000 in
set_option maxRecDepth 100000 in
theorem bo_X9 {N : Nat} {S0 S1 : PS} {q0 : Nat} {K : PS → Prop} (h0 : S0.K q0 = 0) (e0 : S1 = S0.newO q0 10) (hK : ∀ (S' : PS) (q9 q11 q13 q15 q17 q19 q21 q23 q25 q27 q29 q31 q33 q35 q37 q39 q41 q42 q55 q56 : Nat), Bo S0 S' [(3, q19, 64 * 24 + 7, q55), (3, q19, 64 * 24 + 6, q55), (3, q19, 64 * 24 + 5, q55), (3, q19, 64 * 24 + 4, q55), (3, q19, 64 * 24 + 3, q55), (3, q19, 64 * 24 + 2, q55), (3, q19, 64 * 24 + 1, q55), (3, q19, 64 * 24 + 0, q55), (2, q55, 192, q56), (0, q56, 0, 20), (1, q56, 0, 0), (0, q55, 0, 3), (3, q17, 64 * 27 + 7, q41), (3, q17, 64 * 27 + 6, q41), (3, q17, 64 * 27 + 5, q41), (3, q17, 64 * 27 + 4, q41), (3, q17, 64 * 27 + 3, q41), (3, q17, 64 * 27 + 2, q41), (3, q17, 64 * 27 + 1, q41), (3, q17, 64 * 27 + 0, q41), (2, q41, 451, q42), (4, q41, 450, 0), (4, q41, 449, 0), (4, q41, 448, 1), (0, q42, 0, 20), (1, q42, 0, 0), (0, q41, 0, 7), (3, q9, 64 * 23 + 9, q39), (0, q39, 0, 2), (3, q9, 64 * 23 + 8, q37), (0, q37, 0, 2), (3, q9, 64 * 23 + 7, q35), (0, q35, 0, 2), (3, q9, 64 * 23 + 6, q33), (0, q33, 0, 2), (3, q9, 64 * 23 + 5, q31), (0, q31, 0, 2), (3, q9, 64 * 23 + 4, q29), (0, q29, 0, 2), (3, q9, 64 * 23 + 3, q27), (0, q27, 0, 2), (3, q9, 64 * 23 + 2, q25), (0, q25, 0, 2), (3, q9, 64 * 23 + 1, q23), (0, q23, 0, 2), (3, q9, 64 * 23 + 0, q21), (0, q21, 0, 2), (2, q0, 653, q19), (0, q19, 0, 24), (1, q19, 0, 8), (2, q0, 652, q17), (0, q17, 0, 27), (1, q17, 0, 8), (2, q0, 651, q15), (0, q15, 0, 20), (1, q15, 0, 40), (2, q0, 650, q13), (0, q13, 0, 20), (1, q13, 0, 40), (2, q0, 649, q11), (0, q11, 0, 20), (1, q11, 0, 40), (2, q0, 648, q9), (0, q9, 0, 23), (1, q9, 0, 10), (4, q0, 647, 0), (4, q0, 646, 0), (4, q0, 645, 0), (4, q0, 644, 0), (4, q0, 643, 0), (4, q0, 642, 1), (4, q0, 641, 0), (4, q0, 640, 0), (0, q0, 0, 10)] [q56, q55, q42, q41, q39, q37, q35, q33, q31, q29, q27, q25, q23, q21, q19, q17, q15, q13, q11, q9, q0] → K S') : wp_X9_init N S1 q0 K := by
  have b0 := Bo.newO Bo.nil h0 e0 (by decide)
  refine ⟨b0.gK 0 rfl, ?_⟩
  intro T1 e1
  have b1 := b0.setI 0 rfl rfl (show (0 : Int32) = nI 0 by decide) e1
  intro T2 e2
  have b2 := b1.setI 0 rfl rfl (show (0 : Int32) = nI 0 by decide) e2
  intro T3 e3
  have b3 := b2.setI 0 rfl rfl (show (1 : Int32) = nI 1 by decide) e3
  intro T4 e4
  have b4 := b3.setI 0 rfl rfl (show (0 : Int32) = nI 0 by decide) e4
  intro T5 e5
  have b5 := b4.setI 0 rfl rfl (show (0 : Int32) = nI 0 by decide) e5
  intro T6 e6
  have b6 := b5.setI 0 rfl rfl (show (0 : Int32) = nI 0 by decide) e6
  intro T7 e7
  have b7 := b6.setI 0 rfl rfl (show (0 : Int32) = nI 0 by decide) e7
  intro T8 e8
  have b8 := b7.setI 0 rfl rfl (show (0 : Int32) = nI 0 by decide) e8
  intro q9 T9 h9 e9
  have b9 := b8.newA h9 e9 (by decide)
  intro T10 e10
  have b10 := b9.setR 1 rfl rfl e10
  intro q11 T11 h11 e11
  have b11 := b10.newA h11 e11 (by decide)
  intro T12 e12
  have b12 := b11.setR 2 rfl rfl e12
  intro q13 T13 h13 e13
  have b13 := b12.newA h13 e13 (by decide)
  intro T14 e14
  have b14 := b13.setR 3 rfl rfl e14
  intro q15 T15 h15 e15
  have b15 := b14.newA h15 e15 (by decide)
  intro T16 e16
  have b16 := b15.setR 4 rfl rfl e16
  intro q17 T17 h17 e17
  have b17 := b16.newA h17 e17 (by decide)
  intro T18 e18
  have b18 := b17.setR 5 rfl rfl e18
  intro q19 T19 h19 e19
  have b19 := b18.newA h19 e19 (by decide)
  intro T20 e20
  have b20 := b19.setR 6 rfl rfl e20
  refine ⟨q9, b20.gR 15 rfl, ?_⟩
  intro q21 T21 h21 e21
  have b21 := b20.newO h21 e21 (by decide)
  refine ⟨b21.gK 17 rfl, ?_⟩
  refine ⟨b21.gK 0 rfl, ?_⟩
  refine ⟨by rw [b21.gl 18 rfl]; exact vp_in_nI (n := 0) (by decide) (by decide), ?_⟩
  intro T22 e22
  rw [show (0 : Int32).toNatClampNeg = 0 by decide] at e22
  have b22 := b21.setQ 6 rfl (b21.gK 17 rfl) (by decide) rfl e22
  refine ⟨b22.gK 28 rfl, ?_⟩
  refine ⟨q9, b22.gR 17 rfl, ?_⟩
  intro q23 T23 h23 e23
  have b23 := b22.newO h23 e23 (by decide)
  refine ⟨b23.gK 19 rfl, ?_⟩
  refine ⟨b23.gK 0 rfl, ?_⟩
  refine ⟨by rw [b23.gl 20 rfl]; exact vp_in_nI (n := 1) (by decide) (by decide), ?_⟩
  intro T24 e24
  rw [show (1 : Int32).toNatClampNeg = 1 by decide] at e24
  have b24 := b23.setQ 7 rfl (b23.gK 19 rfl) (by decide) rfl e24
  refine ⟨b24.gK 30 rfl, ?_⟩
  refine ⟨q9, b24.gR 19 rfl, ?_⟩
  intro q25 T25 h25 e25
  have b25 := b24.newO h25 e25 (by decide)
  refine ⟨b25.gK 21 rfl, ?_⟩
  refine ⟨b25.gK 0 rfl, ?_⟩
  refine ⟨by rw [b25.gl 22 rfl]; exact vp_in_nI (n := 2) (by decide) (by decide), ?_⟩
  intro T26 e26
  rw [show (2 : Int32).toNatClampNeg = 2 by decide] at e26
  have b26 := b25.setQ 8 rfl (b25.gK 21 rfl) (by decide) rfl e26
  refine ⟨b26.gK 32 rfl, ?_⟩
  refine ⟨q9, b26.gR 21 rfl, ?_⟩
  intro q27 T27 h27 e27
  have b27 := b26.newO h27 e27 (by decide)
  refine ⟨b27.gK 23 rfl, ?_⟩
  refine ⟨b27.gK 0 rfl, ?_⟩
  refine ⟨by rw [b27.gl 24 rfl]; exact vp_in_nI (n := 3) (by decide) (by decide), ?_⟩
  intro T28 e28
  rw [show (3 : Int32).toNatClampNeg = 3 by decide] at e28
  have b28 := b27.setQ 9 rfl (b27.gK 23 rfl) (by decide) rfl e28
  refine ⟨b28.gK 34 rfl, ?_⟩
  refine ⟨q9, b28.gR 23 rfl, ?_⟩
  intro q29 T29 h29 e29
  have b29 := b28.newO h29 e29 (by decide)
  refine ⟨b29.gK 25 rfl, ?_⟩
  refine ⟨b29.gK 0 rfl, ?_⟩
  refine ⟨by rw [b29.gl 26 rfl]; exact vp_in_nI (n := 4) (by decide) (by decide), ?_⟩
  intro T30 e30
  rw [show (4 : Int32).toNatClampNeg = 4 by decide] at e30
  have b30 := b29.setQ 10 rfl (b29.gK 25 rfl) (by decide) rfl e30
  refine ⟨b30.gK 36 rfl, ?_⟩
  refine ⟨q9, b30.gR 25 rfl, ?_⟩
  intro q31 T31 h31 e31
  have b31 := b30.newO h31 e31 (by decide)
  refine ⟨b31.gK 27 rfl, ?_⟩
  refine ⟨b31.gK 0 rfl, ?_⟩
  refine ⟨by rw [b31.gl 28 rfl]; exact vp_in_nI (n := 5) (by decide) (by decide), ?_⟩
  intro T32 e32
  rw [show (5 : Int32).toNatClampNeg = 5 by decide] at e32
  have b32 := b31.setQ 11 rfl (b31.gK 27 rfl) (by decide) rfl e32
  refine ⟨b32.gK 38 rfl, ?_⟩
  refine ⟨q9, b32.gR 27 rfl, ?_⟩
  intro q33 T33 h33 e33
  have b33 := b32.newO h33 e33 (by decide)
  refine ⟨b33.gK 29 rfl, ?_⟩
  refine ⟨b33.gK 0 rfl, ?_⟩
  refine ⟨by rw [b33.gl 30 rfl]; exact vp_in_nI (n := 6) (by decide) (by decide), ?_⟩
  intro T34 e34
  rw [show (6 : Int32).toNatClampNeg = 6 by decide] at e34
  have b34 := b33.setQ 12 rfl (b33.gK 29 rfl) (by decide) rfl e34
  refine ⟨b34.gK 40 rfl, ?_⟩
  refine ⟨q9, b34.gR 29 rfl, ?_⟩
  intro q35 T35 h35 e35
  have b35 := b34.newO h35 e35 (by decide)
  refine ⟨b35.gK 31 rfl, ?_⟩
  refine ⟨b35.gK 0 rfl, ?_⟩
  refine ⟨by rw [b35.gl 32 rfl]; exact vp_in_nI (n := 7) (by decide) (by decide), ?_⟩
  intro T36 e36
  rw [show (7 : Int32).toNatClampNeg = 7 by decide] at e36
  have b36 := b35.setQ 13 rfl (b35.gK 31 rfl) (by decide) rfl e36
  refine ⟨b36.gK 42 rfl, ?_⟩
  refine ⟨q9, b36.gR 31 rfl, ?_⟩
  intro q37 T37 h37 e37
  have b37 := b36.newO h37 e37 (by decide)
  refine ⟨b37.gK 33 rfl, ?_⟩
  refine ⟨b37.gK 0 rfl, ?_⟩
  refine ⟨by rw [b37.gl 34 rfl]; exact vp_in_nI (n := 8) (by decide) (by decide), ?_⟩
  intro T38 e38
  rw [show (8 : Int32).toNatClampNeg = 8 by decide] at e38
  have b38 := b37.setQ 14 rfl (b37.gK 33 rfl) (by decide) rfl e38
  refine ⟨b38.gK 44 rfl, ?_⟩
  refine ⟨q9, b38.gR 33 rfl, ?_⟩
  intro q39 T39 h39 e39
  have b39 := b38.newO h39 e39 (by decide)
  refine ⟨b39.gK 35 rfl, ?_⟩
  refine ⟨b39.gK 0 rfl, ?_⟩
  refine ⟨by rw [b39.gl 36 rfl]; exact vp_in_nI (n := 9) (by decide) (by decide), ?_⟩
  intro T40 e40
  rw [show (9 : Int32).toNatClampNeg = 9 by decide] at e40
  have b40 := b39.setQ 15 rfl (b39.gK 35 rfl) (by decide) rfl e40
  intro q41 T41 h41 e41
  have b41 := b40.newO h41 e41 (by decide)
  intro q42 T42 h42 e42
  have b42 := b41.newA h42 e42 (by decide)
  refine ⟨b42.gK 2 rfl, ?_⟩
  intro T43 e43
  have b43 := b42.setI 1 rfl rfl (show (1 : Int32) = nI 1 by decide) e43
  intro T44 e44
  have b44 := b43.setI 1 rfl rfl (show (0 : Int32) = nI 0 by decide) e44
  intro T45 e45
  have b45 := b44.setI 1 rfl rfl (show (0 : Int32) = nI 0 by decide) e45
  intro T46 e46
  have b46 := b45.setR 1 rfl rfl e46
  refine ⟨b46.gK 53 rfl, ?_⟩
  refine ⟨q17, b46.gR 30 rfl, ?_⟩
  refine ⟨b46.gK 31 rfl, ?_⟩
  refine ⟨b46.gK 6 rfl, ?_⟩
  refine ⟨by rw [b46.gl 32 rfl]; exact vp_in_nI (n := 0) (by decide) (by decide), ?_⟩
  intro T47 e47
  rw [show (0 : Int32).toNatClampNeg = 0 by decide] at e47
  have b47 := b46.setQ 13 rfl (b46.gK 31 rfl) (by decide) rfl e47
  refine ⟨q17, b47.gR 31 rfl, ?_⟩
  refine ⟨b47.gK 32 rfl, ?_⟩
  refine ⟨by rw [b47.gl 33 rfl]; exact vp_in_nI (n := 1) (by decide) (by decide), ?_⟩
  intro T48 e48
  rw [show (1 : Int32).toNatClampNeg = 1 by decide] at e48
  have b48 := b47.setQ 13 rfl (b47.gK 32 rfl) (by decide) rfl e48
  refine ⟨q17, b48.gR 32 rfl, ?_⟩
  refine ⟨b48.gK 33 rfl, ?_⟩
  refine ⟨by rw [b48.gl 34 rfl]; exact vp_in_nI (n := 2) (by decide) (by decide), ?_⟩
  intro T49 e49
  rw [show (2 : Int32).toNatClampNeg = 2 by decide] at e49
  have b49 := b48.setQ 13 rfl (b48.gK 33 rfl) (by decide) rfl e49
  refine ⟨q17, b49.gR 33 rfl, ?_⟩
  refine ⟨b49.gK 34 rfl, ?_⟩
  refine ⟨by rw [b49.gl 35 rfl]; exact vp_in_nI (n := 3) (by decide) (by decide), ?_⟩
  intro T50 e50
  rw [show (3 : Int32).toNatClampNeg = 3 by decide] at e50
  have b50 := b49.setQ 13 rfl (b49.gK 34 rfl) (by decide) rfl e50
  refine ⟨q17, b50.gR 34 rfl, ?_⟩
  refine ⟨b50.gK 35 rfl, ?_⟩
  refine ⟨by rw [b50.gl 36 rfl]; exact vp_in_nI (n := 4) (by decide) (by decide), ?_⟩
  intro T51 e51
  rw [show (4 : Int32).toNatClampNeg = 4 by decide] at e51
  have b51 := b50.setQ 13 rfl (b50.gK 35 rfl) (by decide) rfl e51
  refine ⟨q17, b51.gR 35 rfl, ?_⟩
  refine ⟨b51.gK 36 rfl, ?_⟩
  refine ⟨by rw [b51.gl 37 rfl]; exact vp_in_nI (n := 5) (by decide) (by decide), ?_⟩
  intro T52 e52
  rw [show (5 : Int32).toNatClampNeg = 5 by decide] at e52
  have b52 := b51.setQ 13 rfl (b51.gK 36 rfl) (by decide) rfl e52
  refine ⟨q17, b52.gR 36 rfl, ?_⟩
  refine ⟨b52.gK 37 rfl, ?_⟩
  refine ⟨by rw [b52.gl 38 rfl]; exact vp_in_nI (n := 6) (by decide) (by decide), ?_⟩
  intro T53 e53
  rw [show (6 : Int32).toNatClampNeg = 6 by decide] at e53
  have b53 := b52.setQ 13 rfl (b52.gK 37 rfl) (by decide) rfl e53
  refine ⟨q17, b53.gR 37 rfl, ?_⟩
  refine ⟨b53.gK 38 rfl, ?_⟩
  refine ⟨by rw [b53.gl 39 rfl]; exact vp_in_nI (n := 7) (by decide) (by decide), ?_⟩
  intro T54 e54
  rw [show (7 : Int32).toNatClampNeg = 7 by decide] at e54
  have b54 := b53.setQ 13 rfl (b53.gK 38 rfl) (by decide) rfl e54
  intro q55 T55 h55 e55
  have b55 := b54.newO h55 e55 (by decide)
  intro q56 T56 h56 e56
  have b56 := b55.newA h56 e56 (by decide)
  refine ⟨b56.gK 2 rfl, ?_⟩
  intro T57 e57
  have b57 := b56.setR 1 rfl rfl e57
  refine ⟨b57.gK 65 rfl, ?_⟩
  refine ⟨q19, b57.gR 39 rfl, ?_⟩
  refine ⟨b57.gK 40 rfl, ?_⟩
  refine ⟨b57.gK 3 rfl, ?_⟩
  refine ⟨by rw [b57.gl 41 rfl]; exact vp_in_nI (n := 0) (by decide) (by decide), ?_⟩
  intro T58 e58
  rw [show (0 : Int32).toNatClampNeg = 0 by decide] at e58
  have b58 := b57.setQ 14 rfl (b57.gK 40 rfl) (by decide) rfl e58
  refine ⟨q19, b58.gR 40 rfl, ?_⟩
  refine ⟨b58.gK 41 rfl, ?_⟩
  refine ⟨by rw [b58.gl 42 rfl]; exact vp_in_nI (n := 1) (by decide) (by decide), ?_⟩
  intro T59 e59
  rw [show (1 : Int32).toNatClampNeg = 1 by decide] at e59
  have b59 := b58.setQ 14 rfl (b58.gK 41 rfl) (by decide) rfl e59
  refine ⟨q19, b59.gR 41 rfl, ?_⟩
  refine ⟨b59.gK 42 rfl, ?_⟩
  refine ⟨by rw [b59.gl 43 rfl]; exact vp_in_nI (n := 2) (by decide) (by decide), ?_⟩
  intro T60 e60
  rw [show (2 : Int32).toNatClampNeg = 2 by decide] at e60
  have b60 := b59.setQ 14 rfl (b59.gK 42 rfl) (by decide) rfl e60
  refine ⟨q19, b60.gR 42 rfl, ?_⟩
  refine ⟨b60.gK 43 rfl, ?_⟩
  refine ⟨by rw [b60.gl 44 rfl]; exact vp_in_nI (n := 3) (by decide) (by decide), ?_⟩
  intro T61 e61
  rw [show (3 : Int32).toNatClampNeg = 3 by decide] at e61
  have b61 := b60.setQ 14 rfl (b60.gK 43 rfl) (by decide) rfl e61
  refine ⟨q19, b61.gR 43 rfl, ?_⟩
  refine ⟨b61.gK 44 rfl, ?_⟩
  refine ⟨by rw [b61.gl 45 rfl]; exact vp_in_nI (n := 4) (by decide) (by decide), ?_⟩
  intro T62 e62
  rw [show (4 : Int32).toNatClampNeg = 4 by decide] at e62
  have b62 := b61.setQ 14 rfl (b61.gK 44 rfl) (by decide) rfl e62
  refine ⟨q19, b62.gR 44 rfl, ?_⟩
  refine ⟨b62.gK 45 rfl, ?_⟩
  refine ⟨by rw [b62.gl 46 rfl]; exact vp_in_nI (n := 5) (by decide) (by decide), ?_⟩
  intro T63 e63
  rw [show (5 : Int32).toNatClampNeg = 5 by decide] at e63
  have b63 := b62.setQ 14 rfl (b62.gK 45 rfl) (by decide) rfl e63
  refine ⟨q19, b63.gR 45 rfl, ?_⟩
  refine ⟨b63.gK 46 rfl, ?_⟩
  refine ⟨by rw [b63.gl 47 rfl]; exact vp_in_nI (n := 6) (by decide) (by decide), ?_⟩
  intro T64 e64
  rw [show (6 : Int32).toNatClampNeg = 6 by decide] at e64
  have b64 := b63.setQ 14 rfl (b63.gK 46 rfl) (by decide) rfl e64
  refine ⟨q19, b64.gR 46 rfl, ?_⟩
  refine ⟨b64.gK 47 rfl, ?_⟩
  refine ⟨by rw [b64.gl 48 rfl]; exact vp_in_nI (n := 7) (by decide) (by decide), ?_⟩
  intro T65 e65
  rw [show (7 : Int32).toNatClampNeg = 7 by decide] at e65
  have b65 := b64.setQ 14 rfl (b64.gK 47 rfl) (by decide) rfl e65
  exact hK T65 q9 q11 q13 q15 q17 q19 q21 q23 q25 q27 q29 q31 q33 q35 q37 q39 q41 q42 q55 q56 b65
