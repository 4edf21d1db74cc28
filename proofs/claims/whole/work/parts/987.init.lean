set_option maxHeartbeats 4000000 in
set_option maxRecDepth 100000 in
theorem bo_X11 {N : Nat} {S0 S1 : PS} {q0 : Nat} {K : PS → Prop} (h0 : S0.K q0 = 0) (e0 : S1 = S0.newO q0 12) (hK : ∀ (S' : PS) (q2 q4 q6 q8 q10 q12 q14 q16 q18 q20 q22 q24 q26 q28 q30 q36 q38 q40 q46 q48 q50 q52 q54 : Nat), Bo S0 S' [(2, q0, 821, q54), (0, q54, 0, 20), (1, q54, 0, 8), (2, q0, 819, q52), (0, q52, 0, 20), (1, q52, 0, 2000), (2, q0, 815, q50), (0, q50, 0, 20), (1, q50, 0, 30), (2, q0, 811, q48), (0, q48, 0, 20), (1, q48, 0, 4), (2, q0, 810, q46), (0, q46, 0, 20), (1, q46, 0, 4), (2, q0, 809, q40), (6, q40, 3, 4294967295), (6, q40, 2, 4294967295), (6, q40, 1, 4294967295), (6, q40, 0, 4294967295), (0, q40, 0, 20), (1, q40, 0, 4), (2, q0, 808, q38), (0, q38, 0, 22), (1, q38, 0, 160), (5, q38, 0, 0), (7, q38, 0, 0), (2, q0, 807, q36), (0, q36, 0, 20), (1, q36, 0, 4), (5, q36, 0, 0), (7, q36, 0, 0), (2, q0, 806, q30), (6, q30, 3, 4294967295), (6, q30, 2, 4294967295), (6, q30, 1, 4294967295), (6, q30, 0, 4294967295), (0, q30, 0, 20), (1, q30, 0, 4), (2, q0, 804, q28), (0, q28, 0, 20), (1, q28, 0, 30), (2, q0, 803, q26), (0, q26, 0, 20), (1, q26, 0, 7), (2, q0, 802, q24), (0, q24, 0, 20), (1, q24, 0, 200), (2, q0, 796, q22), (0, q22, 0, 20), (1, q22, 0, 200), (2, q0, 795, q20), (0, q20, 0, 20), (1, q20, 0, 200), (2, q0, 794, q18), (0, q18, 0, 20), (1, q18, 0, 40), (2, q0, 792, q16), (0, q16, 0, 20), (1, q16, 0, 28), (2, q0, 789, q14), (0, q14, 0, 20), (1, q14, 0, 16), (2, q0, 781, q12), (0, q12, 0, 20), (1, q12, 0, 200), (2, q0, 780, q10), (0, q10, 0, 20), (1, q10, 0, 1600), (2, q0, 779, q8), (0, q8, 0, 20), (1, q8, 0, 8), (2, q0, 777, q6), (0, q6, 0, 20), (1, q6, 0, 128), (2, q0, 775, q4), (0, q4, 0, 20), (1, q4, 0, 120), (2, q0, 773, q2), (0, q2, 0, 20), (1, q2, 0, 90), (4, q0, 770, 1), (4, q0, 818, 0), (4, q0, 816, 0), (4, q0, 805, 0), (4, q0, 782, 0), (4, q0, 778, 0), (4, q0, 776, 0), (4, q0, 774, 0), (4, q0, 772, 0), (4, q0, 771, 0), (4, q0, 769, 0), (4, q0, 768, 0), (0, q0, 0, 12)] [q54, q52, q50, q48, q46, q40, q38, q36, q30, q28, q26, q24, q22, q20, q18, q16, q14, q12, q10, q8, q6, q4, q2, q0] → K S') : wp_X11_init N S1 q0 K := by
  have b0 := Bo.newO Bo.nil h0 e0 (by decide)
  have b0 := b0.zero (g := 768) e0 (by rw [b0.gK 0 rfl]; decide)
  have b0 := b0.zero (g := 769) e0 (by rw [b0.gK 1 rfl]; decide)
  have b0 := b0.zero (g := 771) e0 (by rw [b0.gK 2 rfl]; decide)
  have b0 := b0.zero (g := 772) e0 (by rw [b0.gK 3 rfl]; decide)
  have b0 := b0.zero (g := 774) e0 (by rw [b0.gK 4 rfl]; decide)
  have b0 := b0.zero (g := 776) e0 (by rw [b0.gK 5 rfl]; decide)
  have b0 := b0.zero (g := 778) e0 (by rw [b0.gK 6 rfl]; decide)
  have b0 := b0.zero (g := 782) e0 (by rw [b0.gK 7 rfl]; decide)
  have b0 := b0.zero (g := 805) e0 (by rw [b0.gK 8 rfl]; decide)
  have b0 := b0.zero (g := 816) e0 (by rw [b0.gK 9 rfl]; decide)
  have b0 := b0.zero (g := 818) e0 (by rw [b0.gK 10 rfl]; decide)
  refine ⟨b0.gK 11 rfl, ?_⟩
  intro T1 e1
  have b1 := b0.setI 0 rfl rfl (show (1 : Int32) = nI 1 by decide) e1
  intro q2 T2 h2 e2
  have b2 := b1.newA h2 e2 (by decide)
  intro T3 e3
  have b3 := b2.setR 1 rfl rfl e3
  intro q4 T4 h4 e4
  have b4 := b3.newA h4 e4 (by decide)
  intro T5 e5
  have b5 := b4.setR 2 rfl rfl e5
  intro q6 T6 h6 e6
  have b6 := b5.newA h6 e6 (by decide)
  intro T7 e7
  have b7 := b6.setR 3 rfl rfl e7
  intro q8 T8 h8 e8
  have b8 := b7.newA h8 e8 (by decide)
  intro T9 e9
  have b9 := b8.setR 4 rfl rfl e9
  intro q10 T10 h10 e10
  have b10 := b9.newA h10 e10 (by decide)
  intro T11 e11
  have b11 := b10.setR 5 rfl rfl e11
  intro q12 T12 h12 e12
  have b12 := b11.newA h12 e12 (by decide)
  intro T13 e13
  have b13 := b12.setR 6 rfl rfl e13
  intro q14 T14 h14 e14
  have b14 := b13.newA h14 e14 (by decide)
  intro T15 e15
  have b15 := b14.setR 7 rfl rfl e15
  intro q16 T16 h16 e16
  have b16 := b15.newA h16 e16 (by decide)
  intro T17 e17
  have b17 := b16.setR 8 rfl rfl e17
  intro q18 T18 h18 e18
  have b18 := b17.newA h18 e18 (by decide)
  intro T19 e19
  have b19 := b18.setR 9 rfl rfl e19
  intro q20 T20 h20 e20
  have b20 := b19.newA h20 e20 (by decide)
  intro T21 e21
  have b21 := b20.setR 10 rfl rfl e21
  intro q22 T22 h22 e22
  have b22 := b21.newA h22 e22 (by decide)
  intro T23 e23
  have b23 := b22.setR 11 rfl rfl e23
  intro q24 T24 h24 e24
  have b24 := b23.newA h24 e24 (by decide)
  intro T25 e25
  have b25 := b24.setR 12 rfl rfl e25
  intro q26 T26 h26 e26
  have b26 := b25.newA h26 e26 (by decide)
  intro T27 e27
  have b27 := b26.setR 13 rfl rfl e27
  intro q28 T28 h28 e28
  have b28 := b27.newA h28 e28 (by decide)
  intro T29 e29
  have b29 := b28.setR 14 rfl rfl e29
  intro q30 T30 h30 e30
  have c30 := Bo.newA (S0 := T29) Bo.nil h30 e30 (by decide)
  refine ⟨by rw [c30.gl 1 rfl]; exact vp_in_nI (n := 0) (by decide) (by decide), ?_⟩
  intro T31 e31
  rw [show (0 : Int32).toNatClampNeg = 0 by decide] at e31
  have b31 := c30.setA 0 rfl rfl rfl (show ((-1) : Int32) = nI 4294967295 by decide) e31
  refine ⟨by rw [b31.gl 2 rfl]; exact vp_in_nI (n := 1) (by decide) (by decide), ?_⟩
  intro T32 e32
  rw [show (1 : Int32).toNatClampNeg = 1 by decide] at e32
  have b32 := b31.setA 0 rfl rfl rfl (show ((-1) : Int32) = nI 4294967295 by decide) e32
  refine ⟨by rw [b32.gl 3 rfl]; exact vp_in_nI (n := 2) (by decide) (by decide), ?_⟩
  intro T33 e33
  rw [show (2 : Int32).toNatClampNeg = 2 by decide] at e33
  have b33 := b32.setA 0 rfl rfl rfl (show ((-1) : Int32) = nI 4294967295 by decide) e33
  refine ⟨by rw [b33.gl 4 rfl]; exact vp_in_nI (n := 3) (by decide) (by decide), ?_⟩
  intro T34 e34
  rw [show (3 : Int32).toNatClampNeg = 3 by decide] at e34
  have b34 := b33.setA 0 rfl rfl rfl (show ((-1) : Int32) = nI 4294967295 by decide) e34
  have b30z := Bo.tr b29 b34
  intro T35 e35
  have b35 := b30z.setR 15 rfl rfl e35
  intro q36 T36 h36 e36
  have b36 := b35.newAz h36 e36 (by decide)
  intro T37 e37
  have b37 := b36.setR 16 rfl rfl e37
  intro q38 T38 h38 e38
  have b38 := b37.newAz h38 e38 (by decide)
  intro T39 e39
  have b39 := b38.setR 17 rfl rfl e39
  intro q40 T40 h40 e40
  have c40 := Bo.newA (S0 := T39) Bo.nil h40 e40 (by decide)
  refine ⟨by rw [c40.gl 1 rfl]; exact vp_in_nI (n := 0) (by decide) (by decide), ?_⟩
  intro T41 e41
  rw [show (0 : Int32).toNatClampNeg = 0 by decide] at e41
  have b41 := c40.setA 0 rfl rfl rfl (show ((-1) : Int32) = nI 4294967295 by decide) e41
  refine ⟨by rw [b41.gl 2 rfl]; exact vp_in_nI (n := 1) (by decide) (by decide), ?_⟩
  intro T42 e42
  rw [show (1 : Int32).toNatClampNeg = 1 by decide] at e42
  have b42 := b41.setA 0 rfl rfl rfl (show ((-1) : Int32) = nI 4294967295 by decide) e42
  refine ⟨by rw [b42.gl 3 rfl]; exact vp_in_nI (n := 2) (by decide) (by decide), ?_⟩
  intro T43 e43
  rw [show (2 : Int32).toNatClampNeg = 2 by decide] at e43
  have b43 := b42.setA 0 rfl rfl rfl (show ((-1) : Int32) = nI 4294967295 by decide) e43
  refine ⟨by rw [b43.gl 4 rfl]; exact vp_in_nI (n := 3) (by decide) (by decide), ?_⟩
  intro T44 e44
  rw [show (3 : Int32).toNatClampNeg = 3 by decide] at e44
  have b44 := b43.setA 0 rfl rfl rfl (show ((-1) : Int32) = nI 4294967295 by decide) e44
  have b40z := Bo.tr b39 b44
  intro T45 e45
  have b45 := b40z.setR 18 rfl rfl e45
  intro q46 T46 h46 e46
  have b46 := b45.newA h46 e46 (by decide)
  intro T47 e47
  have b47 := b46.setR 19 rfl rfl e47
  intro q48 T48 h48 e48
  have b48 := b47.newA h48 e48 (by decide)
  intro T49 e49
  have b49 := b48.setR 20 rfl rfl e49
  intro q50 T50 h50 e50
  have b50 := b49.newA h50 e50 (by decide)
  intro T51 e51
  have b51 := b50.setR 21 rfl rfl e51
  intro q52 T52 h52 e52
  have b52 := b51.newA h52 e52 (by decide)
  intro T53 e53
  have b53 := b52.setR 22 rfl rfl e53
  intro q54 T54 h54 e54
  have b54 := b53.newA h54 e54 (by decide)
  intro T55 e55
  have b55 := b54.setR 23 rfl rfl e55
  exact hK T55 q2 q4 q6 q8 q10 q12 q14 q16 q18 q20 q22 q24 q26 q28 q30 q36 q38 q40 q46 q48 q50 q52 q54 b55
