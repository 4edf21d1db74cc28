set_option maxHeartbeats 4000000 in
set_option maxRecDepth 100000 in
theorem bo_X0 {N : Nat} {S0 S1 : PS} {q0 : Nat} {K : PS → Prop} (h0 : S0.K q0 = 0) (e0 : S1 = S0.newO q0 1) (hK : ∀ (S' : PS) (q1 : Nat), Bo S0 S' [(4, q0, 69, 0), (4, q0, 68, 0), (4, q0, 67, 0), (4, q0, 66, 0), (4, q0, 65, 0), (2, q0, 64, q1), (0, q1, 0, 20), (1, q1, 0, 30), (0, q0, 0, 1)] [q1, q0] → K S') : wp_X0_init N S1 q0 K := by
  have b0 := Bo.newO Bo.nil h0 e0 (by decide)
  intro q1 T1 h1 e1
  have b1 := b0.newA h1 e1 (by decide)
  refine ⟨b1.gK 2 rfl, ?_⟩
  intro T2 e2
  have b2 := b1.setR 1 rfl rfl e2
  intro T3 e3
  have b3 := b2.setI 1 rfl rfl (show (0 : Int32) = nI 0 by decide) e3
  intro T4 e4
  have b4 := b3.setI 1 rfl rfl (show (0 : Int32) = nI 0 by decide) e4
  intro T5 e5
  have b5 := b4.setI 1 rfl rfl (show (0 : Int32) = nI 0 by decide) e5
  intro T6 e6
  have b6 := b5.setI 1 rfl rfl (show (0 : Int32) = nI 0 by decide) e6
  intro T7 e7
  have b7 := b6.setI 1 rfl rfl (show (0 : Int32) = nI 0 by decide) e7
  exact hK T7 q1 b7
set_option maxHeartbeats 4000000 in
set_option maxRecDepth 100000 in
theorem bo_X3 {N : Nat} {S0 S1 : PS} {q0 : Nat} {a1 : Nat} {K : PS → Prop} (h0 : S0.K q0 = 0) (e0 : S1 = S0.newO q0 4) (hK : ∀ (S' : PS) (q1 : Nat), Bo S0 S' [(2, q0, 256, a1), (4, q0, 258, 0), (2, q0, 257, q1), (0, q1, 0, 20), (1, q1, 0, 200), (0, q0, 0, 4)] [q1, q0] → K S') : wp_X3_init N S1 q0 a1 K := by
  have b0 := Bo.newO Bo.nil h0 e0 (by decide)
  intro q1 T1 h1 e1
  have b1 := b0.newA h1 e1 (by decide)
  refine ⟨b1.gK 2 rfl, ?_⟩
  intro T2 e2
  have b2 := b1.setR 1 rfl rfl e2
  intro T3 e3
  have b3 := b2.setI 1 rfl rfl (show (0 : Int32) = nI 0 by decide) e3
  intro T4 e4
  have b4 := b3.setR 1 rfl rfl e4
  exact hK T4 q1 b4
set_option maxHeartbeats 4000000 in
set_option maxRecDepth 100000 in
theorem bo_X4 {N : Nat} {S0 S1 : PS} {q0 : Nat} {K : PS → Prop} (h0 : S0.K q0 = 0) (e0 : S1 = S0.newO q0 5) (hK : ∀ (S' : PS) (q3 : Nat), Bo S0 S' [(2, q0, 322, q3), (0, q3, 0, 20), (1, q3, 0, 40), (5, q3, 0, 0), (7, q3, 0, 0), (4, q0, 321, 0), (4, q0, 320, 4294967295), (0, q0, 0, 5)] [q3, q0] → K S') : wp_X4_init N S1 q0 K := by
  have b0 := Bo.newO Bo.nil h0 e0 (by decide)
  refine ⟨b0.gK 0 rfl, ?_⟩
  intro T1 e1
  have b1 := b0.setI 0 rfl rfl (show ((-1) : Int32) = nI 4294967295 by decide) e1
  intro T2 e2
  have b2 := b1.setI 0 rfl rfl (show (0 : Int32) = nI 0 by decide) e2
  intro q3 T3 h3 e3
  have b3 := b2.newAz h3 e3 (by decide)
  intro T4 e4
  have b4 := b3.setR 1 rfl rfl e4
  exact hK T4 q3 b4
set_option maxHeartbeats 4000000 in
set_option maxRecDepth 100000 in
theorem bo_X5 {N : Nat} {S0 S1 : PS} {q0 : Nat} {K : PS → Prop} (h0 : S0.K q0 = 0) (e0 : S1 = S0.newO q0 6) (hK : ∀ (S' : PS), Bo S0 S' [(4, q0, 387, 0), (4, q0, 386, 0), (4, q0, 385, 0), (4, q0, 384, 2), (0, q0, 0, 6)] [q0] → K S') : wp_X5_init N S1 q0 K := by
  have b0 := Bo.newO Bo.nil h0 e0 (by decide)
  refine ⟨b0.gK 0 rfl, ?_⟩
  intro T1 e1
  have b1 := b0.setI 0 rfl rfl (show (2 : Int32) = nI 2 by decide) e1
  intro T2 e2
  have b2 := b1.setI 0 rfl rfl (show (0 : Int32) = nI 0 by decide) e2
  intro T3 e3
  have b3 := b2.setI 0 rfl rfl (show (0 : Int32) = nI 0 by decide) e3
  intro T4 e4
  have b4 := b3.setI 0 rfl rfl (show (0 : Int32) = nI 0 by decide) e4
  exact hK T4 b4
set_option maxHeartbeats 4000000 in
set_option maxRecDepth 100000 in
theorem bo_X7 {N : Nat} {S0 S1 : PS} {q0 : Nat} {a1 : Nat} {K : PS → Prop} (h0 : S0.K q0 = 0) (e0 : S1 = S0.newO q0 8) (hK : ∀ (S' : PS) (q1 : Nat), Bo S0 S' [(2, q0, 512, a1), (4, q0, 516, 0), (4, q0, 515, 0), (4, q0, 514, 0), (2, q0, 513, q1), (0, q1, 0, 20), (1, q1, 0, 12), (0, q0, 0, 8)] [q1, q0] → K S') : wp_X7_init N S1 q0 a1 K := by
  have b0 := Bo.newO Bo.nil h0 e0 (by decide)
  intro q1 T1 h1 e1
  have b1 := b0.newA h1 e1 (by decide)
  refine ⟨b1.gK 2 rfl, ?_⟩
  intro T2 e2
  have b2 := b1.setR 1 rfl rfl e2
  intro T3 e3
  have b3 := b2.setI 1 rfl rfl (show (0 : Int32) = nI 0 by decide) e3
  intro T4 e4
  have b4 := b3.setI 1 rfl rfl (show (0 : Int32) = nI 0 by decide) e4
  intro T5 e5
  have b5 := b4.setI 1 rfl rfl (show (0 : Int32) = nI 0 by decide) e5
  intro T6 e6
  have b6 := b5.setR 1 rfl rfl e6
  exact hK T6 q1 b6
set_option maxHeartbeats 4000000 in
set_option maxRecDepth 100000 in
theorem bo_X8 {N : Nat} {S0 S1 : PS} {q0 : Nat} {K : PS → Prop} (h0 : S0.K q0 = 0) (e0 : S1 = S0.newO q0 9) (hK : ∀ (S' : PS) (q1 q3 q5 : Nat), Bo S0 S' [(4, q0, 580, 0), (4, q0, 579, 0), (2, q0, 578, q5), (0, q5, 0, 20), (1, q5, 0, 201), (2, q0, 577, q3), (0, q3, 0, 20), (1, q3, 0, 201), (2, q0, 576, q1), (0, q1, 0, 20), (1, q1, 0, 201), (0, q0, 0, 9)] [q5, q3, q1, q0] → K S') : wp_X8_init N S1 q0 K := by
  have b0 := Bo.newO Bo.nil h0 e0 (by decide)
  intro q1 T1 h1 e1
  have b1 := b0.newA h1 e1 (by decide)
  refine ⟨b1.gK 2 rfl, ?_⟩
  intro T2 e2
  have b2 := b1.setR 1 rfl rfl e2
  intro q3 T3 h3 e3
  have b3 := b2.newA h3 e3 (by decide)
  intro T4 e4
  have b4 := b3.setR 2 rfl rfl e4
  intro q5 T5 h5 e5
  have b5 := b4.newA h5 e5 (by decide)
  intro T6 e6
  have b6 := b5.setR 3 rfl rfl e6
  intro T7 e7
  have b7 := b6.setI 3 rfl rfl (show (0 : Int32) = nI 0 by decide) e7
  intro T8 e8
  have b8 := b7.setI 3 rfl rfl (show (0 : Int32) = nI 0 by decide) e8
  exact hK T8 q1 q3 q5 b8
