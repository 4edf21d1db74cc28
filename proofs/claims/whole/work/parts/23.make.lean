def wp_X0_init (N : Nat) (S : PS) (a0 : Nat) (K : PS → Prop) : Prop := ∀ (q1 : Nat) (S2 : PS), S.K q1 = 0 → S2 = S.newA q1 20 30 → S2.K a0 = 1 ∧ ∀ S5 : PS, S5 = S2.setR 64 a0 (some q1) → ∀ S7 : PS, S7 = S5.setI 65 a0 0 → ∀ S9 : PS, S9 = S7.setI 66 a0 0 → ∀ S11 : PS, S11 = S9.setI 67 a0 0 → ∀ S13 : PS, S13 = S11.setI 68 a0 0 → ∀ S15 : PS, S15 = S13.setI 69 a0 0 → K S15
set_option maxHeartbeats 4000000 in
set_option maxRecDepth 100000 in
theorem c_X0_init {l : Launch} {D : DX} {cA : Nat → ClassId} {z0 N : Nat} {S : PS} {a0 : Nat} {K : PS → Prop} (hM : wp_X0_init N S a0 K) : MetV l yX0_init cX0_init 1 none 1 1 30 D cA z0 [.ref a0] S K := by
  refine x_met RX0 (by decide) rfl ?_
  intro p e s m below meth c C hin hV
  have hl := lv_entry ([.ref a0]) (n := 1) (Nat.le_of_ble_eq_true rfl)
  rw [lg_entry_eq]
  generalize (lg_sl ([.ref a0]) ++ List.replicate (1 - (lg_sl ([.ref a0])).length) Slot.unset).toArray = ls at hl ⊢
  have hl : lv_has ls 1 [(0, .ref a0)] := hl
  obtain ⟨hx, hb, hml, hown, hts, hK, hz, hlk, hr⟩ := id C
  unfold wp_X0_init at hM
  refine lv_aload_n hx hb dX0_init_0 rfl (lv_at hl 0 rfl) ?_
  refine x_obj C hl.1 wo_X0_3 (Nat.le_of_ble_eq_true rfl) (Nat.le_of_ble_eq_true rfl) dX0_init_1 ?_
  refine lv_aload_n hx hb dX0_init_4 rfl (lv_at hl 0 rfl) ?_
  refine lv_bipush (v := 30) hx hb dX0_init_5 (by decide) ?_
  refine x_newI (N' := 30) C hV wk_ai (by decide) (by decide) (by decide) (Nat.le_of_ble_eq_true rfl) (Nat.le_of_ble_eq_true rfl) dX0_init_7 (fun q1 H S2 hq1 eS2 hV => ?_)
  have hM := hM q1 S2 hq1 eS2
  have hk3 := kq_N eS2
  have hk4 := hM.1
  have hM := hM.2
  obtain ⟨S5, eS5⟩ : ∃ z : PS, z = S2.setR 64 a0 (some q1) := ⟨_, rfl⟩
  have hM := hM S5 eS5
  refine x_putFR C hin hV wp_X0_9 hk4 ⟨rfl, rfl⟩ eS5 dX0_init_9 (fun H locs hV => ?_)
  refine lv_aload_n hx hb dX0_init_12 rfl (lv_at hl 0 rfl) ?_
  refine lv_iconst (v := 0) hx hb dX0_init_13 (by decide) ?_
  have hk6 := kp_R eS5 hk4
  obtain ⟨S7, eS7⟩ : ∃ z : PS, z = S5.setI 65 a0 0 := ⟨_, rfl⟩
  have hM := hM S7 eS7
  refine x_putI C hV wp_X0_15 hk6 ⟨rfl, rfl⟩ eS7 dX0_init_14 (fun H locs hV => ?_)
  refine lv_aload_n hx hb dX0_init_17 rfl (lv_at hl 0 rfl) ?_
  refine lv_iconst (v := 0) hx hb dX0_init_18 (by decide) ?_
  have hk8 := kp_I eS7 hk6
  obtain ⟨S9, eS9⟩ : ∃ z : PS, z = S7.setI 66 a0 0 := ⟨_, rfl⟩
  have hM := hM S9 eS9
  refine x_putI C hV wp_X0_19 hk8 (nz_b (by decide)) eS9 dX0_init_19 (fun H locs hV => ?_)
  refine lv_aload_n hx hb dX0_init_22 rfl (lv_at hl 0 rfl) ?_
  refine lv_iconst (v := 0) hx hb dX0_init_23 (by decide) ?_
  have hk10 := kp_I eS9 hk8
  obtain ⟨S11, eS11⟩ : ∃ z : PS, z = S9.setI 67 a0 0 := ⟨_, rfl⟩
  have hM := hM S11 eS11
  refine x_putI C hV wp_X0_23 hk10 ⟨rfl, rfl⟩ eS11 dX0_init_24 (fun H locs hV => ?_)
  refine lv_aload_n hx hb dX0_init_27 rfl (lv_at hl 0 rfl) ?_
  refine lv_iconst (v := 0) hx hb dX0_init_28 (by decide) ?_
  have hk12 := kp_I eS11 hk10
  obtain ⟨S13, eS13⟩ : ∃ z : PS, z = S11.setI 68 a0 0 := ⟨_, rfl⟩
  have hM := hM S13 eS13
  refine x_putI C hV wp_X0_26 hk12 ⟨rfl, rfl⟩ eS13 dX0_init_29 (fun H locs hV => ?_)
  refine lv_aload_n hx hb dX0_init_32 rfl (lv_at hl 0 rfl) ?_
  refine lv_iconst (v := 0) hx hb dX0_init_33 (by decide) ?_
  have hk14 := kp_I eS13 hk12
  obtain ⟨S15, eS15⟩ : ∃ z : PS, z = S13.setI 69 a0 0 := ⟨_, rfl⟩
  have hM := hM S15 eS15
  refine x_putI C hV wp_X0_29 hk14 ⟨rfl, rfl⟩ eS15 dX0_init_34 (fun H locs hV => ?_)
  refine W.widen (k := 1) (n := 30) (Nat.le_of_ble_eq_true rfl) (Nat.le_of_ble_eq_true rfl) ?_
  exact x_vret C hV hM dX0_init_37

def wp_X1_init (N : Nat) (S : PS) (a0 : Nat) (K : PS → Prop) : Prop := K S
set_option maxHeartbeats 4000000 in
set_option maxRecDepth 100000 in
theorem c_X1_init {l : Launch} {D : DX} {cA : Nat → ClassId} {z0 N : Nat} {S : PS} {a0 : Nat} {K : PS → Prop} (hM : wp_X1_init N S a0 K) : MetV l yX1_init cX1_init 1 none 1 0 0 D cA z0 [.ref a0] S K := by
  refine x_met RX1 (by decide) rfl ?_
  intro p e s m below meth c C hin hV
  have hl := lv_entry ([.ref a0]) (n := 1) (Nat.le_of_ble_eq_true rfl)
  rw [lg_entry_eq]
  generalize (lg_sl ([.ref a0]) ++ List.replicate (1 - (lg_sl ([.ref a0])).length) Slot.unset).toArray = ls at hl ⊢
  have hl : lv_has ls 1 [(0, .ref a0)] := hl
  obtain ⟨hx, hb, hml, hown, hts, hK, hz, hlk, hr⟩ := id C
  unfold wp_X1_init at hM
  refine lv_aload_n hx hb dX1_init_0 rfl (lv_at hl 0 rfl) ?_
  refine x_obj C hl.1 wo_X1_3 (Nat.le_of_ble_eq_true rfl) (Nat.le_of_ble_eq_true rfl) dX1_init_1 ?_
  exact x_vret C hV hM dX1_init_4

def wp_X2_init (N : Nat) (S : PS) (a0 : Nat) (a1 : Nat) (K : PS → Prop) : Prop := S.K a0 = 3 ∧ ∀ S2 : PS, S2 = S.setR 192 a0 (some a1) → K S2
set_option maxHeartbeats 4000000 in
set_option maxRecDepth 100000 in
theorem c_X2_init {l : Launch} {D : DX} {cA : Nat → ClassId} {z0 N : Nat} {S : PS} {a0 : Nat} {a1 : Nat} {K : PS → Prop} (hM : wp_X2_init N S a0 a1 K) : MetV l yX2_init cX2_init 2 none 1 0 0 D cA z0 [.ref a0, .ref a1] S K := by
  refine x_met RX2 (by decide) rfl ?_
  intro p e s m below meth c C hin hV
  have hl := lv_entry ([.ref a0, .ref a1]) (n := 2) (Nat.le_of_ble_eq_true rfl)
  rw [lg_entry_eq]
  generalize (lg_sl ([.ref a0, .ref a1]) ++ List.replicate (2 - (lg_sl ([.ref a0, .ref a1])).length) Slot.unset).toArray = ls at hl ⊢
  have hl : lv_has ls 2 [(0, .ref a0), (1, .ref a1)] := hl
  obtain ⟨hx, hb, hml, hown, hts, hK, hz, hlk, hr⟩ := id C
  unfold wp_X2_init at hM
  refine lv_aload_n hx hb dX2_init_0 rfl (lv_at hl 0 rfl) ?_
  refine x_obj C hl.1 wo_X2_3 (Nat.le_of_ble_eq_true rfl) (Nat.le_of_ble_eq_true rfl) dX2_init_1 ?_
  refine lv_aload_n hx hb dX2_init_4 rfl (lv_at hl 0 rfl) ?_
  refine lv_aload_n hx hb dX2_init_5 rfl (lv_at hl 1 rfl) ?_
  have hk1 := hM.1
  have hM := hM.2
  obtain ⟨S2, eS2⟩ : ∃ z : PS, z = S.setR 192 a0 (some a1) := ⟨_, rfl⟩
  have hM := hM S2 eS2
  refine x_putFR C hin hV wp_X2_9 hk1 ⟨rfl, rfl⟩ eS2 dX2_init_6 (fun H locs hV => ?_)
  exact x_vret C hV hM dX2_init_9

def wp_X4_init (N : Nat) (S : PS) (a0 : Nat) (K : PS → Prop) : Prop := S.K a0 = 5 ∧ ∀ S2 : PS, S2 = S.setI 320 a0 (-1) → ∀ S4 : PS, S4 = S2.setI 321 a0 0 → ∀ (q5 : Nat) (S6 : PS), S4.K q5 = 0 → S6 = S4.newA q5 20 40 → ∀ S10 : PS, S10 = S6.setR 322 a0 (some q5) → K S10
set_option maxHeartbeats 4000000 in
set_option maxRecDepth 100000 in
theorem c_X4_init {l : Launch} {D : DX} {cA : Nat → ClassId} {z0 N : Nat} {S : PS} {a0 : Nat} {K : PS → Prop} (hM : wp_X4_init N S a0 K) : MetV l yX4_init cX4_init 1 none 1 1 40 D cA z0 [.ref a0] S K := by
  refine x_met RX4 (by decide) rfl ?_
  intro p e s m below meth c C hin hV
  have hl := lv_entry ([.ref a0]) (n := 1) (Nat.le_of_ble_eq_true rfl)
  rw [lg_entry_eq]
  generalize (lg_sl ([.ref a0]) ++ List.replicate (1 - (lg_sl ([.ref a0])).length) Slot.unset).toArray = ls at hl ⊢
  have hl : lv_has ls 1 [(0, .ref a0)] := hl
  obtain ⟨hx, hb, hml, hown, hts, hK, hz, hlk, hr⟩ := id C
  unfold wp_X4_init at hM
  refine lv_aload_n hx hb dX4_init_0 rfl (lv_at hl 0 rfl) ?_
  refine x_obj C hl.1 wo_X4_3 (Nat.le_of_ble_eq_true rfl) (Nat.le_of_ble_eq_true rfl) dX4_init_1 ?_
  refine lv_aload_n hx hb dX4_init_4 rfl (lv_at hl 0 rfl) ?_
  refine lv_iconst (v := (-1)) hx hb dX4_init_5 (by decide) ?_
  have hk1 := hM.1
  have hM := hM.2
  obtain ⟨S2, eS2⟩ : ∃ z : PS, z = S.setI 320 a0 (-1) := ⟨_, rfl⟩
  have hM := hM S2 eS2
  refine x_putI C hV wp_X4_9 hk1 ⟨rfl, rfl⟩ eS2 dX4_init_6 (fun H locs hV => ?_)
  refine lv_aload_n hx hb dX4_init_9 rfl (lv_at hl 0 rfl) ?_
  refine lv_iconst (v := 0) hx hb dX4_init_10 (by decide) ?_
  have hk3 := kp_I eS2 hk1
  obtain ⟨S4, eS4⟩ : ∃ z : PS, z = S2.setI 321 a0 0 := ⟨_, rfl⟩
  have hM := hM S4 eS4
  refine x_putI C hV wp_X4_15 hk3 ⟨rfl, rfl⟩ eS4 dX4_init_11 (fun H locs hV => ?_)
  refine lv_aload_n hx hb dX4_init_14 rfl (lv_at hl 0 rfl) ?_
  refine lv_bipush (v := 40) hx hb dX4_init_15 (by decide) ?_
  refine x_newI (N' := 40) C hV wk_ai (by decide) (by decide) (by decide) (Nat.le_of_ble_eq_true rfl) (Nat.le_of_ble_eq_true rfl) dX4_init_17 (fun q5 H S6 hq5 eS6 hV => ?_)
  have hM := hM q5 S6 hq5 eS6
  have hk7 := kq_N eS6
  have hk8 := kp_I eS4 hk3
  have hk9 := kp_N eS6 hq5 hk8 (by decide)
  obtain ⟨S10, eS10⟩ : ∃ z : PS, z = S6.setR 322 a0 (some q5) := ⟨_, rfl⟩
  have hM := hM S10 eS10
  refine x_putFR C hin hV wp_X4_18 hk9 ⟨rfl, rfl⟩ eS10 dX4_init_19 (fun H locs hV => ?_)
  refine W.widen (k := 1) (n := 40) (Nat.le_of_ble_eq_true rfl) (Nat.le_of_ble_eq_true rfl) ?_
  exact x_vret C hV hM dX4_init_22

def wp_X5_init (N : Nat) (S : PS) (a0 : Nat) (K : PS → Prop) : Prop := S.K a0 = 6 ∧ ∀ S2 : PS, S2 = S.setI 384 a0 2 → ∀ S4 : PS, S4 = S2.setI 385 a0 0 → ∀ S6 : PS, S6 = S4.setI 386 a0 0 → ∀ S8 : PS, S8 = S6.setI 387 a0 0 → K S8
set_option maxHeartbeats 4000000 in
set_option maxRecDepth 100000 in
theorem c_X5_init {l : Launch} {D : DX} {cA : Nat → ClassId} {z0 N : Nat} {S : PS} {a0 : Nat} {K : PS → Prop} (hM : wp_X5_init N S a0 K) : MetV l yX5_init cX5_init 1 none 1 0 0 D cA z0 [.ref a0] S K := by
  refine x_met RX5 (by decide) rfl ?_
  intro p e s m below meth c C hin hV
  have hl := lv_entry ([.ref a0]) (n := 1) (Nat.le_of_ble_eq_true rfl)
  rw [lg_entry_eq]
  generalize (lg_sl ([.ref a0]) ++ List.replicate (1 - (lg_sl ([.ref a0])).length) Slot.unset).toArray = ls at hl ⊢
  have hl : lv_has ls 1 [(0, .ref a0)] := hl
  obtain ⟨hx, hb, hml, hown, hts, hK, hz, hlk, hr⟩ := id C
  unfold wp_X5_init at hM
  refine lv_aload_n hx hb dX5_init_0 rfl (lv_at hl 0 rfl) ?_
  refine x_obj C hl.1 wo_X5_3 (Nat.le_of_ble_eq_true rfl) (Nat.le_of_ble_eq_true rfl) dX5_init_1 ?_
  refine lv_aload_n hx hb dX5_init_4 rfl (lv_at hl 0 rfl) ?_
  refine lv_iconst (v := 2) hx hb dX5_init_5 (by decide) ?_
  have hk1 := hM.1
  have hM := hM.2
  obtain ⟨S2, eS2⟩ : ∃ z : PS, z = S.setI 384 a0 2 := ⟨_, rfl⟩
  have hM := hM S2 eS2
  refine x_putI C hV wp_X5_9 hk1 ⟨rfl, rfl⟩ eS2 dX5_init_6 (fun H locs hV => ?_)
  refine lv_aload_n hx hb dX5_init_9 rfl (lv_at hl 0 rfl) ?_
  refine lv_iconst (v := 0) hx hb dX5_init_10 (by decide) ?_
  have hk3 := kp_I eS2 hk1
  obtain ⟨S4, eS4⟩ : ∃ z : PS, z = S2.setI 385 a0 0 := ⟨_, rfl⟩
  have hM := hM S4 eS4
  refine x_putI C hV wp_X5_15 hk3 ⟨rfl, rfl⟩ eS4 dX5_init_11 (fun H locs hV => ?_)
  refine lv_aload_n hx hb dX5_init_14 rfl (lv_at hl 0 rfl) ?_
  refine lv_iconst (v := 0) hx hb dX5_init_15 (by decide) ?_
  have hk5 := kp_I eS4 hk3
  obtain ⟨S6, eS6⟩ : ∃ z : PS, z = S4.setI 386 a0 0 := ⟨_, rfl⟩
  have hM := hM S6 eS6
  refine x_putI C hV wp_X5_18 hk5 ⟨rfl, rfl⟩ eS6 dX5_init_16 (fun H locs hV => ?_)
  refine lv_aload_n hx hb dX5_init_19 rfl (lv_at hl 0 rfl) ?_
  refine lv_iconst (v := 0) hx hb dX5_init_20 (by decide) ?_
  have hk7 := kp_I eS6 hk5
  obtain ⟨S8, eS8⟩ : ∃ z : PS, z = S6.setI 387 a0 0 := ⟨_, rfl⟩
  have hM := hM S8 eS8
  refine x_putI C hV wp_X5_21 hk7 ⟨rfl, rfl⟩ eS8 dX5_init_21 (fun H locs hV => ?_)
  exact x_vret C hV hM dX5_init_24

def wp_X6_init (N : Nat) (S : PS) (a0 : Nat) (x1 : Int32) (x2 : Int32) (x3 : Int32) (a4 : Nat) (K : PS → Prop) : Prop := S.K a0 = 7 ∧ ∀ S2 : PS, S2 = S.setI 448 a0 x1 → ∀ S4 : PS, S4 = S2.setI 449 a0 x2 → ∀ S6 : PS, S6 = S4.setI 450 a0 x3 → ∀ S8 : PS, S8 = S6.setR 451 a0 (some a4) → K S8
set_option maxHeartbeats 4000000 in
set_option maxRecDepth 100000 in
theorem c_X6_init {l : Launch} {D : DX} {cA : Nat → ClassId} {z0 N : Nat} {S : PS} {a0 : Nat} {x1 : Int32} {x2 : Int32} {x3 : Int32} {a4 : Nat} {K : PS → Prop} (hM : wp_X6_init N S a0 x1 x2 x3 a4 K) : MetV l yX6_init cX6_init 5 none 1 0 0 D cA z0 [.ref a0, .int x1, .int x2, .int x3, .ref a4] S K := by
  refine x_met RX6 (by decide) rfl ?_
  intro p e s m below meth c C hin hV
  have hl := lv_entry ([.ref a0, .int x1, .int x2, .int x3, .ref a4]) (n := 5) (Nat.le_of_ble_eq_true rfl)
  rw [lg_entry_eq]
  generalize (lg_sl ([.ref a0, .int x1, .int x2, .int x3, .ref a4]) ++ List.replicate (5 - (lg_sl ([.ref a0, .int x1, .int x2, .int x3, .ref a4])).length) Slot.unset).toArray = ls at hl ⊢
  have hl : lv_has ls 5 [(0, .ref a0), (1, .int x1), (2, .int x2), (3, .int x3), (4, .ref a4)] := hl
  obtain ⟨hx, hb, hml, hown, hts, hK, hz, hlk, hr⟩ := id C
  unfold wp_X6_init at hM
  refine lv_aload_n hx hb dX6_init_0 rfl (lv_at hl 0 rfl) ?_
  refine x_obj C hl.1 wo_X6_3 (Nat.le_of_ble_eq_true rfl) (Nat.le_of_ble_eq_true rfl) dX6_init_1 ?_
  refine lv_aload_n hx hb dX6_init_4 rfl (lv_at hl 0 rfl) ?_
  refine lv_iload_n hx hb dX6_init_5 rfl (lv_at hl 1 rfl) ?_
  have hk1 := hM.1
  have hM := hM.2
  obtain ⟨S2, eS2⟩ : ∃ z : PS, z = S.setI 448 a0 x1 := ⟨_, rfl⟩
  have hM := hM S2 eS2
  refine x_putFI C hin hV wp_X6_9 hk1 ⟨rfl, rfl⟩ eS2 dX6_init_6 (fun H locs hV => ?_)
  refine lv_aload_n hx hb dX6_init_9 rfl (lv_at hl 0 rfl) ?_
  refine lv_iload_n hx hb dX6_init_10 rfl (lv_at hl 2 rfl) ?_
  have hk3 := kp_I eS2 hk1
  obtain ⟨S4, eS4⟩ : ∃ z : PS, z = S2.setI 449 a0 x2 := ⟨_, rfl⟩
  have hM := hM S4 eS4
  refine x_putFI C hin hV wp_X6_15 hk3 ⟨rfl, rfl⟩ eS4 dX6_init_11 (fun H locs hV => ?_)
  refine lv_aload_n hx hb dX6_init_14 rfl (lv_at hl 0 rfl) ?_
  refine lv_iload_n hx hb dX6_init_15 rfl (lv_at hl 3 rfl) ?_
  have hk5 := kp_I eS4 hk3
  obtain ⟨S6, eS6⟩ : ∃ z : PS, z = S4.setI 450 a0 x3 := ⟨_, rfl⟩
  have hM := hM S6 eS6
  refine x_putFI C hin hV wp_X6_18 hk5 ⟨rfl, rfl⟩ eS6 dX6_init_16 (fun H locs hV => ?_)
  refine lv_aload_n hx hb dX6_init_19 rfl (lv_at hl 0 rfl) ?_
  refine lv_aload hx hb dX6_init_20 (lv_at hl 4 rfl) ?_
  have hk7 := kp_I eS6 hk5
  obtain ⟨S8, eS8⟩ : ∃ z : PS, z = S6.setR 451 a0 (some a4) := ⟨_, rfl⟩
  have hM := hM S8 eS8
  refine x_putFR C hin hV wp_X6_21 hk7 ⟨rfl, rfl⟩ eS8 dX6_init_22 (fun H locs hV => ?_)
  exact x_vret C hV hM dX6_init_25

def wp_X8_init (N : Nat) (S : PS) (a0 : Nat) (K : PS → Prop) : Prop := ∀ (q1 : Nat) (S2 : PS), S.K q1 = 0 → S2 = S.newA q1 20 201 → S2.K a0 = 9 ∧ ∀ S5 : PS, S5 = S2.setR 576 a0 (some q1) → ∀ (q6 : Nat) (S7 : PS), S5.K q6 = 0 → S7 = S5.newA q6 20 201 → ∀ S11 : PS, S11 = S7.setR 577 a0 (some q6) → ∀ (q12 : Nat) (S13 : PS), S11.K q12 = 0 → S13 = S11.newA q12 20 201 → ∀ S17 : PS, S17 = S13.setR 578 a0 (some q12) → ∀ S19 : PS, S19 = S17.setI 579 a0 0 → ∀ S21 : PS, S21 = S19.setI 580 a0 0 → K S21
set_option maxHeartbeats 4000000 in
set_option maxRecDepth 100000 in
theorem c_X8_init {l : Launch} {D : DX} {cA : Nat → ClassId} {z0 N : Nat} {S : PS} {a0 : Nat} {K : PS → Prop} (hM : wp_X8_init N S a0 K) : MetV l yX8_init cX8_init 1 none 1 3 603 D cA z0 [.ref a0] S K := by
  refine x_met RX8 (by decide) rfl ?_
  intro p e s m below meth c C hin hV
  have hl := lv_entry ([.ref a0]) (n := 1) (Nat.le_of_ble_eq_true rfl)
  rw [lg_entry_eq]
  generalize (lg_sl ([.ref a0]) ++ List.replicate (1 - (lg_sl ([.ref a0])).length) Slot.unset).toArray = ls at hl ⊢
  have hl : lv_has ls 1 [(0, .ref a0)] := hl
  obtain ⟨hx, hb, hml, hown, hts, hK, hz, hlk, hr⟩ := id C
  unfold wp_X8_init at hM
  refine lv_aload_n hx hb dX8_init_0 rfl (lv_at hl 0 rfl) ?_
  refine x_obj C hl.1 wo_X8_3 (Nat.le_of_ble_eq_true rfl) (Nat.le_of_ble_eq_true rfl) dX8_init_1 ?_
  refine lv_aload_n hx hb dX8_init_4 rfl (lv_at hl 0 rfl) ?_
  refine lv_sipush (v := 201) hx hb dX8_init_5 (by decide) ?_
  refine x_newI (N' := 201) C hV wk_ai (by decide) (by decide) (by decide) (Nat.le_of_ble_eq_true rfl) (Nat.le_of_ble_eq_true rfl) dX8_init_8 (fun q1 H S2 hq1 eS2 hV => ?_)
  have hM := hM q1 S2 hq1 eS2
  have hk3 := kq_N eS2
  have hk4 := hM.1
  have hM := hM.2
  obtain ⟨S5, eS5⟩ : ∃ z : PS, z = S2.setR 576 a0 (some q1) := ⟨_, rfl⟩
  have hM := hM S5 eS5
  refine x_putFR C hin hV wp_X8_9 hk4 ⟨rfl, rfl⟩ eS5 dX8_init_10 (fun H locs hV => ?_)
  refine lv_aload_n hx hb dX8_init_13 rfl (lv_at hl 0 rfl) ?_
  refine lv_sipush (v := 201) hx hb dX8_init_14 (by decide) ?_
  refine x_newI (N' := 201) C hV wk_ai (by decide) (by decide) (by decide) (Nat.le_of_ble_eq_true rfl) (Nat.le_of_ble_eq_true rfl) dX8_init_17 (fun q6 H S7 hq6 eS7 hV => ?_)
  have hM := hM q6 S7 hq6 eS7
  have hk8 := kq_N eS7
  have hk9 := kp_R eS5 hk4
  have hk10 := kp_N eS7 hq6 hk9 (by decide)
  obtain ⟨S11, eS11⟩ : ∃ z : PS, z = S7.setR 577 a0 (some q6) := ⟨_, rfl⟩
  have hM := hM S11 eS11
  refine x_putFR C hin hV wp_X8_15 hk10 ⟨rfl, rfl⟩ eS11 dX8_init_19 (fun H locs hV => ?_)
  refine lv_aload_n hx hb dX8_init_22 rfl (lv_at hl 0 rfl) ?_
  refine lv_sipush (v := 201) hx hb dX8_init_23 (by decide) ?_
  refine x_newI (N' := 201) C hV wk_ai (by decide) (by decide) (by decide) (Nat.le_of_ble_eq_true rfl) (Nat.le_of_ble_eq_true rfl) dX8_init_26 (fun q12 H S13 hq12 eS13 hV => ?_)
  have hM := hM q12 S13 hq12 eS13
  have hk14 := kq_N eS13
  have hk15 := kp_R eS11 hk10
  have hk16 := kp_N eS13 hq12 hk15 (by decide)
  obtain ⟨S17, eS17⟩ : ∃ z : PS, z = S13.setR 578 a0 (some q12) := ⟨_, rfl⟩
  have hM := hM S17 eS17
  refine x_putFR C hin hV wp_X8_18 hk16 ⟨rfl, rfl⟩ eS17 dX8_init_28 (fun H locs hV => ?_)
  refine lv_aload_n hx hb dX8_init_31 rfl (lv_at hl 0 rfl) ?_
  refine lv_iconst (v := 0) hx hb dX8_init_32 (by decide) ?_
  have hk18 := kp_R eS17 hk16
  obtain ⟨S19, eS19⟩ : ∃ z : PS, z = S17.setI 579 a0 0 := ⟨_, rfl⟩
  have hM := hM S19 eS19
  refine x_putI C hV wp_X8_21 hk18 ⟨rfl, rfl⟩ eS19 dX8_init_33 (fun H locs hV => ?_)
  refine lv_aload_n hx hb dX8_init_36 rfl (lv_at hl 0 rfl) ?_
  refine lv_iconst (v := 0) hx hb dX8_init_37 (by decide) ?_
  have hk20 := kp_I eS19 hk18
  obtain ⟨S21, eS21⟩ : ∃ z : PS, z = S19.setI 580 a0 0 := ⟨_, rfl⟩
  have hM := hM S21 eS21
  refine x_putI C hV wp_X8_25 hk20 ⟨rfl, rfl⟩ eS21 dX8_init_38 (fun H locs hV => ?_)
  refine W.widen (k := 3) (n := 603) (Nat.le_of_ble_eq_true rfl) (Nat.le_of_ble_eq_true rfl) ?_
  exact x_vret C hV hM dX8_init_41

def wp_X7_init (N : Nat) (S : PS) (a0 : Nat) (a1 : Nat) (K : PS → Prop) : Prop := ∀ (q1 : Nat) (S2 : PS), S.K q1 = 0 → S2 = S.newA q1 20 12 → S2.K a0 = 8 ∧ ∀ S5 : PS, S5 = S2.setR 513 a0 (some q1) → ∀ S7 : PS, S7 = S5.setI 514 a0 0 → ∀ S9 : PS, S9 = S7.setI 515 a0 0 → ∀ S11 : PS, S11 = S9.setI 516 a0 0 → ∀ S13 : PS, S13 = S11.setR 512 a0 (some a1) → K S13
set_option maxHeartbeats 4000000 in
set_option maxRecDepth 100000 in
theorem c_X7_init {l : Launch} {D : DX} {cA : Nat → ClassId} {z0 N : Nat} {S : PS} {a0 : Nat} {a1 : Nat} {K : PS → Prop} (hM : wp_X7_init N S a0 a1 K) : MetV l yX7_init cX7_init 2 none 1 1 12 D cA z0 [.ref a0, .ref a1] S K := by
  refine x_met RX7 (by decide) rfl ?_
  intro p e s m below meth c C hin hV
  have hl := lv_entry ([.ref a0, .ref a1]) (n := 2) (Nat.le_of_ble_eq_true rfl)
  rw [lg_entry_eq]
  generalize (lg_sl ([.ref a0, .ref a1]) ++ List.replicate (2 - (lg_sl ([.ref a0, .ref a1])).length) Slot.unset).toArray = ls at hl ⊢
  have hl : lv_has ls 2 [(0, .ref a0), (1, .ref a1)] := hl
  obtain ⟨hx, hb, hml, hown, hts, hK, hz, hlk, hr⟩ := id C
  unfold wp_X7_init at hM
  refine lv_aload_n hx hb dX7_init_0 rfl (lv_at hl 0 rfl) ?_
  refine x_obj C hl.1 wo_X7_3 (Nat.le_of_ble_eq_true rfl) (Nat.le_of_ble_eq_true rfl) dX7_init_1 ?_
  refine lv_aload_n hx hb dX7_init_4 rfl (lv_at hl 0 rfl) ?_
  refine lv_bipush (v := 12) hx hb dX7_init_5 (by decide) ?_
  refine x_newI (N' := 12) C hV wk_ai (by decide) (by decide) (by decide) (Nat.le_of_ble_eq_true rfl) (Nat.le_of_ble_eq_true rfl) dX7_init_7 (fun q1 H S2 hq1 eS2 hV => ?_)
  have hM := hM q1 S2 hq1 eS2
  have hk3 := kq_N eS2
  have hk4 := hM.1
  have hM := hM.2
  obtain ⟨S5, eS5⟩ : ∃ z : PS, z = S2.setR 513 a0 (some q1) := ⟨_, rfl⟩
  have hM := hM S5 eS5
  refine x_putFR C hin hV wp_X7_9 hk4 ⟨rfl, rfl⟩ eS5 dX7_init_9 (fun H locs hV => ?_)
  refine lv_aload_n hx hb dX7_init_12 rfl (lv_at hl 0 rfl) ?_
  refine lv_iconst (v := 0) hx hb dX7_init_13 (by decide) ?_
  have hk6 := kp_R eS5 hk4
  obtain ⟨S7, eS7⟩ : ∃ z : PS, z = S5.setI 514 a0 0 := ⟨_, rfl⟩
  have hM := hM S7 eS7
  refine x_putI C hV wp_X7_15 hk6 ⟨rfl, rfl⟩ eS7 dX7_init_14 (fun H locs hV => ?_)
  refine lv_aload_n hx hb dX7_init_17 rfl (lv_at hl 0 rfl) ?_
  refine lv_iconst (v := 0) hx hb dX7_init_18 (by decide) ?_
  have hk8 := kp_I eS7 hk6
  obtain ⟨S9, eS9⟩ : ∃ z : PS, z = S7.setI 515 a0 0 := ⟨_, rfl⟩
  have hM := hM S9 eS9
  refine x_putI C hV wp_X7_19 hk8 ⟨rfl, rfl⟩ eS9 dX7_init_19 (fun H locs hV => ?_)
  refine lv_aload_n hx hb dX7_init_22 rfl (lv_at hl 0 rfl) ?_
  refine lv_iconst (v := 0) hx hb dX7_init_23 (by decide) ?_
  have hk10 := kp_I eS9 hk8
  obtain ⟨S11, eS11⟩ : ∃ z : PS, z = S9.setI 516 a0 0 := ⟨_, rfl⟩
  have hM := hM S11 eS11
  refine x_putI C hV wp_X7_22 hk10 ⟨rfl, rfl⟩ eS11 dX7_init_24 (fun H locs hV => ?_)
  refine lv_aload_n hx hb dX7_init_27 rfl (lv_at hl 0 rfl) ?_
  refine lv_aload_n hx hb dX7_init_28 rfl (lv_at hl 1 rfl) ?_
  have hk12 := kp_I eS11 hk10
  obtain ⟨S13, eS13⟩ : ∃ z : PS, z = S11.setR 512 a0 (some a1) := ⟨_, rfl⟩
  have hM := hM S13 eS13
  refine x_putFR C hin hV wp_X7_25 hk12 ⟨rfl, rfl⟩ eS13 dX7_init_29 (fun H locs hV => ?_)
  refine W.widen (k := 1) (n := 12) (Nat.le_of_ble_eq_true rfl) (Nat.le_of_ble_eq_true rfl) ?_
  exact x_vret C hV hM dX7_init_32

def wp_X3_init (N : Nat) (S : PS) (a0 : Nat) (a1 : Nat) (K : PS → Prop) : Prop := ∀ (q1 : Nat) (S2 : PS), S.K q1 = 0 → S2 = S.newA q1 20 200 → S2.K a0 = 4 ∧ ∀ S5 : PS, S5 = S2.setR 257 a0 (some q1) → ∀ S7 : PS, S7 = S5.setI 258 a0 0 → ∀ S9 : PS, S9 = S7.setR 256 a0 (some a1) → K S9
set_option maxHeartbeats 4000000 in
set_option maxRecDepth 100000 in
theorem c_X3_init {l : Launch} {D : DX} {cA : Nat → ClassId} {z0 N : Nat} {S : PS} {a0 : Nat} {a1 : Nat} {K : PS → Prop} (hM : wp_X3_init N S a0 a1 K) : MetV l yX3_init cX3_init 2 none 1 1 200 D cA z0 [.ref a0, .ref a1] S K := by
  refine x_met RX3 (by decide) rfl ?_
  intro p e s m below meth c C hin hV
  have hl := lv_entry ([.ref a0, .ref a1]) (n := 2) (Nat.le_of_ble_eq_true rfl)
  rw [lg_entry_eq]
  generalize (lg_sl ([.ref a0, .ref a1]) ++ List.replicate (2 - (lg_sl ([.ref a0, .ref a1])).length) Slot.unset).toArray = ls at hl ⊢
  have hl : lv_has ls 2 [(0, .ref a0), (1, .ref a1)] := hl
  obtain ⟨hx, hb, hml, hown, hts, hK, hz, hlk, hr⟩ := id C
  unfold wp_X3_init at hM
  refine lv_aload_n hx hb dX3_init_0 rfl (lv_at hl 0 rfl) ?_
  refine x_obj C hl.1 wo_X3_3 (Nat.le_of_ble_eq_true rfl) (Nat.le_of_ble_eq_true rfl) dX3_init_1 ?_
  refine lv_aload_n hx hb dX3_init_4 rfl (lv_at hl 0 rfl) ?_
  refine lv_sipush (v := 200) hx hb dX3_init_5 (by decide) ?_
  refine x_newI (N' := 200) C hV wk_ai (by decide) (by decide) (by decide) (Nat.le_of_ble_eq_true rfl) (Nat.le_of_ble_eq_true rfl) dX3_init_8 (fun q1 H S2 hq1 eS2 hV => ?_)
  have hM := hM q1 S2 hq1 eS2
  have hk3 := kq_N eS2
  have hk4 := hM.1
  have hM := hM.2
  obtain ⟨S5, eS5⟩ : ∃ z : PS, z = S2.setR 257 a0 (some q1) := ⟨_, rfl⟩
  have hM := hM S5 eS5
  refine x_putFR C hin hV wp_X3_9 hk4 ⟨rfl, rfl⟩ eS5 dX3_init_10 (fun H locs hV => ?_)
  refine lv_aload_n hx hb dX3_init_13 rfl (lv_at hl 0 rfl) ?_
  refine lv_iconst (v := 0) hx hb dX3_init_14 (by decide) ?_
  have hk6 := kp_R eS5 hk4
  obtain ⟨S7, eS7⟩ : ∃ z : PS, z = S5.setI 258 a0 0 := ⟨_, rfl⟩
  have hM := hM S7 eS7
  refine x_putI C hV wp_X3_15 hk6 ⟨rfl, rfl⟩ eS7 dX3_init_15 (fun H locs hV => ?_)
  refine lv_aload_n hx hb dX3_init_18 rfl (lv_at hl 0 rfl) ?_
  refine lv_aload_n hx hb dX3_init_19 rfl (lv_at hl 1 rfl) ?_
  have hk8 := kp_I eS7 hk6
  obtain ⟨S9, eS9⟩ : ∃ z : PS, z = S7.setR 256 a0 (some a1) := ⟨_, rfl⟩
  have hM := hM S9 eS9
  refine x_putFR C hin hV wp_X3_19 hk8 ⟨rfl, rfl⟩ eS9 dX3_init_20 (fun H locs hV => ?_)
  refine W.widen (k := 1) (n := 200) (Nat.le_of_ble_eq_true rfl) (Nat.le_of_ble_eq_true rfl) ?_
  exact x_vret C hV hM dX3_init_23

set_option maxRecDepth 100000 in
def wp_X9_init (N : Nat) (S : PS) (a0 : Nat) (K : PS → Prop) : Prop := S.K a0 = 10 ∧ ∀ S2 : PS, S2 = S.setI 640 a0 0 → ∀ S4 : PS, S4 = S2.setI 641 a0 0 → ∀ S6 : PS, S6 = S4.setI 642 a0 1 → ∀ S8 : PS, S8 = S6.setI 643 a0 0 → ∀ S10 : PS, S10 = S8.setI 644 a0 0 → ∀ S12 : PS, S12 = S10.setI 645 a0 0 → ∀ S14 : PS, S14 = S12.setI 646 a0 0 → ∀ S16 : PS, S16 = S14.setI 647 a0 0 → ∀ (q17 : Nat) (S18 : PS), S16.K q17 = 0 → S18 = S16.newA q17 23 10 → ∀ S22 : PS, S22 = S18.setR 648 a0 (some q17) → ∀ (q23 : Nat) (S24 : PS), S22.K q23 = 0 → S24 = S22.newA q23 20 40 → ∀ S28 : PS, S28 = S24.setR 649 a0 (some q23) → ∀ (q29 : Nat) (S30 : PS), S28.K q29 = 0 → S30 = S28.newA q29 20 40 → ∀ S34 : PS, S34 = S30.setR 650 a0 (some q29) → ∀ (q35 : Nat) (S36 : PS), S34.K q35 = 0 → S36 = S34.newA q35 20 40 → ∀ S40 : PS, S40 = S36.setR 651 a0 (some q35) → ∀ (q41 : Nat) (S42 : PS), S40.K q41 = 0 → S42 = S40.newA q41 27 8 → ∀ S46 : PS, S46 = S42.setR 652 a0 (some q41) → ∀ (q47 : Nat) (S48 : PS), S46.K q47 = 0 → S48 = S46.newA q47 24 8 → ∀ S52 : PS, S52 = S48.setR 653 a0 (some q47) → ∃ p54 : Nat, S52.R 648 a0 = some p54 ∧ ∀ (q55 : Nat) (S56 : PS), S52.K q55 = 0 → S56 = S52.newO q55 2 → wp_X1_init N S56 q55 (fun S58 => S58.K p54 = 23 ∧ S58.K q55 = 2 ∧ vp_in 0 (S58.ln p54) ∧ ∀ S62 : PS, S62 = S58.setQ p54 (0 : Int32).toNatClampNeg (some q55) → S62.K a0 = 10 ∧ ∃ p64 : Nat, S62.R 648 a0 = some p64 ∧ ∀ (q65 : Nat) (S66 : PS), S62.K q65 = 0 → S66 = S62.newO q65 2 → wp_X1_init N S66 q65 (fun S68 => S68.K p64 = 23 ∧ S68.K q65 = 2 ∧ vp_in 1 (S68.ln p64) ∧ ∀ S72 : PS, S72 = S68.setQ p64 (1 : Int32).toNatClampNeg (some q65) → S72.K a0 = 10 ∧ ∃ p74 : Nat, S72.R 648 a0 = some p74 ∧ ∀ (q75 : Nat) (S76 : PS), S72.K q75 = 0 → S76 = S72.newO q75 2 → wp_X1_init N S76 q75 (fun S78 => S78.K p74 = 23 ∧ S78.K q75 = 2 ∧ vp_in 2 (S78.ln p74) ∧ ∀ S82 : PS, S82 = S78.setQ p74 (2 : Int32).toNatClampNeg (some q75) → S82.K a0 = 10 ∧ ∃ p84 : Nat, S82.R 648 a0 = some p84 ∧ ∀ (q85 : Nat) (S86 : PS), S82.K q85 = 0 → S86 = S82.newO q85 2 → wp_X1_init N S86 q85 (fun S88 => S88.K p84 = 23 ∧ S88.K q85 = 2 ∧ vp_in 3 (S88.ln p84) ∧ ∀ S92 : PS, S92 = S88.setQ p84 (3 : Int32).toNatClampNeg (some q85) → S92.K a0 = 10 ∧ ∃ p94 : Nat, S92.R 648 a0 = some p94 ∧ ∀ (q95 : Nat) (S96 : PS), S92.K q95 = 0 → S96 = S92.newO q95 2 → wp_X1_init N S96 q95 (fun S98 => S98.K p94 = 23 ∧ S98.K q95 = 2 ∧ vp_in 4 (S98.ln p94) ∧ ∀ S102 : PS, S102 = S98.setQ p94 (4 : Int32).toNatClampNeg (some q95) → S102.K a0 = 10 ∧ ∃ p104 : Nat, S102.R 648 a0 = some p104 ∧ ∀ (q105 : Nat) (S106 : PS), S102.K q105 = 0 → S106 = S102.newO q105 2 → wp_X1_init N S106 q105 (fun S108 => S108.K p104 = 23 ∧ S108.K q105 = 2 ∧ vp_in 5 (S108.ln p104) ∧ ∀ S112 : PS, S112 = S108.setQ p104 (5 : Int32).toNatClampNeg (some q105) → S112.K a0 = 10 ∧ ∃ p114 : Nat, S112.R 648 a0 = some p114 ∧ ∀ (q115 : Nat) (S116 : PS), S112.K q115 = 0 → S116 = S112.newO q115 2 → wp_X1_init N S116 q115 (fun S118 => S118.K p114 = 23 ∧ S118.K q115 = 2 ∧ vp_in 6 (S118.ln p114) ∧ ∀ S122 : PS, S122 = S118.setQ p114 (6 : Int32).toNatClampNeg (some q115) → S122.K a0 = 10 ∧ ∃ p124 : Nat, S122.R 648 a0 = some p124 ∧ ∀ (q125 : Nat) (S126 : PS), S122.K q125 = 0 → S126 = S122.newO q125 2 → wp_X1_init N S126 q125 (fun S128 => S128.K p124 = 23 ∧ S128.K q125 = 2 ∧ vp_in 7 (S128.ln p124) ∧ ∀ S132 : PS, S132 = S128.setQ p124 (7 : Int32).toNatClampNeg (some q125) → S132.K a0 = 10 ∧ ∃ p134 : Nat, S132.R 648 a0 = some p134 ∧ ∀ (q135 : Nat) (S136 : PS), S132.K q135 = 0 → S136 = S132.newO q135 2 → wp_X1_init N S136 q135 (fun S138 => S138.K p134 = 23 ∧ S138.K q135 = 2 ∧ vp_in 8 (S138.ln p134) ∧ ∀ S142 : PS, S142 = S138.setQ p134 (8 : Int32).toNatClampNeg (some q135) → S142.K a0 = 10 ∧ ∃ p144 : Nat, S142.R 648 a0 = some p144 ∧ ∀ (q145 : Nat) (S146 : PS), S142.K q145 = 0 → S146 = S142.newO q145 2 → wp_X1_init N S146 q145 (fun S148 => S148.K p144 = 23 ∧ S148.K q145 = 2 ∧ vp_in 9 (S148.ln p144) ∧ ∀ S152 : PS, S152 = S148.setQ p144 (9 : Int32).toNatClampNeg (some q145) → ∀ (q153 : Nat) (S154 : PS), S152.K q153 = 0 → S154 = S152.newO q153 7 → ∀ (q156 : Nat) (S157 : PS), S154.K q156 = 0 → S157 = S154.newA q156 20 0 → wp_X6_init N S157 q153 1 0 0 q156 (fun S159 => S159.K a0 = 10 ∧ ∃ p161 : Nat, S159.R 652 a0 = some p161 ∧ S159.K p161 = 27 ∧ S159.K q153 = 7 ∧ vp_in 0 (S159.ln p161) ∧ ∀ S165 : PS, S165 = S159.setQ p161 (0 : Int32).toNatClampNeg (some q153) → ∃ p167 : Nat, S165.R 652 a0 = some p167 ∧ S165.K p167 = 27 ∧ vp_in 1 (S165.ln p167) ∧ ∀ S171 : PS, S171 = S165.setQ p167 (1 : Int32).toNatClampNeg (some q153) → ∃ p173 : Nat, S171.R 652 a0 = some p173 ∧ S171.K p173 = 27 ∧ vp_in 2 (S171.ln p173) ∧ ∀ S177 : PS, S177 = S171.setQ p173 (2 : Int32).toNatClampNeg (some q153) → ∃ p179 : Nat, S177.R 652 a0 = some p179 ∧ S177.K p179 = 27 ∧ vp_in 3 (S177.ln p179) ∧ ∀ S183 : PS, S183 = S177.setQ p179 (3 : Int32).toNatClampNeg (some q153) → ∃ p185 : Nat, S183.R 652 a0 = some p185 ∧ S183.K p185 = 27 ∧ vp_in 4 (S183.ln p185) ∧ ∀ S189 : PS, S189 = S183.setQ p185 (4 : Int32).toNatClampNeg (some q153) → ∃ p191 : Nat, S189.R 652 a0 = some p191 ∧ S189.K p191 = 27 ∧ vp_in 5 (S189.ln p191) ∧ ∀ S195 : PS, S195 = S189.setQ p191 (5 : Int32).toNatClampNeg (some q153) → ∃ p197 : Nat, S195.R 652 a0 = some p197 ∧ S195.K p197 = 27 ∧ vp_in 6 (S195.ln p197) ∧ ∀ S201 : PS, S201 = S195.setQ p197 (6 : Int32).toNatClampNeg (some q153) → ∃ p203 : Nat, S201.R 652 a0 = some p203 ∧ S201.K p203 = 27 ∧ vp_in 7 (S201.ln p203) ∧ ∀ S207 : PS, S207 = S201.setQ p203 (7 : Int32).toNatClampNeg (some q153) → ∀ (q208 : Nat) (S209 : PS), S207.K q208 = 0 → S209 = S207.newO q208 3 → ∀ (q211 : Nat) (S212 : PS), S209.K q211 = 0 → S212 = S209.newA q211 20 0 → wp_X2_init N S212 q208 q211 (fun S214 => S214.K a0 = 10 ∧ ∃ p216 : Nat, S214.R 653 a0 = some p216 ∧ S214.K p216 = 24 ∧ S214.K q208 = 3 ∧ vp_in 0 (S214.ln p216) ∧ ∀ S220 : PS, S220 = S214.setQ p216 (0 : Int32).toNatClampNeg (some q208) → ∃ p222 : Nat, S220.R 653 a0 = some p222 ∧ S220.K p222 = 24 ∧ vp_in 1 (S220.ln p222) ∧ ∀ S226 : PS, S226 = S220.setQ p222 (1 : Int32).toNatClampNeg (some q208) → ∃ p228 : Nat, S226.R 653 a0 = some p228 ∧ S226.K p228 = 24 ∧ vp_in 2 (S226.ln p228) ∧ ∀ S232 : PS, S232 = S226.setQ p228 (2 : Int32).toNatClampNeg (some q208) → ∃ p234 : Nat, S232.R 653 a0 = some p234 ∧ S232.K p234 = 24 ∧ vp_in 3 (S232.ln p234) ∧ ∀ S238 : PS, S238 = S232.setQ p234 (3 : Int32).toNatClampNeg (some q208) → ∃ p240 : Nat, S238.R 653 a0 = some p240 ∧ S238.K p240 = 24 ∧ vp_in 4 (S238.ln p240) ∧ ∀ S244 : PS, S244 = S238.setQ p240 (4 : Int32).toNatClampNeg (some q208) → ∃ p246 : Nat, S244.R 653 a0 = some p246 ∧ S244.K p246 = 24 ∧ vp_in 5 (S244.ln p246) ∧ ∀ S250 : PS, S250 = S244.setQ p246 (5 : Int32).toNatClampNeg (some q208) → ∃ p252 : Nat, S250.R 653 a0 = some p252 ∧ S250.K p252 = 24 ∧ vp_in 6 (S250.ln p252) ∧ ∀ S256 : PS, S256 = S250.setQ p252 (6 : Int32).toNatClampNeg (some q208) → ∃ p258 : Nat, S256.R 653 a0 = some p258 ∧ S256.K p258 = 24 ∧ vp_in 7 (S256.ln p258) ∧ ∀ S262 : PS, S262 = S256.setQ p258 (7 : Int32).toNatClampNeg (some q208) → K S262))))))))))))
set_option maxHeartbeats 4000000 in
set_option maxRecDepth 100000 in
theorem c_X9_init {l : Launch} {D : DX} {cA : Nat → ClassId} {z0 N : Nat} {S : PS} {a0 : Nat} {K : PS → Prop} (hM : wp_X9_init N S a0 K) : MetV l yX9_init cX9_init 4 none 2 20 241 D cA z0 [.ref a0] S K := by
  refine x_met RX9 (by decide) rfl ?_
  intro p e s m below meth c C hin hV
  have hl := lv_entry ([.ref a0]) (n := 4) (Nat.le_of_ble_eq_true rfl)
  rw [lg_entry_eq]
  generalize (lg_sl ([.ref a0]) ++ List.replicate (4 - (lg_sl ([.ref a0])).length) Slot.unset).toArray = ls at hl ⊢
  have hl : lv_has ls 4 [(0, .ref a0)] := hl
  obtain ⟨hx, hb, hml, hown, hts, hK, hz, hlk, hr⟩ := id C
  unfold wp_X9_init at hM
  refine lv_aload_n hx hb dX9_init_0 rfl (lv_at hl 0 rfl) ?_
  refine x_obj C hl.1 wo_X9_3 (Nat.le_of_ble_eq_true rfl) (Nat.le_of_ble_eq_true rfl) dX9_init_1 ?_
  refine lv_aload_n hx hb dX9_init_4 rfl (lv_at hl 0 rfl) ?_
  refine lv_iconst (v := 0) hx hb dX9_init_5 (by decide) ?_
  have hk1 := hM.1
  have hM := hM.2
  obtain ⟨S2, eS2⟩ : ∃ z : PS, z = S.setI 640 a0 0 := ⟨_, rfl⟩
  have hM := hM S2 eS2
  refine x_putI C hV wp_X9_9 hk1 ⟨rfl, rfl⟩ eS2 dX9_init_6 (fun H locs hV => ?_)
  refine lv_aload_n hx hb dX9_init_9 rfl (lv_at hl 0 rfl) ?_
  refine lv_iconst (v := 0) hx hb dX9_init_10 (by decide) ?_
  have hk3 := kp_I eS2 hk1
  obtain ⟨S4, eS4⟩ : ∃ z : PS, z = S2.setI 641 a0 0 := ⟨_, rfl⟩
  have hM := hM S4 eS4
  refine x_putI C hV wp_X9_15 hk3 ⟨rfl, rfl⟩ eS4 dX9_init_11 (fun H locs hV => ?_)
  refine lv_aload_n hx hb dX9_init_14 rfl (lv_at hl 0 rfl) ?_
  refine lv_iconst (v := 1) hx hb dX9_init_15 (by decide) ?_
  have hk5 := kp_I eS4 hk3
  obtain ⟨S6, eS6⟩ : ∃ z : PS, z = S4.setI 642 a0 1 := ⟨_, rfl⟩
  have hM := hM S6 eS6
  refine x_putI C hV wp_X9_18 hk5 ⟨rfl, rfl⟩ eS6 dX9_init_16 (fun H locs hV => ?_)
  refine lv_aload_n hx hb dX9_init_19 rfl (lv_at hl 0 rfl) ?_
  refine lv_iconst (v := 0) hx hb dX9_init_20 (by decide) ?_
  have hk7 := kp_I eS6 hk5
  obtain ⟨S8, eS8⟩ : ∃ z : PS, z = S6.setI 643 a0 0 := ⟨_, rfl⟩
  have hM := hM S8 eS8
  refine x_putI C hV wp_X9_21 hk7 ⟨rfl, rfl⟩ eS8 dX9_init_21 (fun H locs hV => ?_)
  refine lv_aload_n hx hb dX9_init_24 rfl (lv_at hl 0 rfl) ?_
  refine lv_iconst (v := 0) hx hb dX9_init_25 (by decide) ?_
  have hk9 := kp_I eS8 hk7
  obtain ⟨S10, eS10⟩ : ∃ z : PS, z = S8.setI 644 a0 0 := ⟨_, rfl⟩
  have hM := hM S10 eS10
  refine x_putI C hV wp_X9_24 hk9 ⟨rfl, rfl⟩ eS10 dX9_init_26 (fun H locs hV => ?_)
  refine lv_aload_n hx hb dX9_init_29 rfl (lv_at hl 0 rfl) ?_
  refine lv_iconst (v := 0) hx hb dX9_init_30 (by decide) ?_
  have hk11 := kp_I eS10 hk9
  obtain ⟨S12, eS12⟩ : ∃ z : PS, z = S10.setI 645 a0 0 := ⟨_, rfl⟩
  have hM := hM S12 eS12
  refine x_putI C hV wp_X9_27 hk11 ⟨rfl, rfl⟩ eS12 dX9_init_31 (fun H locs hV => ?_)
  refine lv_aload_n hx hb dX9_init_34 rfl (lv_at hl 0 rfl) ?_
  refine lv_iconst (v := 0) hx hb dX9_init_35 (by decide) ?_
  have hk13 := kp_I eS12 hk11
  obtain ⟨S14, eS14⟩ : ∃ z : PS, z = S12.setI 646 a0 0 := ⟨_, rfl⟩
  have hM := hM S14 eS14
  refine x_putI C hV wp_X9_30 hk13 ⟨rfl, rfl⟩ eS14 dX9_init_36 (fun H locs hV => ?_)
  refine lv_aload_n hx hb dX9_init_39 rfl (lv_at hl 0 rfl) ?_
  refine lv_iconst (v := 0) hx hb dX9_init_40 (by decide) ?_
  have hk15 := kp_I eS14 hk13
  obtain ⟨S16, eS16⟩ : ∃ z : PS, z = S14.setI 647 a0 0 := ⟨_, rfl⟩
  have hM := hM S16 eS16
  refine x_putI C hV wp_X9_33 hk15 ⟨rfl, rfl⟩ eS16 dX9_init_41 (fun H locs hV => ?_)
  refine lv_aload_n hx hb dX9_init_44 rfl (lv_at hl 0 rfl) ?_
  refine lv_bipush (v := 10) hx hb dX9_init_45 (by decide) ?_
  refine x_newQ (kd := 23) (N' := 10) C hV (by decide) rfl wn_X9_36 hz.2.2.2.2.2.2.2.2.2.2.1 (by decide) (by decide) (by decide) (Nat.le_of_ble_eq_true rfl) (Nat.le_of_ble_eq_true rfl) dX9_init_47 (fun q17 H S18 hq17 eS18 hV => ?_)
  have hM := hM q17 S18 hq17 eS18
  have hk19 := kq_N eS18
  have hk20 := kp_I eS16 hk15
  have hk21 := kp_N eS18 hq17 hk20 (by decide)
  obtain ⟨S22, eS22⟩ : ∃ z : PS, z = S18.setR 648 a0 (some q17) := ⟨_, rfl⟩
  have hM := hM S22 eS22
  refine x_putFR C hin hV wp_X9_38 hk21 ⟨rfl, rfl⟩ eS22 dX9_init_50 (fun H locs hV => ?_)
  refine lv_aload_n hx hb dX9_init_53 rfl (lv_at hl 0 rfl) ?_
  refine lv_bipush (v := 40) hx hb dX9_init_54 (by decide) ?_
  refine x_newI (N' := 40) C hV wk_ai (by decide) (by decide) (by decide) (Nat.le_of_ble_eq_true rfl) (Nat.le_of_ble_eq_true rfl) dX9_init_56 (fun q23 H S24 hq23 eS24 hV => ?_)
  have hM := hM q23 S24 hq23 eS24
  have hk25 := kq_N eS24
  have hk26 := kp_R eS22 hk21
  have hk27 := kp_N eS24 hq23 hk26 (by decide)
  obtain ⟨S28, eS28⟩ : ∃ z : PS, z = S24.setR 649 a0 (some q23) := ⟨_, rfl⟩
  have hM := hM S28 eS28
  refine x_putFR C hin hV wp_X9_42 hk27 ⟨rfl, rfl⟩ eS28 dX9_init_58 (fun H locs hV => ?_)
  refine lv_aload_n hx hb dX9_init_61 rfl (lv_at hl 0 rfl) ?_
  refine lv_bipush (v := 40) hx hb dX9_init_62 (by decide) ?_
  refine x_newI (N' := 40) C hV wk_ai (by decide) (by decide) (by decide) (Nat.le_of_ble_eq_true rfl) (Nat.le_of_ble_eq_true rfl) dX9_init_64 (fun q29 H S30 hq29 eS30 hV => ?_)
  have hM := hM q29 S30 hq29 eS30
  have hk31 := kq_N eS30
  have hk32 := kp_R eS28 hk27
  have hk33 := kp_N eS30 hq29 hk32 (by decide)
  obtain ⟨S34, eS34⟩ : ∃ z : PS, z = S30.setR 650 a0 (some q29) := ⟨_, rfl⟩
  have hM := hM S34 eS34
  refine x_putFR C hin hV wp_X9_46 hk33 ⟨rfl, rfl⟩ eS34 dX9_init_66 (fun H locs hV => ?_)
  refine lv_aload_n hx hb dX9_init_69 rfl (lv_at hl 0 rfl) ?_
  refine lv_bipush (v := 40) hx hb dX9_init_70 (by decide) ?_
  refine x_newI (N' := 40) C hV wk_ai (by decide) (by decide) (by decide) (Nat.le_of_ble_eq_true rfl) (Nat.le_of_ble_eq_true rfl) dX9_init_72 (fun q35 H S36 hq35 eS36 hV => ?_)
  have hM := hM q35 S36 hq35 eS36
  have hk37 := kq_N eS36
  have hk38 := kp_R eS34 hk33
  have hk39 := kp_N eS36 hq35 hk38 (by decide)
  obtain ⟨S40, eS40⟩ : ∃ z : PS, z = S36.setR 651 a0 (some q35) := ⟨_, rfl⟩
  have hM := hM S40 eS40
  refine x_putFR C hin hV wp_X9_49 hk39 ⟨rfl, rfl⟩ eS40 dX9_init_74 (fun H locs hV => ?_)
  refine lv_aload_n hx hb dX9_init_77 rfl (lv_at hl 0 rfl) ?_
  refine lv_bipush (v := 8) hx hb dX9_init_78 (by decide) ?_
  refine x_newQ (kd := 27) (N' := 8) C hV (by decide) rfl wn_X9_52 hz.2.2.2.2.2.2.2.2.2.2.2.1 (by decide) (by decide) (by decide) (Nat.le_of_ble_eq_true rfl) (Nat.le_of_ble_eq_true rfl) dX9_init_80 (fun q41 H S42 hq41 eS42 hV => ?_)
  have hM := hM q41 S42 hq41 eS42
  have hk43 := kq_N eS42
  have hk44 := kp_R eS40 hk39
  have hk45 := kp_N eS42 hq41 hk44 (by decide)
  obtain ⟨S46, eS46⟩ : ∃ z : PS, z = S42.setR 652 a0 (some q41) := ⟨_, rfl⟩
  have hM := hM S46 eS46
  refine x_putFR C hin hV wp_X9_54 hk45 ⟨rfl, rfl⟩ eS46 dX9_init_83 (fun H locs hV => ?_)
  refine lv_aload_n hx hb dX9_init_86 rfl (lv_at hl 0 rfl) ?_
  refine lv_bipush (v := 8) hx hb dX9_init_87 (by decide) ?_
  refine x_newQ (kd := 24) (N' := 8) C hV (by decide) rfl wn_X9_58 hz.2.2.2.2.2.2.2.2.2.2.2.2.1 (by decide) (by decide) (by decide) (Nat.le_of_ble_eq_true rfl) (Nat.le_of_ble_eq_true rfl) dX9_init_89 (fun q47 H S48 hq47 eS48 hV => ?_)
  have hM := hM q47 S48 hq47 eS48
  have hk49 := kq_N eS48
  have hk50 := kp_R eS46 hk45
  have hk51 := kp_N eS48 hq47 hk50 (by decide)
  obtain ⟨S52, eS52⟩ : ∃ z : PS, z = S48.setR 653 a0 (some q47) := ⟨_, rfl⟩
  have hM := hM S52 eS52
  refine x_putFR C hin hV wp_X9_60 hk51 ⟨rfl, rfl⟩ eS52 dX9_init_92 (fun H locs hV => ?_)
  refine lv_iconst (v := 0) hx hb dX9_init_95 (by decide) ?_
  refine lv_istore_n (lv' := [(1, .int 0), (0, .ref a0)]) hx hb dX9_init_96 rfl hl (by decide) rfl (fun ls hl => ?_)
  refine lv_iload_n hx hb dX9_init_97 rfl (lv_at hl 0 rfl) ?_
  refine lv_bipush (v := 10) hx hb dX9_init_98 (by decide) ?_
  refine lv_icmp_ge (tgt := 122) hx hb dX9_init_100 (by decide) (fun c => absurd c (by decide)) (fun _ => ?_)
  refine lv_aload_n hx hb dX9_init_103 rfl (lv_at hl 1 rfl) ?_
  have hk53 := kp_R eS52 hk51
  obtain ⟨p54, hp54, hM⟩ := hM
  refine x_getR C hV wf_X9_38 hk53 hp54 dX9_init_104 ?_
  refine lv_iload_n hx hb dX9_init_107 rfl (lv_at hl 0 rfl) ?_
  refine x_new C hV wm_X9_36 (Nat.le_of_ble_eq_true rfl) (Nat.le_of_ble_eq_true rfl) dX9_init_108 (fun q55 H S56 hq55 eS56 hV => ?_)
  have hM := hM q55 S56 hq55 eS56
  have hk57 := kq_O eS56
  refine lv_dup hx hb dX9_init_111 rfl ?_
  refine x_cv hV (x_runIN (As := []) (rest := [.ref q55, .int 0, .ref p54]) C hV mc_X1_init hz.2.2.2.2.2.1 (c_X1_init hM) ⟨by decide, by decide⟩ rfl hl.1 (Nat.le_of_ble_eq_true rfl) dX9_init_112 ⟨Nat.le_of_ble_eq_true rfl, Nat.le_of_ble_eq_true rfl⟩) (fun S58 H locs hV hM => ?_)
  have hk59 := hM.1
  have hM := hM.2
  have hk60 := hM.1
  have hM := hM.2
  have hi61 := hM.1
  have hM := hM.2
  obtain ⟨S62, eS62⟩ : ∃ z : PS, z = S58.setQ p54 (0 : Int32).toNatClampNeg (some q55) := ⟨_, rfl⟩
  have hM := hM S62 eS62
  refine x_aast C hV hk59 (by decide) rfl rfl (by decide) hk60 hi61 eS62 dX9_init_115 (fun H locs hV => ?_)
  refine lv_iinc (v := 1) (lv' := [(1, .int 1), (0, .ref a0)]) hx hb dX9_init_116 hl (k := 0) rfl (by decide) (by decide) rfl (fun ls hl => ?_)
  refine lv_goto (tgt := 97) hx hb dX9_init_119 (by decide) ?_
  refine lv_iload_n hx hb dX9_init_97 rfl (lv_at hl 0 rfl) ?_
  refine lv_bipush (v := 10) hx hb dX9_init_98 (by decide) ?_
  refine lv_icmp_ge (tgt := 122) hx hb dX9_init_100 (by decide) (fun c => absurd c (by decide)) (fun _ => ?_)
  refine lv_aload_n hx hb dX9_init_103 rfl (lv_at hl 1 rfl) ?_
  have hk63 := hM.1
  have hM := hM.2
  obtain ⟨p64, hp64, hM⟩ := hM
  refine x_getR C hV wf_X9_38 hk63 hp64 dX9_init_104 ?_
  refine lv_iload_n hx hb dX9_init_107 rfl (lv_at hl 0 rfl) ?_
  refine x_new C hV wm_X9_36 (Nat.le_of_ble_eq_true rfl) (Nat.le_of_ble_eq_true rfl) dX9_init_108 (fun q65 H S66 hq65 eS66 hV => ?_)
  have hM := hM q65 S66 hq65 eS66
  have hk67 := kq_O eS66
  refine lv_dup hx hb dX9_init_111 rfl ?_
  refine x_cv hV (x_runIN (As := []) (rest := [.ref q65, .int 1, .ref p64]) C hV mc_X1_init hz.2.2.2.2.2.1 (c_X1_init hM) ⟨by decide, by decide⟩ rfl hl.1 (Nat.le_of_ble_eq_true rfl) dX9_init_112 ⟨Nat.le_of_ble_eq_true rfl, Nat.le_of_ble_eq_true rfl⟩) (fun S68 H locs hV hM => ?_)
  have hk69 := hM.1
  have hM := hM.2
  have hk70 := hM.1
  have hM := hM.2
  have hi71 := hM.1
  have hM := hM.2
  obtain ⟨S72, eS72⟩ : ∃ z : PS, z = S68.setQ p64 (1 : Int32).toNatClampNeg (some q65) := ⟨_, rfl⟩
  have hM := hM S72 eS72
  refine x_aast C hV hk69 (by decide) rfl rfl (by decide) hk70 hi71 eS72 dX9_init_115 (fun H locs hV => ?_)
  refine lv_iinc (v := 2) (lv' := [(1, .int 2), (0, .ref a0)]) hx hb dX9_init_116 hl (k := 0) rfl (by decide) (by decide) rfl (fun ls hl => ?_)
  refine lv_goto (tgt := 97) hx hb dX9_init_119 (by decide) ?_
  refine lv_iload_n hx hb dX9_init_97 rfl (lv_at hl 0 rfl) ?_
  refine lv_bipush (v := 10) hx hb dX9_init_98 (by decide) ?_
  refine lv_icmp_ge (tgt := 122) hx hb dX9_init_100 (by decide) (fun c => absurd c (by decide)) (fun _ => ?_)
  refine lv_aload_n hx hb dX9_init_103 rfl (lv_at hl 1 rfl) ?_
  have hk73 := hM.1
  have hM := hM.2
  obtain ⟨p74, hp74, hM⟩ := hM
  refine x_getR C hV wf_X9_38 hk73 hp74 dX9_init_104 ?_
  refine lv_iload_n hx hb dX9_init_107 rfl (lv_at hl 0 rfl) ?_
  refine x_new C hV wm_X9_36 (Nat.le_of_ble_eq_true rfl) (Nat.le_of_ble_eq_true rfl) dX9_init_108 (fun q75 H S76 hq75 eS76 hV => ?_)
  have hM := hM q75 S76 hq75 eS76
  have hk77 := kq_O eS76
  refine lv_dup hx hb dX9_init_111 rfl ?_
  refine x_cv hV (x_runIN (As := []) (rest := [.ref q75, .int 2, .ref p74]) C hV mc_X1_init hz.2.2.2.2.2.1 (c_X1_init hM) ⟨by decide, by decide⟩ rfl hl.1 (Nat.le_of_ble_eq_true rfl) dX9_init_112 ⟨Nat.le_of_ble_eq_true rfl, Nat.le_of_ble_eq_true rfl⟩) (fun S78 H locs hV hM => ?_)
  have hk79 := hM.1
  have hM := hM.2
  have hk80 := hM.1
  have hM := hM.2
  have hi81 := hM.1
  have hM := hM.2
  obtain ⟨S82, eS82⟩ : ∃ z : PS, z = S78.setQ p74 (2 : Int32).toNatClampNeg (some q75) := ⟨_, rfl⟩
  have hM := hM S82 eS82
  refine x_aast C hV hk79 (by decide) rfl rfl (by decide) hk80 hi81 eS82 dX9_init_115 (fun H locs hV => ?_)
  refine lv_iinc (v := 3) (lv' := [(1, .int 3), (0, .ref a0)]) hx hb dX9_init_116 hl (k := 0) rfl (by decide) (by decide) rfl (fun ls hl => ?_)
  refine lv_goto (tgt := 97) hx hb dX9_init_119 (by decide) ?_
  refine lv_iload_n hx hb dX9_init_97 rfl (lv_at hl 0 rfl) ?_
  refine lv_bipush (v := 10) hx hb dX9_init_98 (by decide) ?_
  refine lv_icmp_ge (tgt := 122) hx hb dX9_init_100 (by decide) (fun c => absurd c (by decide)) (fun _ => ?_)
  refine lv_aload_n hx hb dX9_init_103 rfl (lv_at hl 1 rfl) ?_
  have hk83 := hM.1
  have hM := hM.2
  obtain ⟨p84, hp84, hM⟩ := hM
  refine x_getR C hV wf_X9_38 hk83 hp84 dX9_init_104 ?_
  refine lv_iload_n hx hb dX9_init_107 rfl (lv_at hl 0 rfl) ?_
  refine x_new C hV wm_X9_36 (Nat.le_of_ble_eq_true rfl) (Nat.le_of_ble_eq_true rfl) dX9_init_108 (fun q85 H S86 hq85 eS86 hV => ?_)
  have hM := hM q85 S86 hq85 eS86
  have hk87 := kq_O eS86
  refine lv_dup hx hb dX9_init_111 rfl ?_
  refine x_cv hV (x_runIN (As := []) (rest := [.ref q85, .int 3, .ref p84]) C hV mc_X1_init hz.2.2.2.2.2.1 (c_X1_init hM) ⟨by decide, by decide⟩ rfl hl.1 (Nat.le_of_ble_eq_true rfl) dX9_init_112 ⟨Nat.le_of_ble_eq_true rfl, Nat.le_of_ble_eq_true rfl⟩) (fun S88 H locs hV hM => ?_)
  have hk89 := hM.1
  have hM := hM.2
  have hk90 := hM.1
  have hM := hM.2
  have hi91 := hM.1
  have hM := hM.2
  obtain ⟨S92, eS92⟩ : ∃ z : PS, z = S88.setQ p84 (3 : Int32).toNatClampNeg (some q85) := ⟨_, rfl⟩
  have hM := hM S92 eS92
  refine x_aast C hV hk89 (by decide) rfl rfl (by decide) hk90 hi91 eS92 dX9_init_115 (fun H locs hV => ?_)
  refine lv_iinc (v := 4) (lv' := [(1, .int 4), (0, .ref a0)]) hx hb dX9_init_116 hl (k := 0) rfl (by decide) (by decide) rfl (fun ls hl => ?_)
  refine lv_goto (tgt := 97) hx hb dX9_init_119 (by decide) ?_
  refine lv_iload_n hx hb dX9_init_97 rfl (lv_at hl 0 rfl) ?_
  refine lv_bipush (v := 10) hx hb dX9_init_98 (by decide) ?_
  refine lv_icmp_ge (tgt := 122) hx hb dX9_init_100 (by decide) (fun c => absurd c (by decide)) (fun _ => ?_)
  refine lv_aload_n hx hb dX9_init_103 rfl (lv_at hl 1 rfl) ?_
  have hk93 := hM.1
  have hM := hM.2
  obtain ⟨p94, hp94, hM⟩ := hM
  refine x_getR C hV wf_X9_38 hk93 hp94 dX9_init_104 ?_
  refine lv_iload_n hx hb dX9_init_107 rfl (lv_at hl 0 rfl) ?_
  refine x_new C hV wm_X9_36 (Nat.le_of_ble_eq_true rfl) (Nat.le_of_ble_eq_true rfl) dX9_init_108 (fun q95 H S96 hq95 eS96 hV => ?_)
  have hM := hM q95 S96 hq95 eS96
  have hk97 := kq_O eS96
  refine lv_dup hx hb dX9_init_111 rfl ?_
  refine x_cv hV (x_runIN (As := []) (rest := [.ref q95, .int 4, .ref p94]) C hV mc_X1_init hz.2.2.2.2.2.1 (c_X1_init hM) ⟨by decide, by decide⟩ rfl hl.1 (Nat.le_of_ble_eq_true rfl) dX9_init_112 ⟨Nat.le_of_ble_eq_true rfl, Nat.le_of_ble_eq_true rfl⟩) (fun S98 H locs hV hM => ?_)
  have hk99 := hM.1
  have hM := hM.2
  have hk100 := hM.1
  have hM := hM.2
  have hi101 := hM.1
  have hM := hM.2
  obtain ⟨S102, eS102⟩ : ∃ z : PS, z = S98.setQ p94 (4 : Int32).toNatClampNeg (some q95) := ⟨_, rfl⟩
  have hM := hM S102 eS102
  refine x_aast C hV hk99 (by decide) rfl rfl (by decide) hk100 hi101 eS102 dX9_init_115 (fun H locs hV => ?_)
  refine lv_iinc (v := 5) (lv' := [(1, .int 5), (0, .ref a0)]) hx hb dX9_init_116 hl (k := 0) rfl (by decide) (by decide) rfl (fun ls hl => ?_)
  refine lv_goto (tgt := 97) hx hb dX9_init_119 (by decide) ?_
  refine lv_iload_n hx hb dX9_init_97 rfl (lv_at hl 0 rfl) ?_
  refine lv_bipush (v := 10) hx hb dX9_init_98 (by decide) ?_
  refine lv_icmp_ge (tgt := 122) hx hb dX9_init_100 (by decide) (fun c => absurd c (by decide)) (fun _ => ?_)
  refine lv_aload_n hx hb dX9_init_103 rfl (lv_at hl 1 rfl) ?_
  have hk103 := hM.1
  have hM := hM.2
  obtain ⟨p104, hp104, hM⟩ := hM
  refine x_getR C hV wf_X9_38 hk103 hp104 dX9_init_104 ?_
  refine lv_iload_n hx hb dX9_init_107 rfl (lv_at hl 0 rfl) ?_
  refine x_new C hV wm_X9_36 (Nat.le_of_ble_eq_true rfl) (Nat.le_of_ble_eq_true rfl) dX9_init_108 (fun q105 H S106 hq105 eS106 hV => ?_)
  have hM := hM q105 S106 hq105 eS106
  have hk107 := kq_O eS106
  refine lv_dup hx hb dX9_init_111 rfl ?_
  refine x_cv hV (x_runIN (As := []) (rest := [.ref q105, .int 5, .ref p104]) C hV mc_X1_init hz.2.2.2.2.2.1 (c_X1_init hM) ⟨by decide, by decide⟩ rfl hl.1 (Nat.le_of_ble_eq_true rfl) dX9_init_112 ⟨Nat.le_of_ble_eq_true rfl, Nat.le_of_ble_eq_true rfl⟩) (fun S108 H locs hV hM => ?_)
  have hk109 := hM.1
  have hM := hM.2
  have hk110 := hM.1
  have hM := hM.2
  have hi111 := hM.1
  have hM := hM.2
  obtain ⟨S112, eS112⟩ : ∃ z : PS, z = S108.setQ p104 (5 : Int32).toNatClampNeg (some q105) := ⟨_, rfl⟩
  have hM := hM S112 eS112
  refine x_aast C hV hk109 (by decide) rfl rfl (by decide) hk110 hi111 eS112 dX9_init_115 (fun H locs hV => ?_)
  refine lv_iinc (v := 6) (lv' := [(1, .int 6), (0, .ref a0)]) hx hb dX9_init_116 hl (k := 0) rfl (by decide) (by decide) rfl (fun ls hl => ?_)
  refine lv_goto (tgt := 97) hx hb dX9_init_119 (by decide) ?_
  refine lv_iload_n hx hb dX9_init_97 rfl (lv_at hl 0 rfl) ?_
  refine lv_bipush (v := 10) hx hb dX9_init_98 (by decide) ?_
  refine lv_icmp_ge (tgt := 122) hx hb dX9_init_100 (by decide) (fun c => absurd c (by decide)) (fun _ => ?_)
  refine lv_aload_n hx hb dX9_init_103 rfl (lv_at hl 1 rfl) ?_
  have hk113 := hM.1
  have hM := hM.2
  obtain ⟨p114, hp114, hM⟩ := hM
  refine x_getR C hV wf_X9_38 hk113 hp114 dX9_init_104 ?_
  refine lv_iload_n hx hb dX9_init_107 rfl (lv_at hl 0 rfl) ?_
  refine x_new C hV wm_X9_36 (Nat.le_of_ble_eq_true rfl) (Nat.le_of_ble_eq_true rfl) dX9_init_108 (fun q115 H S116 hq115 eS116 hV => ?_)
  have hM := hM q115 S116 hq115 eS116
  have hk117 := kq_O eS116
  refine lv_dup hx hb dX9_init_111 rfl ?_
  refine x_cv hV (x_runIN (As := []) (rest := [.ref q115, .int 6, .ref p114]) C hV mc_X1_init hz.2.2.2.2.2.1 (c_X1_init hM) ⟨by decide, by decide⟩ rfl hl.1 (Nat.le_of_ble_eq_true rfl) dX9_init_112 ⟨Nat.le_of_ble_eq_true rfl, Nat.le_of_ble_eq_true rfl⟩) (fun S118 H locs hV hM => ?_)
  have hk119 := hM.1
  have hM := hM.2
  have hk120 := hM.1
  have hM := hM.2
  have hi121 := hM.1
  have hM := hM.2
  obtain ⟨S122, eS122⟩ : ∃ z : PS, z = S118.setQ p114 (6 : Int32).toNatClampNeg (some q115) := ⟨_, rfl⟩
  have hM := hM S122 eS122
  refine x_aast C hV hk119 (by decide) rfl rfl (by decide) hk120 hi121 eS122 dX9_init_115 (fun H locs hV => ?_)
  refine lv_iinc (v := 7) (lv' := [(1, .int 7), (0, .ref a0)]) hx hb dX9_init_116 hl (k := 0) rfl (by decide) (by decide) rfl (fun ls hl => ?_)
  refine lv_goto (tgt := 97) hx hb dX9_init_119 (by decide) ?_
  refine lv_iload_n hx hb dX9_init_97 rfl (lv_at hl 0 rfl) ?_
  refine lv_bipush (v := 10) hx hb dX9_init_98 (by decide) ?_
  refine lv_icmp_ge (tgt := 122) hx hb dX9_init_100 (by decide) (fun c => absurd c (by decide)) (fun _ => ?_)
  refine lv_aload_n hx hb dX9_init_103 rfl (lv_at hl 1 rfl) ?_
  have hk123 := hM.1
  have hM := hM.2
  obtain ⟨p124, hp124, hM⟩ := hM
  refine x_getR C hV wf_X9_38 hk123 hp124 dX9_init_104 ?_
  refine lv_iload_n hx hb dX9_init_107 rfl (lv_at hl 0 rfl) ?_
  refine x_new C hV wm_X9_36 (Nat.le_of_ble_eq_true rfl) (Nat.le_of_ble_eq_true rfl) dX9_init_108 (fun q125 H S126 hq125 eS126 hV => ?_)
  have hM := hM q125 S126 hq125 eS126
  have hk127 := kq_O eS126
  refine lv_dup hx hb dX9_init_111 rfl ?_
  refine x_cv hV (x_runIN (As := []) (rest := [.ref q125, .int 7, .ref p124]) C hV mc_X1_init hz.2.2.2.2.2.1 (c_X1_init hM) ⟨by decide, by decide⟩ rfl hl.1 (Nat.le_of_ble_eq_true rfl) dX9_init_112 ⟨Nat.le_of_ble_eq_true rfl, Nat.le_of_ble_eq_true rfl⟩) (fun S128 H locs hV hM => ?_)
  have hk129 := hM.1
  have hM := hM.2
  have hk130 := hM.1
  have hM := hM.2
  have hi131 := hM.1
  have hM := hM.2
  obtain ⟨S132, eS132⟩ : ∃ z : PS, z = S128.setQ p124 (7 : Int32).toNatClampNeg (some q125) := ⟨_, rfl⟩
  have hM := hM S132 eS132
  refine x_aast C hV hk129 (by decide) rfl rfl (by decide) hk130 hi131 eS132 dX9_init_115 (fun H locs hV => ?_)
  refine lv_iinc (v := 8) (lv' := [(1, .int 8), (0, .ref a0)]) hx hb dX9_init_116 hl (k := 0) rfl (by decide) (by decide) rfl (fun ls hl => ?_)
  refine lv_goto (tgt := 97) hx hb dX9_init_119 (by decide) ?_
  refine lv_iload_n hx hb dX9_init_97 rfl (lv_at hl 0 rfl) ?_
  refine lv_bipush (v := 10) hx hb dX9_init_98 (by decide) ?_
  refine lv_icmp_ge (tgt := 122) hx hb dX9_init_100 (by decide) (fun c => absurd c (by decide)) (fun _ => ?_)
  refine lv_aload_n hx hb dX9_init_103 rfl (lv_at hl 1 rfl) ?_
  have hk133 := hM.1
  have hM := hM.2
  obtain ⟨p134, hp134, hM⟩ := hM
  refine x_getR C hV wf_X9_38 hk133 hp134 dX9_init_104 ?_
  refine lv_iload_n hx hb dX9_init_107 rfl (lv_at hl 0 rfl) ?_
  refine x_new C hV wm_X9_36 (Nat.le_of_ble_eq_true rfl) (Nat.le_of_ble_eq_true rfl) dX9_init_108 (fun q135 H S136 hq135 eS136 hV => ?_)
  have hM := hM q135 S136 hq135 eS136
  have hk137 := kq_O eS136
  refine lv_dup hx hb dX9_init_111 rfl ?_
  refine x_cv hV (x_runIN (As := []) (rest := [.ref q135, .int 8, .ref p134]) C hV mc_X1_init hz.2.2.2.2.2.1 (c_X1_init hM) ⟨by decide, by decide⟩ rfl hl.1 (Nat.le_of_ble_eq_true rfl) dX9_init_112 ⟨Nat.le_of_ble_eq_true rfl, Nat.le_of_ble_eq_true rfl⟩) (fun S138 H locs hV hM => ?_)
  have hk139 := hM.1
  have hM := hM.2
  have hk140 := hM.1
  have hM := hM.2
  have hi141 := hM.1
  have hM := hM.2
  obtain ⟨S142, eS142⟩ : ∃ z : PS, z = S138.setQ p134 (8 : Int32).toNatClampNeg (some q135) := ⟨_, rfl⟩
  have hM := hM S142 eS142
  refine x_aast C hV hk139 (by decide) rfl rfl (by decide) hk140 hi141 eS142 dX9_init_115 (fun H locs hV => ?_)
  refine lv_iinc (v := 9) (lv' := [(1, .int 9), (0, .ref a0)]) hx hb dX9_init_116 hl (k := 0) rfl (by decide) (by decide) rfl (fun ls hl => ?_)
  refine lv_goto (tgt := 97) hx hb dX9_init_119 (by decide) ?_
  refine lv_iload_n hx hb dX9_init_97 rfl (lv_at hl 0 rfl) ?_
  refine lv_bipush (v := 10) hx hb dX9_init_98 (by decide) ?_
  refine lv_icmp_ge (tgt := 122) hx hb dX9_init_100 (by decide) (fun c => absurd c (by decide)) (fun _ => ?_)
  refine lv_aload_n hx hb dX9_init_103 rfl (lv_at hl 1 rfl) ?_
  have hk143 := hM.1
  have hM := hM.2
  obtain ⟨p144, hp144, hM⟩ := hM
  refine x_getR C hV wf_X9_38 hk143 hp144 dX9_init_104 ?_
  refine lv_iload_n hx hb dX9_init_107 rfl (lv_at hl 0 rfl) ?_
  refine x_new C hV wm_X9_36 (Nat.le_of_ble_eq_true rfl) (Nat.le_of_ble_eq_true rfl) dX9_init_108 (fun q145 H S146 hq145 eS146 hV => ?_)
  have hM := hM q145 S146 hq145 eS146
  have hk147 := kq_O eS146
  refine lv_dup hx hb dX9_init_111 rfl ?_
  refine x_cv hV (x_runIN (As := []) (rest := [.ref q145, .int 9, .ref p144]) C hV mc_X1_init hz.2.2.2.2.2.1 (c_X1_init hM) ⟨by decide, by decide⟩ rfl hl.1 (Nat.le_of_ble_eq_true rfl) dX9_init_112 ⟨Nat.le_of_ble_eq_true rfl, Nat.le_of_ble_eq_true rfl⟩) (fun S148 H locs hV hM => ?_)
  have hk149 := hM.1
  have hM := hM.2
  have hk150 := hM.1
  have hM := hM.2
  have hi151 := hM.1
  have hM := hM.2
  obtain ⟨S152, eS152⟩ : ∃ z : PS, z = S148.setQ p144 (9 : Int32).toNatClampNeg (some q145) := ⟨_, rfl⟩
  have hM := hM S152 eS152
  refine x_aast C hV hk149 (by decide) rfl rfl (by decide) hk150 hi151 eS152 dX9_init_115 (fun H locs hV => ?_)
  refine lv_iinc (v := 10) (lv' := [(1, .int 10), (0, .ref a0)]) hx hb dX9_init_116 hl (k := 0) rfl (by decide) (by decide) rfl (fun ls hl => ?_)
  refine lv_goto (tgt := 97) hx hb dX9_init_119 (by decide) ?_
  refine lv_iload_n hx hb dX9_init_97 rfl (lv_at hl 0 rfl) ?_
  refine lv_bipush (v := 10) hx hb dX9_init_98 (by decide) ?_
  refine lv_icmp_ge (tgt := 122) hx hb dX9_init_100 (by decide) (fun _ => ?_) (fun c => absurd (by decide) c)
  refine x_new C hV wm_X9_52 (Nat.le_of_ble_eq_true rfl) (Nat.le_of_ble_eq_true rfl) dX9_init_122 (fun q153 H S154 hq153 eS154 hV => ?_)
  have hM := hM q153 S154 hq153 eS154
  have hk155 := kq_O eS154
  refine lv_dup hx hb dX9_init_125 rfl ?_
  refine lv_iconst (v := 1) hx hb dX9_init_126 (by decide) ?_
  refine lv_iconst (v := 0) hx hb dX9_init_127 (by decide) ?_
  refine lv_iconst (v := 0) hx hb dX9_init_128 (by decide) ?_
  refine lv_iconst (v := 0) hx hb dX9_init_129 (by decide) ?_
  refine x_newI (N' := 0) C hV wk_ai (by decide) (by decide) (by decide) (Nat.le_of_ble_eq_true rfl) (Nat.le_of_ble_eq_true rfl) dX9_init_130 (fun q156 H S157 hq156 eS157 hV => ?_)
  have hM := hM q156 S157 hq156 eS157
  have hk158 := kq_N eS157
  refine x_cv hV (x_runI (As := [.int 1, .int 0, .int 0, .ref q156]) (rest := [.ref q153]) C hV mc_X6_init wl_X9_65 (c_X6_init hM) ⟨by decide, by decide⟩ rfl hl.1 (Nat.le_of_ble_eq_true rfl) dX9_init_132 ⟨Nat.le_of_ble_eq_true rfl, Nat.le_of_ble_eq_true rfl⟩) (fun S159 H locs hV hM => ?_)
  refine lv_astore_n (lv' := [(1, .ref q153), (0, .ref a0)]) hx hb dX9_init_135 rfl hl (by decide) rfl (fun ls hl => ?_)
  refine lv_iconst (v := 0) hx hb dX9_init_136 (by decide) ?_
  refine lv_istore_n (lv' := [(2, .int 0), (1, .ref q153), (0, .ref a0)]) hx hb dX9_init_137 rfl hl (by decide) rfl (fun ls hl => ?_)
  refine lv_iload_n hx hb dX9_init_138 rfl (lv_at hl 0 rfl) ?_
  refine lv_bipush (v := 8) hx hb dX9_init_139 (by decide) ?_
  refine lv_icmp_ge (tgt := 157) hx hb dX9_init_141 (by decide) (fun c => absurd c (by decide)) (fun _ => ?_)
  refine lv_aload_n hx hb dX9_init_144 rfl (lv_at hl 2 rfl) ?_
  have hk160 := hM.1
  have hM := hM.2
  obtain ⟨p161, hp161, hM⟩ := hM
  refine x_getR C hV wf_X9_54 hk160 hp161 dX9_init_145 ?_
  refine lv_iload_n hx hb dX9_init_148 rfl (lv_at hl 0 rfl) ?_
  refine lv_aload_n hx hb dX9_init_149 rfl (lv_at hl 1 rfl) ?_
  have hk162 := hM.1
  have hM := hM.2
  have hk163 := hM.1
  have hM := hM.2
  have hi164 := hM.1
  have hM := hM.2
  obtain ⟨S165, eS165⟩ : ∃ z : PS, z = S159.setQ p161 (0 : Int32).toNatClampNeg (some q153) := ⟨_, rfl⟩
  have hM := hM S165 eS165
  refine x_aast C hV hk162 (by decide) rfl rfl (by decide) hk163 hi164 eS165 dX9_init_150 (fun H locs hV => ?_)
  refine lv_iinc (v := 1) (lv' := [(2, .int 1), (1, .ref q153), (0, .ref a0)]) hx hb dX9_init_151 hl (k := 0) rfl (by decide) (by decide) rfl (fun ls hl => ?_)
  refine lv_goto (tgt := 138) hx hb dX9_init_154 (by decide) ?_
  refine lv_iload_n hx hb dX9_init_138 rfl (lv_at hl 0 rfl) ?_
  refine lv_bipush (v := 8) hx hb dX9_init_139 (by decide) ?_
  refine lv_icmp_ge (tgt := 157) hx hb dX9_init_141 (by decide) (fun c => absurd c (by decide)) (fun _ => ?_)
  refine lv_aload_n hx hb dX9_init_144 rfl (lv_at hl 2 rfl) ?_
  have hk166 := kp_Q eS165 hk160
  obtain ⟨p167, hp167, hM⟩ := hM
  refine x_getR C hV wf_X9_54 hk166 hp167 dX9_init_145 ?_
  refine lv_iload_n hx hb dX9_init_148 rfl (lv_at hl 0 rfl) ?_
  refine lv_aload_n hx hb dX9_init_149 rfl (lv_at hl 1 rfl) ?_
  have hk168 := hM.1
  have hM := hM.2
  have hk169 := kp_Q eS165 hk163
  have hi170 := hM.1
  have hM := hM.2
  obtain ⟨S171, eS171⟩ : ∃ z : PS, z = S165.setQ p167 (1 : Int32).toNatClampNeg (some q153) := ⟨_, rfl⟩
  have hM := hM S171 eS171
  refine x_aast C hV hk168 (by decide) rfl rfl (by decide) hk169 hi170 eS171 dX9_init_150 (fun H locs hV => ?_)
  refine lv_iinc (v := 2) (lv' := [(2, .int 2), (1, .ref q153), (0, .ref a0)]) hx hb dX9_init_151 hl (k := 0) rfl (by decide) (by decide) rfl (fun ls hl => ?_)
  refine lv_goto (tgt := 138) hx hb dX9_init_154 (by decide) ?_
  refine lv_iload_n hx hb dX9_init_138 rfl (lv_at hl 0 rfl) ?_
  refine lv_bipush (v := 8) hx hb dX9_init_139 (by decide) ?_
  refine lv_icmp_ge (tgt := 157) hx hb dX9_init_141 (by decide) (fun c => absurd c (by decide)) (fun _ => ?_)
  refine lv_aload_n hx hb dX9_init_144 rfl (lv_at hl 2 rfl) ?_
  have hk172 := kp_Q eS171 hk166
  obtain ⟨p173, hp173, hM⟩ := hM
  refine x_getR C hV wf_X9_54 hk172 hp173 dX9_init_145 ?_
  refine lv_iload_n hx hb dX9_init_148 rfl (lv_at hl 0 rfl) ?_
  refine lv_aload_n hx hb dX9_init_149 rfl (lv_at hl 1 rfl) ?_
  have hk174 := hM.1
  have hM := hM.2
  have hk175 := kp_Q eS171 hk169
  have hi176 := hM.1
  have hM := hM.2
  obtain ⟨S177, eS177⟩ : ∃ z : PS, z = S171.setQ p173 (2 : Int32).toNatClampNeg (some q153) := ⟨_, rfl⟩
  have hM := hM S177 eS177
  refine x_aast C hV hk174 (by decide) rfl rfl (by decide) hk175 hi176 eS177 dX9_init_150 (fun H locs hV => ?_)
  refine lv_iinc (v := 3) (lv' := [(2, .int 3), (1, .ref q153), (0, .ref a0)]) hx hb dX9_init_151 hl (k := 0) rfl (by decide) (by decide) rfl (fun ls hl => ?_)
  refine lv_goto (tgt := 138) hx hb dX9_init_154 (by decide) ?_
  refine lv_iload_n hx hb dX9_init_138 rfl (lv_at hl 0 rfl) ?_
  refine lv_bipush (v := 8) hx hb dX9_init_139 (by decide) ?_
  refine lv_icmp_ge (tgt := 157) hx hb dX9_init_141 (by decide) (fun c => absurd c (by decide)) (fun _ => ?_)
  refine lv_aload_n hx hb dX9_init_144 rfl (lv_at hl 2 rfl) ?_
  have hk178 := kp_Q eS177 hk172
  obtain ⟨p179, hp179, hM⟩ := hM
  refine x_getR C hV wf_X9_54 hk178 hp179 dX9_init_145 ?_
  refine lv_iload_n hx hb dX9_init_148 rfl (lv_at hl 0 rfl) ?_
  refine lv_aload_n hx hb dX9_init_149 rfl (lv_at hl 1 rfl) ?_
  have hk180 := hM.1
  have hM := hM.2
  have hk181 := kp_Q eS177 hk175
  have hi182 := hM.1
  have hM := hM.2
  obtain ⟨S183, eS183⟩ : ∃ z : PS, z = S177.setQ p179 (3 : Int32).toNatClampNeg (some q153) := ⟨_, rfl⟩
  have hM := hM S183 eS183
  refine x_aast C hV hk180 (by decide) rfl rfl (by decide) hk181 hi182 eS183 dX9_init_150 (fun H locs hV => ?_)
  refine lv_iinc (v := 4) (lv' := [(2, .int 4), (1, .ref q153), (0, .ref a0)]) hx hb dX9_init_151 hl (k := 0) rfl (by decide) (by decide) rfl (fun ls hl => ?_)
  refine lv_goto (tgt := 138) hx hb dX9_init_154 (by decide) ?_
  refine lv_iload_n hx hb dX9_init_138 rfl (lv_at hl 0 rfl) ?_
  refine lv_bipush (v := 8) hx hb dX9_init_139 (by decide) ?_
  refine lv_icmp_ge (tgt := 157) hx hb dX9_init_141 (by decide) (fun c => absurd c (by decide)) (fun _ => ?_)
  refine lv_aload_n hx hb dX9_init_144 rfl (lv_at hl 2 rfl) ?_
  have hk184 := kp_Q eS183 hk178
  obtain ⟨p185, hp185, hM⟩ := hM
  refine x_getR C hV wf_X9_54 hk184 hp185 dX9_init_145 ?_
  refine lv_iload_n hx hb dX9_init_148 rfl (lv_at hl 0 rfl) ?_
  refine lv_aload_n hx hb dX9_init_149 rfl (lv_at hl 1 rfl) ?_
  have hk186 := hM.1
  have hM := hM.2
  have hk187 := kp_Q eS183 hk181
  have hi188 := hM.1
  have hM := hM.2
  obtain ⟨S189, eS189⟩ : ∃ z : PS, z = S183.setQ p185 (4 : Int32).toNatClampNeg (some q153) := ⟨_, rfl⟩
  have hM := hM S189 eS189
  refine x_aast C hV hk186 (by decide) rfl rfl (by decide) hk187 hi188 eS189 dX9_init_150 (fun H locs hV => ?_)
  refine lv_iinc (v := 5) (lv' := [(2, .int 5), (1, .ref q153), (0, .ref a0)]) hx hb dX9_init_151 hl (k := 0) rfl (by decide) (by decide) rfl (fun ls hl => ?_)
  refine lv_goto (tgt := 138) hx hb dX9_init_154 (by decide) ?_
  refine lv_iload_n hx hb dX9_init_138 rfl (lv_at hl 0 rfl) ?_
  refine lv_bipush (v := 8) hx hb dX9_init_139 (by decide) ?_
  refine lv_icmp_ge (tgt := 157) hx hb dX9_init_141 (by decide) (fun c => absurd c (by decide)) (fun _ => ?_)
  refine lv_aload_n hx hb dX9_init_144 rfl (lv_at hl 2 rfl) ?_
  have hk190 := kp_Q eS189 hk184
  obtain ⟨p191, hp191, hM⟩ := hM
  refine x_getR C hV wf_X9_54 hk190 hp191 dX9_init_145 ?_
  refine lv_iload_n hx hb dX9_init_148 rfl (lv_at hl 0 rfl) ?_
  refine lv_aload_n hx hb dX9_init_149 rfl (lv_at hl 1 rfl) ?_
  have hk192 := hM.1
  have hM := hM.2
  have hk193 := kp_Q eS189 hk187
  have hi194 := hM.1
  have hM := hM.2
  obtain ⟨S195, eS195⟩ : ∃ z : PS, z = S189.setQ p191 (5 : Int32).toNatClampNeg (some q153) := ⟨_, rfl⟩
  have hM := hM S195 eS195
  refine x_aast C hV hk192 (by decide) rfl rfl (by decide) hk193 hi194 eS195 dX9_init_150 (fun H locs hV => ?_)
  refine lv_iinc (v := 6) (lv' := [(2, .int 6), (1, .ref q153), (0, .ref a0)]) hx hb dX9_init_151 hl (k := 0) rfl (by decide) (by decide) rfl (fun ls hl => ?_)
  refine lv_goto (tgt := 138) hx hb dX9_init_154 (by decide) ?_
  refine lv_iload_n hx hb dX9_init_138 rfl (lv_at hl 0 rfl) ?_
  refine lv_bipush (v := 8) hx hb dX9_init_139 (by decide) ?_
  refine lv_icmp_ge (tgt := 157) hx hb dX9_init_141 (by decide) (fun c => absurd c (by decide)) (fun _ => ?_)
  refine lv_aload_n hx hb dX9_init_144 rfl (lv_at hl 2 rfl) ?_
  have hk196 := kp_Q eS195 hk190
  obtain ⟨p197, hp197, hM⟩ := hM
  refine x_getR C hV wf_X9_54 hk196 hp197 dX9_init_145 ?_
  refine lv_iload_n hx hb dX9_init_148 rfl (lv_at hl 0 rfl) ?_
  refine lv_aload_n hx hb dX9_init_149 rfl (lv_at hl 1 rfl) ?_
  have hk198 := hM.1
  have hM := hM.2
  have hk199 := kp_Q eS195 hk193
  have hi200 := hM.1
  have hM := hM.2
  obtain ⟨S201, eS201⟩ : ∃ z : PS, z = S195.setQ p197 (6 : Int32).toNatClampNeg (some q153) := ⟨_, rfl⟩
  have hM := hM S201 eS201
  refine x_aast C hV hk198 (by decide) rfl rfl (by decide) hk199 hi200 eS201 dX9_init_150 (fun H locs hV => ?_)
  refine lv_iinc (v := 7) (lv' := [(2, .int 7), (1, .ref q153), (0, .ref a0)]) hx hb dX9_init_151 hl (k := 0) rfl (by decide) (by decide) rfl (fun ls hl => ?_)
  refine lv_goto (tgt := 138) hx hb dX9_init_154 (by decide) ?_
  refine lv_iload_n hx hb dX9_init_138 rfl (lv_at hl 0 rfl) ?_
  refine lv_bipush (v := 8) hx hb dX9_init_139 (by decide) ?_
  refine lv_icmp_ge (tgt := 157) hx hb dX9_init_141 (by decide) (fun c => absurd c (by decide)) (fun _ => ?_)
  refine lv_aload_n hx hb dX9_init_144 rfl (lv_at hl 2 rfl) ?_
  have hk202 := kp_Q eS201 hk196
  obtain ⟨p203, hp203, hM⟩ := hM
  refine x_getR C hV wf_X9_54 hk202 hp203 dX9_init_145 ?_
  refine lv_iload_n hx hb dX9_init_148 rfl (lv_at hl 0 rfl) ?_
  refine lv_aload_n hx hb dX9_init_149 rfl (lv_at hl 1 rfl) ?_
  have hk204 := hM.1
  have hM := hM.2
  have hk205 := kp_Q eS201 hk199
  have hi206 := hM.1
  have hM := hM.2
  obtain ⟨S207, eS207⟩ : ∃ z : PS, z = S201.setQ p203 (7 : Int32).toNatClampNeg (some q153) := ⟨_, rfl⟩
  have hM := hM S207 eS207
  refine x_aast C hV hk204 (by decide) rfl rfl (by decide) hk205 hi206 eS207 dX9_init_150 (fun H locs hV => ?_)
  refine lv_iinc (v := 8) (lv' := [(2, .int 8), (1, .ref q153), (0, .ref a0)]) hx hb dX9_init_151 hl (k := 0) rfl (by decide) (by decide) rfl (fun ls hl => ?_)
  refine lv_goto (tgt := 138) hx hb dX9_init_154 (by decide) ?_
  refine lv_iload_n hx hb dX9_init_138 rfl (lv_at hl 0 rfl) ?_
  refine lv_bipush (v := 8) hx hb dX9_init_139 (by decide) ?_
  refine lv_icmp_ge (tgt := 157) hx hb dX9_init_141 (by decide) (fun _ => ?_) (fun c => absurd (by decide) c)
  refine x_new C hV wm_X9_58 (Nat.le_of_ble_eq_true rfl) (Nat.le_of_ble_eq_true rfl) dX9_init_157 (fun q208 H S209 hq208 eS209 hV => ?_)
  have hM := hM q208 S209 hq208 eS209
  have hk210 := kq_O eS209
  refine lv_dup hx hb dX9_init_160 rfl ?_
  refine lv_iconst (v := 0) hx hb dX9_init_161 (by decide) ?_
  refine x_newI (N' := 0) C hV wk_ai (by decide) (by decide) (by decide) (Nat.le_of_ble_eq_true rfl) (Nat.le_of_ble_eq_true rfl) dX9_init_162 (fun q211 H S212 hq211 eS212 hV => ?_)
  have hM := hM q211 S212 hq211 eS212
  have hk213 := kq_N eS212
  refine x_cv hV (x_runI (As := [.ref q211]) (rest := [.ref q208]) C hV mc_X2_init wl_X9_68 (c_X2_init hM) ⟨by decide, by decide⟩ rfl hl.1 (Nat.le_of_ble_eq_true rfl) dX9_init_164 ⟨Nat.le_of_ble_eq_true rfl, Nat.le_of_ble_eq_true rfl⟩) (fun S214 H locs hV hM => ?_)
  refine lv_astore_n (lv' := [(2, .ref q208), (1, .ref q153), (0, .ref a0)]) hx hb dX9_init_167 rfl hl (by decide) rfl (fun ls hl => ?_)
  refine lv_iconst (v := 0) hx hb dX9_init_168 (by decide) ?_
  refine lv_istore_n (lv' := [(3, .int 0), (2, .ref q208), (1, .ref q153), (0, .ref a0)]) hx hb dX9_init_169 rfl hl (by decide) rfl (fun ls hl => ?_)
  refine lv_iload_n hx hb dX9_init_170 rfl (lv_at hl 0 rfl) ?_
  refine lv_bipush (v := 8) hx hb dX9_init_171 (by decide) ?_
  refine lv_icmp_ge (tgt := 189) hx hb dX9_init_173 (by decide) (fun c => absurd c (by decide)) (fun _ => ?_)
  refine lv_aload_n hx hb dX9_init_176 rfl (lv_at hl 3 rfl) ?_
  have hk215 := hM.1
  have hM := hM.2
  obtain ⟨p216, hp216, hM⟩ := hM
  refine x_getR C hV wf_X9_60 hk215 hp216 dX9_init_177 ?_
  refine lv_iload_n hx hb dX9_init_180 rfl (lv_at hl 0 rfl) ?_
  refine lv_aload_n hx hb dX9_init_181 rfl (lv_at hl 1 rfl) ?_
  have hk217 := hM.1
  have hM := hM.2
  have hk218 := hM.1
  have hM := hM.2
  have hi219 := hM.1
  have hM := hM.2
  obtain ⟨S220, eS220⟩ : ∃ z : PS, z = S214.setQ p216 (0 : Int32).toNatClampNeg (some q208) := ⟨_, rfl⟩
  have hM := hM S220 eS220
  refine x_aast C hV hk217 (by decide) rfl rfl (by decide) hk218 hi219 eS220 dX9_init_182 (fun H locs hV => ?_)
  refine lv_iinc (v := 1) (lv' := [(3, .int 1), (2, .ref q208), (1, .ref q153), (0, .ref a0)]) hx hb dX9_init_183 hl (k := 0) rfl (by decide) (by decide) rfl (fun ls hl => ?_)
  refine lv_goto (tgt := 170) hx hb dX9_init_186 (by decide) ?_
  refine lv_iload_n hx hb dX9_init_170 rfl (lv_at hl 0 rfl) ?_
  refine lv_bipush (v := 8) hx hb dX9_init_171 (by decide) ?_
  refine lv_icmp_ge (tgt := 189) hx hb dX9_init_173 (by decide) (fun c => absurd c (by decide)) (fun _ => ?_)
  refine lv_aload_n hx hb dX9_init_176 rfl (lv_at hl 3 rfl) ?_
  have hk221 := kp_Q eS220 hk215
  obtain ⟨p222, hp222, hM⟩ := hM
  refine x_getR C hV wf_X9_60 hk221 hp222 dX9_init_177 ?_
  refine lv_iload_n hx hb dX9_init_180 rfl (lv_at hl 0 rfl) ?_
  refine lv_aload_n hx hb dX9_init_181 rfl (lv_at hl 1 rfl) ?_
  have hk223 := hM.1
  have hM := hM.2
  have hk224 := kp_Q eS220 hk218
  have hi225 := hM.1
  have hM := hM.2
  obtain ⟨S226, eS226⟩ : ∃ z : PS, z = S220.setQ p222 (1 : Int32).toNatClampNeg (some q208) := ⟨_, rfl⟩
  have hM := hM S226 eS226
  refine x_aast C hV hk223 (by decide) rfl rfl (by decide) hk224 hi225 eS226 dX9_init_182 (fun H locs hV => ?_)
  refine lv_iinc (v := 2) (lv' := [(3, .int 2), (2, .ref q208), (1, .ref q153), (0, .ref a0)]) hx hb dX9_init_183 hl (k := 0) rfl (by decide) (by decide) rfl (fun ls hl => ?_)
  refine lv_goto (tgt := 170) hx hb dX9_init_186 (by decide) ?_
  refine lv_iload_n hx hb dX9_init_170 rfl (lv_at hl 0 rfl) ?_
  refine lv_bipush (v := 8) hx hb dX9_init_171 (by decide) ?_
  refine lv_icmp_ge (tgt := 189) hx hb dX9_init_173 (by decide) (fun c => absurd c (by decide)) (fun _ => ?_)
  refine lv_aload_n hx hb dX9_init_176 rfl (lv_at hl 3 rfl) ?_
  have hk227 := kp_Q eS226 hk221
  obtain ⟨p228, hp228, hM⟩ := hM
  refine x_getR C hV wf_X9_60 hk227 hp228 dX9_init_177 ?_
  refine lv_iload_n hx hb dX9_init_180 rfl (lv_at hl 0 rfl) ?_
  refine lv_aload_n hx hb dX9_init_181 rfl (lv_at hl 1 rfl) ?_
  have hk229 := hM.1
  have hM := hM.2
  have hk230 := kp_Q eS226 hk224
  have hi231 := hM.1
  have hM := hM.2
  obtain ⟨S232, eS232⟩ : ∃ z : PS, z = S226.setQ p228 (2 : Int32).toNatClampNeg (some q208) := ⟨_, rfl⟩
  have hM := hM S232 eS232
  refine x_aast C hV hk229 (by decide) rfl rfl (by decide) hk230 hi231 eS232 dX9_init_182 (fun H locs hV => ?_)
  refine lv_iinc (v := 3) (lv' := [(3, .int 3), (2, .ref q208), (1, .ref q153), (0, .ref a0)]) hx hb dX9_init_183 hl (k := 0) rfl (by decide) (by decide) rfl (fun ls hl => ?_)
  refine lv_goto (tgt := 170) hx hb dX9_init_186 (by decide) ?_
  refine lv_iload_n hx hb dX9_init_170 rfl (lv_at hl 0 rfl) ?_
  refine lv_bipush (v := 8) hx hb dX9_init_171 (by decide) ?_
  refine lv_icmp_ge (tgt := 189) hx hb dX9_init_173 (by decide) (fun c => absurd c (by decide)) (fun _ => ?_)
  refine lv_aload_n hx hb dX9_init_176 rfl (lv_at hl 3 rfl) ?_
  have hk233 := kp_Q eS232 hk227
  obtain ⟨p234, hp234, hM⟩ := hM
  refine x_getR C hV wf_X9_60 hk233 hp234 dX9_init_177 ?_
  refine lv_iload_n hx hb dX9_init_180 rfl (lv_at hl 0 rfl) ?_
  refine lv_aload_n hx hb dX9_init_181 rfl (lv_at hl 1 rfl) ?_
  have hk235 := hM.1
  have hM := hM.2
  have hk236 := kp_Q eS232 hk230
  have hi237 := hM.1
  have hM := hM.2
  obtain ⟨S238, eS238⟩ : ∃ z : PS, z = S232.setQ p234 (3 : Int32).toNatClampNeg (some q208) := ⟨_, rfl⟩
  have hM := hM S238 eS238
  refine x_aast C hV hk235 (by decide) rfl rfl (by decide) hk236 hi237 eS238 dX9_init_182 (fun H locs hV => ?_)
  refine lv_iinc (v := 4) (lv' := [(3, .int 4), (2, .ref q208), (1, .ref q153), (0, .ref a0)]) hx hb dX9_init_183 hl (k := 0) rfl (by decide) (by decide) rfl (fun ls hl => ?_)
  refine lv_goto (tgt := 170) hx hb dX9_init_186 (by decide) ?_
  refine lv_iload_n hx hb dX9_init_170 rfl (lv_at hl 0 rfl) ?_
  refine lv_bipush (v := 8) hx hb dX9_init_171 (by decide) ?_
  refine lv_icmp_ge (tgt := 189) hx hb dX9_init_173 (by decide) (fun c => absurd c (by decide)) (fun _ => ?_)
  refine lv_aload_n hx hb dX9_init_176 rfl (lv_at hl 3 rfl) ?_
  have hk239 := kp_Q eS238 hk233
  obtain ⟨p240, hp240, hM⟩ := hM
  refine x_getR C hV wf_X9_60 hk239 hp240 dX9_init_177 ?_
  refine lv_iload_n hx hb dX9_init_180 rfl (lv_at hl 0 rfl) ?_
  refine lv_aload_n hx hb dX9_init_181 rfl (lv_at hl 1 rfl) ?_
  have hk241 := hM.1
  have hM := hM.2
  have hk242 := kp_Q eS238 hk236
  have hi243 := hM.1
  have hM := hM.2
  obtain ⟨S244, eS244⟩ : ∃ z : PS, z = S238.setQ p240 (4 : Int32).toNatClampNeg (some q208) := ⟨_, rfl⟩
  have hM := hM S244 eS244
  refine x_aast C hV hk241 (by decide) rfl rfl (by decide) hk242 hi243 eS244 dX9_init_182 (fun H locs hV => ?_)
  refine lv_iinc (v := 5) (lv' := [(3, .int 5), (2, .ref q208), (1, .ref q153), (0, .ref a0)]) hx hb dX9_init_183 hl (k := 0) rfl (by decide) (by decide) rfl (fun ls hl => ?_)
  refine lv_goto (tgt := 170) hx hb dX9_init_186 (by decide) ?_
  refine lv_iload_n hx hb dX9_init_170 rfl (lv_at hl 0 rfl) ?_
  refine lv_bipush (v := 8) hx hb dX9_init_171 (by decide) ?_
  refine lv_icmp_ge (tgt := 189) hx hb dX9_init_173 (by decide) (fun c => absurd c (by decide)) (fun _ => ?_)
  refine lv_aload_n hx hb dX9_init_176 rfl (lv_at hl 3 rfl) ?_
  have hk245 := kp_Q eS244 hk239
  obtain ⟨p246, hp246, hM⟩ := hM
  refine x_getR C hV wf_X9_60 hk245 hp246 dX9_init_177 ?_
  refine lv_iload_n hx hb dX9_init_180 rfl (lv_at hl 0 rfl) ?_
  refine lv_aload_n hx hb dX9_init_181 rfl (lv_at hl 1 rfl) ?_
  have hk247 := hM.1
  have hM := hM.2
  have hk248 := kp_Q eS244 hk242
  have hi249 := hM.1
  have hM := hM.2
  obtain ⟨S250, eS250⟩ : ∃ z : PS, z = S244.setQ p246 (5 : Int32).toNatClampNeg (some q208) := ⟨_, rfl⟩
  have hM := hM S250 eS250
  refine x_aast C hV hk247 (by decide) rfl rfl (by decide) hk248 hi249 eS250 dX9_init_182 (fun H locs hV => ?_)
  refine lv_iinc (v := 6) (lv' := [(3, .int 6), (2, .ref q208), (1, .ref q153), (0, .ref a0)]) hx hb dX9_init_183 hl (k := 0) rfl (by decide) (by decide) rfl (fun ls hl => ?_)
  refine lv_goto (tgt := 170) hx hb dX9_init_186 (by decide) ?_
  refine lv_iload_n hx hb dX9_init_170 rfl (lv_at hl 0 rfl) ?_
  refine lv_bipush (v := 8) hx hb dX9_init_171 (by decide) ?_
  refine lv_icmp_ge (tgt := 189) hx hb dX9_init_173 (by decide) (fun c => absurd c (by decide)) (fun _ => ?_)
  refine lv_aload_n hx hb dX9_init_176 rfl (lv_at hl 3 rfl) ?_
  have hk251 := kp_Q eS250 hk245
  obtain ⟨p252, hp252, hM⟩ := hM
  refine x_getR C hV wf_X9_60 hk251 hp252 dX9_init_177 ?_
  refine lv_iload_n hx hb dX9_init_180 rfl (lv_at hl 0 rfl) ?_
  refine lv_aload_n hx hb dX9_init_181 rfl (lv_at hl 1 rfl) ?_
  have hk253 := hM.1
  have hM := hM.2
  have hk254 := kp_Q eS250 hk248
  have hi255 := hM.1
  have hM := hM.2
  obtain ⟨S256, eS256⟩ : ∃ z : PS, z = S250.setQ p252 (6 : Int32).toNatClampNeg (some q208) := ⟨_, rfl⟩
  have hM := hM S256 eS256
  refine x_aast C hV hk253 (by decide) rfl rfl (by decide) hk254 hi255 eS256 dX9_init_182 (fun H locs hV => ?_)
  refine lv_iinc (v := 7) (lv' := [(3, .int 7), (2, .ref q208), (1, .ref q153), (0, .ref a0)]) hx hb dX9_init_183 hl (k := 0) rfl (by decide) (by decide) rfl (fun ls hl => ?_)
  refine lv_goto (tgt := 170) hx hb dX9_init_186 (by decide) ?_
  refine lv_iload_n hx hb dX9_init_170 rfl (lv_at hl 0 rfl) ?_
  refine lv_bipush (v := 8) hx hb dX9_init_171 (by decide) ?_
  refine lv_icmp_ge (tgt := 189) hx hb dX9_init_173 (by decide) (fun c => absurd c (by decide)) (fun _ => ?_)
  refine lv_aload_n hx hb dX9_init_176 rfl (lv_at hl 3 rfl) ?_
  have hk257 := kp_Q eS256 hk251
  obtain ⟨p258, hp258, hM⟩ := hM
  refine x_getR C hV wf_X9_60 hk257 hp258 dX9_init_177 ?_
  refine lv_iload_n hx hb dX9_init_180 rfl (lv_at hl 0 rfl) ?_
  refine lv_aload_n hx hb dX9_init_181 rfl (lv_at hl 1 rfl) ?_
  have hk259 := hM.1
  have hM := hM.2
  have hk260 := kp_Q eS256 hk254
  have hi261 := hM.1
  have hM := hM.2
  obtain ⟨S262, eS262⟩ : ∃ z : PS, z = S256.setQ p258 (7 : Int32).toNatClampNeg (some q208) := ⟨_, rfl⟩
  have hM := hM S262 eS262
  refine x_aast C hV hk259 (by decide) rfl rfl (by decide) hk260 hi261 eS262 dX9_init_182 (fun H locs hV => ?_)
  refine lv_iinc (v := 8) (lv' := [(3, .int 8), (2, .ref q208), (1, .ref q153), (0, .ref a0)]) hx hb dX9_init_183 hl (k := 0) rfl (by decide) (by decide) rfl (fun ls hl => ?_)
  refine lv_goto (tgt := 170) hx hb dX9_init_186 (by decide) ?_
  refine lv_iload_n hx hb dX9_init_170 rfl (lv_at hl 0 rfl) ?_
  refine lv_bipush (v := 8) hx hb dX9_init_171 (by decide) ?_
  refine lv_icmp_ge (tgt := 189) hx hb dX9_init_173 (by decide) (fun _ => ?_) (fun c => absurd (by decide) c)
  refine W.widen (k := 20) (n := 241) (Nat.le_of_ble_eq_true rfl) (Nat.le_of_ble_eq_true rfl) ?_
  exact x_vret C hV hM dX9_init_189

set_option maxRecDepth 100000 in
def wp_X10_init (N : Nat) (S : PS) (a0 : Nat) (K : PS → Prop) : Prop := ∀ (q1 : Nat) (S2 : PS), S.K q1 = 0 → S2 = S.newO q1 10 → wp_X9_init N S2 q1 (fun S4 => S4.K a0 = 11 ∧ ∀ S6 : PS, S6 = S4.setR 704 a0 (some q1) → ∀ (q7 : Nat) (S8 : PS), S6.K q7 = 0 → S8 = S6.newO q7 10 → wp_X9_init N S8 q7 (fun S10 => S10.K a0 = 11 ∧ ∀ S12 : PS, S12 = S10.setR 705 a0 (some q7) → ∀ S14 : PS, S14 = S12.setI 706 a0 0 → ∀ (q15 : Nat) (S16 : PS), S14.K q15 = 0 → S16 = S14.newA q15 21 200 → ∀ S20 : PS, S20 = S16.setR 707 a0 (some q15) → ∀ S22 : PS, S22 = S20.setI 708 a0 0 → ∀ (q23 : Nat) (S24 : PS), S22.K q23 = 0 → S24 = S22.newO q23 9 → wp_X8_init N S24 q23 (fun S26 => S26.K a0 = 11 ∧ ∀ S28 : PS, S28 = S26.setR 709 a0 (some q23) → ∀ (q29 : Nat) (S30 : PS), S28.K q29 = 0 → S30 = S28.newO q29 8 → ∃ p34 : Nat, S30.R 709 a0 = some p34 ∧ wp_X7_init N S30 q29 p34 (fun S35 => S35.K a0 = 11 ∧ ∀ S37 : PS, S37 = S35.setR 710 a0 (some q29) → ∀ (q38 : Nat) (S39 : PS), S37.K q38 = 0 → S39 = S37.newO q38 4 → ∃ p43 : Nat, S39.R 709 a0 = some p43 ∧ wp_X3_init N S39 q38 p43 (fun S44 => S44.K a0 = 11 ∧ ∀ S46 : PS, S46 = S44.setR 711 a0 (some q38) → ∀ (q47 : Nat) (S48 : PS), S46.K q47 = 0 → S48 = S46.newA q47 20 7 → ∀ S52 : PS, S52 = S48.setR 712 a0 (some q47) → ∀ (q53 : Nat) (S54 : PS), S52.K q53 = 0 → S54 = S52.newA q53 20 200 → ∀ S58 : PS, S58 = S54.setR 713 a0 (some q53) → ∀ (q59 : Nat) (S60 : PS), S58.K q59 = 0 → S60 = S58.newA q59 20 28 → ∀ S64 : PS, S64 = S60.setR 714 a0 (some q59) → ∀ (q65 : Nat) (S66 : PS), S64.K q65 = 0 → S66 = S64.newA q65 20 40 → ∀ S70 : PS, S70 = S66.setR 715 a0 (some q65) → ∀ (q71 : Nat) (S72 : PS), S70.K q71 = 0 → S72 = S70.newA q71 20 30 → ∀ S76 : PS, S76 = S72.setR 716 a0 (some q71) → ∀ S78 : PS, S78 = S76.setI 717 a0 0 → ∀ (q79 : Nat) (S80 : PS), S78.K q79 = 0 → S80 = S78.newA q79 25 4 → ∀ S84 : PS, S84 = S80.setR 718 a0 (some q79) → ∀ (q85 : Nat) (S86 : PS), S84.K q85 = 0 → S86 = S84.newA q85 26 4 → ∀ S90 : PS, S90 = S86.setR 719 a0 (some q85) → ∀ (q91 : Nat) (S92 : PS), S90.K q91 = 0 → S92 = S90.newO q91 1 → wp_X0_init N S92 q91 (fun S94 => S94.K a0 = 11 ∧ ∀ S96 : PS, S96 = S94.setR 720 a0 (some q91) → ∃ p98 : Nat, S96.R 718 a0 = some p98 ∧ ∀ (q99 : Nat) (S100 : PS), S96.K q99 = 0 → S100 = S96.newO q99 5 → wp_X4_init N S100 q99 (fun S102 => S102.K p98 = 25 ∧ S102.K q99 = 5 ∧ vp_in 0 (S102.ln p98) ∧ ∀ S106 : PS, S106 = S102.setQ p98 (0 : Int32).toNatClampNeg (some q99) → S106.K a0 = 11 ∧ ∃ p108 : Nat, S106.R 718 a0 = some p108 ∧ ∀ (q109 : Nat) (S110 : PS), S106.K q109 = 0 → S110 = S106.newO q109 5 → wp_X4_init N S110 q109 (fun S112 => S112.K p108 = 25 ∧ S112.K q109 = 5 ∧ vp_in 1 (S112.ln p108) ∧ ∀ S116 : PS, S116 = S112.setQ p108 (1 : Int32).toNatClampNeg (some q109) → S116.K a0 = 11 ∧ ∃ p118 : Nat, S116.R 718 a0 = some p118 ∧ ∀ (q119 : Nat) (S120 : PS), S116.K q119 = 0 → S120 = S116.newO q119 5 → wp_X4_init N S120 q119 (fun S122 => S122.K p118 = 25 ∧ S122.K q119 = 5 ∧ vp_in 2 (S122.ln p118) ∧ ∀ S126 : PS, S126 = S122.setQ p118 (2 : Int32).toNatClampNeg (some q119) → S126.K a0 = 11 ∧ ∃ p128 : Nat, S126.R 718 a0 = some p128 ∧ ∀ (q129 : Nat) (S130 : PS), S126.K q129 = 0 → S130 = S126.newO q129 5 → wp_X4_init N S130 q129 (fun S132 => S132.K p128 = 25 ∧ S132.K q129 = 5 ∧ vp_in 3 (S132.ln p128) ∧ ∀ S136 : PS, S136 = S132.setQ p128 (3 : Int32).toNatClampNeg (some q129) → S136.K a0 = 11 ∧ ∃ p138 : Nat, S136.R 719 a0 = some p138 ∧ ∀ (q139 : Nat) (S140 : PS), S136.K q139 = 0 → S140 = S136.newO q139 6 → wp_X5_init N S140 q139 (fun S142 => S142.K p138 = 26 ∧ S142.K q139 = 6 ∧ vp_in 0 (S142.ln p138) ∧ ∀ S146 : PS, S146 = S142.setQ p138 (0 : Int32).toNatClampNeg (some q139) → S146.K a0 = 11 ∧ ∃ p148 : Nat, S146.R 719 a0 = some p148 ∧ ∀ (q149 : Nat) (S150 : PS), S146.K q149 = 0 → S150 = S146.newO q149 6 → wp_X5_init N S150 q149 (fun S152 => S152.K p148 = 26 ∧ S152.K q149 = 6 ∧ vp_in 1 (S152.ln p148) ∧ ∀ S156 : PS, S156 = S152.setQ p148 (1 : Int32).toNatClampNeg (some q149) → S156.K a0 = 11 ∧ ∃ p158 : Nat, S156.R 719 a0 = some p158 ∧ ∀ (q159 : Nat) (S160 : PS), S156.K q159 = 0 → S160 = S156.newO q159 6 → wp_X5_init N S160 q159 (fun S162 => S162.K p158 = 26 ∧ S162.K q159 = 6 ∧ vp_in 2 (S162.ln p158) ∧ ∀ S166 : PS, S166 = S162.setQ p158 (2 : Int32).toNatClampNeg (some q159) → S166.K a0 = 11 ∧ ∃ p168 : Nat, S166.R 719 a0 = some p168 ∧ ∀ (q169 : Nat) (S170 : PS), S166.K q169 = 0 → S170 = S166.newO q169 6 → wp_X5_init N S170 q169 (fun S172 => S172.K p168 = 26 ∧ S172.K q169 = 6 ∧ vp_in 3 (S172.ln p168) ∧ ∀ S176 : PS, S176 = S172.setQ p168 (3 : Int32).toNatClampNeg (some q169) → K S176))))))))))))))
set_option maxHeartbeats 4000000 in
set_option maxRecDepth 100000 in
theorem c_X10_init {l : Launch} {D : DX} {cA : Nat → ClassId} {z0 N : Nat} {S : PS} {a0 : Nat} {K : PS → Prop} (hM : wp_X10_init N S a0 K) : MetV l yX10_init cX10_init 2 none 3 72 2075 D cA z0 [.ref a0] S K := by
  refine x_met RX10 (by decide) rfl ?_
  intro p e s m below meth c C hin hV
  have hl := lv_entry ([.ref a0]) (n := 2) (Nat.le_of_ble_eq_true rfl)
  rw [lg_entry_eq]
  generalize (lg_sl ([.ref a0]) ++ List.replicate (2 - (lg_sl ([.ref a0])).length) Slot.unset).toArray = ls at hl ⊢
  have hl : lv_has ls 2 [(0, .ref a0)] := hl
  obtain ⟨hx, hb, hml, hown, hts, hK, hz, hlk, hr⟩ := id C
  unfold wp_X10_init at hM
  refine lv_aload_n hx hb dX10_init_0 rfl (lv_at hl 0 rfl) ?_
  refine x_obj C hl.1 wo_X10_1 (Nat.le_of_ble_eq_true rfl) (Nat.le_of_ble_eq_true rfl) dX10_init_1 ?_
  refine lv_aload_n hx hb dX10_init_4 rfl (lv_at hl 0 rfl) ?_
  refine x_new C hV wm_X10_7 (Nat.le_of_ble_eq_true rfl) (Nat.le_of_ble_eq_true rfl) dX10_init_5 (fun q1 H S2 hq1 eS2 hV => ?_)
  have hM := hM q1 S2 hq1 eS2
  have hk3 := kq_O eS2
  refine lv_dup hx hb dX10_init_8 rfl ?_
  refine x_cv hV (x_runI (As := []) (rest := [.ref q1, .ref a0]) C hV mc_X9_init wl_X10_9 (c_X9_init hM) ⟨by decide, by decide⟩ rfl hl.1 (Nat.le_of_ble_eq_true rfl) dX10_init_9 ⟨Nat.le_of_ble_eq_true rfl, Nat.le_of_ble_eq_true rfl⟩) (fun S4 H locs hV hM => ?_)
  have hk5 := hM.1
  have hM := hM.2
  obtain ⟨S6, eS6⟩ : ∃ z : PS, z = S4.setR 704 a0 (some q1) := ⟨_, rfl⟩
  have hM := hM S6 eS6
  refine x_putFR C hin hV wp_X10_10 hk5 ⟨rfl, rfl⟩ eS6 dX10_init_12 (fun H locs hV => ?_)
  refine lv_aload_n hx hb dX10_init_15 rfl (lv_at hl 0 rfl) ?_
  refine x_new C hV wm_X10_7 (Nat.le_of_ble_eq_true rfl) (Nat.le_of_ble_eq_true rfl) dX10_init_16 (fun q7 H S8 hq7 eS8 hV => ?_)
  have hM := hM q7 S8 hq7 eS8
  have hk9 := kq_O eS8
  refine lv_dup hx hb dX10_init_19 rfl ?_
  refine x_cv hV (x_runI (As := []) (rest := [.ref q7, .ref a0]) C hV mc_X9_init wl_X10_9 (c_X9_init hM) ⟨by decide, by decide⟩ rfl hl.1 (Nat.le_of_ble_eq_true rfl) dX10_init_20 ⟨Nat.le_of_ble_eq_true rfl, Nat.le_of_ble_eq_true rfl⟩) (fun S10 H locs hV hM => ?_)
  have hk11 := hM.1
  have hM := hM.2
  obtain ⟨S12, eS12⟩ : ∃ z : PS, z = S10.setR 705 a0 (some q7) := ⟨_, rfl⟩
  have hM := hM S12 eS12
  refine x_putFR C hin hV wp_X10_16 hk11 ⟨rfl, rfl⟩ eS12 dX10_init_23 (fun H locs hV => ?_)
  refine lv_aload_n hx hb dX10_init_26 rfl (lv_at hl 0 rfl) ?_
  refine lv_iconst (v := 0) hx hb dX10_init_27 (by decide) ?_
  have hk13 := kp_R eS12 hk11
  obtain ⟨S14, eS14⟩ : ∃ z : PS, z = S12.setI 706 a0 0 := ⟨_, rfl⟩
  have hM := hM S14 eS14
  refine x_putI C hV wp_X10_19 hk13 (nz_b (by decide)) eS14 dX10_init_28 (fun H locs hV => ?_)
  refine lv_aload_n hx hb dX10_init_31 rfl (lv_at hl 0 rfl) ?_
  refine lv_sipush (v := 200) hx hb dX10_init_32 (by decide) ?_
  refine x_newC (N' := 200) C hV wk_ac (by decide) (by decide) (by decide) (Nat.le_of_ble_eq_true rfl) (Nat.le_of_ble_eq_true rfl) dX10_init_35 (fun q15 H S16 hq15 eS16 hV => ?_)
  have hM := hM q15 S16 hq15 eS16
  have hk17 := kq_N eS16
  have hk18 := kp_I eS14 hk13
  have hk19 := kp_N eS16 hq15 hk18 (by decide)
  obtain ⟨S20, eS20⟩ : ∃ z : PS, z = S16.setR 707 a0 (some q15) := ⟨_, rfl⟩
  have hM := hM S20 eS20
  refine x_putFR C hin hV wp_X10_23 hk19 ⟨rfl, rfl⟩ eS20 dX10_init_37 (fun H locs hV => ?_)
  refine lv_aload_n hx hb dX10_init_40 rfl (lv_at hl 0 rfl) ?_
  refine lv_iconst (v := 0) hx hb dX10_init_41 (by decide) ?_
  have hk21 := kp_R eS20 hk19
  obtain ⟨S22, eS22⟩ : ∃ z : PS, z = S20.setI 708 a0 0 := ⟨_, rfl⟩
  have hM := hM S22 eS22
  refine x_putI C hV wp_X10_27 hk21 ⟨rfl, rfl⟩ eS22 dX10_init_42 (fun H locs hV => ?_)
  refine lv_aload_n hx hb dX10_init_45 rfl (lv_at hl 0 rfl) ?_
  refine x_new C hV wm_X10_31 (Nat.le_of_ble_eq_true rfl) (Nat.le_of_ble_eq_true rfl) dX10_init_46 (fun q23 H S24 hq23 eS24 hV => ?_)
  have hM := hM q23 S24 hq23 eS24
  have hk25 := kq_O eS24
  refine lv_dup hx hb dX10_init_49 rfl ?_
  refine x_cv hV (x_runIN (As := []) (rest := [.ref q23, .ref a0]) C hV mc_X8_init hz.2.2.2.2.2.2.1 (c_X8_init hM) ⟨by decide, by decide⟩ rfl hl.1 (Nat.le_of_ble_eq_true rfl) dX10_init_50 ⟨Nat.le_of_ble_eq_true rfl, Nat.le_of_ble_eq_true rfl⟩) (fun S26 H locs hV hM => ?_)
  have hk27 := hM.1
  have hM := hM.2
  obtain ⟨S28, eS28⟩ : ∃ z : PS, z = S26.setR 709 a0 (some q23) := ⟨_, rfl⟩
  have hM := hM S28 eS28
  refine x_putFR C hin hV wp_X10_34 hk27 ⟨rfl, rfl⟩ eS28 dX10_init_53 (fun H locs hV => ?_)
  refine lv_aload_n hx hb dX10_init_56 rfl (lv_at hl 0 rfl) ?_
  refine x_new C hV wm_X10_38 (Nat.le_of_ble_eq_true rfl) (Nat.le_of_ble_eq_true rfl) dX10_init_57 (fun q29 H S30 hq29 eS30 hV => ?_)
  have hM := hM q29 S30 hq29 eS30
  have hk31 := kq_O eS30
  refine lv_dup hx hb dX10_init_60 rfl ?_
  refine lv_aload_n hx hb dX10_init_61 rfl (lv_at hl 0 rfl) ?_
  have hk32 := kp_R eS28 hk27
  have hk33 := kp_O eS30 hq29 hk32 (by decide)
  obtain ⟨p34, hp34, hM⟩ := hM
  refine x_getR C hV wf_X10_34 hk33 hp34 dX10_init_62 ?_
  refine x_cv hV (x_runI (As := [.ref p34]) (rest := [.ref q29, .ref a0]) C hV mc_X7_init wl_X10_40 (c_X7_init hM) ⟨by decide, by decide⟩ rfl hl.1 (Nat.le_of_ble_eq_true rfl) dX10_init_65 ⟨Nat.le_of_ble_eq_true rfl, Nat.le_of_ble_eq_true rfl⟩) (fun S35 H locs hV hM => ?_)
  have hk36 := hM.1
  have hM := hM.2
  obtain ⟨S37, eS37⟩ : ∃ z : PS, z = S35.setR 710 a0 (some q29) := ⟨_, rfl⟩
  have hM := hM S37 eS37
  refine x_putFR C hin hV wp_X10_43 hk36 ⟨rfl, rfl⟩ eS37 dX10_init_68 (fun H locs hV => ?_)
  refine lv_aload_n hx hb dX10_init_71 rfl (lv_at hl 0 rfl) ?_
  refine x_new C hV wm_X10_47 (Nat.le_of_ble_eq_true rfl) (Nat.le_of_ble_eq_true rfl) dX10_init_72 (fun q38 H S39 hq38 eS39 hV => ?_)
  have hM := hM q38 S39 hq38 eS39
  have hk40 := kq_O eS39
  refine lv_dup hx hb dX10_init_75 rfl ?_
  refine lv_aload_n hx hb dX10_init_76 rfl (lv_at hl 0 rfl) ?_
  have hk41 := kp_R eS37 hk36
  have hk42 := kp_O eS39 hq38 hk41 (by decide)
  obtain ⟨p43, hp43, hM⟩ := hM
  refine x_getR C hV wf_X10_34 hk42 hp43 dX10_init_77 ?_
  refine x_cv hV (x_runI (As := [.ref p43]) (rest := [.ref q38, .ref a0]) C hV mc_X3_init wl_X10_49 (c_X3_init hM) ⟨by decide, by decide⟩ rfl hl.1 (Nat.le_of_ble_eq_true rfl) dX10_init_80 ⟨Nat.le_of_ble_eq_true rfl, Nat.le_of_ble_eq_true rfl⟩) (fun S44 H locs hV hM => ?_)
  have hk45 := hM.1
  have hM := hM.2
  obtain ⟨S46, eS46⟩ : ∃ z : PS, z = S44.setR 711 a0 (some q38) := ⟨_, rfl⟩
  have hM := hM S46 eS46
  refine x_putFR C hin hV wp_X10_50 hk45 ⟨rfl, rfl⟩ eS46 dX10_init_83 (fun H locs hV => ?_)
  refine lv_aload_n hx hb dX10_init_86 rfl (lv_at hl 0 rfl) ?_
  refine lv_bipush (v := 7) hx hb dX10_init_87 (by decide) ?_
  refine x_newI (N' := 7) C hV wk_ai (by decide) (by decide) (by decide) (Nat.le_of_ble_eq_true rfl) (Nat.le_of_ble_eq_true rfl) dX10_init_89 (fun q47 H S48 hq47 eS48 hV => ?_)
  have hM := hM q47 S48 hq47 eS48
  have hk49 := kq_N eS48
  have hk50 := kp_R eS46 hk45
  have hk51 := kp_N eS48 hq47 hk50 (by decide)
  obtain ⟨S52, eS52⟩ : ∃ z : PS, z = S48.setR 712 a0 (some q47) := ⟨_, rfl⟩
  have hM := hM S52 eS52
  refine x_putFR C hin hV wp_X10_54 hk51 ⟨rfl, rfl⟩ eS52 dX10_init_91 (fun H locs hV => ?_)
  refine lv_aload_n hx hb dX10_init_94 rfl (lv_at hl 0 rfl) ?_
  refine lv_sipush (v := 200) hx hb dX10_init_95 (by decide) ?_
  refine x_newI (N' := 200) C hV wk_ai (by decide) (by decide) (by decide) (Nat.le_of_ble_eq_true rfl) (Nat.le_of_ble_eq_true rfl) dX10_init_98 (fun q53 H S54 hq53 eS54 hV => ?_)
  have hM := hM q53 S54 hq53 eS54
  have hk55 := kq_N eS54
  have hk56 := kp_R eS52 hk51
  have hk57 := kp_N eS54 hq53 hk56 (by decide)
  obtain ⟨S58, eS58⟩ : ∃ z : PS, z = S54.setR 713 a0 (some q53) := ⟨_, rfl⟩
  have hM := hM S58 eS58
  refine x_putFR C hin hV wp_X10_58 hk57 ⟨rfl, rfl⟩ eS58 dX10_init_100 (fun H locs hV => ?_)
  refine lv_aload_n hx hb dX10_init_103 rfl (lv_at hl 0 rfl) ?_
  refine lv_bipush (v := 28) hx hb dX10_init_104 (by decide) ?_
  refine x_newI (N' := 28) C hV wk_ai (by decide) (by decide) (by decide) (Nat.le_of_ble_eq_true rfl) (Nat.le_of_ble_eq_true rfl) dX10_init_106 (fun q59 H S60 hq59 eS60 hV => ?_)
  have hM := hM q59 S60 hq59 eS60
  have hk61 := kq_N eS60
  have hk62 := kp_R eS58 hk57
  have hk63 := kp_N eS60 hq59 hk62 (by decide)
  obtain ⟨S64, eS64⟩ : ∃ z : PS, z = S60.setR 714 a0 (some q59) := ⟨_, rfl⟩
  have hM := hM S64 eS64
  refine x_putFR C hin hV wp_X10_61 hk63 ⟨rfl, rfl⟩ eS64 dX10_init_108 (fun H locs hV => ?_)
  refine lv_aload_n hx hb dX10_init_111 rfl (lv_at hl 0 rfl) ?_
  refine lv_bipush (v := 40) hx hb dX10_init_112 (by decide) ?_
  refine x_newI (N' := 40) C hV wk_ai (by decide) (by decide) (by decide) (Nat.le_of_ble_eq_true rfl) (Nat.le_of_ble_eq_true rfl) dX10_init_114 (fun q65 H S66 hq65 eS66 hV => ?_)
  have hM := hM q65 S66 hq65 eS66
  have hk67 := kq_N eS66
  have hk68 := kp_R eS64 hk63
  have hk69 := kp_N eS66 hq65 hk68 (by decide)
  obtain ⟨S70, eS70⟩ : ∃ z : PS, z = S66.setR 715 a0 (some q65) := ⟨_, rfl⟩
  have hM := hM S70 eS70
  refine x_putFR C hin hV wp_X10_64 hk69 ⟨rfl, rfl⟩ eS70 dX10_init_116 (fun H locs hV => ?_)
  refine lv_aload_n hx hb dX10_init_119 rfl (lv_at hl 0 rfl) ?_
  refine lv_bipush (v := 30) hx hb dX10_init_120 (by decide) ?_
  refine x_newI (N' := 30) C hV wk_ai (by decide) (by decide) (by decide) (Nat.le_of_ble_eq_true rfl) (Nat.le_of_ble_eq_true rfl) dX10_init_122 (fun q71 H S72 hq71 eS72 hV => ?_)
  have hM := hM q71 S72 hq71 eS72
  have hk73 := kq_N eS72
  have hk74 := kp_R eS70 hk69
  have hk75 := kp_N eS72 hq71 hk74 (by decide)
  obtain ⟨S76, eS76⟩ : ∃ z : PS, z = S72.setR 716 a0 (some q71) := ⟨_, rfl⟩
  have hM := hM S76 eS76
  refine x_putFR C hin hV wp_X10_67 hk75 ⟨rfl, rfl⟩ eS76 dX10_init_124 (fun H locs hV => ?_)
  refine lv_aload_n hx hb dX10_init_127 rfl (lv_at hl 0 rfl) ?_
  refine lv_iconst (v := 0) hx hb dX10_init_128 (by decide) ?_
  have hk77 := kp_R eS76 hk75
  obtain ⟨S78, eS78⟩ : ∃ z : PS, z = S76.setI 717 a0 0 := ⟨_, rfl⟩
  have hM := hM S78 eS78
  refine x_putI C hV wp_X10_70 hk77 ⟨rfl, rfl⟩ eS78 dX10_init_129 (fun H locs hV => ?_)
  refine lv_aload_n hx hb dX10_init_132 rfl (lv_at hl 0 rfl) ?_
  refine lv_iconst (v := 4) hx hb dX10_init_133 (by decide) ?_
  refine x_newQ (kd := 25) (N' := 4) C hV (by decide) rfl wn_X10_73 hz.2.2.2.2.2.2.2.2.2.2.2.2.2.1 (by decide) (by decide) (by decide) (Nat.le_of_ble_eq_true rfl) (Nat.le_of_ble_eq_true rfl) dX10_init_134 (fun q79 H S80 hq79 eS80 hV => ?_)
  have hM := hM q79 S80 hq79 eS80
  have hk81 := kq_N eS80
  have hk82 := kp_I eS78 hk77
  have hk83 := kp_N eS80 hq79 hk82 (by decide)
  obtain ⟨S84, eS84⟩ : ∃ z : PS, z = S80.setR 718 a0 (some q79) := ⟨_, rfl⟩
  have hM := hM S84 eS84
  refine x_putFR C hin hV wp_X10_75 hk83 ⟨rfl, rfl⟩ eS84 dX10_init_137 (fun H locs hV => ?_)
  refine lv_aload_n hx hb dX10_init_140 rfl (lv_at hl 0 rfl) ?_
  refine lv_iconst (v := 4) hx hb dX10_init_141 (by decide) ?_
  refine x_newQ (kd := 26) (N' := 4) C hV (by decide) rfl wn_X10_79 hz.2.2.2.2.2.2.2.2.2.2.2.2.2.2.1 (by decide) (by decide) (by decide) (Nat.le_of_ble_eq_true rfl) (Nat.le_of_ble_eq_true rfl) dX10_init_142 (fun q85 H S86 hq85 eS86 hV => ?_)
  have hM := hM q85 S86 hq85 eS86
  have hk87 := kq_N eS86
  have hk88 := kp_R eS84 hk83
  have hk89 := kp_N eS86 hq85 hk88 (by decide)
  obtain ⟨S90, eS90⟩ : ∃ z : PS, z = S86.setR 719 a0 (some q85) := ⟨_, rfl⟩
  have hM := hM S90 eS90
  refine x_putFR C hin hV wp_X10_81 hk89 ⟨rfl, rfl⟩ eS90 dX10_init_145 (fun H locs hV => ?_)
  refine lv_aload_n hx hb dX10_init_148 rfl (lv_at hl 0 rfl) ?_
  refine x_new C hV wm_X10_85 (Nat.le_of_ble_eq_true rfl) (Nat.le_of_ble_eq_true rfl) dX10_init_149 (fun q91 H S92 hq91 eS92 hV => ?_)
  have hM := hM q91 S92 hq91 eS92
  have hk93 := kq_O eS92
  refine lv_dup hx hb dX10_init_152 rfl ?_
  refine x_cv hV (x_runIN (As := []) (rest := [.ref q91, .ref a0]) C hV mc_X0_init hz.2.2.2.2.2.2.2.1 (c_X0_init hM) ⟨by decide, by decide⟩ rfl hl.1 (Nat.le_of_ble_eq_true rfl) dX10_init_153 ⟨Nat.le_of_ble_eq_true rfl, Nat.le_of_ble_eq_true rfl⟩) (fun S94 H locs hV hM => ?_)
  have hk95 := hM.1
  have hM := hM.2
  obtain ⟨S96, eS96⟩ : ∃ z : PS, z = S94.setR 720 a0 (some q91) := ⟨_, rfl⟩
  have hM := hM S96 eS96
  refine x_putFR C hin hV wp_X10_88 hk95 ⟨rfl, rfl⟩ eS96 dX10_init_156 (fun H locs hV => ?_)
  refine lv_iconst (v := 0) hx hb dX10_init_159 (by decide) ?_
  refine lv_istore_n (lv' := [(1, .int 0), (0, .ref a0)]) hx hb dX10_init_160 rfl hl (by decide) rfl (fun ls hl => ?_)
  refine lv_iload_n hx hb dX10_init_161 rfl (lv_at hl 0 rfl) ?_
  refine lv_iconst (v := 4) hx hb dX10_init_162 (by decide) ?_
  refine lv_icmp_ge (tgt := 185) hx hb dX10_init_163 (by decide) (fun c => absurd c (by decide)) (fun _ => ?_)
  refine lv_aload_n hx hb dX10_init_166 rfl (lv_at hl 1 rfl) ?_
  have hk97 := kp_R eS96 hk95
  obtain ⟨p98, hp98, hM⟩ := hM
  refine x_getR C hV wf_X10_75 hk97 hp98 dX10_init_167 ?_
  refine lv_iload_n hx hb dX10_init_170 rfl (lv_at hl 0 rfl) ?_
  refine x_new C hV wm_X10_73 (Nat.le_of_ble_eq_true rfl) (Nat.le_of_ble_eq_true rfl) dX10_init_171 (fun q99 H S100 hq99 eS100 hV => ?_)
  have hM := hM q99 S100 hq99 eS100
  have hk101 := kq_O eS100
  refine lv_dup hx hb dX10_init_174 rfl ?_
  refine x_cv hV (x_runIN (As := []) (rest := [.ref q99, .int 0, .ref p98]) C hV mc_X4_init hz.2.2.2.2.2.2.2.2.1 (c_X4_init hM) ⟨by decide, by decide⟩ rfl hl.1 (Nat.le_of_ble_eq_true rfl) dX10_init_175 ⟨Nat.le_of_ble_eq_true rfl, Nat.le_of_ble_eq_true rfl⟩) (fun S102 H locs hV hM => ?_)
  have hk103 := hM.1
  have hM := hM.2
  have hk104 := hM.1
  have hM := hM.2
  have hi105 := hM.1
  have hM := hM.2
  obtain ⟨S106, eS106⟩ : ∃ z : PS, z = S102.setQ p98 (0 : Int32).toNatClampNeg (some q99) := ⟨_, rfl⟩
  have hM := hM S106 eS106
  refine x_aast C hV hk103 (by decide) rfl rfl (by decide) hk104 hi105 eS106 dX10_init_178 (fun H locs hV => ?_)
  refine lv_iinc (v := 1) (lv' := [(1, .int 1), (0, .ref a0)]) hx hb dX10_init_179 hl (k := 0) rfl (by decide) (by decide) rfl (fun ls hl => ?_)
  refine lv_goto (tgt := 161) hx hb dX10_init_182 (by decide) ?_
  refine lv_iload_n hx hb dX10_init_161 rfl (lv_at hl 0 rfl) ?_
  refine lv_iconst (v := 4) hx hb dX10_init_162 (by decide) ?_
  refine lv_icmp_ge (tgt := 185) hx hb dX10_init_163 (by decide) (fun c => absurd c (by decide)) (fun _ => ?_)
  refine lv_aload_n hx hb dX10_init_166 rfl (lv_at hl 1 rfl) ?_
  have hk107 := hM.1
  have hM := hM.2
  obtain ⟨p108, hp108, hM⟩ := hM
  refine x_getR C hV wf_X10_75 hk107 hp108 dX10_init_167 ?_
  refine lv_iload_n hx hb dX10_init_170 rfl (lv_at hl 0 rfl) ?_
  refine x_new C hV wm_X10_73 (Nat.le_of_ble_eq_true rfl) (Nat.le_of_ble_eq_true rfl) dX10_init_171 (fun q109 H S110 hq109 eS110 hV => ?_)
  have hM := hM q109 S110 hq109 eS110
  have hk111 := kq_O eS110
  refine lv_dup hx hb dX10_init_174 rfl ?_
  refine x_cv hV (x_runIN (As := []) (rest := [.ref q109, .int 1, .ref p108]) C hV mc_X4_init hz.2.2.2.2.2.2.2.2.1 (c_X4_init hM) ⟨by decide, by decide⟩ rfl hl.1 (Nat.le_of_ble_eq_true rfl) dX10_init_175 ⟨Nat.le_of_ble_eq_true rfl, Nat.le_of_ble_eq_true rfl⟩) (fun S112 H locs hV hM => ?_)
  have hk113 := hM.1
  have hM := hM.2
  have hk114 := hM.1
  have hM := hM.2
  have hi115 := hM.1
  have hM := hM.2
  obtain ⟨S116, eS116⟩ : ∃ z : PS, z = S112.setQ p108 (1 : Int32).toNatClampNeg (some q109) := ⟨_, rfl⟩
  have hM := hM S116 eS116
  refine x_aast C hV hk113 (by decide) rfl rfl (by decide) hk114 hi115 eS116 dX10_init_178 (fun H locs hV => ?_)
  refine lv_iinc (v := 2) (lv' := [(1, .int 2), (0, .ref a0)]) hx hb dX10_init_179 hl (k := 0) rfl (by decide) (by decide) rfl (fun ls hl => ?_)
  refine lv_goto (tgt := 161) hx hb dX10_init_182 (by decide) ?_
  refine lv_iload_n hx hb dX10_init_161 rfl (lv_at hl 0 rfl) ?_
  refine lv_iconst (v := 4) hx hb dX10_init_162 (by decide) ?_
  refine lv_icmp_ge (tgt := 185) hx hb dX10_init_163 (by decide) (fun c => absurd c (by decide)) (fun _ => ?_)
  refine lv_aload_n hx hb dX10_init_166 rfl (lv_at hl 1 rfl) ?_
  have hk117 := hM.1
  have hM := hM.2
  obtain ⟨p118, hp118, hM⟩ := hM
  refine x_getR C hV wf_X10_75 hk117 hp118 dX10_init_167 ?_
  refine lv_iload_n hx hb dX10_init_170 rfl (lv_at hl 0 rfl) ?_
  refine x_new C hV wm_X10_73 (Nat.le_of_ble_eq_true rfl) (Nat.le_of_ble_eq_true rfl) dX10_init_171 (fun q119 H S120 hq119 eS120 hV => ?_)
  have hM := hM q119 S120 hq119 eS120
  have hk121 := kq_O eS120
  refine lv_dup hx hb dX10_init_174 rfl ?_
  refine x_cv hV (x_runIN (As := []) (rest := [.ref q119, .int 2, .ref p118]) C hV mc_X4_init hz.2.2.2.2.2.2.2.2.1 (c_X4_init hM) ⟨by decide, by decide⟩ rfl hl.1 (Nat.le_of_ble_eq_true rfl) dX10_init_175 ⟨Nat.le_of_ble_eq_true rfl, Nat.le_of_ble_eq_true rfl⟩) (fun S122 H locs hV hM => ?_)
  have hk123 := hM.1
  have hM := hM.2
  have hk124 := hM.1
  have hM := hM.2
  have hi125 := hM.1
  have hM := hM.2
  obtain ⟨S126, eS126⟩ : ∃ z : PS, z = S122.setQ p118 (2 : Int32).toNatClampNeg (some q119) := ⟨_, rfl⟩
  have hM := hM S126 eS126
  refine x_aast C hV hk123 (by decide) rfl rfl (by decide) hk124 hi125 eS126 dX10_init_178 (fun H locs hV => ?_)
  refine lv_iinc (v := 3) (lv' := [(1, .int 3), (0, .ref a0)]) hx hb dX10_init_179 hl (k := 0) rfl (by decide) (by decide) rfl (fun ls hl => ?_)
  refine lv_goto (tgt := 161) hx hb dX10_init_182 (by decide) ?_
  refine lv_iload_n hx hb dX10_init_161 rfl (lv_at hl 0 rfl) ?_
  refine lv_iconst (v := 4) hx hb dX10_init_162 (by decide) ?_
  refine lv_icmp_ge (tgt := 185) hx hb dX10_init_163 (by decide) (fun c => absurd c (by decide)) (fun _ => ?_)
  refine lv_aload_n hx hb dX10_init_166 rfl (lv_at hl 1 rfl) ?_
  have hk127 := hM.1
  have hM := hM.2
  obtain ⟨p128, hp128, hM⟩ := hM
  refine x_getR C hV wf_X10_75 hk127 hp128 dX10_init_167 ?_
  refine lv_iload_n hx hb dX10_init_170 rfl (lv_at hl 0 rfl) ?_
  refine x_new C hV wm_X10_73 (Nat.le_of_ble_eq_true rfl) (Nat.le_of_ble_eq_true rfl) dX10_init_171 (fun q129 H S130 hq129 eS130 hV => ?_)
  have hM := hM q129 S130 hq129 eS130
  have hk131 := kq_O eS130
  refine lv_dup hx hb dX10_init_174 rfl ?_
  refine x_cv hV (x_runIN (As := []) (rest := [.ref q129, .int 3, .ref p128]) C hV mc_X4_init hz.2.2.2.2.2.2.2.2.1 (c_X4_init hM) ⟨by decide, by decide⟩ rfl hl.1 (Nat.le_of_ble_eq_true rfl) dX10_init_175 ⟨Nat.le_of_ble_eq_true rfl, Nat.le_of_ble_eq_true rfl⟩) (fun S132 H locs hV hM => ?_)
  have hk133 := hM.1
  have hM := hM.2
  have hk134 := hM.1
  have hM := hM.2
  have hi135 := hM.1
  have hM := hM.2
  obtain ⟨S136, eS136⟩ : ∃ z : PS, z = S132.setQ p128 (3 : Int32).toNatClampNeg (some q129) := ⟨_, rfl⟩
  have hM := hM S136 eS136
  refine x_aast C hV hk133 (by decide) rfl rfl (by decide) hk134 hi135 eS136 dX10_init_178 (fun H locs hV => ?_)
  refine lv_iinc (v := 4) (lv' := [(1, .int 4), (0, .ref a0)]) hx hb dX10_init_179 hl (k := 0) rfl (by decide) (by decide) rfl (fun ls hl => ?_)
  refine lv_goto (tgt := 161) hx hb dX10_init_182 (by decide) ?_
  refine lv_iload_n hx hb dX10_init_161 rfl (lv_at hl 0 rfl) ?_
  refine lv_iconst (v := 4) hx hb dX10_init_162 (by decide) ?_
  refine lv_icmp_ge (tgt := 185) hx hb dX10_init_163 (by decide) (fun _ => ?_) (fun c => absurd (by decide) c)
  refine lv_iconst (v := 0) hx hb dX10_init_185 (by decide) ?_
  refine lv_istore_n (lv' := [(1, .int 0), (0, .ref a0)]) hx hb dX10_init_186 rfl hl (by decide) rfl (fun ls hl => ?_)
  refine lv_iload_n hx hb dX10_init_187 rfl (lv_at hl 0 rfl) ?_
  refine lv_iconst (v := 4) hx hb dX10_init_188 (by decide) ?_
  refine lv_icmp_ge (tgt := 211) hx hb dX10_init_189 (by decide) (fun c => absurd c (by decide)) (fun _ => ?_)
  refine lv_aload_n hx hb dX10_init_192 rfl (lv_at hl 1 rfl) ?_
  have hk137 := hM.1
  have hM := hM.2
  obtain ⟨p138, hp138, hM⟩ := hM
  refine x_getR C hV wf_X10_81 hk137 hp138 dX10_init_193 ?_
  refine lv_iload_n hx hb dX10_init_196 rfl (lv_at hl 0 rfl) ?_
  refine x_new C hV wm_X10_79 (Nat.le_of_ble_eq_true rfl) (Nat.le_of_ble_eq_true rfl) dX10_init_197 (fun q139 H S140 hq139 eS140 hV => ?_)
  have hM := hM q139 S140 hq139 eS140
  have hk141 := kq_O eS140
  refine lv_dup hx hb dX10_init_200 rfl ?_
  refine x_cv hV (x_runIN (As := []) (rest := [.ref q139, .int 0, .ref p138]) C hV mc_X5_init hz.2.2.2.2.2.2.2.2.2.1 (c_X5_init hM) ⟨by decide, by decide⟩ rfl hl.1 (Nat.le_of_ble_eq_true rfl) dX10_init_201 ⟨Nat.le_of_ble_eq_true rfl, Nat.le_of_ble_eq_true rfl⟩) (fun S142 H locs hV hM => ?_)
  have hk143 := hM.1
  have hM := hM.2
  have hk144 := hM.1
  have hM := hM.2
  have hi145 := hM.1
  have hM := hM.2
  obtain ⟨S146, eS146⟩ : ∃ z : PS, z = S142.setQ p138 (0 : Int32).toNatClampNeg (some q139) := ⟨_, rfl⟩
  have hM := hM S146 eS146
  refine x_aast C hV hk143 (by decide) rfl rfl (by decide) hk144 hi145 eS146 dX10_init_204 (fun H locs hV => ?_)
  refine lv_iinc (v := 1) (lv' := [(1, .int 1), (0, .ref a0)]) hx hb dX10_init_205 hl (k := 0) rfl (by decide) (by decide) rfl (fun ls hl => ?_)
  refine lv_goto (tgt := 187) hx hb dX10_init_208 (by decide) ?_
  refine lv_iload_n hx hb dX10_init_187 rfl (lv_at hl 0 rfl) ?_
  refine lv_iconst (v := 4) hx hb dX10_init_188 (by decide) ?_
  refine lv_icmp_ge (tgt := 211) hx hb dX10_init_189 (by decide) (fun c => absurd c (by decide)) (fun _ => ?_)
  refine lv_aload_n hx hb dX10_init_192 rfl (lv_at hl 1 rfl) ?_
  have hk147 := hM.1
  have hM := hM.2
  obtain ⟨p148, hp148, hM⟩ := hM
  refine x_getR C hV wf_X10_81 hk147 hp148 dX10_init_193 ?_
  refine lv_iload_n hx hb dX10_init_196 rfl (lv_at hl 0 rfl) ?_
  refine x_new C hV wm_X10_79 (Nat.le_of_ble_eq_true rfl) (Nat.le_of_ble_eq_true rfl) dX10_init_197 (fun q149 H S150 hq149 eS150 hV => ?_)
  have hM := hM q149 S150 hq149 eS150
  have hk151 := kq_O eS150
  refine lv_dup hx hb dX10_init_200 rfl ?_
  refine x_cv hV (x_runIN (As := []) (rest := [.ref q149, .int 1, .ref p148]) C hV mc_X5_init hz.2.2.2.2.2.2.2.2.2.1 (c_X5_init hM) ⟨by decide, by decide⟩ rfl hl.1 (Nat.le_of_ble_eq_true rfl) dX10_init_201 ⟨Nat.le_of_ble_eq_true rfl, Nat.le_of_ble_eq_true rfl⟩) (fun S152 H locs hV hM => ?_)
  have hk153 := hM.1
  have hM := hM.2
  have hk154 := hM.1
  have hM := hM.2
  have hi155 := hM.1
  have hM := hM.2
  obtain ⟨S156, eS156⟩ : ∃ z : PS, z = S152.setQ p148 (1 : Int32).toNatClampNeg (some q149) := ⟨_, rfl⟩
  have hM := hM S156 eS156
  refine x_aast C hV hk153 (by decide) rfl rfl (by decide) hk154 hi155 eS156 dX10_init_204 (fun H locs hV => ?_)
  refine lv_iinc (v := 2) (lv' := [(1, .int 2), (0, .ref a0)]) hx hb dX10_init_205 hl (k := 0) rfl (by decide) (by decide) rfl (fun ls hl => ?_)
  refine lv_goto (tgt := 187) hx hb dX10_init_208 (by decide) ?_
  refine lv_iload_n hx hb dX10_init_187 rfl (lv_at hl 0 rfl) ?_
  refine lv_iconst (v := 4) hx hb dX10_init_188 (by decide) ?_
  refine lv_icmp_ge (tgt := 211) hx hb dX10_init_189 (by decide) (fun c => absurd c (by decide)) (fun _ => ?_)
  refine lv_aload_n hx hb dX10_init_192 rfl (lv_at hl 1 rfl) ?_
  have hk157 := hM.1
  have hM := hM.2
  obtain ⟨p158, hp158, hM⟩ := hM
  refine x_getR C hV wf_X10_81 hk157 hp158 dX10_init_193 ?_
  refine lv_iload_n hx hb dX10_init_196 rfl (lv_at hl 0 rfl) ?_
  refine x_new C hV wm_X10_79 (Nat.le_of_ble_eq_true rfl) (Nat.le_of_ble_eq_true rfl) dX10_init_197 (fun q159 H S160 hq159 eS160 hV => ?_)
  have hM := hM q159 S160 hq159 eS160
  have hk161 := kq_O eS160
  refine lv_dup hx hb dX10_init_200 rfl ?_
  refine x_cv hV (x_runIN (As := []) (rest := [.ref q159, .int 2, .ref p158]) C hV mc_X5_init hz.2.2.2.2.2.2.2.2.2.1 (c_X5_init hM) ⟨by decide, by decide⟩ rfl hl.1 (Nat.le_of_ble_eq_true rfl) dX10_init_201 ⟨Nat.le_of_ble_eq_true rfl, Nat.le_of_ble_eq_true rfl⟩) (fun S162 H locs hV hM => ?_)
  have hk163 := hM.1
  have hM := hM.2
  have hk164 := hM.1
  have hM := hM.2
  have hi165 := hM.1
  have hM := hM.2
  obtain ⟨S166, eS166⟩ : ∃ z : PS, z = S162.setQ p158 (2 : Int32).toNatClampNeg (some q159) := ⟨_, rfl⟩
  have hM := hM S166 eS166
  refine x_aast C hV hk163 (by decide) rfl rfl (by decide) hk164 hi165 eS166 dX10_init_204 (fun H locs hV => ?_)
  refine lv_iinc (v := 3) (lv' := [(1, .int 3), (0, .ref a0)]) hx hb dX10_init_205 hl (k := 0) rfl (by decide) (by decide) rfl (fun ls hl => ?_)
  refine lv_goto (tgt := 187) hx hb dX10_init_208 (by decide) ?_
  refine lv_iload_n hx hb dX10_init_187 rfl (lv_at hl 0 rfl) ?_
  refine lv_iconst (v := 4) hx hb dX10_init_188 (by decide) ?_
  refine lv_icmp_ge (tgt := 211) hx hb dX10_init_189 (by decide) (fun c => absurd c (by decide)) (fun _ => ?_)
  refine lv_aload_n hx hb dX10_init_192 rfl (lv_at hl 1 rfl) ?_
  have hk167 := hM.1
  have hM := hM.2
  obtain ⟨p168, hp168, hM⟩ := hM
  refine x_getR C hV wf_X10_81 hk167 hp168 dX10_init_193 ?_
  refine lv_iload_n hx hb dX10_init_196 rfl (lv_at hl 0 rfl) ?_
  refine x_new C hV wm_X10_79 (Nat.le_of_ble_eq_true rfl) (Nat.le_of_ble_eq_true rfl) dX10_init_197 (fun q169 H S170 hq169 eS170 hV => ?_)
  have hM := hM q169 S170 hq169 eS170
  have hk171 := kq_O eS170
  refine lv_dup hx hb dX10_init_200 rfl ?_
  refine x_cv hV (x_runIN (As := []) (rest := [.ref q169, .int 3, .ref p168]) C hV mc_X5_init hz.2.2.2.2.2.2.2.2.2.1 (c_X5_init hM) ⟨by decide, by decide⟩ rfl hl.1 (Nat.le_of_ble_eq_true rfl) dX10_init_201 ⟨Nat.le_of_ble_eq_true rfl, Nat.le_of_ble_eq_true rfl⟩) (fun S172 H locs hV hM => ?_)
  have hk173 := hM.1
  have hM := hM.2
  have hk174 := hM.1
  have hM := hM.2
  have hi175 := hM.1
  have hM := hM.2
  obtain ⟨S176, eS176⟩ : ∃ z : PS, z = S172.setQ p168 (3 : Int32).toNatClampNeg (some q169) := ⟨_, rfl⟩
  have hM := hM S176 eS176
  refine x_aast C hV hk173 (by decide) rfl rfl (by decide) hk174 hi175 eS176 dX10_init_204 (fun H locs hV => ?_)
  refine lv_iinc (v := 4) (lv' := [(1, .int 4), (0, .ref a0)]) hx hb dX10_init_205 hl (k := 0) rfl (by decide) (by decide) rfl (fun ls hl => ?_)
  refine lv_goto (tgt := 187) hx hb dX10_init_208 (by decide) ?_
  refine lv_iload_n hx hb dX10_init_187 rfl (lv_at hl 0 rfl) ?_
  refine lv_iconst (v := 4) hx hb dX10_init_188 (by decide) ?_
  refine lv_icmp_ge (tgt := 211) hx hb dX10_init_189 (by decide) (fun _ => ?_) (fun c => absurd (by decide) c)
  refine W.widen (k := 72) (n := 2075) (Nat.le_of_ble_eq_true rfl) (Nat.le_of_ble_eq_true rfl) ?_
  exact x_vret C hV hM dX10_init_211

def wp_X11_init (N : Nat) (S : PS) (a0 : Nat) (K : PS → Prop) : Prop := S.K a0 = 12 ∧ ∀ S2 : PS, S2 = S.setI 770 a0 1 → ∀ (q3 : Nat) (S4 : PS), S2.K q3 = 0 → S4 = S2.newA q3 20 90 → ∀ S8 : PS, S8 = S4.setR 773 a0 (some q3) → ∀ (q9 : Nat) (S10 : PS), S8.K q9 = 0 → S10 = S8.newA q9 20 120 → ∀ S14 : PS, S14 = S10.setR 775 a0 (some q9) → ∀ (q15 : Nat) (S16 : PS), S14.K q15 = 0 → S16 = S14.newA q15 20 128 → ∀ S20 : PS, S20 = S16.setR 777 a0 (some q15) → ∀ (q21 : Nat) (S22 : PS), S20.K q21 = 0 → S22 = S20.newA q21 20 8 → ∀ S26 : PS, S26 = S22.setR 779 a0 (some q21) → ∀ (q27 : Nat) (S28 : PS), S26.K q27 = 0 → S28 = S26.newA q27 20 1600 → ∀ S32 : PS, S32 = S28.setR 780 a0 (some q27) → ∀ (q33 : Nat) (S34 : PS), S32.K q33 = 0 → S34 = S32.newA q33 20 200 → ∀ S38 : PS, S38 = S34.setR 781 a0 (some q33) → ∀ (q39 : Nat) (S40 : PS), S38.K q39 = 0 → S40 = S38.newA q39 20 16 → ∀ S44 : PS, S44 = S40.setR 789 a0 (some q39) → ∀ (q45 : Nat) (S46 : PS), S44.K q45 = 0 → S46 = S44.newA q45 20 28 → ∀ S50 : PS, S50 = S46.setR 792 a0 (some q45) → ∀ (q51 : Nat) (S52 : PS), S50.K q51 = 0 → S52 = S50.newA q51 20 40 → ∀ S56 : PS, S56 = S52.setR 794 a0 (some q51) → ∀ (q57 : Nat) (S58 : PS), S56.K q57 = 0 → S58 = S56.newA q57 20 200 → ∀ S62 : PS, S62 = S58.setR 795 a0 (some q57) → ∀ (q63 : Nat) (S64 : PS), S62.K q63 = 0 → S64 = S62.newA q63 20 200 → ∀ S68 : PS, S68 = S64.setR 796 a0 (some q63) → ∀ (q69 : Nat) (S70 : PS), S68.K q69 = 0 → S70 = S68.newA q69 20 200 → ∀ S74 : PS, S74 = S70.setR 802 a0 (some q69) → ∀ (q75 : Nat) (S76 : PS), S74.K q75 = 0 → S76 = S74.newA q75 20 7 → ∀ S80 : PS, S80 = S76.setR 803 a0 (some q75) → ∀ (q81 : Nat) (S82 : PS), S80.K q81 = 0 → S82 = S80.newA q81 20 30 → ∀ S86 : PS, S86 = S82.setR 804 a0 (some q81) → ∀ (q87 : Nat) (S88 : PS), S86.K q87 = 0 → S88 = S86.newA q87 20 4 → vp_in 0 (S88.ln q87) ∧ ∀ S91 : PS, S91 = S88.setA q87 (0 : Int32).toNatClampNeg (-1) → vp_in 1 (S91.ln q87) ∧ ∀ S94 : PS, S94 = S91.setA q87 (1 : Int32).toNatClampNeg (-1) → vp_in 2 (S94.ln q87) ∧ ∀ S97 : PS, S97 = S94.setA q87 (2 : Int32).toNatClampNeg (-1) → vp_in 3 (S97.ln q87) ∧ ∀ S100 : PS, S100 = S97.setA q87 (3 : Int32).toNatClampNeg (-1) → ∀ S107 : PS, S107 = S100.setR 806 a0 (some q87) → ∀ (q108 : Nat) (S109 : PS), S107.K q108 = 0 → S109 = S107.newA q108 20 4 → ∀ S113 : PS, S113 = S109.setR 807 a0 (some q108) → ∀ (q114 : Nat) (S115 : PS), S113.K q114 = 0 → S115 = S113.newA q114 22 160 → ∀ S119 : PS, S119 = S115.setR 808 a0 (some q114) → ∀ (q120 : Nat) (S121 : PS), S119.K q120 = 0 → S121 = S119.newA q120 20 4 → vp_in 0 (S121.ln q120) ∧ ∀ S124 : PS, S124 = S121.setA q120 (0 : Int32).toNatClampNeg (-1) → vp_in 1 (S124.ln q120) ∧ ∀ S127 : PS, S127 = S124.setA q120 (1 : Int32).toNatClampNeg (-1) → vp_in 2 (S127.ln q120) ∧ ∀ S130 : PS, S130 = S127.setA q120 (2 : Int32).toNatClampNeg (-1) → vp_in 3 (S130.ln q120) ∧ ∀ S133 : PS, S133 = S130.setA q120 (3 : Int32).toNatClampNeg (-1) → ∀ S140 : PS, S140 = S133.setR 809 a0 (some q120) → ∀ (q141 : Nat) (S142 : PS), S140.K q141 = 0 → S142 = S140.newA q141 20 4 → ∀ S146 : PS, S146 = S142.setR 810 a0 (some q141) → ∀ (q147 : Nat) (S148 : PS), S146.K q147 = 0 → S148 = S146.newA q147 20 4 → ∀ S152 : PS, S152 = S148.setR 811 a0 (some q147) → ∀ (q153 : Nat) (S154 : PS), S152.K q153 = 0 → S154 = S152.newA q153 20 30 → ∀ S158 : PS, S158 = S154.setR 815 a0 (some q153) → ∀ (q159 : Nat) (S160 : PS), S158.K q159 = 0 → S160 = S158.newA q159 20 2000 → ∀ S164 : PS, S164 = S160.setR 819 a0 (some q159) → ∀ (q165 : Nat) (S166 : PS), S164.K q165 = 0 → S166 = S164.newA q165 20 8 → ∀ S170 : PS, S170 = S166.setR 821 a0 (some q165) → K S170
set_option maxHeartbeats 4000000 in
set_option maxRecDepth 100000 in
theorem c_X11_init {l : Launch} {D : DX} {cA : Nat → ClassId} {z0 N : Nat} {S : PS} {a0 : Nat} {K : PS → Prop} (hM : wp_X11_init N S a0 K) : MetV l yX11_init cX11_init 1 none 1 23 5085 D cA z0 [.ref a0] S K := by
  refine x_met RX11 (by decide) rfl ?_
  intro p e s m below meth c C hin hV
  have hl := lv_entry ([.ref a0]) (n := 1) (Nat.le_of_ble_eq_true rfl)
  rw [lg_entry_eq]
  generalize (lg_sl ([.ref a0]) ++ List.replicate (1 - (lg_sl ([.ref a0])).length) Slot.unset).toArray = ls at hl ⊢
  have hl : lv_has ls 1 [(0, .ref a0)] := hl
  obtain ⟨hx, hb, hml, hown, hts, hK, hz, hlk, hr⟩ := id C
  unfold wp_X11_init at hM
  refine lv_aload_n hx hb dX11_init_0 rfl (lv_at hl 0 rfl) ?_
  refine x_obj C hl.1 wo_X11_1 (Nat.le_of_ble_eq_true rfl) (Nat.le_of_ble_eq_true rfl) dX11_init_1 ?_
  refine lv_aload_n hx hb dX11_init_4 rfl (lv_at hl 0 rfl) ?_
  refine lv_iconst (v := 1) hx hb dX11_init_5 (by decide) ?_
  have hk1 := hM.1
  have hM := hM.2
  obtain ⟨S2, eS2⟩ : ∃ z : PS, z = S.setI 770 a0 1 := ⟨_, rfl⟩
  have hM := hM S2 eS2
  refine x_putI C hV wp_X11_7 hk1 ⟨rfl, rfl⟩ eS2 dX11_init_6 (fun H locs hV => ?_)
  refine lv_aload_n hx hb dX11_init_9 rfl (lv_at hl 0 rfl) ?_
  refine lv_bipush (v := 90) hx hb dX11_init_10 (by decide) ?_
  refine x_newI (N' := 90) C hV wk_ai (by decide) (by decide) (by decide) (Nat.le_of_ble_eq_true rfl) (Nat.le_of_ble_eq_true rfl) dX11_init_12 (fun q3 H S4 hq3 eS4 hV => ?_)
  have hM := hM q3 S4 hq3 eS4
  have hk5 := kq_N eS4
  have hk6 := kp_I eS2 hk1
  have hk7 := kp_N eS4 hq3 hk6 (by decide)
  obtain ⟨S8, eS8⟩ : ∃ z : PS, z = S4.setR 773 a0 (some q3) := ⟨_, rfl⟩
  have hM := hM S8 eS8
  refine x_putFR C hin hV wp_X11_13 hk7 ⟨rfl, rfl⟩ eS8 dX11_init_14 (fun H locs hV => ?_)
  refine lv_aload_n hx hb dX11_init_17 rfl (lv_at hl 0 rfl) ?_
  refine lv_bipush (v := 120) hx hb dX11_init_18 (by decide) ?_
  refine x_newI (N' := 120) C hV wk_ai (by decide) (by decide) (by decide) (Nat.le_of_ble_eq_true rfl) (Nat.le_of_ble_eq_true rfl) dX11_init_20 (fun q9 H S10 hq9 eS10 hV => ?_)
  have hM := hM q9 S10 hq9 eS10
  have hk11 := kq_N eS10
  have hk12 := kp_R eS8 hk7
  have hk13 := kp_N eS10 hq9 hk12 (by decide)
  obtain ⟨S14, eS14⟩ : ∃ z : PS, z = S10.setR 775 a0 (some q9) := ⟨_, rfl⟩
  have hM := hM S14 eS14
  refine x_putFR C hin hV wp_X11_17 hk13 ⟨rfl, rfl⟩ eS14 dX11_init_22 (fun H locs hV => ?_)
  refine lv_aload_n hx hb dX11_init_25 rfl (lv_at hl 0 rfl) ?_
  refine lv_sipush (v := 128) hx hb dX11_init_26 (by decide) ?_
  refine x_newI (N' := 128) C hV wk_ai (by decide) (by decide) (by decide) (Nat.le_of_ble_eq_true rfl) (Nat.le_of_ble_eq_true rfl) dX11_init_29 (fun q15 H S16 hq15 eS16 hV => ?_)
  have hM := hM q15 S16 hq15 eS16
  have hk17 := kq_N eS16
  have hk18 := kp_R eS14 hk13
  have hk19 := kp_N eS16 hq15 hk18 (by decide)
  obtain ⟨S20, eS20⟩ : ∃ z : PS, z = S16.setR 777 a0 (some q15) := ⟨_, rfl⟩
  have hM := hM S20 eS20
  refine x_putFR C hin hV wp_X11_20 hk19 ⟨rfl, rfl⟩ eS20 dX11_init_31 (fun H locs hV => ?_)
  refine lv_aload_n hx hb dX11_init_34 rfl (lv_at hl 0 rfl) ?_
  refine lv_bipush (v := 8) hx hb dX11_init_35 (by decide) ?_
  refine x_newI (N' := 8) C hV wk_ai (by decide) (by decide) (by decide) (Nat.le_of_ble_eq_true rfl) (Nat.le_of_ble_eq_true rfl) dX11_init_37 (fun q21 H S22 hq21 eS22 hV => ?_)
  have hM := hM q21 S22 hq21 eS22
  have hk23 := kq_N eS22
  have hk24 := kp_R eS20 hk19
  have hk25 := kp_N eS22 hq21 hk24 (by decide)
  obtain ⟨S26, eS26⟩ : ∃ z : PS, z = S22.setR 779 a0 (some q21) := ⟨_, rfl⟩
  have hM := hM S26 eS26
  refine x_putFR C hin hV wp_X11_23 hk25 ⟨rfl, rfl⟩ eS26 dX11_init_39 (fun H locs hV => ?_)
  refine lv_aload_n hx hb dX11_init_42 rfl (lv_at hl 0 rfl) ?_
  refine lv_sipush (v := 1600) hx hb dX11_init_43 (by decide) ?_
  refine x_newI (N' := 1600) C hV wk_ai (by decide) (by decide) (by decide) (Nat.le_of_ble_eq_true rfl) (Nat.le_of_ble_eq_true rfl) dX11_init_46 (fun q27 H S28 hq27 eS28 hV => ?_)
  have hM := hM q27 S28 hq27 eS28
  have hk29 := kq_N eS28
  have hk30 := kp_R eS26 hk25
  have hk31 := kp_N eS28 hq27 hk30 (by decide)
  obtain ⟨S32, eS32⟩ : ∃ z : PS, z = S28.setR 780 a0 (some q27) := ⟨_, rfl⟩
  have hM := hM S32 eS32
  refine x_putFR C hin hV wp_X11_26 hk31 ⟨rfl, rfl⟩ eS32 dX11_init_48 (fun H locs hV => ?_)
  refine lv_aload_n hx hb dX11_init_51 rfl (lv_at hl 0 rfl) ?_
  refine lv_sipush (v := 200) hx hb dX11_init_52 (by decide) ?_
  refine x_newI (N' := 200) C hV wk_ai (by decide) (by decide) (by decide) (Nat.le_of_ble_eq_true rfl) (Nat.le_of_ble_eq_true rfl) dX11_init_55 (fun q33 H S34 hq33 eS34 hV => ?_)
  have hM := hM q33 S34 hq33 eS34
  have hk35 := kq_N eS34
  have hk36 := kp_R eS32 hk31
  have hk37 := kp_N eS34 hq33 hk36 (by decide)
  obtain ⟨S38, eS38⟩ : ∃ z : PS, z = S34.setR 781 a0 (some q33) := ⟨_, rfl⟩
  have hM := hM S38 eS38
  refine x_putFR C hin hV wp_X11_29 hk37 ⟨rfl, rfl⟩ eS38 dX11_init_57 (fun H locs hV => ?_)
  refine lv_aload_n hx hb dX11_init_60 rfl (lv_at hl 0 rfl) ?_
  refine lv_bipush (v := 16) hx hb dX11_init_61 (by decide) ?_
  refine x_newI (N' := 16) C hV wk_ai (by decide) (by decide) (by decide) (Nat.le_of_ble_eq_true rfl) (Nat.le_of_ble_eq_true rfl) dX11_init_63 (fun q39 H S40 hq39 eS40 hV => ?_)
  have hM := hM q39 S40 hq39 eS40
  have hk41 := kq_N eS40
  have hk42 := kp_R eS38 hk37
  have hk43 := kp_N eS40 hq39 hk42 (by decide)
  obtain ⟨S44, eS44⟩ : ∃ z : PS, z = S40.setR 789 a0 (some q39) := ⟨_, rfl⟩
  have hM := hM S44 eS44
  refine x_putFR C hin hV wp_X11_32 hk43 ⟨rfl, rfl⟩ eS44 dX11_init_65 (fun H locs hV => ?_)
  refine lv_aload_n hx hb dX11_init_68 rfl (lv_at hl 0 rfl) ?_
  refine lv_bipush (v := 28) hx hb dX11_init_69 (by decide) ?_
  refine x_newI (N' := 28) C hV wk_ai (by decide) (by decide) (by decide) (Nat.le_of_ble_eq_true rfl) (Nat.le_of_ble_eq_true rfl) dX11_init_71 (fun q45 H S46 hq45 eS46 hV => ?_)
  have hM := hM q45 S46 hq45 eS46
  have hk47 := kq_N eS46
  have hk48 := kp_R eS44 hk43
  have hk49 := kp_N eS46 hq45 hk48 (by decide)
  obtain ⟨S50, eS50⟩ : ∃ z : PS, z = S46.setR 792 a0 (some q45) := ⟨_, rfl⟩
  have hM := hM S50 eS50
  refine x_putFR C hin hV wp_X11_35 hk49 ⟨rfl, rfl⟩ eS50 dX11_init_73 (fun H locs hV => ?_)
  refine lv_aload_n hx hb dX11_init_76 rfl (lv_at hl 0 rfl) ?_
  refine lv_bipush (v := 40) hx hb dX11_init_77 (by decide) ?_
  refine x_newI (N' := 40) C hV wk_ai (by decide) (by decide) (by decide) (Nat.le_of_ble_eq_true rfl) (Nat.le_of_ble_eq_true rfl) dX11_init_79 (fun q51 H S52 hq51 eS52 hV => ?_)
  have hM := hM q51 S52 hq51 eS52
  have hk53 := kq_N eS52
  have hk54 := kp_R eS50 hk49
  have hk55 := kp_N eS52 hq51 hk54 (by decide)
  obtain ⟨S56, eS56⟩ : ∃ z : PS, z = S52.setR 794 a0 (some q51) := ⟨_, rfl⟩
  have hM := hM S56 eS56
  refine x_putFR C hin hV wp_X11_38 hk55 ⟨rfl, rfl⟩ eS56 dX11_init_81 (fun H locs hV => ?_)
  refine lv_aload_n hx hb dX11_init_84 rfl (lv_at hl 0 rfl) ?_
  refine lv_sipush (v := 200) hx hb dX11_init_85 (by decide) ?_
  refine x_newI (N' := 200) C hV wk_ai (by decide) (by decide) (by decide) (Nat.le_of_ble_eq_true rfl) (Nat.le_of_ble_eq_true rfl) dX11_init_88 (fun q57 H S58 hq57 eS58 hV => ?_)
  have hM := hM q57 S58 hq57 eS58
  have hk59 := kq_N eS58
  have hk60 := kp_R eS56 hk55
  have hk61 := kp_N eS58 hq57 hk60 (by decide)
  obtain ⟨S62, eS62⟩ : ∃ z : PS, z = S58.setR 795 a0 (some q57) := ⟨_, rfl⟩
  have hM := hM S62 eS62
  refine x_putFR C hin hV wp_X11_41 hk61 ⟨rfl, rfl⟩ eS62 dX11_init_90 (fun H locs hV => ?_)
  refine lv_aload_n hx hb dX11_init_93 rfl (lv_at hl 0 rfl) ?_
  refine lv_sipush (v := 200) hx hb dX11_init_94 (by decide) ?_
  refine x_newI (N' := 200) C hV wk_ai (by decide) (by decide) (by decide) (Nat.le_of_ble_eq_true rfl) (Nat.le_of_ble_eq_true rfl) dX11_init_97 (fun q63 H S64 hq63 eS64 hV => ?_)
  have hM := hM q63 S64 hq63 eS64
  have hk65 := kq_N eS64
  have hk66 := kp_R eS62 hk61
  have hk67 := kp_N eS64 hq63 hk66 (by decide)
  obtain ⟨S68, eS68⟩ : ∃ z : PS, z = S64.setR 796 a0 (some q63) := ⟨_, rfl⟩
  have hM := hM S68 eS68
  refine x_putFR C hin hV wp_X11_44 hk67 ⟨rfl, rfl⟩ eS68 dX11_init_99 (fun H locs hV => ?_)
  refine lv_aload_n hx hb dX11_init_102 rfl (lv_at hl 0 rfl) ?_
  refine lv_sipush (v := 200) hx hb dX11_init_103 (by decide) ?_
  refine x_newI (N' := 200) C hV wk_ai (by decide) (by decide) (by decide) (Nat.le_of_ble_eq_true rfl) (Nat.le_of_ble_eq_true rfl) dX11_init_106 (fun q69 H S70 hq69 eS70 hV => ?_)
  have hM := hM q69 S70 hq69 eS70
  have hk71 := kq_N eS70
  have hk72 := kp_R eS68 hk67
  have hk73 := kp_N eS70 hq69 hk72 (by decide)
  obtain ⟨S74, eS74⟩ : ∃ z : PS, z = S70.setR 802 a0 (some q69) := ⟨_, rfl⟩
  have hM := hM S74 eS74
  refine x_putFR C hin hV wp_X11_47 hk73 ⟨rfl, rfl⟩ eS74 dX11_init_108 (fun H locs hV => ?_)
  refine lv_aload_n hx hb dX11_init_111 rfl (lv_at hl 0 rfl) ?_
  refine lv_bipush (v := 7) hx hb dX11_init_112 (by decide) ?_
  refine x_newI (N' := 7) C hV wk_ai (by decide) (by decide) (by decide) (Nat.le_of_ble_eq_true rfl) (Nat.le_of_ble_eq_true rfl) dX11_init_114 (fun q75 H S76 hq75 eS76 hV => ?_)
  have hM := hM q75 S76 hq75 eS76
  have hk77 := kq_N eS76
  have hk78 := kp_R eS74 hk73
  have hk79 := kp_N eS76 hq75 hk78 (by decide)
  obtain ⟨S80, eS80⟩ : ∃ z : PS, z = S76.setR 803 a0 (some q75) := ⟨_, rfl⟩
  have hM := hM S80 eS80
  refine x_putFR C hin hV wp_X11_50 hk79 ⟨rfl, rfl⟩ eS80 dX11_init_116 (fun H locs hV => ?_)
  refine lv_aload_n hx hb dX11_init_119 rfl (lv_at hl 0 rfl) ?_
  refine lv_bipush (v := 30) hx hb dX11_init_120 (by decide) ?_
  refine x_newI (N' := 30) C hV wk_ai (by decide) (by decide) (by decide) (Nat.le_of_ble_eq_true rfl) (Nat.le_of_ble_eq_true rfl) dX11_init_122 (fun q81 H S82 hq81 eS82 hV => ?_)
  have hM := hM q81 S82 hq81 eS82
  have hk83 := kq_N eS82
  have hk84 := kp_R eS80 hk79
  have hk85 := kp_N eS82 hq81 hk84 (by decide)
  obtain ⟨S86, eS86⟩ : ∃ z : PS, z = S82.setR 804 a0 (some q81) := ⟨_, rfl⟩
  have hM := hM S86 eS86
  refine x_putFR C hin hV wp_X11_53 hk85 ⟨rfl, rfl⟩ eS86 dX11_init_124 (fun H locs hV => ?_)
  refine lv_aload_n hx hb dX11_init_127 rfl (lv_at hl 0 rfl) ?_
  refine lv_iconst (v := 4) hx hb dX11_init_128 (by decide) ?_
  refine x_newI (N' := 4) C hV wk_ai (by decide) (by decide) (by decide) (Nat.le_of_ble_eq_true rfl) (Nat.le_of_ble_eq_true rfl) dX11_init_129 (fun q87 H S88 hq87 eS88 hV => ?_)
  have hM := hM q87 S88 hq87 eS88
  have hk89 := kq_N eS88
  refine lv_dup hx hb dX11_init_131 rfl ?_
  refine lv_iconst (v := 0) hx hb dX11_init_132 (by decide) ?_
  refine lv_iconst (v := (-1)) hx hb dX11_init_133 (by decide) ?_
  have hi90 := hM.1
  have hM := hM.2
  obtain ⟨S91, eS91⟩ : ∃ z : PS, z = S88.setA q87 (0 : Int32).toNatClampNeg (-1) := ⟨_, rfl⟩
  have hM := hM S91 eS91
  refine x_iast C hV hk89 hi90 eS91 dX11_init_134 (fun H locs hV => ?_)
  refine lv_dup hx hb dX11_init_135 rfl ?_
  refine lv_iconst (v := 1) hx hb dX11_init_136 (by decide) ?_
  refine lv_iconst (v := (-1)) hx hb dX11_init_137 (by decide) ?_
  have hk92 := kp_A eS91 hk89
  have hi93 := hM.1
  have hM := hM.2
  obtain ⟨S94, eS94⟩ : ∃ z : PS, z = S91.setA q87 (1 : Int32).toNatClampNeg (-1) := ⟨_, rfl⟩
  have hM := hM S94 eS94
  refine x_iast C hV hk92 hi93 eS94 dX11_init_138 (fun H locs hV => ?_)
  refine lv_dup hx hb dX11_init_139 rfl ?_
  refine lv_iconst (v := 2) hx hb dX11_init_140 (by decide) ?_
  refine lv_iconst (v := (-1)) hx hb dX11_init_141 (by decide) ?_
  have hk95 := kp_A eS94 hk92
  have hi96 := hM.1
  have hM := hM.2
  obtain ⟨S97, eS97⟩ : ∃ z : PS, z = S94.setA q87 (2 : Int32).toNatClampNeg (-1) := ⟨_, rfl⟩
  have hM := hM S97 eS97
  refine x_iast C hV hk95 hi96 eS97 dX11_init_142 (fun H locs hV => ?_)
  refine lv_dup hx hb dX11_init_143 rfl ?_
  refine lv_iconst (v := 3) hx hb dX11_init_144 (by decide) ?_
  refine lv_iconst (v := (-1)) hx hb dX11_init_145 (by decide) ?_
  have hk98 := kp_A eS97 hk95
  have hi99 := hM.1
  have hM := hM.2
  obtain ⟨S100, eS100⟩ : ∃ z : PS, z = S97.setA q87 (3 : Int32).toNatClampNeg (-1) := ⟨_, rfl⟩
  have hM := hM S100 eS100
  refine x_iast C hV hk98 hi99 eS100 dX11_init_146 (fun H locs hV => ?_)
  have hk101 := kp_R eS86 hk85
  have hk102 := kp_N eS88 hq87 hk101 (by decide)
  have hk103 := kp_A eS91 hk102
  have hk104 := kp_A eS94 hk103
  have hk105 := kp_A eS97 hk104
  have hk106 := kp_A eS100 hk105
  obtain ⟨S107, eS107⟩ : ∃ z : PS, z = S100.setR 806 a0 (some q87) := ⟨_, rfl⟩
  have hM := hM S107 eS107
  refine x_putFR C hin hV wp_X11_56 hk106 ⟨rfl, rfl⟩ eS107 dX11_init_147 (fun H locs hV => ?_)
  refine lv_aload_n hx hb dX11_init_150 rfl (lv_at hl 0 rfl) ?_
  refine lv_iconst (v := 4) hx hb dX11_init_151 (by decide) ?_
  refine x_newI (N' := 4) C hV wk_ai (by decide) (by decide) (by decide) (Nat.le_of_ble_eq_true rfl) (Nat.le_of_ble_eq_true rfl) dX11_init_152 (fun q108 H S109 hq108 eS109 hV => ?_)
  have hM := hM q108 S109 hq108 eS109
  have hk110 := kq_N eS109
  have hk111 := kp_R eS107 hk106
  have hk112 := kp_N eS109 hq108 hk111 (by decide)
  obtain ⟨S113, eS113⟩ : ∃ z : PS, z = S109.setR 807 a0 (some q108) := ⟨_, rfl⟩
  have hM := hM S113 eS113
  refine x_putFR C hin hV wp_X11_59 hk112 ⟨rfl, rfl⟩ eS113 dX11_init_154 (fun H locs hV => ?_)
  refine lv_aload_n hx hb dX11_init_157 rfl (lv_at hl 0 rfl) ?_
  refine lv_sipush (v := 160) hx hb dX11_init_158 (by decide) ?_
  refine x_newJ (N' := 160) C hV wk_aj (by decide) (by decide) (by decide) (Nat.le_of_ble_eq_true rfl) (Nat.le_of_ble_eq_true rfl) dX11_init_161 (fun q114 H S115 hq114 eS115 hV => ?_)
  have hM := hM q114 S115 hq114 eS115
  have hk116 := kq_N eS115
  have hk117 := kp_R eS113 hk112
  have hk118 := kp_N eS115 hq114 hk117 (by decide)
  obtain ⟨S119, eS119⟩ : ∃ z : PS, z = S115.setR 808 a0 (some q114) := ⟨_, rfl⟩
  have hM := hM S119 eS119
  refine x_putFR C hin hV wp_X11_62 hk118 ⟨rfl, rfl⟩ eS119 dX11_init_163 (fun H locs hV => ?_)
  refine lv_aload_n hx hb dX11_init_166 rfl (lv_at hl 0 rfl) ?_
  refine lv_iconst (v := 4) hx hb dX11_init_167 (by decide) ?_
  refine x_newI (N' := 4) C hV wk_ai (by decide) (by decide) (by decide) (Nat.le_of_ble_eq_true rfl) (Nat.le_of_ble_eq_true rfl) dX11_init_168 (fun q120 H S121 hq120 eS121 hV => ?_)
  have hM := hM q120 S121 hq120 eS121
  have hk122 := kq_N eS121
  refine lv_dup hx hb dX11_init_170 rfl ?_
  refine lv_iconst (v := 0) hx hb dX11_init_171 (by decide) ?_
  refine lv_iconst (v := (-1)) hx hb dX11_init_172 (by decide) ?_
  have hi123 := hM.1
  have hM := hM.2
  obtain ⟨S124, eS124⟩ : ∃ z : PS, z = S121.setA q120 (0 : Int32).toNatClampNeg (-1) := ⟨_, rfl⟩
  have hM := hM S124 eS124
  refine x_iast C hV hk122 hi123 eS124 dX11_init_173 (fun H locs hV => ?_)
  refine lv_dup hx hb dX11_init_174 rfl ?_
  refine lv_iconst (v := 1) hx hb dX11_init_175 (by decide) ?_
  refine lv_iconst (v := (-1)) hx hb dX11_init_176 (by decide) ?_
  have hk125 := kp_A eS124 hk122
  have hi126 := hM.1
  have hM := hM.2
  obtain ⟨S127, eS127⟩ : ∃ z : PS, z = S124.setA q120 (1 : Int32).toNatClampNeg (-1) := ⟨_, rfl⟩
  have hM := hM S127 eS127
  refine x_iast C hV hk125 hi126 eS127 dX11_init_177 (fun H locs hV => ?_)
  refine lv_dup hx hb dX11_init_178 rfl ?_
  refine lv_iconst (v := 2) hx hb dX11_init_179 (by decide) ?_
  refine lv_iconst (v := (-1)) hx hb dX11_init_180 (by decide) ?_
  have hk128 := kp_A eS127 hk125
  have hi129 := hM.1
  have hM := hM.2
  obtain ⟨S130, eS130⟩ : ∃ z : PS, z = S127.setA q120 (2 : Int32).toNatClampNeg (-1) := ⟨_, rfl⟩
  have hM := hM S130 eS130
  refine x_iast C hV hk128 hi129 eS130 dX11_init_181 (fun H locs hV => ?_)
  refine lv_dup hx hb dX11_init_182 rfl ?_
  refine lv_iconst (v := 3) hx hb dX11_init_183 (by decide) ?_
  refine lv_iconst (v := (-1)) hx hb dX11_init_184 (by decide) ?_
  have hk131 := kp_A eS130 hk128
  have hi132 := hM.1
  have hM := hM.2
  obtain ⟨S133, eS133⟩ : ∃ z : PS, z = S130.setA q120 (3 : Int32).toNatClampNeg (-1) := ⟨_, rfl⟩
  have hM := hM S133 eS133
  refine x_iast C hV hk131 hi132 eS133 dX11_init_185 (fun H locs hV => ?_)
  have hk134 := kp_R eS119 hk118
  have hk135 := kp_N eS121 hq120 hk134 (by decide)
  have hk136 := kp_A eS124 hk135
  have hk137 := kp_A eS127 hk136
  have hk138 := kp_A eS130 hk137
  have hk139 := kp_A eS133 hk138
  obtain ⟨S140, eS140⟩ : ∃ z : PS, z = S133.setR 809 a0 (some q120) := ⟨_, rfl⟩
  have hM := hM S140 eS140
  refine x_putFR C hin hV wp_X11_66 hk139 ⟨rfl, rfl⟩ eS140 dX11_init_186 (fun H locs hV => ?_)
  refine lv_aload_n hx hb dX11_init_189 rfl (lv_at hl 0 rfl) ?_
  refine lv_iconst (v := 4) hx hb dX11_init_190 (by decide) ?_
  refine x_newI (N' := 4) C hV wk_ai (by decide) (by decide) (by decide) (Nat.le_of_ble_eq_true rfl) (Nat.le_of_ble_eq_true rfl) dX11_init_191 (fun q141 H S142 hq141 eS142 hV => ?_)
  have hM := hM q141 S142 hq141 eS142
  have hk143 := kq_N eS142
  have hk144 := kp_R eS140 hk139
  have hk145 := kp_N eS142 hq141 hk144 (by decide)
  obtain ⟨S146, eS146⟩ : ∃ z : PS, z = S142.setR 810 a0 (some q141) := ⟨_, rfl⟩
  have hM := hM S146 eS146
  refine x_putFR C hin hV wp_X11_69 hk145 ⟨rfl, rfl⟩ eS146 dX11_init_193 (fun H locs hV => ?_)
  refine lv_aload_n hx hb dX11_init_196 rfl (lv_at hl 0 rfl) ?_
  refine lv_iconst (v := 4) hx hb dX11_init_197 (by decide) ?_
  refine x_newI (N' := 4) C hV wk_ai (by decide) (by decide) (by decide) (Nat.le_of_ble_eq_true rfl) (Nat.le_of_ble_eq_true rfl) dX11_init_198 (fun q147 H S148 hq147 eS148 hV => ?_)
  have hM := hM q147 S148 hq147 eS148
  have hk149 := kq_N eS148
  have hk150 := kp_R eS146 hk145
  have hk151 := kp_N eS148 hq147 hk150 (by decide)
  obtain ⟨S152, eS152⟩ : ∃ z : PS, z = S148.setR 811 a0 (some q147) := ⟨_, rfl⟩
  have hM := hM S152 eS152
  refine x_putFR C hin hV wp_X11_72 hk151 ⟨rfl, rfl⟩ eS152 dX11_init_200 (fun H locs hV => ?_)
  refine lv_aload_n hx hb dX11_init_203 rfl (lv_at hl 0 rfl) ?_
  refine lv_bipush (v := 30) hx hb dX11_init_204 (by decide) ?_
  refine x_newI (N' := 30) C hV wk_ai (by decide) (by decide) (by decide) (Nat.le_of_ble_eq_true rfl) (Nat.le_of_ble_eq_true rfl) dX11_init_206 (fun q153 H S154 hq153 eS154 hV => ?_)
  have hM := hM q153 S154 hq153 eS154
  have hk155 := kq_N eS154
  have hk156 := kp_R eS152 hk151
  have hk157 := kp_N eS154 hq153 hk156 (by decide)
  obtain ⟨S158, eS158⟩ : ∃ z : PS, z = S154.setR 815 a0 (some q153) := ⟨_, rfl⟩
  have hM := hM S158 eS158
  refine x_putFR C hin hV wp_X11_75 hk157 ⟨rfl, rfl⟩ eS158 dX11_init_208 (fun H locs hV => ?_)
  refine lv_aload_n hx hb dX11_init_211 rfl (lv_at hl 0 rfl) ?_
  refine lv_sipush (v := 2000) hx hb dX11_init_212 (by decide) ?_
  refine x_newI (N' := 2000) C hV wk_ai (by decide) (by decide) (by decide) (Nat.le_of_ble_eq_true rfl) (Nat.le_of_ble_eq_true rfl) dX11_init_215 (fun q159 H S160 hq159 eS160 hV => ?_)
  have hM := hM q159 S160 hq159 eS160
  have hk161 := kq_N eS160
  have hk162 := kp_R eS158 hk157
  have hk163 := kp_N eS160 hq159 hk162 (by decide)
  obtain ⟨S164, eS164⟩ : ∃ z : PS, z = S160.setR 819 a0 (some q159) := ⟨_, rfl⟩
  have hM := hM S164 eS164
  refine x_putFR C hin hV wp_X11_78 hk163 ⟨rfl, rfl⟩ eS164 dX11_init_217 (fun H locs hV => ?_)
  refine lv_aload_n hx hb dX11_init_220 rfl (lv_at hl 0 rfl) ?_
  refine lv_bipush (v := 8) hx hb dX11_init_221 (by decide) ?_
  refine x_newI (N' := 8) C hV wk_ai (by decide) (by decide) (by decide) (Nat.le_of_ble_eq_true rfl) (Nat.le_of_ble_eq_true rfl) dX11_init_223 (fun q165 H S166 hq165 eS166 hV => ?_)
  have hM := hM q165 S166 hq165 eS166
  have hk167 := kq_N eS166
  have hk168 := kp_R eS164 hk163
  have hk169 := kp_N eS166 hq165 hk168 (by decide)
  obtain ⟨S170, eS170⟩ : ∃ z : PS, z = S166.setR 821 a0 (some q165) := ⟨_, rfl⟩
  have hM := hM S170 eS170
  refine x_putFR C hin hV wp_X11_81 hk169 ⟨rfl, rfl⟩ eS170 dX11_init_225 (fun H locs hV => ?_)
  refine W.widen (k := 23) (n := 5085) (Nat.le_of_ble_eq_true rfl) (Nat.le_of_ble_eq_true rfl) ?_
  exact x_vret C hV hM dX11_init_228

def wp_X7_told (N : Nat) (S : PS) (a0 : Nat) (x1 : Int32) (K : Nat → PS → Prop) : Prop := ∀ (q1 : Nat) (S2 : PS), S.K q1 = 0 → S2 = S.newO q1 7 → S2.K a0 = 8 ∧ ∃ p5 : Nat, S2.R 513 a0 = some p5 ∧ ((S2.I 515 a0) * 3).toNatClampNeg ≤ 12 ∧ wp_copyOf S2 p5 ((S2.I 515 a0) * 3) (fun r8 S7 => wp_X6_init N S7 q1 x1 (S2.I 514 a0) (S2.I 516 a0) r8 (fun S9 => K q1 S9))
set_option maxHeartbeats 4000000 in
set_option maxRecDepth 100000 in
theorem c_X7_told {l : Launch} {D : DX} {cA : Nat → ClassId} {z0 N : Nat} {S : PS} {a0 : Nat} {x1 : Int32} {K : Nat → PS → Prop} (hM : wp_X7_told N S a0 x1 K) : MetR l yX7_told cX7_told 2 (some (.object "LoosePlug$Story")) 3 2 16 D cA z0 [.ref a0, .int x1] S K := by
  refine x_met RX7 (by decide) rfl ?_
  intro p e s m below meth c C hin hV
  have hl := lv_entry ([.ref a0, .int x1]) (n := 2) (Nat.le_of_ble_eq_true rfl)
  rw [lg_entry_eq]
  generalize (lg_sl ([.ref a0, .int x1]) ++ List.replicate (2 - (lg_sl ([.ref a0, .int x1])).length) Slot.unset).toArray = ls at hl ⊢
  have hl : lv_has ls 2 [(0, .ref a0), (1, .int x1)] := hl
  obtain ⟨hx, hb, hml, hown, hts, hK, hz, hlk, hr⟩ := id C
  unfold wp_X7_told at hM
  refine x_new C hV wm_X7_45 (Nat.le_of_ble_eq_true rfl) (Nat.le_of_ble_eq_true rfl) dX7_told_0 (fun q1 H S2 hq1 eS2 hV => ?_)
  have hM := hM q1 S2 hq1 eS2
  have hk3 := kq_O eS2
  refine lv_dup hx hb dX7_told_3 rfl ?_
  refine lv_iload_n hx hb dX7_told_4 rfl (lv_at hl 1 rfl) ?_
  refine lv_aload_n hx hb dX7_told_5 rfl (lv_at hl 0 rfl) ?_
  have hk4 := hM.1
  have hM := hM.2
  refine x_getI C hV wf_X7_15 hk4 dX7_told_6 ?_
  refine lv_aload_n hx hb dX7_told_9 rfl (lv_at hl 0 rfl) ?_
  refine x_getI C hV wf_X7_22 hk4 dX7_told_10 ?_
  refine lv_aload_n hx hb dX7_told_13 rfl (lv_at hl 0 rfl) ?_
  obtain ⟨p5, hp5, hM⟩ := hM
  refine x_getR C hV wf_X7_9 hk4 hp5 dX7_told_14 ?_
  refine lv_aload_n hx hb dX7_told_17 rfl (lv_at hl 0 rfl) ?_
  refine x_getI C hV wf_X7_19 hk4 dX7_told_18 ?_
  refine lv_iconst (v := 3) hx hb dX7_told_21 (by decide) ?_
  refine lv_imul hx hb dX7_told_22 ?_
  have hms6 := hM.1
  have hM := hM.2
  refine x_cr hV (x_runS (As := [.ref p5, .int ((S2.I 515 a0) * 3)]) (rest := [.int (S2.I 516 a0), .int (S2.I 514 a0), .int x1, .ref q1, .ref q1]) C hV ms_J7_copyOf_59c91 wl_X7_47 (c_copyOf 12 hms6 (by decide) hM) ⟨by decide, by decide⟩ rfl hl.1 (Nat.le_of_ble_eq_true rfl) dX7_told_23 ⟨Nat.le_of_ble_eq_true rfl, Nat.le_of_ble_eq_true rfl⟩) (fun r8 S7 H locs hV hM => ?_)
  refine x_cv hV (x_runI (As := [.int x1, .int (S2.I 514 a0), .int (S2.I 516 a0), .ref r8]) (rest := [.ref q1]) C hV mc_X6_init wl_X7_53 (c_X6_init hM) ⟨by decide, by decide⟩ rfl hl.1 (Nat.le_of_ble_eq_true rfl) dX7_told_26 ⟨Nat.le_of_ble_eq_true rfl, Nat.le_of_ble_eq_true rfl⟩) (fun S9 H locs hV hM => ?_)
  refine W.widen (k := 2) (n := 16) (Nat.le_of_ble_eq_true rfl) (Nat.le_of_ble_eq_true rfl) ?_
  exact x_aret C (Or.inl ⟨_, rfl⟩) hV hM dX7_told_29

def wp_X3_told (N : Nat) (S : PS) (a0 : Nat) (K : Nat → PS → Prop) : Prop := ∀ (q1 : Nat) (S2 : PS), S.K q1 = 0 → S2 = S.newO q1 3 → S2.K a0 = 4 ∧ ∃ p5 : Nat, S2.R 257 a0 = some p5 ∧ (S2.I 258 a0).toNatClampNeg ≤ 200 ∧ wp_copyOf S2 p5 (S2.I 258 a0) (fun r8 S7 => wp_X2_init N S7 q1 r8 (fun S9 => K q1 S9))
set_option maxHeartbeats 4000000 in
set_option maxRecDepth 100000 in
theorem c_X3_told {l : Launch} {D : DX} {cA : Nat → ClassId} {z0 N : Nat} {S : PS} {a0 : Nat} {K : Nat → PS → Prop} (hM : wp_X3_told N S a0 K) : MetR l yX3_told cX3_told 1 (some (.object "LoosePlug$Rule")) 3 2 201 D cA z0 [.ref a0] S K := by
  refine x_met RX3 (by decide) rfl ?_
  intro p e s m below meth c C hin hV
  have hl := lv_entry ([.ref a0]) (n := 1) (Nat.le_of_ble_eq_true rfl)
  rw [lg_entry_eq]
  generalize (lg_sl ([.ref a0]) ++ List.replicate (1 - (lg_sl ([.ref a0])).length) Slot.unset).toArray = ls at hl ⊢
  have hl : lv_has ls 1 [(0, .ref a0)] := hl
  obtain ⟨hx, hb, hml, hown, hts, hK, hz, hlk, hr⟩ := id C
  unfold wp_X3_told at hM
  refine x_new C hV wm_X3_23 (Nat.le_of_ble_eq_true rfl) (Nat.le_of_ble_eq_true rfl) dX3_told_0 (fun q1 H S2 hq1 eS2 hV => ?_)
  have hM := hM q1 S2 hq1 eS2
  have hk3 := kq_O eS2
  refine lv_dup hx hb dX3_told_3 rfl ?_
  refine lv_aload_n hx hb dX3_told_4 rfl (lv_at hl 0 rfl) ?_
  have hk4 := hM.1
  have hM := hM.2
  obtain ⟨p5, hp5, hM⟩ := hM
  refine x_getR C hV wf_X3_9 hk4 hp5 dX3_told_5 ?_
  refine lv_aload_n hx hb dX3_told_8 rfl (lv_at hl 0 rfl) ?_
  refine x_getI C hV wf_X3_15 hk4 dX3_told_9 ?_
  have hms6 := hM.1
  have hM := hM.2
  refine x_cr hV (x_runS (As := [.ref p5, .int (S2.I 258 a0)]) (rest := [.ref q1, .ref q1]) C hV ms_J7_copyOf_59c91 wl_X3_25 (c_copyOf 200 hms6 (by decide) hM) ⟨by decide, by decide⟩ rfl hl.1 (Nat.le_of_ble_eq_true rfl) dX3_told_12 ⟨Nat.le_of_ble_eq_true rfl, Nat.le_of_ble_eq_true rfl⟩) (fun r8 S7 H locs hV hM => ?_)
  refine x_cv hV (x_runI (As := [.ref r8]) (rest := [.ref q1]) C hV mc_X2_init wl_X3_31 (c_X2_init hM) ⟨by decide, by decide⟩ rfl hl.1 (Nat.le_of_ble_eq_true rfl) dX3_told_15 ⟨Nat.le_of_ble_eq_true rfl, Nat.le_of_ble_eq_true rfl⟩) (fun S9 H locs hV hM => ?_)
  refine W.widen (k := 2) (n := 201) (Nat.le_of_ble_eq_true rfl) (Nat.le_of_ble_eq_true rfl) ?_
  exact x_aret C (Or.inl ⟨_, rfl⟩) hV hM dX3_told_18

def wp_X10_story (N : Nat) (S : PS) (a0 : Nat) (x1 : Int32) (K : Int32 → PS → Prop) : Prop := wp_X10_within N S x1 1 99 (fun r2 S1 => if r2 = 0 then (K (-1) S1) else (S1.K a0 = 11 ∧ ∃ p6 : Nat, S1.R 704 a0 = some p6 ∧ S1.K p6 = 10 ∧ if (S1.I 646 p6) < 8 then (wp_X10_useTape N S1 a0 (fun S9 => S9.K a0 = 11 ∧ ∃ p12 : Nat, S9.R 710 a0 = some p12 ∧ S9.K p12 = 8 ∧ wp_X7_readWhole N S9 p12 (fun r15 S14 => if r15 = 0 then (S14.K a0 = 11 ∧ ∃ p40 : Nat, S14.R 709 a0 = some p40 ∧ S14.K p40 = 9 ∧ wp_X8_place N S14 p40 (fun r43 S42 => K ((-100) - r43) S42)) else (S14.K a0 = 11 ∧ ∃ p19 : Nat, S14.R 704 a0 = some p19 ∧ S14.K p19 = 10 ∧ ∃ p21 : Nat, S14.R 652 p19 = some p21 ∧ ∃ p22 : Nat, S14.R 704 a0 = some p22 ∧ S14.K p22 = 10 ∧ ∃ p24 : Nat, S14.R 710 a0 = some p24 ∧ S14.K p24 = 8 ∧ wp_X7_told N S14 p24 x1 (fun r27 S26 => S26.K p21 = 27 ∧ S26.K r27 = 7 ∧ vp_in (S14.I 646 p22) (S26.ln p21) ∧ ∀ S31 : PS, S31 = S26.setQ p21 (S14.I 646 p22).toNatClampNeg (some r27) → S31.K a0 = 11 ∧ ∃ p33 : Nat, S31.R 704 a0 = some p33 ∧ S31.K p33 = 10 ∧ ∀ S35 : PS, S35 = S31.setI 646 p33 ((S31.I 646 p33) + 1) → ∃ p37 : Nat, S35.R 704 a0 = some p37 ∧ S35.K p37 = 10 ∧ K ((S35.I 646 p37) - 1) S35))))) else (K (-2) S1)))
set_option maxHeartbeats 4000000 in
set_option maxRecDepth 100000 in
theorem c_X10_story {l : Launch} {D : DX} {cA : Nat → ClassId} {z0 N : Nat} {S : PS} {a0 : Nat} {x1 : Int32} {K : Int32 → PS → Prop} (hM : wp_X10_story N S a0 x1 K) : MetI l yX10_story cX10_story 2 (some .int) 8 2 16 D cA z0 [.ref a0, .int x1] S K := by
  refine x_met RX10 (by decide) rfl ?_
  intro p e s m below meth c C hin hV
  have hl := lv_entry ([.ref a0, .int x1]) (n := 2) (Nat.le_of_ble_eq_true rfl)
  rw [lg_entry_eq]
  generalize (lg_sl ([.ref a0, .int x1]) ++ List.replicate (2 - (lg_sl ([.ref a0, .int x1])).length) Slot.unset).toArray = ls at hl ⊢
  have hl : lv_has ls 2 [(0, .ref a0), (1, .int x1)] := hl
  obtain ⟨hx, hb, hml, hown, hts, hK, hz, hlk, hr⟩ := id C
  unfold wp_X10_story at hM
  refine lv_iload_n hx hb dX10_story_0 rfl (lv_at hl 1 rfl) ?_
  refine lv_iconst (v := 1) hx hb dX10_story_1 (by decide) ?_
  refine lv_bipush (v := 99) hx hb dX10_story_2 (by decide) ?_
  refine x_ci hV (x_runS (As := [.int x1, .int 1, .int 99]) (rest := []) C hV ms_X10_within wl_X10_94 (c_X10_within hM) ⟨by decide, by decide⟩ rfl hl.1 (Nat.le_of_ble_eq_true rfl) dX10_story_4 ⟨Nat.le_of_ble_eq_true rfl, Nat.le_of_ble_eq_true rfl⟩) (fun r2 S1 H locs hV hM => ?_)
  have hz3 := hM.1
  have hM := hM.2
  refine lv_if_ne (tgt := 12) hx hb dX10_story_7 (by decide) (fun c4 => ?_) (fun c4 => ?_)
  · have hM := ite_f c4 hM
    refine lv_aload_n hx hb dX10_story_12 rfl (lv_at hl 0 rfl) ?_
    have hk5 := hM.1
    have hM := hM.2
    obtain ⟨p6, hp6, hM⟩ := hM
    refine x_getR C hV wf_X10_10 hk5 hp6 dX10_story_13 ?_
    have hk7 := hM.1
    have hM := hM.2
    refine x_getI C hV wf_X10_193 hk7 dX10_story_16 ?_
    refine lv_bipush (v := 8) hx hb dX10_story_19 (by decide) ?_
    refine lv_icmp_lt (tgt := 27) hx hb dX10_story_21 (by decide) (fun c8 => ?_) (fun c8 => ?_)
    · have hM := ite_t c8 hM
      refine lv_aload_n hx hb dX10_story_27 rfl (lv_at hl 0 rfl) ?_
      refine x_cv hV (x_runV (As := []) (rest := []) C hV mi_X10_useTape wl_X10_196 hk5 (c_X10_useTape hM) ⟨by decide, by decide⟩ rfl hl.1 (Nat.le_of_ble_eq_true rfl) dX10_story_28 ⟨Nat.le_of_ble_eq_true rfl, Nat.le_of_ble_eq_true rfl⟩) (fun S9 H locs hV hM => ?_)
      refine lv_aload_n hx hb dX10_story_31 rfl (lv_at hl 0 rfl) ?_
      have hk11 := hM.1
      have hM := hM.2
      obtain ⟨p12, hp12, hM⟩ := hM
      refine x_getR C hV wf_X10_43 hk11 hp12 dX10_story_32 ?_
      have hk13 := hM.1
      have hM := hM.2
      refine x_ci hV (x_runV (As := []) (rest := []) C hV mi_X7_readWhole wl_X10_199 hk13 (c_X7_readWhole hM) ⟨by decide, by decide⟩ rfl hl.1 (Nat.le_of_ble_eq_true rfl) dX10_story_35 ⟨Nat.le_of_ble_eq_true rfl, Nat.le_of_ble_eq_true rfl⟩) (fun r15 S14 H locs hV hM => ?_)
      have hz16 := hM.1
      have hM := hM.2
      refine lv_if_ne (tgt := 52) hx hb dX10_story_38 (by decide) (fun c17 => ?_) (fun c17 => ?_)
      · have hM := ite_f c17 hM
        refine lv_aload_n hx hb dX10_story_52 rfl (lv_at hl 0 rfl) ?_
        have hk18 := hM.1
        have hM := hM.2
        obtain ⟨p19, hp19, hM⟩ := hM
        refine x_getR C hV wf_X10_10 hk18 hp19 dX10_story_53 ?_
        have hk20 := hM.1
        have hM := hM.2
        obtain ⟨p21, hp21, hM⟩ := hM
        refine x_getR C hV wf_X10_206 hk20 hp21 dX10_story_56 ?_
        refine lv_aload_n hx hb dX10_story_59 rfl (lv_at hl 0 rfl) ?_
        obtain ⟨p22, hp22, hM⟩ := hM
        refine x_getR C hV wf_X10_10 hk18 hp22 dX10_story_60 ?_
        have hk23 := hM.1
        have hM := hM.2
        refine x_getI C hV wf_X10_193 hk23 dX10_story_63 ?_
        refine lv_aload_n hx hb dX10_story_66 rfl (lv_at hl 0 rfl) ?_
        obtain ⟨p24, hp24, hM⟩ := hM
        refine x_getR C hV wf_X10_43 hk18 hp24 dX10_story_67 ?_
        refine lv_iload_n hx hb dX10_story_70 rfl (lv_at hl 1 rfl) ?_
        have hk25 := hM.1
        have hM := hM.2
        refine x_cr hV (x_runV (As := [.int x1]) (rest := [.int (S14.I 646 p22), .ref p21]) C hV mi_X7_told wl_X10_210 hk25 (c_X7_told hM) ⟨by decide, by decide⟩ rfl hl.1 (Nat.le_of_ble_eq_true rfl) dX10_story_71 ⟨Nat.le_of_ble_eq_true rfl, Nat.le_of_ble_eq_true rfl⟩) (fun r27 S26 H locs hV hM => ?_)
        have hk28 := hM.1
        have hM := hM.2
        have hk29 := hM.1
        have hM := hM.2
        have hi30 := hM.1
        have hM := hM.2
        obtain ⟨S31, eS31⟩ : ∃ z : PS, z = S26.setQ p21 (S14.I 646 p22).toNatClampNeg (some r27) := ⟨_, rfl⟩
        have hM := hM S31 eS31
        refine x_aast C hV hk28 (by decide) rfl rfl (by decide) hk29 hi30 eS31 dX10_story_74 (fun H locs hV => ?_)
        refine lv_aload_n hx hb dX10_story_75 rfl (lv_at hl 0 rfl) ?_
        have hk32 := hM.1
        have hM := hM.2
        obtain ⟨p33, hp33, hM⟩ := hM
        refine x_getR C hV wf_X10_10 hk32 hp33 dX10_story_76 ?_
        refine lv_dup hx hb dX10_story_79 rfl ?_
        have hk34 := hM.1
        have hM := hM.2
        refine x_getI C hV wf_X10_193 hk34 dX10_story_80 ?_
        refine lv_iconst (v := 1) hx hb dX10_story_83 (by decide) ?_
        refine lv_iadd hx hb dX10_story_84 ?_
        obtain ⟨S35, eS35⟩ : ∃ z : PS, z = S31.setI 646 p33 ((S31.I 646 p33) + 1) := ⟨_, rfl⟩
        have hM := hM S35 eS35
        refine x_putI C hV wp_X10_193 hk34 ⟨rfl, rfl⟩ eS35 dX10_story_85 (fun H locs hV => ?_)
        refine lv_aload_n hx hb dX10_story_88 rfl (lv_at hl 0 rfl) ?_
        have hk36 := kp_I eS35 hk32
        obtain ⟨p37, hp37, hM⟩ := hM
        refine x_getR C hV wf_X10_10 hk36 hp37 dX10_story_89 ?_
        have hk38 := hM.1
        have hM := hM.2
        refine x_getI C hV wf_X10_193 hk38 dX10_story_92 ?_
        refine lv_iconst (v := 1) hx hb dX10_story_95 (by decide) ?_
        refine lv_isub hx hb dX10_story_96 ?_
        refine W.widen (k := 2) (n := 16) (Nat.le_of_ble_eq_true rfl) (Nat.le_of_ble_eq_true rfl) ?_
        exact x_iret C hV hM dX10_story_97
      have hM := ite_t c17 hM
      refine lv_bipush (v := (-100)) hx hb dX10_story_41 (by decide) ?_
      refine lv_aload_n hx hb dX10_story_43 rfl (lv_at hl 0 rfl) ?_
      have hk39 := hM.1
      have hM := hM.2
      obtain ⟨p40, hp40, hM⟩ := hM
      refine x_getR C hV wf_X10_34 hk39 hp40 dX10_story_44 ?_
      have hk41 := hM.1
      have hM := hM.2
      refine x_ci hV (x_runV (As := []) (rest := [.int (-100)]) C hV mi_X8_place wl_X10_203 hk41 (c_X8_place hM) ⟨by decide, by decide⟩ rfl hl.1 (Nat.le_of_ble_eq_true rfl) dX10_story_47 ⟨Nat.le_of_ble_eq_true rfl, Nat.le_of_ble_eq_true rfl⟩) (fun r43 S42 H locs hV hM => ?_)
      refine lv_isub hx hb dX10_story_50 ?_
      refine W.widen (k := 2) (n := 16) (Nat.le_of_ble_eq_true rfl) (Nat.le_of_ble_eq_true rfl) ?_
      exact x_iret C hV hM dX10_story_51
    have hM := ite_f c8 hM
    refine lv_bipush (v := (-2)) hx hb dX10_story_24 (by decide) ?_
    refine W.widen (k := 2) (n := 16) (Nat.le_of_ble_eq_true rfl) (Nat.le_of_ble_eq_true rfl) ?_
    exact x_iret C hV hM dX10_story_26
  have hM := ite_t c4 hM
  refine lv_iconst (v := (-1)) hx hb dX10_story_10 (by decide) ?_
  refine W.widen (k := 2) (n := 16) (Nat.le_of_ble_eq_true rfl) (Nat.le_of_ble_eq_true rfl) ?_
  exact x_iret C hV hM dX10_story_11

