def wp_X0_began (N : Nat) (S : PS) (a0 : Nat) (x1 : Int32) (K : PS → Prop) : Prop := S.K a0 = 1 ∧ if 30 ≤ (S.I 65 a0) then (K S) else (∃ p3 : Nat, S.R 64 a0 = some p3 ∧ S.K p3 = 20 ∧ vp_in (S.I 65 a0) (S.ln p3) ∧ ∀ S6 : PS, S6 = S.setA p3 (S.I 65 a0).toNatClampNeg x1 → ∀ S8 : PS, S8 = S6.setI 65 a0 ((S6.I 65 a0) + 1) → K S8)
set_option maxHeartbeats 4000000 in
set_option maxRecDepth 100000 in
theorem c_X0_began {l : Launch} {D : DX} {cA : Nat → ClassId} {z0 N : Nat} {S : PS} {a0 : Nat} {x1 : Int32} {K : PS → Prop} (hM : wp_X0_began N S a0 x1 K) : MetV l yX0_began cX0_began 2 none 0 0 0 D cA z0 [.ref a0, .int x1] S K := by
  refine x_met RX0 (by decide) rfl ?_
  intro p e s m below meth c C hin hV
  have hl := lv_entry ([.ref a0, .int x1]) (n := 2) (Nat.le_of_ble_eq_true rfl)
  rw [lg_entry_eq]
  generalize (lg_sl ([.ref a0, .int x1]) ++ List.replicate (2 - (lg_sl ([.ref a0, .int x1])).length) Slot.unset).toArray = ls at hl ⊢
  have hl : lv_has ls 2 [(0, .ref a0), (1, .int x1)] := hl
  obtain ⟨hx, hb, hml, hown, hts, hK, hz, hlk, hr⟩ := id C
  unfold wp_X0_began at hM
  refine lv_aload_n hx hb dX0_began_0 rfl (lv_at hl 0 rfl) ?_
  have hk1 := hM.1
  have hM := hM.2
  refine x_getI C hV wf_X0_15 hk1 dX0_began_1 ?_
  refine lv_bipush (v := 30) hx hb dX0_began_4 (by decide) ?_
  refine lv_icmp_ge (tgt := 29) hx hb dX0_began_6 (by decide) (fun c2 => ?_) (fun c2 => ?_)
  · have hM := ite_t c2 hM
    exact x_vret C hV hM dX0_began_29
  have hM := ite_f c2 hM
  refine lv_aload_n hx hb dX0_began_9 rfl (lv_at hl 0 rfl) ?_
  obtain ⟨p3, hp3, hM⟩ := hM
  refine x_getR C hV wf_X0_9 hk1 hp3 dX0_began_10 ?_
  refine lv_aload_n hx hb dX0_began_13 rfl (lv_at hl 0 rfl) ?_
  refine x_getI C hV wf_X0_15 hk1 dX0_began_14 ?_
  refine lv_iload_n hx hb dX0_began_17 rfl (lv_at hl 1 rfl) ?_
  have hk4 := hM.1
  have hM := hM.2
  have hi5 := hM.1
  have hM := hM.2
  obtain ⟨S6, eS6⟩ : ∃ z : PS, z = S.setA p3 (S.I 65 a0).toNatClampNeg x1 := ⟨_, rfl⟩
  have hM := hM S6 eS6
  refine x_iast C hV hk4 hi5 eS6 dX0_began_18 (fun H locs hV => ?_)
  refine lv_aload_n hx hb dX0_began_19 rfl (lv_at hl 0 rfl) ?_
  refine lv_dup hx hb dX0_began_20 rfl ?_
  have hk7 := kp_A eS6 hk1
  refine x_getI C hV wf_X0_15 hk7 dX0_began_21 ?_
  refine lv_iconst (v := 1) hx hb dX0_began_24 (by decide) ?_
  refine lv_iadd hx hb dX0_began_25 ?_
  obtain ⟨S8, eS8⟩ : ∃ z : PS, z = S6.setI 65 a0 ((S6.I 65 a0) + 1) := ⟨_, rfl⟩
  have hM := hM S8 eS8
  refine x_putI C hV wp_X0_15 hk7 ⟨rfl, rfl⟩ eS8 dX0_began_26 (fun H locs hV => ?_)
  exact x_vret C hV hM dX0_began_29

def wp_X0_boundsOfPart (N : Nat) (S : PS) (a0 : Nat) (x1 : Int32) (K : Int32 → PS → Prop) : Prop := S.K a0 = 1 ∧ wp_X0_began N S a0 12 (fun S2 => S2.K a0 = 1 ∧ ∀ v5 : Int32, v5 = ((S2.I 69 a0) - (S2.I 67 a0)) → if v5 = 0 then (∀ S8 : PS, S8 = S2.setI 66 a0 1 → K 0 S8) else ((¬ v5 = 0) ∧ K (x1 / v5) S2))
set_option maxHeartbeats 4000000 in
set_option maxRecDepth 100000 in
theorem c_X0_boundsOfPart {l : Launch} {D : DX} {cA : Nat → ClassId} {z0 N : Nat} {S : PS} {a0 : Nat} {x1 : Int32} {K : Int32 → PS → Prop} (hM : wp_X0_boundsOfPart N S a0 x1 K) : MetI l yX0_boundsOfPart cX0_boundsOfPart 3 (some .int) 1 0 0 D cA z0 [.ref a0, .int x1] S K := by
  refine x_met RX0 (by decide) rfl ?_
  intro p e s m below meth c C hin hV
  have hl := lv_entry ([.ref a0, .int x1]) (n := 3) (Nat.le_of_ble_eq_true rfl)
  rw [lg_entry_eq]
  generalize (lg_sl ([.ref a0, .int x1]) ++ List.replicate (3 - (lg_sl ([.ref a0, .int x1])).length) Slot.unset).toArray = ls at hl ⊢
  have hl : lv_has ls 3 [(0, .ref a0), (1, .int x1)] := hl
  obtain ⟨hx, hb, hml, hown, hts, hK, hz, hlk, hr⟩ := id C
  unfold wp_X0_boundsOfPart at hM
  refine lv_aload_n hx hb dX0_boundsOfPart_0 rfl (lv_at hl 0 rfl) ?_
  refine lv_bipush (v := 12) hx hb dX0_boundsOfPart_1 (by decide) ?_
  have hk1 := hM.1
  have hM := hM.2
  refine x_cv hV (x_runV (As := [.int 12]) (rest := []) C hV mi_X0_began wl_X0_32 hk1 (c_X0_began hM) ⟨by decide, by decide⟩ rfl hl.1 (Nat.le_of_ble_eq_true rfl) dX0_boundsOfPart_3 ⟨Nat.zero_le _, Nat.zero_le _⟩) (fun S2 H locs hV hM => ?_)
  refine lv_aload_n hx hb dX0_boundsOfPart_6 rfl (lv_at hl 0 rfl) ?_
  have hk4 := hM.1
  have hM := hM.2
  refine x_getI C hV wf_X0_29 hk4 dX0_boundsOfPart_7 ?_
  refine lv_aload_n hx hb dX0_boundsOfPart_10 rfl (lv_at hl 0 rfl) ?_
  refine x_getI C hV wf_X0_23 hk4 dX0_boundsOfPart_11 ?_
  refine lv_isub hx hb dX0_boundsOfPart_14 ?_
  refine lv_topi (fun v5 ev5 => ?_)
  have hM := hM v5 ev5
  refine lv_istore_n (lv' := [(2, .int v5), (0, .ref a0), (1, .int x1)]) hx hb dX0_boundsOfPart_15 rfl hl (by decide) rfl (fun ls hl => ?_)
  refine lv_iload_n hx hb dX0_boundsOfPart_16 rfl (lv_at hl 0 rfl) ?_
  refine lv_if_ne (tgt := 27) hx hb dX0_boundsOfPart_17 (by decide) (fun c6 => ?_) (fun c6 => ?_)
  · have hM := ite_f c6 hM
    refine lv_iload_n hx hb dX0_boundsOfPart_27 rfl (lv_at hl 2 rfl) ?_
    refine lv_iload_n hx hb dX0_boundsOfPart_28 rfl (lv_at hl 0 rfl) ?_
    have hne7 := hM.1
    have hM := hM.2
    refine lv_idiv hx hb dX0_boundsOfPart_29 hne7 ?_
    exact x_iret C hV hM dX0_boundsOfPart_30
  have hM := ite_t c6 hM
  refine lv_aload_n hx hb dX0_boundsOfPart_20 rfl (lv_at hl 1 rfl) ?_
  refine lv_iconst (v := 1) hx hb dX0_boundsOfPart_21 (by decide) ?_
  obtain ⟨S8, eS8⟩ : ∃ z : PS, z = S2.setI 66 a0 1 := ⟨_, rfl⟩
  have hM := hM S8 eS8
  refine x_putI C hV wp_X0_19 hk4 (nz_b (by decide)) eS8 dX0_boundsOfPart_22 (fun H locs hV => ?_)
  refine lv_iconst (v := 0) hx hb dX0_boundsOfPart_25 (by decide) ?_
  exact x_iret C hV hM dX0_boundsOfPart_26

def wp_X0_boundsOfLoose (N : Nat) (S : PS) (a0 : Nat) (x1 : Int32) (K : Int32 → PS → Prop) : Prop := S.K a0 = 1 ∧ wp_X0_began N S a0 50 (fun S2 => S2.K a0 = 1 ∧ wp_X0_boundsOfPart N S2 a0 (x1 + 2) (fun r6 S5 => K (r6 ^^^ 1) S5))
set_option maxHeartbeats 4000000 in
set_option maxRecDepth 100000 in
theorem c_X0_boundsOfLoose {l : Launch} {D : DX} {cA : Nat → ClassId} {z0 N : Nat} {S : PS} {a0 : Nat} {x1 : Int32} {K : Int32 → PS → Prop} (hM : wp_X0_boundsOfLoose N S a0 x1 K) : MetI l yX0_boundsOfLoose cX0_boundsOfLoose 2 (some .int) 2 0 0 D cA z0 [.ref a0, .int x1] S K := by
  refine x_met RX0 (by decide) rfl ?_
  intro p e s m below meth c C hin hV
  have hl := lv_entry ([.ref a0, .int x1]) (n := 2) (Nat.le_of_ble_eq_true rfl)
  rw [lg_entry_eq]
  generalize (lg_sl ([.ref a0, .int x1]) ++ List.replicate (2 - (lg_sl ([.ref a0, .int x1])).length) Slot.unset).toArray = ls at hl ⊢
  have hl : lv_has ls 2 [(0, .ref a0), (1, .int x1)] := hl
  obtain ⟨hx, hb, hml, hown, hts, hK, hz, hlk, hr⟩ := id C
  unfold wp_X0_boundsOfLoose at hM
  refine lv_aload_n hx hb dX0_boundsOfLoose_0 rfl (lv_at hl 0 rfl) ?_
  refine lv_bipush (v := 50) hx hb dX0_boundsOfLoose_1 (by decide) ?_
  have hk1 := hM.1
  have hM := hM.2
  refine x_cv hV (x_runV (As := [.int 50]) (rest := []) C hV mi_X0_began wl_X0_32 hk1 (c_X0_began hM) ⟨by decide, by decide⟩ rfl hl.1 (Nat.le_of_ble_eq_true rfl) dX0_boundsOfLoose_3 ⟨Nat.zero_le _, Nat.zero_le _⟩) (fun S2 H locs hV hM => ?_)
  refine lv_aload_n hx hb dX0_boundsOfLoose_6 rfl (lv_at hl 0 rfl) ?_
  refine lv_iload_n hx hb dX0_boundsOfLoose_7 rfl (lv_at hl 1 rfl) ?_
  refine lv_iconst (v := 2) hx hb dX0_boundsOfLoose_8 (by decide) ?_
  refine lv_iadd hx hb dX0_boundsOfLoose_9 ?_
  have hk4 := hM.1
  have hM := hM.2
  refine x_ci hV (x_runV (As := [.int (x1 + 2)]) (rest := []) C hV mi_X0_boundsOfPart wl_X0_49 hk4 (c_X0_boundsOfPart hM) ⟨by decide, by decide⟩ rfl hl.1 (Nat.le_of_ble_eq_true rfl) dX0_boundsOfLoose_10 ⟨Nat.zero_le _, Nat.zero_le _⟩) (fun r6 S5 H locs hV hM => ?_)
  refine lv_iconst (v := 1) hx hb dX0_boundsOfLoose_13 (by decide) ?_
  refine lv_ixor hx hb dX0_boundsOfLoose_14 ?_
  exact x_iret C hV hM dX0_boundsOfLoose_15

def wp_X0_bounds (N : Nat) (S : PS) (a0 : Nat) (x1 : Int32) (K : Int32 → PS → Prop) : Prop := S.K a0 = 1 ∧ if (S.I 68 a0) = 4 then (wp_X0_boundsOfLoose N S a0 x1 (fun r4 S3 => K r4 S3)) else if (S.I 68 a0) = 5 then (wp_X0_began N S a0 61 (fun S6 => S6.K a0 = 1 ∧ wp_X0_boundsOfLoose N S6 a0 x1 (fun r10 S9 => K (r10 * 2) S9))) else wp_X0_boundsOfPart N S a0 x1 (fun r12 S11 => K r12 S11)
set_option maxHeartbeats 4000000 in
set_option maxRecDepth 100000 in
theorem c_X0_bounds {l : Launch} {D : DX} {cA : Nat → ClassId} {z0 N : Nat} {S : PS} {a0 : Nat} {x1 : Int32} {K : Int32 → PS → Prop} (hM : wp_X0_bounds N S a0 x1 K) : MetI l yX0_bounds cX0_bounds 2 (some .int) 3 0 0 D cA z0 [.ref a0, .int x1] S K := by
  refine x_met RX0 (by decide) rfl ?_
  intro p e s m below meth c C hin hV
  have hl := lv_entry ([.ref a0, .int x1]) (n := 2) (Nat.le_of_ble_eq_true rfl)
  rw [lg_entry_eq]
  generalize (lg_sl ([.ref a0, .int x1]) ++ List.replicate (2 - (lg_sl ([.ref a0, .int x1])).length) Slot.unset).toArray = ls at hl ⊢
  have hl : lv_has ls 2 [(0, .ref a0), (1, .int x1)] := hl
  obtain ⟨hx, hb, hml, hown, hts, hK, hz, hlk, hr⟩ := id C
  unfold wp_X0_bounds at hM
  refine lv_aload_n hx hb dX0_bounds_0 rfl (lv_at hl 0 rfl) ?_
  have hk1 := hM.1
  have hM := hM.2
  refine x_getI C hV wf_X0_26 hk1 dX0_bounds_1 ?_
  by_cases c2 : (S.I 68 a0) = 4
  · have hM := ite_t c2 hM
    refine lv_lookup (tgt := 32) (off := 28) hx hb dX0_bounds_4 (by decide) (by rw [c2]; decide) (by decide) ?_
    refine lv_aload_n hx hb dX0_bounds_32 rfl (lv_at hl 0 rfl) ?_
    refine lv_iload_n hx hb dX0_bounds_33 rfl (lv_at hl 1 rfl) ?_
    refine x_ci hV (x_runV (As := [.int x1]) (rest := []) C hV mi_X0_boundsOfLoose wl_X0_46 hk1 (c_X0_boundsOfLoose hM) ⟨by decide, by decide⟩ rfl hl.1 (Nat.le_of_ble_eq_true rfl) dX0_bounds_34 ⟨Nat.zero_le _, Nat.zero_le _⟩) (fun r4 S3 H locs hV hM => ?_)
    exact x_iret C hV hM dX0_bounds_37
  have hM := ite_f c2 hM
  by_cases c5 : (S.I 68 a0) = 5
  · have hM := ite_t c5 hM
    refine lv_lookup (tgt := 38) (off := 34) hx hb dX0_bounds_4 (by decide) (by rw [c5]; decide) (by decide) ?_
    refine lv_aload_n hx hb dX0_bounds_38 rfl (lv_at hl 0 rfl) ?_
    refine lv_bipush (v := 61) hx hb dX0_bounds_39 (by decide) ?_
    refine x_cv hV (x_runV (As := [.int 61]) (rest := []) C hV mi_X0_began wl_X0_32 hk1 (c_X0_began hM) ⟨by decide, by decide⟩ rfl hl.1 (Nat.le_of_ble_eq_true rfl) dX0_bounds_41 ⟨Nat.zero_le _, Nat.zero_le _⟩) (fun S6 H locs hV hM => ?_)
    refine lv_aload_n hx hb dX0_bounds_44 rfl (lv_at hl 0 rfl) ?_
    refine lv_iload_n hx hb dX0_bounds_45 rfl (lv_at hl 1 rfl) ?_
    have hk8 := hM.1
    have hM := hM.2
    refine x_ci hV (x_runV (As := [.int x1]) (rest := []) C hV mi_X0_boundsOfLoose wl_X0_46 hk8 (c_X0_boundsOfLoose hM) ⟨by decide, by decide⟩ rfl hl.1 (Nat.le_of_ble_eq_true rfl) dX0_bounds_46 ⟨Nat.zero_le _, Nat.zero_le _⟩) (fun r10 S9 H locs hV hM => ?_)
    refine lv_iconst (v := 2) hx hb dX0_bounds_49 (by decide) ?_
    refine lv_imul hx hb dX0_bounds_50 ?_
    exact x_iret C hV hM dX0_bounds_51
  have hM := ite_f c5 hM
  refine lv_lookup (tgt := 52) (off := 48) hx hb dX0_bounds_4 (by decide) (show Op.lookupswitch.offset [(4, 28), (5, 34)] (48) (S.I 68 a0).toInt = 48 from by rw [lv_osw c2 (by decide), lv_osw c5 (by decide)]; rfl) (by decide) ?_
  refine lv_aload_n hx hb dX0_bounds_52 rfl (lv_at hl 0 rfl) ?_
  refine lv_iload_n hx hb dX0_bounds_53 rfl (lv_at hl 1 rfl) ?_
  refine x_ci hV (x_runV (As := [.int x1]) (rest := []) C hV mi_X0_boundsOfPart wl_X0_49 hk1 (c_X0_boundsOfPart hM) ⟨by decide, by decide⟩ rfl hl.1 (Nat.le_of_ble_eq_true rfl) dX0_bounds_54 ⟨Nat.zero_le _, Nat.zero_le _⟩) (fun r12 S11 H locs hV hM => ?_)
  exact x_iret C hV hM dX0_bounds_57

def wp_X0_forget (N : Nat) (S : PS) (a0 : Nat) (K : PS → Prop) : Prop := S.K a0 = 1 ∧ ∀ S2 : PS, S2 = S.setI 65 a0 0 → ∀ S4 : PS, S4 = S2.setI 66 a0 0 → K S4
set_option maxHeartbeats 4000000 in
set_option maxRecDepth 100000 in
theorem c_X0_forget {l : Launch} {D : DX} {cA : Nat → ClassId} {z0 N : Nat} {S : PS} {a0 : Nat} {K : PS → Prop} (hM : wp_X0_forget N S a0 K) : MetV l yX0_forget cX0_forget 1 none 0 0 0 D cA z0 [.ref a0] S K := by
  refine x_met RX0 (by decide) rfl ?_
  intro p e s m below meth c C hin hV
  have hl := lv_entry ([.ref a0]) (n := 1) (Nat.le_of_ble_eq_true rfl)
  rw [lg_entry_eq]
  generalize (lg_sl ([.ref a0]) ++ List.replicate (1 - (lg_sl ([.ref a0])).length) Slot.unset).toArray = ls at hl ⊢
  have hl : lv_has ls 1 [(0, .ref a0)] := hl
  obtain ⟨hx, hb, hml, hown, hts, hK, hz, hlk, hr⟩ := id C
  unfold wp_X0_forget at hM
  refine lv_aload_n hx hb dX0_forget_0 rfl (lv_at hl 0 rfl) ?_
  refine lv_iconst (v := 0) hx hb dX0_forget_1 (by decide) ?_
  have hk1 := hM.1
  have hM := hM.2
  obtain ⟨S2, eS2⟩ : ∃ z : PS, z = S.setI 65 a0 0 := ⟨_, rfl⟩
  have hM := hM S2 eS2
  refine x_putI C hV wp_X0_15 hk1 ⟨rfl, rfl⟩ eS2 dX0_forget_2 (fun H locs hV => ?_)
  refine lv_aload_n hx hb dX0_forget_5 rfl (lv_at hl 0 rfl) ?_
  refine lv_iconst (v := 0) hx hb dX0_forget_6 (by decide) ?_
  have hk3 := kp_I eS2 hk1
  obtain ⟨S4, eS4⟩ : ∃ z : PS, z = S2.setI 66 a0 0 := ⟨_, rfl⟩
  have hM := hM S4 eS4
  refine x_putI C hV wp_X0_19 hk3 (nz_b (by decide)) eS4 dX0_forget_7 (fun H locs hV => ?_)
  exact x_vret C hV hM dX0_forget_10

def wp_X0_play (N : Nat) (S : PS) (a0 : Nat) (x1 : Int32) (x2 : Int32) (x3 : Int32) (K : PS → Prop) : Prop := S.K a0 = 1 ∧ ∀ S2 : PS, S2 = S.setI 67 a0 x1 → ∀ S4 : PS, S4 = S2.setI 68 a0 x2 → ∀ S6 : PS, S6 = S4.setI 69 a0 x3 → K S6
set_option maxHeartbeats 4000000 in
set_option maxRecDepth 100000 in
theorem c_X0_play {l : Launch} {D : DX} {cA : Nat → ClassId} {z0 N : Nat} {S : PS} {a0 : Nat} {x1 : Int32} {x2 : Int32} {x3 : Int32} {K : PS → Prop} (hM : wp_X0_play N S a0 x1 x2 x3 K) : MetV l yX0_play cX0_play 4 none 0 0 0 D cA z0 [.ref a0, .int x1, .int x2, .int x3] S K := by
  refine x_met RX0 (by decide) rfl ?_
  intro p e s m below meth c C hin hV
  have hl := lv_entry ([.ref a0, .int x1, .int x2, .int x3]) (n := 4) (Nat.le_of_ble_eq_true rfl)
  rw [lg_entry_eq]
  generalize (lg_sl ([.ref a0, .int x1, .int x2, .int x3]) ++ List.replicate (4 - (lg_sl ([.ref a0, .int x1, .int x2, .int x3])).length) Slot.unset).toArray = ls at hl ⊢
  have hl : lv_has ls 4 [(0, .ref a0), (1, .int x1), (2, .int x2), (3, .int x3)] := hl
  obtain ⟨hx, hb, hml, hown, hts, hK, hz, hlk, hr⟩ := id C
  unfold wp_X0_play at hM
  refine lv_aload_n hx hb dX0_play_0 rfl (lv_at hl 0 rfl) ?_
  refine lv_iload_n hx hb dX0_play_1 rfl (lv_at hl 1 rfl) ?_
  have hk1 := hM.1
  have hM := hM.2
  obtain ⟨S2, eS2⟩ : ∃ z : PS, z = S.setI 67 a0 x1 := ⟨_, rfl⟩
  have hM := hM S2 eS2
  refine x_putI C hV wp_X0_23 hk1 ⟨rfl, rfl⟩ eS2 dX0_play_2 (fun H locs hV => ?_)
  refine lv_aload_n hx hb dX0_play_5 rfl (lv_at hl 0 rfl) ?_
  refine lv_iload_n hx hb dX0_play_6 rfl (lv_at hl 2 rfl) ?_
  have hk3 := kp_I eS2 hk1
  obtain ⟨S4, eS4⟩ : ∃ z : PS, z = S2.setI 68 a0 x2 := ⟨_, rfl⟩
  have hM := hM S4 eS4
  refine x_putI C hV wp_X0_26 hk3 ⟨rfl, rfl⟩ eS4 dX0_play_7 (fun H locs hV => ?_)
  refine lv_aload_n hx hb dX0_play_10 rfl (lv_at hl 0 rfl) ?_
  refine lv_iload_n hx hb dX0_play_11 rfl (lv_at hl 3 rfl) ?_
  have hk5 := kp_I eS4 hk3
  obtain ⟨S6, eS6⟩ : ∃ z : PS, z = S4.setI 69 a0 x3 := ⟨_, rfl⟩
  have hM := hM S6 eS6
  refine x_putI C hV wp_X0_29 hk5 ⟨rfl, rfl⟩ eS6 dX0_play_12 (fun H locs hV => ?_)
  exact x_vret C hV hM dX0_play_15

def wp_X0_takesOfPart (N : Nat) (S : PS) (a0 : Nat) (x1 : Int32) (K : Int32 → PS → Prop) : Prop := S.K a0 = 1 ∧ wp_X0_began N S a0 10 (fun S2 => S2.K a0 = 1 ∧ K (x1 + (S2.I 67 a0)) S2)
set_option maxHeartbeats 4000000 in
set_option maxRecDepth 100000 in
theorem c_X0_takesOfPart {l : Launch} {D : DX} {cA : Nat → ClassId} {z0 N : Nat} {S : PS} {a0 : Nat} {x1 : Int32} {K : Int32 → PS → Prop} (hM : wp_X0_takesOfPart N S a0 x1 K) : MetI l yX0_takesOfPart cX0_takesOfPart 2 (some .int) 1 0 0 D cA z0 [.ref a0, .int x1] S K := by
  refine x_met RX0 (by decide) rfl ?_
  intro p e s m below meth c C hin hV
  have hl := lv_entry ([.ref a0, .int x1]) (n := 2) (Nat.le_of_ble_eq_true rfl)
  rw [lg_entry_eq]
  generalize (lg_sl ([.ref a0, .int x1]) ++ List.replicate (2 - (lg_sl ([.ref a0, .int x1])).length) Slot.unset).toArray = ls at hl ⊢
  have hl : lv_has ls 2 [(0, .ref a0), (1, .int x1)] := hl
  obtain ⟨hx, hb, hml, hown, hts, hK, hz, hlk, hr⟩ := id C
  unfold wp_X0_takesOfPart at hM
  refine lv_aload_n hx hb dX0_takesOfPart_0 rfl (lv_at hl 0 rfl) ?_
  refine lv_bipush (v := 10) hx hb dX0_takesOfPart_1 (by decide) ?_
  have hk1 := hM.1
  have hM := hM.2
  refine x_cv hV (x_runV (As := [.int 10]) (rest := []) C hV mi_X0_began wl_X0_32 hk1 (c_X0_began hM) ⟨by decide, by decide⟩ rfl hl.1 (Nat.le_of_ble_eq_true rfl) dX0_takesOfPart_3 ⟨Nat.zero_le _, Nat.zero_le _⟩) (fun S2 H locs hV hM => ?_)
  refine lv_iload_n hx hb dX0_takesOfPart_6 rfl (lv_at hl 1 rfl) ?_
  refine lv_aload_n hx hb dX0_takesOfPart_7 rfl (lv_at hl 0 rfl) ?_
  have hk4 := hM.1
  have hM := hM.2
  refine x_getI C hV wf_X0_23 hk4 dX0_takesOfPart_8 ?_
  refine lv_iadd hx hb dX0_takesOfPart_11 ?_
  exact x_iret C hV hM dX0_takesOfPart_12

def wq_X0_takes_82 (N : Nat) (K : Int32 → PS → Prop) (S : PS) (a0 : Nat) (x1 : Int32) : Prop := S.K a0 = 1 ∧ wp_X0_takesOfPart N S a0 x1 (fun r11 S10 => K r11 S10)
def wq_X0_takes_54 (N : Nat) (K : Int32 → PS → Prop) (S : PS) (a0 : Nat) (x1 : Int32) : Prop := S.K a0 = 1 ∧ wp_X0_began N S a0 51 (fun S14 => S14.K a0 = 1 ∧ wp_X0_takesOfPart N S14 a0 x1 (fun r18 S17 => K (0 - r18) S17))
def wp_X0_takes (N : Nat) (S : PS) (a0 : Nat) (x1 : Int32) (K : Int32 → PS → Prop) : Prop := S.K a0 = 1 ∧ if (S.I 68 a0) = 2 then (wp_X0_began N S a0 30 (fun S3 => S3.K a0 = 1 ∧ wp_X0_takesOfPart N S3 a0 x1 (fun r7 S6 => K (r7 * 3) S6))) else if (S.I 68 a0) = 3 then (wq_X0_takes_82 N K S a0 x1) else if (S.I 68 a0) = 4 then (wq_X0_takes_54 N K S a0 x1) else if (S.I 68 a0) = 5 then (wq_X0_takes_54 N K S a0 x1) else if (S.I 68 a0) = 6 then (wp_X0_began N S a0 70 (fun S21 => S21.K a0 = 1 ∧ wp_X0_takesOfPart N S21 a0 x1 (fun r25 S24 => K (r25 - 4) S24))) else wq_X0_takes_82 N K S a0 x1
set_option maxHeartbeats 4000000 in
set_option maxRecDepth 100000 in
theorem tq_X0_takes_82 {p : Program} {l : Launch} {e : Env} {s : State} {m : MethodId} {args : Array Value} {below : List Frame} {meth : Method} {c : Code} {D : DX} {cA : Nat → ClassId} {z0 N : Nat} {K : Int32 → PS → Prop} (C : CX p s m args meth c cX0_takes 2 RX0 (some .int) D cA z0) : ∀ (S : PS) (a0 : Nat) (x1 : Int32) (H : Heap) (locs : List Loc) (ls : Array Slot), wq_X0_takes_82 N K S a0 x1 → XV D cA z0 s S H locs → lv_has ls 2 [(0, .ref a0), (1, .int x1)] → W p l e (rmd 2 0 0) s m args below meth c H locs 0 0 (MQ below (va_Qi K (XK D cA z0) (zA z0)) args s 0 0 (zA z0)) (F0 m 82 ls []) := by
  obtain ⟨hx, hb, hml, hown, hts, hK, hz, hlk, hr⟩ := id C
  intro S a0 x1 H locs ls hM hV hl
  unfold wq_X0_takes_82 at hM
  refine lv_aload_n hx hb dX0_takes_82 rfl (lv_at hl 0 rfl) ?_
  refine lv_iload_n hx hb dX0_takes_83 rfl (lv_at hl 1 rfl) ?_
  have hk9 := hM.1
  have hM := hM.2
  refine x_ci hV (x_runV (As := [.int x1]) (rest := []) C hV mi_X0_takesOfPart wl_X0_36 hk9 (c_X0_takesOfPart hM) ⟨by decide, by decide⟩ rfl hl.1 (Nat.le_of_ble_eq_true rfl) dX0_takes_84 ⟨Nat.zero_le _, Nat.zero_le _⟩) (fun r11 S10 H locs hV hM => ?_)
  exact x_iret C hV hM dX0_takes_87
set_option maxHeartbeats 4000000 in
set_option maxRecDepth 100000 in
theorem tq_X0_takes_54 {p : Program} {l : Launch} {e : Env} {s : State} {m : MethodId} {args : Array Value} {below : List Frame} {meth : Method} {c : Code} {D : DX} {cA : Nat → ClassId} {z0 N : Nat} {K : Int32 → PS → Prop} (C : CX p s m args meth c cX0_takes 2 RX0 (some .int) D cA z0) : ∀ (S : PS) (a0 : Nat) (x1 : Int32) (H : Heap) (locs : List Loc) (ls : Array Slot), wq_X0_takes_54 N K S a0 x1 → XV D cA z0 s S H locs → lv_has ls 2 [(0, .ref a0), (1, .int x1)] → W p l e (rmd 2 0 0) s m args below meth c H locs 0 0 (MQ below (va_Qi K (XK D cA z0) (zA z0)) args s 0 0 (zA z0)) (F0 m 54 ls []) := by
  obtain ⟨hx, hb, hml, hown, hts, hK, hz, hlk, hr⟩ := id C
  intro S a0 x1 H locs ls hM hV hl
  unfold wq_X0_takes_54 at hM
  refine lv_aload_n hx hb dX0_takes_54 rfl (lv_at hl 0 rfl) ?_
  refine lv_bipush (v := 51) hx hb dX0_takes_55 (by decide) ?_
  have hk13 := hM.1
  have hM := hM.2
  refine x_cv hV (x_runV (As := [.int 51]) (rest := []) C hV mi_X0_began wl_X0_32 hk13 (c_X0_began hM) ⟨by decide, by decide⟩ rfl hl.1 (Nat.le_of_ble_eq_true rfl) dX0_takes_57 ⟨Nat.zero_le _, Nat.zero_le _⟩) (fun S14 H locs hV hM => ?_)
  refine lv_iconst (v := 0) hx hb dX0_takes_60 (by decide) ?_
  refine lv_aload_n hx hb dX0_takes_61 rfl (lv_at hl 0 rfl) ?_
  refine lv_iload_n hx hb dX0_takes_62 rfl (lv_at hl 1 rfl) ?_
  have hk16 := hM.1
  have hM := hM.2
  refine x_ci hV (x_runV (As := [.int x1]) (rest := [.int 0]) C hV mi_X0_takesOfPart wl_X0_36 hk16 (c_X0_takesOfPart hM) ⟨by decide, by decide⟩ rfl hl.1 (Nat.le_of_ble_eq_true rfl) dX0_takes_63 ⟨Nat.zero_le _, Nat.zero_le _⟩) (fun r18 S17 H locs hV hM => ?_)
  refine lv_isub hx hb dX0_takes_66 ?_
  exact x_iret C hV hM dX0_takes_67
set_option maxHeartbeats 4000000 in
set_option maxRecDepth 100000 in
theorem c_X0_takes {l : Launch} {D : DX} {cA : Nat → ClassId} {z0 N : Nat} {S : PS} {a0 : Nat} {x1 : Int32} {K : Int32 → PS → Prop} (hM : wp_X0_takes N S a0 x1 K) : MetI l yX0_takes cX0_takes 2 (some .int) 2 0 0 D cA z0 [.ref a0, .int x1] S K := by
  refine x_met RX0 (by decide) rfl ?_
  intro p e s m below meth c C hin hV
  have hl := lv_entry ([.ref a0, .int x1]) (n := 2) (Nat.le_of_ble_eq_true rfl)
  rw [lg_entry_eq]
  generalize (lg_sl ([.ref a0, .int x1]) ++ List.replicate (2 - (lg_sl ([.ref a0, .int x1])).length) Slot.unset).toArray = ls at hl ⊢
  have hl : lv_has ls 2 [(0, .ref a0), (1, .int x1)] := hl
  obtain ⟨hx, hb, hml, hown, hts, hK, hz, hlk, hr⟩ := id C
  unfold wp_X0_takes at hM
  refine lv_aload_n hx hb dX0_takes_0 rfl (lv_at hl 0 rfl) ?_
  have hk1 := hM.1
  have hM := hM.2
  refine x_getI C hV wf_X0_26 hk1 dX0_takes_1 ?_
  by_cases c2 : (S.I 68 a0) = 2
  · have hM := ite_t c2 hM
    refine lv_tableIn (tgt := 40) (off := 36) hx hb dX0_takes_4 (by rw [c2]; decide) (by rw [c2]; decide) (by rw [c2]; decide) (by decide) ?_
    refine lv_aload_n hx hb dX0_takes_40 rfl (lv_at hl 0 rfl) ?_
    refine lv_bipush (v := 30) hx hb dX0_takes_41 (by decide) ?_
    refine x_cv hV (x_runV (As := [.int 30]) (rest := []) C hV mi_X0_began wl_X0_32 hk1 (c_X0_began hM) ⟨by decide, by decide⟩ rfl hl.1 (Nat.le_of_ble_eq_true rfl) dX0_takes_43 ⟨Nat.zero_le _, Nat.zero_le _⟩) (fun S3 H locs hV hM => ?_)
    refine lv_aload_n hx hb dX0_takes_46 rfl (lv_at hl 0 rfl) ?_
    refine lv_iload_n hx hb dX0_takes_47 rfl (lv_at hl 1 rfl) ?_
    have hk5 := hM.1
    have hM := hM.2
    refine x_ci hV (x_runV (As := [.int x1]) (rest := []) C hV mi_X0_takesOfPart wl_X0_36 hk5 (c_X0_takesOfPart hM) ⟨by decide, by decide⟩ rfl hl.1 (Nat.le_of_ble_eq_true rfl) dX0_takes_48 ⟨Nat.zero_le _, Nat.zero_le _⟩) (fun r7 S6 H locs hV hM => ?_)
    refine lv_iconst (v := 3) hx hb dX0_takes_51 (by decide) ?_
    refine lv_imul hx hb dX0_takes_52 ?_
    exact x_iret C hV hM dX0_takes_53
  have hM := ite_f c2 hM
  by_cases c8 : (S.I 68 a0) = 3
  · have hM := ite_t c8 hM
    refine lv_tableIn (tgt := 82) (off := 78) hx hb dX0_takes_4 (by rw [c8]; decide) (by rw [c8]; decide) (by rw [c8]; decide) (by decide) ?_
    exact tq_X0_takes_82 C _ _ _ _ _ _ hM hV (lv_sub hl [0, 1] rfl)
  have hM := ite_f c8 hM
  by_cases c12 : (S.I 68 a0) = 4
  · have hM := ite_t c12 hM
    refine lv_tableIn (tgt := 54) (off := 50) hx hb dX0_takes_4 (by rw [c12]; decide) (by rw [c12]; decide) (by rw [c12]; decide) (by decide) ?_
    exact tq_X0_takes_54 C _ _ _ _ _ _ hM hV (lv_sub hl [0, 1] rfl)
  have hM := ite_f c12 hM
  by_cases c19 : (S.I 68 a0) = 5
  · have hM := ite_t c19 hM
    refine lv_tableIn (tgt := 54) (off := 50) hx hb dX0_takes_4 (by rw [c19]; decide) (by rw [c19]; decide) (by rw [c19]; decide) (by decide) ?_
    exact tq_X0_takes_54 C _ _ _ _ _ _ hM hV (lv_sub hl [0, 1] rfl)
  have hM := ite_f c19 hM
  by_cases c20 : (S.I 68 a0) = 6
  · have hM := ite_t c20 hM
    refine lv_tableIn (tgt := 68) (off := 64) hx hb dX0_takes_4 (by rw [c20]; decide) (by rw [c20]; decide) (by rw [c20]; decide) (by decide) ?_
    refine lv_aload_n hx hb dX0_takes_68 rfl (lv_at hl 0 rfl) ?_
    refine lv_bipush (v := 70) hx hb dX0_takes_69 (by decide) ?_
    refine x_cv hV (x_runV (As := [.int 70]) (rest := []) C hV mi_X0_began wl_X0_32 hk1 (c_X0_began hM) ⟨by decide, by decide⟩ rfl hl.1 (Nat.le_of_ble_eq_true rfl) dX0_takes_71 ⟨Nat.zero_le _, Nat.zero_le _⟩) (fun S21 H locs hV hM => ?_)
    refine lv_aload_n hx hb dX0_takes_74 rfl (lv_at hl 0 rfl) ?_
    refine lv_iload_n hx hb dX0_takes_75 rfl (lv_at hl 1 rfl) ?_
    have hk23 := hM.1
    have hM := hM.2
    refine x_ci hV (x_runV (As := [.int x1]) (rest := []) C hV mi_X0_takesOfPart wl_X0_36 hk23 (c_X0_takesOfPart hM) ⟨by decide, by decide⟩ rfl hl.1 (Nat.le_of_ble_eq_true rfl) dX0_takes_76 ⟨Nat.zero_le _, Nat.zero_le _⟩) (fun r25 S24 H locs hV hM => ?_)
    refine lv_iconst (v := 4) hx hb dX0_takes_79 (by decide) ?_
    refine lv_isub hx hb dX0_takes_80 ?_
    exact x_iret C hV hM dX0_takes_81
  have hM := ite_f c20 hM
  refine lv_tableOut (tgt := 82) hx hb dX0_takes_4 (by have q0 := lv_neT c2 (a := 2) (by decide); have q1 := lv_neT c8 (a := 3) (by decide); have q2 := lv_neT c12 (a := 4) (by decide); have q3 := lv_neT c19 (a := 5) (by decide); have q4 := lv_neT c20 (a := 6) (by decide); omega) (by decide) ?_
  exact tq_X0_takes_82 C _ _ _ _ _ _ hM hV (lv_sub hl [0, 1] rfl)

def wp_X0_sharesOfPart (N : Nat) (S : PS) (a0 : Nat) (x1 : Int32) (K : Int32 → PS → Prop) : Prop := S.K a0 = 1 ∧ wp_X0_began N S a0 11 (fun S2 => S2.K a0 = 1 ∧ wp_X0_takes N S2 a0 x1 (fun r6 S5 => K (r6 * 2) S5))
set_option maxHeartbeats 4000000 in
set_option maxRecDepth 100000 in
theorem c_X0_sharesOfPart {l : Launch} {D : DX} {cA : Nat → ClassId} {z0 N : Nat} {S : PS} {a0 : Nat} {x1 : Int32} {K : Int32 → PS → Prop} (hM : wp_X0_sharesOfPart N S a0 x1 K) : MetI l yX0_sharesOfPart cX0_sharesOfPart 2 (some .int) 3 0 0 D cA z0 [.ref a0, .int x1] S K := by
  refine x_met RX0 (by decide) rfl ?_
  intro p e s m below meth c C hin hV
  have hl := lv_entry ([.ref a0, .int x1]) (n := 2) (Nat.le_of_ble_eq_true rfl)
  rw [lg_entry_eq]
  generalize (lg_sl ([.ref a0, .int x1]) ++ List.replicate (2 - (lg_sl ([.ref a0, .int x1])).length) Slot.unset).toArray = ls at hl ⊢
  have hl : lv_has ls 2 [(0, .ref a0), (1, .int x1)] := hl
  obtain ⟨hx, hb, hml, hown, hts, hK, hz, hlk, hr⟩ := id C
  unfold wp_X0_sharesOfPart at hM
  refine lv_aload_n hx hb dX0_sharesOfPart_0 rfl (lv_at hl 0 rfl) ?_
  refine lv_bipush (v := 11) hx hb dX0_sharesOfPart_1 (by decide) ?_
  have hk1 := hM.1
  have hM := hM.2
  refine x_cv hV (x_runV (As := [.int 11]) (rest := []) C hV mi_X0_began wl_X0_32 hk1 (c_X0_began hM) ⟨by decide, by decide⟩ rfl hl.1 (Nat.le_of_ble_eq_true rfl) dX0_sharesOfPart_3 ⟨Nat.zero_le _, Nat.zero_le _⟩) (fun S2 H locs hV hM => ?_)
  refine lv_aload_n hx hb dX0_sharesOfPart_6 rfl (lv_at hl 0 rfl) ?_
  refine lv_iload_n hx hb dX0_sharesOfPart_7 rfl (lv_at hl 1 rfl) ?_
  have hk4 := hM.1
  have hM := hM.2
  refine x_ci hV (x_runV (As := [.int x1]) (rest := []) C hV mi_X0_takes wl_X0_43 hk4 (c_X0_takes hM) ⟨by decide, by decide⟩ rfl hl.1 (Nat.le_of_ble_eq_true rfl) dX0_sharesOfPart_8 ⟨Nat.zero_le _, Nat.zero_le _⟩) (fun r6 S5 H locs hV hM => ?_)
  refine lv_iconst (v := 2) hx hb dX0_sharesOfPart_11 (by decide) ?_
  refine lv_imul hx hb dX0_sharesOfPart_12 ?_
  exact x_iret C hV hM dX0_sharesOfPart_13

def wq_X0_shares_40 (N : Nat) (K : Int32 → PS → Prop) (S : PS) (a0 : Nat) (x1 : Int32) : Prop := S.K a0 = 1 ∧ wp_X0_began N S a0 20 (fun S4 => S4.K a0 = 1 ∧ wp_X0_sharesOfPart N S4 a0 x1 (fun r8 S7 => S7.K a0 = 1 ∧ K (r8 - (S7.I 69 a0)) S7))
def wp_X0_shares (N : Nat) (S : PS) (a0 : Nat) (x1 : Int32) (K : Int32 → PS → Prop) : Prop := S.K a0 = 1 ∧ if (S.I 68 a0) = 1 then (wq_X0_shares_40 N K S a0 x1) else if (S.I 68 a0) = 5 then (wp_X0_began N S a0 60 (fun S11 => S11.K a0 = 1 ∧ wp_X0_sharesOfPart N S11 a0 x1 (fun r15 S14 => S14.K a0 = 1 ∧ wp_X0_takes N S14 a0 (S14.I 69 a0) (fun r18 S17 => K (r15 + r18) S17)))) else if (S.I 68 a0) = 6 then (wq_X0_shares_40 N K S a0 x1) else wp_X0_sharesOfPart N S a0 x1 (fun r21 S20 => K r21 S20)
set_option maxHeartbeats 4000000 in
set_option maxRecDepth 100000 in
theorem tq_X0_shares_40 {p : Program} {l : Launch} {e : Env} {s : State} {m : MethodId} {args : Array Value} {below : List Frame} {meth : Method} {c : Code} {D : DX} {cA : Nat → ClassId} {z0 N : Nat} {K : Int32 → PS → Prop} (C : CX p s m args meth c cX0_shares 2 RX0 (some .int) D cA z0) : ∀ (S : PS) (a0 : Nat) (x1 : Int32) (H : Heap) (locs : List Loc) (ls : Array Slot), wq_X0_shares_40 N K S a0 x1 → XV D cA z0 s S H locs → lv_has ls 2 [(0, .ref a0), (1, .int x1)] → W p l e (rmd 4 0 0) s m args below meth c H locs 0 0 (MQ below (va_Qi K (XK D cA z0) (zA z0)) args s 0 0 (zA z0)) (F0 m 40 ls []) := by
  obtain ⟨hx, hb, hml, hown, hts, hK, hz, hlk, hr⟩ := id C
  intro S a0 x1 H locs ls hM hV hl
  unfold wq_X0_shares_40 at hM
  refine lv_aload_n hx hb dX0_shares_40 rfl (lv_at hl 0 rfl) ?_
  refine lv_bipush (v := 20) hx hb dX0_shares_41 (by decide) ?_
  have hk3 := hM.1
  have hM := hM.2
  refine x_cv hV (x_runV (As := [.int 20]) (rest := []) C hV mi_X0_began wl_X0_32 hk3 (c_X0_began hM) ⟨by decide, by decide⟩ rfl hl.1 (Nat.le_of_ble_eq_true rfl) dX0_shares_43 ⟨Nat.zero_le _, Nat.zero_le _⟩) (fun S4 H locs hV hM => ?_)
  refine lv_aload_n hx hb dX0_shares_46 rfl (lv_at hl 0 rfl) ?_
  refine lv_iload_n hx hb dX0_shares_47 rfl (lv_at hl 1 rfl) ?_
  have hk6 := hM.1
  have hM := hM.2
  refine x_ci hV (x_runV (As := [.int x1]) (rest := []) C hV mi_X0_sharesOfPart wl_X0_40 hk6 (c_X0_sharesOfPart hM) ⟨by decide, by decide⟩ rfl hl.1 (Nat.le_of_ble_eq_true rfl) dX0_shares_48 ⟨Nat.zero_le _, Nat.zero_le _⟩) (fun r8 S7 H locs hV hM => ?_)
  refine lv_aload_n hx hb dX0_shares_51 rfl (lv_at hl 0 rfl) ?_
  have hk9 := hM.1
  have hM := hM.2
  refine x_getI C hV wf_X0_29 hk9 dX0_shares_52 ?_
  refine lv_isub hx hb dX0_shares_55 ?_
  exact x_iret C hV hM dX0_shares_56
set_option maxHeartbeats 4000000 in
set_option maxRecDepth 100000 in
theorem c_X0_shares {l : Launch} {D : DX} {cA : Nat → ClassId} {z0 N : Nat} {S : PS} {a0 : Nat} {x1 : Int32} {K : Int32 → PS → Prop} (hM : wp_X0_shares N S a0 x1 K) : MetI l yX0_shares cX0_shares 2 (some .int) 4 0 0 D cA z0 [.ref a0, .int x1] S K := by
  refine x_met RX0 (by decide) rfl ?_
  intro p e s m below meth c C hin hV
  have hl := lv_entry ([.ref a0, .int x1]) (n := 2) (Nat.le_of_ble_eq_true rfl)
  rw [lg_entry_eq]
  generalize (lg_sl ([.ref a0, .int x1]) ++ List.replicate (2 - (lg_sl ([.ref a0, .int x1])).length) Slot.unset).toArray = ls at hl ⊢
  have hl : lv_has ls 2 [(0, .ref a0), (1, .int x1)] := hl
  obtain ⟨hx, hb, hml, hown, hts, hK, hz, hlk, hr⟩ := id C
  unfold wp_X0_shares at hM
  refine lv_aload_n hx hb dX0_shares_0 rfl (lv_at hl 0 rfl) ?_
  have hk1 := hM.1
  have hM := hM.2
  refine x_getI C hV wf_X0_26 hk1 dX0_shares_1 ?_
  by_cases c2 : (S.I 68 a0) = 1
  · have hM := ite_t c2 hM
    refine lv_lookup (tgt := 40) (off := 36) hx hb dX0_shares_4 (by decide) (by rw [c2]; decide) (by decide) ?_
    exact tq_X0_shares_40 C _ _ _ _ _ _ hM hV (lv_sub hl [0, 1] rfl)
  have hM := ite_f c2 hM
  by_cases c10 : (S.I 68 a0) = 5
  · have hM := ite_t c10 hM
    refine lv_lookup (tgt := 57) (off := 53) hx hb dX0_shares_4 (by decide) (by rw [c10]; decide) (by decide) ?_
    refine lv_aload_n hx hb dX0_shares_57 rfl (lv_at hl 0 rfl) ?_
    refine lv_bipush (v := 60) hx hb dX0_shares_58 (by decide) ?_
    refine x_cv hV (x_runV (As := [.int 60]) (rest := []) C hV mi_X0_began wl_X0_32 hk1 (c_X0_began hM) ⟨by decide, by decide⟩ rfl hl.1 (Nat.le_of_ble_eq_true rfl) dX0_shares_60 ⟨Nat.zero_le _, Nat.zero_le _⟩) (fun S11 H locs hV hM => ?_)
    refine lv_aload_n hx hb dX0_shares_63 rfl (lv_at hl 0 rfl) ?_
    refine lv_iload_n hx hb dX0_shares_64 rfl (lv_at hl 1 rfl) ?_
    have hk13 := hM.1
    have hM := hM.2
    refine x_ci hV (x_runV (As := [.int x1]) (rest := []) C hV mi_X0_sharesOfPart wl_X0_40 hk13 (c_X0_sharesOfPart hM) ⟨by decide, by decide⟩ rfl hl.1 (Nat.le_of_ble_eq_true rfl) dX0_shares_65 ⟨Nat.zero_le _, Nat.zero_le _⟩) (fun r15 S14 H locs hV hM => ?_)
    refine lv_aload_n hx hb dX0_shares_68 rfl (lv_at hl 0 rfl) ?_
    refine lv_aload_n hx hb dX0_shares_69 rfl (lv_at hl 0 rfl) ?_
    have hk16 := hM.1
    have hM := hM.2
    refine x_getI C hV wf_X0_29 hk16 dX0_shares_70 ?_
    refine x_ci hV (x_runV (As := [.int (S14.I 69 a0)]) (rest := [.int r15]) C hV mi_X0_takes wl_X0_43 hk16 (c_X0_takes hM) ⟨by decide, by decide⟩ rfl hl.1 (Nat.le_of_ble_eq_true rfl) dX0_shares_73 ⟨Nat.zero_le _, Nat.zero_le _⟩) (fun r18 S17 H locs hV hM => ?_)
    refine lv_iadd hx hb dX0_shares_76 ?_
    exact x_iret C hV hM dX0_shares_77
  have hM := ite_f c10 hM
  by_cases c19 : (S.I 68 a0) = 6
  · have hM := ite_t c19 hM
    refine lv_lookup (tgt := 40) (off := 36) hx hb dX0_shares_4 (by decide) (by rw [c19]; decide) (by decide) ?_
    exact tq_X0_shares_40 C _ _ _ _ _ _ hM hV (lv_sub hl [0, 1] rfl)
  have hM := ite_f c19 hM
  refine lv_lookup (tgt := 78) (off := 74) hx hb dX0_shares_4 (by decide) (show Op.lookupswitch.offset [(1, 36), (5, 53), (6, 36)] (74) (S.I 68 a0).toInt = 74 from by rw [lv_osw c2 (by decide), lv_osw c10 (by decide), lv_osw c19 (by decide)]; rfl) (by decide) ?_
  refine lv_aload_n hx hb dX0_shares_78 rfl (lv_at hl 0 rfl) ?_
  refine lv_iload_n hx hb dX0_shares_79 rfl (lv_at hl 1 rfl) ?_
  refine x_ci hV (x_runV (As := [.int x1]) (rest := []) C hV mi_X0_sharesOfPart wl_X0_40 hk1 (c_X0_sharesOfPart hM) ⟨by decide, by decide⟩ rfl hl.1 (Nat.le_of_ble_eq_true rfl) dX0_shares_80 ⟨Nat.zero_le _, Nat.zero_le _⟩) (fun r21 S20 H locs hV hM => ?_)
  exact x_iret C hV hM dX0_shares_83

def wp_X0_tellsOfPart (N : Nat) (S : PS) (a0 : Nat) (x1 : Int32) (K : Int32 → PS → Prop) : Prop := S.K a0 = 1 ∧ wp_X0_began N S a0 13 (fun S2 => S2.K a0 = 1 ∧ wp_X0_shares N S2 a0 x1 (fun r6 S5 => S5.K a0 = 1 ∧ K (r6 ^^^ (S5.I 69 a0)) S5))
set_option maxHeartbeats 4000000 in
set_option maxRecDepth 100000 in
theorem c_X0_tellsOfPart {l : Launch} {D : DX} {cA : Nat → ClassId} {z0 N : Nat} {S : PS} {a0 : Nat} {x1 : Int32} {K : Int32 → PS → Prop} (hM : wp_X0_tellsOfPart N S a0 x1 K) : MetI l yX0_tellsOfPart cX0_tellsOfPart 2 (some .int) 5 0 0 D cA z0 [.ref a0, .int x1] S K := by
  refine x_met RX0 (by decide) rfl ?_
  intro p e s m below meth c C hin hV
  have hl := lv_entry ([.ref a0, .int x1]) (n := 2) (Nat.le_of_ble_eq_true rfl)
  rw [lg_entry_eq]
  generalize (lg_sl ([.ref a0, .int x1]) ++ List.replicate (2 - (lg_sl ([.ref a0, .int x1])).length) Slot.unset).toArray = ls at hl ⊢
  have hl : lv_has ls 2 [(0, .ref a0), (1, .int x1)] := hl
  obtain ⟨hx, hb, hml, hown, hts, hK, hz, hlk, hr⟩ := id C
  unfold wp_X0_tellsOfPart at hM
  refine lv_aload_n hx hb dX0_tellsOfPart_0 rfl (lv_at hl 0 rfl) ?_
  refine lv_bipush (v := 13) hx hb dX0_tellsOfPart_1 (by decide) ?_
  have hk1 := hM.1
  have hM := hM.2
  refine x_cv hV (x_runV (As := [.int 13]) (rest := []) C hV mi_X0_began wl_X0_32 hk1 (c_X0_began hM) ⟨by decide, by decide⟩ rfl hl.1 (Nat.le_of_ble_eq_true rfl) dX0_tellsOfPart_3 ⟨Nat.zero_le _, Nat.zero_le _⟩) (fun S2 H locs hV hM => ?_)
  refine lv_aload_n hx hb dX0_tellsOfPart_6 rfl (lv_at hl 0 rfl) ?_
  refine lv_iload_n hx hb dX0_tellsOfPart_7 rfl (lv_at hl 1 rfl) ?_
  have hk4 := hM.1
  have hM := hM.2
  refine x_ci hV (x_runV (As := [.int x1]) (rest := []) C hV mi_X0_shares wl_X0_58 hk4 (c_X0_shares hM) ⟨by decide, by decide⟩ rfl hl.1 (Nat.le_of_ble_eq_true rfl) dX0_tellsOfPart_8 ⟨Nat.zero_le _, Nat.zero_le _⟩) (fun r6 S5 H locs hV hM => ?_)
  refine lv_aload_n hx hb dX0_tellsOfPart_11 rfl (lv_at hl 0 rfl) ?_
  have hk7 := hM.1
  have hM := hM.2
  refine x_getI C hV wf_X0_29 hk7 dX0_tellsOfPart_12 ?_
  refine lv_ixor hx hb dX0_tellsOfPart_15 ?_
  exact x_iret C hV hM dX0_tellsOfPart_16

def wp_X0_tells (N : Nat) (S : PS) (a0 : Nat) (x1 : Int32) (K : Int32 → PS → Prop) : Prop := S.K a0 = 1 ∧ if (S.I 68 a0) = 3 then (wp_X0_began N S a0 40 (fun S3 => S3.K a0 = 1 ∧ wp_X0_tellsOfPart N S3 a0 x1 (fun r7 S6 => S6.K a0 = 1 ∧ wp_X0_bounds N S6 a0 (S6.I 67 a0) (fun r10 S9 => K (r7 + r10) S9)))) else if (S.I 68 a0) = 6 then (wp_X0_began N S a0 71 (fun S12 => S12.K a0 = 1 ∧ wp_X0_tellsOfPart N S12 a0 x1 (fun r16 S15 => S15.K a0 = 1 ∧ wp_X0_shares N S15 a0 (S15.I 67 a0) (fun r19 S18 => K (r16 ^^^ r19) S18)))) else wp_X0_tellsOfPart N S a0 x1 (fun r21 S20 => K r21 S20)
set_option maxHeartbeats 4000000 in
set_option maxRecDepth 100000 in
theorem c_X0_tells {l : Launch} {D : DX} {cA : Nat → ClassId} {z0 N : Nat} {S : PS} {a0 : Nat} {x1 : Int32} {K : Int32 → PS → Prop} (hM : wp_X0_tells N S a0 x1 K) : MetI l yX0_tells cX0_tells 2 (some .int) 6 0 0 D cA z0 [.ref a0, .int x1] S K := by
  refine x_met RX0 (by decide) rfl ?_
  intro p e s m below meth c C hin hV
  have hl := lv_entry ([.ref a0, .int x1]) (n := 2) (Nat.le_of_ble_eq_true rfl)
  rw [lg_entry_eq]
  generalize (lg_sl ([.ref a0, .int x1]) ++ List.replicate (2 - (lg_sl ([.ref a0, .int x1])).length) Slot.unset).toArray = ls at hl ⊢
  have hl : lv_has ls 2 [(0, .ref a0), (1, .int x1)] := hl
  obtain ⟨hx, hb, hml, hown, hts, hK, hz, hlk, hr⟩ := id C
  unfold wp_X0_tells at hM
  refine lv_aload_n hx hb dX0_tells_0 rfl (lv_at hl 0 rfl) ?_
  have hk1 := hM.1
  have hM := hM.2
  refine x_getI C hV wf_X0_26 hk1 dX0_tells_1 ?_
  by_cases c2 : (S.I 68 a0) = 3
  · have hM := ite_t c2 hM
    refine lv_lookup (tgt := 32) (off := 28) hx hb dX0_tells_4 (by decide) (by rw [c2]; decide) (by decide) ?_
    refine lv_aload_n hx hb dX0_tells_32 rfl (lv_at hl 0 rfl) ?_
    refine lv_bipush (v := 40) hx hb dX0_tells_33 (by decide) ?_
    refine x_cv hV (x_runV (As := [.int 40]) (rest := []) C hV mi_X0_began wl_X0_32 hk1 (c_X0_began hM) ⟨by decide, by decide⟩ rfl hl.1 (Nat.le_of_ble_eq_true rfl) dX0_tells_35 ⟨Nat.zero_le _, Nat.zero_le _⟩) (fun S3 H locs hV hM => ?_)
    refine lv_aload_n hx hb dX0_tells_38 rfl (lv_at hl 0 rfl) ?_
    refine lv_iload_n hx hb dX0_tells_39 rfl (lv_at hl 1 rfl) ?_
    have hk5 := hM.1
    have hM := hM.2
    refine x_ci hV (x_runV (As := [.int x1]) (rest := []) C hV mi_X0_tellsOfPart wl_X0_52 hk5 (c_X0_tellsOfPart hM) ⟨by decide, by decide⟩ rfl hl.1 (Nat.le_of_ble_eq_true rfl) dX0_tells_40 ⟨Nat.zero_le _, Nat.zero_le _⟩) (fun r7 S6 H locs hV hM => ?_)
    refine lv_aload_n hx hb dX0_tells_43 rfl (lv_at hl 0 rfl) ?_
    refine lv_aload_n hx hb dX0_tells_44 rfl (lv_at hl 0 rfl) ?_
    have hk8 := hM.1
    have hM := hM.2
    refine x_getI C hV wf_X0_23 hk8 dX0_tells_45 ?_
    refine x_ci hV (x_runV (As := [.int (S6.I 67 a0)]) (rest := [.int r7]) C hV mi_X0_bounds wl_X0_55 hk8 (c_X0_bounds hM) ⟨by decide, by decide⟩ rfl hl.1 (Nat.le_of_ble_eq_true rfl) dX0_tells_48 ⟨Nat.zero_le _, Nat.zero_le _⟩) (fun r10 S9 H locs hV hM => ?_)
    refine lv_iadd hx hb dX0_tells_51 ?_
    exact x_iret C hV hM dX0_tells_52
  have hM := ite_f c2 hM
  by_cases c11 : (S.I 68 a0) = 6
  · have hM := ite_t c11 hM
    refine lv_lookup (tgt := 53) (off := 49) hx hb dX0_tells_4 (by decide) (by rw [c11]; decide) (by decide) ?_
    refine lv_aload_n hx hb dX0_tells_53 rfl (lv_at hl 0 rfl) ?_
    refine lv_bipush (v := 71) hx hb dX0_tells_54 (by decide) ?_
    refine x_cv hV (x_runV (As := [.int 71]) (rest := []) C hV mi_X0_began wl_X0_32 hk1 (c_X0_began hM) ⟨by decide, by decide⟩ rfl hl.1 (Nat.le_of_ble_eq_true rfl) dX0_tells_56 ⟨Nat.zero_le _, Nat.zero_le _⟩) (fun S12 H locs hV hM => ?_)
    refine lv_aload_n hx hb dX0_tells_59 rfl (lv_at hl 0 rfl) ?_
    refine lv_iload_n hx hb dX0_tells_60 rfl (lv_at hl 1 rfl) ?_
    have hk14 := hM.1
    have hM := hM.2
    refine x_ci hV (x_runV (As := [.int x1]) (rest := []) C hV mi_X0_tellsOfPart wl_X0_52 hk14 (c_X0_tellsOfPart hM) ⟨by decide, by decide⟩ rfl hl.1 (Nat.le_of_ble_eq_true rfl) dX0_tells_61 ⟨Nat.zero_le _, Nat.zero_le _⟩) (fun r16 S15 H locs hV hM => ?_)
    refine lv_aload_n hx hb dX0_tells_64 rfl (lv_at hl 0 rfl) ?_
    refine lv_aload_n hx hb dX0_tells_65 rfl (lv_at hl 0 rfl) ?_
    have hk17 := hM.1
    have hM := hM.2
    refine x_getI C hV wf_X0_23 hk17 dX0_tells_66 ?_
    refine x_ci hV (x_runV (As := [.int (S15.I 67 a0)]) (rest := [.int r16]) C hV mi_X0_shares wl_X0_58 hk17 (c_X0_shares hM) ⟨by decide, by decide⟩ rfl hl.1 (Nat.le_of_ble_eq_true rfl) dX0_tells_69 ⟨Nat.zero_le _, Nat.zero_le _⟩) (fun r19 S18 H locs hV hM => ?_)
    refine lv_ixor hx hb dX0_tells_72 ?_
    exact x_iret C hV hM dX0_tells_73
  have hM := ite_f c11 hM
  refine lv_lookup (tgt := 74) (off := 70) hx hb dX0_tells_4 (by decide) (show Op.lookupswitch.offset [(3, 28), (6, 49)] (70) (S.I 68 a0).toInt = 70 from by rw [lv_osw c2 (by decide), lv_osw c11 (by decide)]; rfl) (by decide) ?_
  refine lv_aload_n hx hb dX0_tells_74 rfl (lv_at hl 0 rfl) ?_
  refine lv_iload_n hx hb dX0_tells_75 rfl (lv_at hl 1 rfl) ?_
  refine x_ci hV (x_runV (As := [.int x1]) (rest := []) C hV mi_X0_tellsOfPart wl_X0_52 hk1 (c_X0_tellsOfPart hM) ⟨by decide, by decide⟩ rfl hl.1 (Nat.le_of_ble_eq_true rfl) dX0_tells_76 ⟨Nat.zero_le _, Nat.zero_le _⟩) (fun r21 S20 H locs hV hM => ?_)
  exact x_iret C hV hM dX0_tells_79

def wp_X1_become (N : Nat) (S : PS) (a0 : Nat) (a1 : Nat) (K : PS → Prop) : Prop := S.K a1 = 2 ∧ S.K a0 = 2 ∧ ∀ S3 : PS, S3 = S.setI 128 a0 (S.I 128 a1) → ∀ S6 : PS, S6 = S3.setI 129 a0 (S3.I 129 a1) → ∀ S9 : PS, S9 = S6.setI 130 a0 (S6.I 130 a1) → ∀ S12 : PS, S12 = S9.setI 131 a0 (S9.I 131 a1) → ∀ S15 : PS, S15 = S12.setI 132 a0 (S12.I 132 a1) → ∀ S18 : PS, S18 = S15.setI 133 a0 (S15.I 133 a1) → ((S18.I 134 a1) = 0 ∨ (S18.I 134 a1) = 1) ∧ ∀ S22 : PS, S22 = S18.setI 134 a0 (S18.I 134 a1) → ∀ S25 : PS, S25 = S22.setI 135 a0 (S22.I 135 a1) → ∀ S28 : PS, S28 = S25.setI 136 a0 (S25.I 136 a1) → K S28
set_option maxHeartbeats 4000000 in
set_option maxRecDepth 100000 in
theorem c_X1_become {l : Launch} {D : DX} {cA : Nat → ClassId} {z0 N : Nat} {S : PS} {a0 : Nat} {a1 : Nat} {K : PS → Prop} (hM : wp_X1_become N S a0 a1 K) : MetV l yX1_become cX1_become 2 none 0 0 0 D cA z0 [.ref a0, .ref a1] S K := by
  refine x_met RX1 (by decide) rfl ?_
  intro p e s m below meth c C hin hV
  have hl := lv_entry ([.ref a0, .ref a1]) (n := 2) (Nat.le_of_ble_eq_true rfl)
  rw [lg_entry_eq]
  generalize (lg_sl ([.ref a0, .ref a1]) ++ List.replicate (2 - (lg_sl ([.ref a0, .ref a1])).length) Slot.unset).toArray = ls at hl ⊢
  have hl : lv_has ls 2 [(0, .ref a0), (1, .ref a1)] := hl
  obtain ⟨hx, hb, hml, hown, hts, hK, hz, hlk, hr⟩ := id C
  unfold wp_X1_become at hM
  refine lv_aload_n hx hb dX1_become_0 rfl (lv_at hl 0 rfl) ?_
  refine lv_aload_n hx hb dX1_become_1 rfl (lv_at hl 1 rfl) ?_
  have hk1 := hM.1
  have hM := hM.2
  refine x_getI C hV wf_X1_9 hk1 dX1_become_2 ?_
  have hk2 := hM.1
  have hM := hM.2
  obtain ⟨S3, eS3⟩ : ∃ z : PS, z = S.setI 128 a0 (S.I 128 a1) := ⟨_, rfl⟩
  have hM := hM S3 eS3
  refine x_putI C hV wp_X1_9 hk2 ⟨rfl, rfl⟩ eS3 dX1_become_5 (fun H locs hV => ?_)
  refine lv_aload_n hx hb dX1_become_8 rfl (lv_at hl 0 rfl) ?_
  refine lv_aload_n hx hb dX1_become_9 rfl (lv_at hl 1 rfl) ?_
  have hk4 := kp_I eS3 hk1
  refine x_getI C hV wf_X1_15 hk4 dX1_become_10 ?_
  have hk5 := kp_I eS3 hk2
  obtain ⟨S6, eS6⟩ : ∃ z : PS, z = S3.setI 129 a0 (S3.I 129 a1) := ⟨_, rfl⟩
  have hM := hM S6 eS6
  refine x_putI C hV wp_X1_15 hk5 ⟨rfl, rfl⟩ eS6 dX1_become_13 (fun H locs hV => ?_)
  refine lv_aload_n hx hb dX1_become_16 rfl (lv_at hl 0 rfl) ?_
  refine lv_aload_n hx hb dX1_become_17 rfl (lv_at hl 1 rfl) ?_
  have hk7 := kp_I eS6 hk4
  refine x_getI C hV wf_X1_18 hk7 dX1_become_18 ?_
  have hk8 := kp_I eS6 hk5
  obtain ⟨S9, eS9⟩ : ∃ z : PS, z = S6.setI 130 a0 (S6.I 130 a1) := ⟨_, rfl⟩
  have hM := hM S9 eS9
  refine x_putI C hV wp_X1_18 hk8 ⟨rfl, rfl⟩ eS9 dX1_become_21 (fun H locs hV => ?_)
  refine lv_aload_n hx hb dX1_become_24 rfl (lv_at hl 0 rfl) ?_
  refine lv_aload_n hx hb dX1_become_25 rfl (lv_at hl 1 rfl) ?_
  have hk10 := kp_I eS9 hk7
  refine x_getI C hV wf_X1_21 hk10 dX1_become_26 ?_
  have hk11 := kp_I eS9 hk8
  obtain ⟨S12, eS12⟩ : ∃ z : PS, z = S9.setI 131 a0 (S9.I 131 a1) := ⟨_, rfl⟩
  have hM := hM S12 eS12
  refine x_putI C hV wp_X1_21 hk11 ⟨rfl, rfl⟩ eS12 dX1_become_29 (fun H locs hV => ?_)
  refine lv_aload_n hx hb dX1_become_32 rfl (lv_at hl 0 rfl) ?_
  refine lv_aload_n hx hb dX1_become_33 rfl (lv_at hl 1 rfl) ?_
  have hk13 := kp_I eS12 hk10
  refine x_getI C hV wf_X1_24 hk13 dX1_become_34 ?_
  have hk14 := kp_I eS12 hk11
  obtain ⟨S15, eS15⟩ : ∃ z : PS, z = S12.setI 132 a0 (S12.I 132 a1) := ⟨_, rfl⟩
  have hM := hM S15 eS15
  refine x_putI C hV wp_X1_24 hk14 ⟨rfl, rfl⟩ eS15 dX1_become_37 (fun H locs hV => ?_)
  refine lv_aload_n hx hb dX1_become_40 rfl (lv_at hl 0 rfl) ?_
  refine lv_aload_n hx hb dX1_become_41 rfl (lv_at hl 1 rfl) ?_
  have hk16 := kp_I eS15 hk13
  refine x_getI C hV wf_X1_27 hk16 dX1_become_42 ?_
  have hk17 := kp_I eS15 hk14
  obtain ⟨S18, eS18⟩ : ∃ z : PS, z = S15.setI 133 a0 (S15.I 133 a1) := ⟨_, rfl⟩
  have hM := hM S18 eS18
  refine x_putI C hV wp_X1_27 hk17 ⟨rfl, rfl⟩ eS18 dX1_become_45 (fun H locs hV => ?_)
  refine lv_aload_n hx hb dX1_become_48 rfl (lv_at hl 0 rfl) ?_
  refine lv_aload_n hx hb dX1_become_49 rfl (lv_at hl 1 rfl) ?_
  have hk19 := kp_I eS18 hk16
  refine x_getI C hV wf_X1_30 hk19 dX1_become_50 ?_
  have hk20 := kp_I eS18 hk17
  have hz21 := hM.1
  have hM := hM.2
  obtain ⟨S22, eS22⟩ : ∃ z : PS, z = S18.setI 134 a0 (S18.I 134 a1) := ⟨_, rfl⟩
  have hM := hM S22 eS22
  refine x_putI C hV wp_X1_30 hk20 (nz_b hz21) eS22 dX1_become_53 (fun H locs hV => ?_)
  refine lv_aload_n hx hb dX1_become_56 rfl (lv_at hl 0 rfl) ?_
  refine lv_aload_n hx hb dX1_become_57 rfl (lv_at hl 1 rfl) ?_
  have hk23 := kp_I eS22 hk19
  refine x_getI C hV wf_X1_34 hk23 dX1_become_58 ?_
  have hk24 := kp_I eS22 hk20
  obtain ⟨S25, eS25⟩ : ∃ z : PS, z = S22.setI 135 a0 (S22.I 135 a1) := ⟨_, rfl⟩
  have hM := hM S25 eS25
  refine x_putI C hV wp_X1_34 hk24 ⟨rfl, rfl⟩ eS25 dX1_become_61 (fun H locs hV => ?_)
  refine lv_aload_n hx hb dX1_become_64 rfl (lv_at hl 0 rfl) ?_
  refine lv_aload_n hx hb dX1_become_65 rfl (lv_at hl 1 rfl) ?_
  have hk26 := kp_I eS25 hk23
  refine x_getI C hV wf_X1_37 hk26 dX1_become_66 ?_
  have hk27 := kp_I eS25 hk24
  obtain ⟨S28, eS28⟩ : ∃ z : PS, z = S25.setI 136 a0 (S25.I 136 a1) := ⟨_, rfl⟩
  have hM := hM S28 eS28
  refine x_putI C hV wp_X1_37 hk27 ⟨rfl, rfl⟩ eS28 dX1_become_69 (fun H locs hV => ?_)
  exact x_vret C hV hM dX1_become_72

def wp_X1_begin (N : Nat) (S : PS) (a0 : Nat) (x1 : Int32) (x2 : Int32) (x3 : Int32) (x4 : Int32) (x5 : Int32) (K : PS → Prop) : Prop := S.K a0 = 2 ∧ ∀ S2 : PS, S2 = S.setI 128 a0 x1 → ∀ S4 : PS, S4 = S2.setI 129 a0 x2 → ∀ S6 : PS, S6 = S4.setI 130 a0 x3 → ∀ S8 : PS, S8 = S6.setI 131 a0 x4 → ∀ S10 : PS, S10 = S8.setI 132 a0 x5 → ∀ S12 : PS, S12 = S10.setI 133 a0 x3 → ∀ S14 : PS, S14 = S12.setI 134 a0 0 → ∀ S16 : PS, S16 = S14.setI 135 a0 0 → ∀ S18 : PS, S18 = S16.setI 136 a0 0 → K S18
set_option maxHeartbeats 4000000 in
set_option maxRecDepth 100000 in
theorem c_X1_begin {l : Launch} {D : DX} {cA : Nat → ClassId} {z0 N : Nat} {S : PS} {a0 : Nat} {x1 : Int32} {x2 : Int32} {x3 : Int32} {x4 : Int32} {x5 : Int32} {K : PS → Prop} (hM : wp_X1_begin N S a0 x1 x2 x3 x4 x5 K) : MetV l yX1_begin cX1_begin 6 none 0 0 0 D cA z0 [.ref a0, .int x1, .int x2, .int x3, .int x4, .int x5] S K := by
  refine x_met RX1 (by decide) rfl ?_
  intro p e s m below meth c C hin hV
  have hl := lv_entry ([.ref a0, .int x1, .int x2, .int x3, .int x4, .int x5]) (n := 6) (Nat.le_of_ble_eq_true rfl)
  rw [lg_entry_eq]
  generalize (lg_sl ([.ref a0, .int x1, .int x2, .int x3, .int x4, .int x5]) ++ List.replicate (6 - (lg_sl ([.ref a0, .int x1, .int x2, .int x3, .int x4, .int x5])).length) Slot.unset).toArray = ls at hl ⊢
  have hl : lv_has ls 6 [(0, .ref a0), (1, .int x1), (2, .int x2), (3, .int x3), (4, .int x4), (5, .int x5)] := hl
  obtain ⟨hx, hb, hml, hown, hts, hK, hz, hlk, hr⟩ := id C
  unfold wp_X1_begin at hM
  refine lv_aload_n hx hb dX1_begin_0 rfl (lv_at hl 0 rfl) ?_
  refine lv_iload_n hx hb dX1_begin_1 rfl (lv_at hl 1 rfl) ?_
  have hk1 := hM.1
  have hM := hM.2
  obtain ⟨S2, eS2⟩ : ∃ z : PS, z = S.setI 128 a0 x1 := ⟨_, rfl⟩
  have hM := hM S2 eS2
  refine x_putI C hV wp_X1_9 hk1 ⟨rfl, rfl⟩ eS2 dX1_begin_2 (fun H locs hV => ?_)
  refine lv_aload_n hx hb dX1_begin_5 rfl (lv_at hl 0 rfl) ?_
  refine lv_iload_n hx hb dX1_begin_6 rfl (lv_at hl 2 rfl) ?_
  have hk3 := kp_I eS2 hk1
  obtain ⟨S4, eS4⟩ : ∃ z : PS, z = S2.setI 129 a0 x2 := ⟨_, rfl⟩
  have hM := hM S4 eS4
  refine x_putI C hV wp_X1_15 hk3 ⟨rfl, rfl⟩ eS4 dX1_begin_7 (fun H locs hV => ?_)
  refine lv_aload_n hx hb dX1_begin_10 rfl (lv_at hl 0 rfl) ?_
  refine lv_iload_n hx hb dX1_begin_11 rfl (lv_at hl 3 rfl) ?_
  have hk5 := kp_I eS4 hk3
  obtain ⟨S6, eS6⟩ : ∃ z : PS, z = S4.setI 130 a0 x3 := ⟨_, rfl⟩
  have hM := hM S6 eS6
  refine x_putI C hV wp_X1_18 hk5 ⟨rfl, rfl⟩ eS6 dX1_begin_12 (fun H locs hV => ?_)
  refine lv_aload_n hx hb dX1_begin_15 rfl (lv_at hl 0 rfl) ?_
  refine lv_iload hx hb dX1_begin_16 (lv_at hl 4 rfl) ?_
  have hk7 := kp_I eS6 hk5
  obtain ⟨S8, eS8⟩ : ∃ z : PS, z = S6.setI 131 a0 x4 := ⟨_, rfl⟩
  have hM := hM S8 eS8
  refine x_putI C hV wp_X1_21 hk7 ⟨rfl, rfl⟩ eS8 dX1_begin_18 (fun H locs hV => ?_)
  refine lv_aload_n hx hb dX1_begin_21 rfl (lv_at hl 0 rfl) ?_
  refine lv_iload hx hb dX1_begin_22 (lv_at hl 5 rfl) ?_
  have hk9 := kp_I eS8 hk7
  obtain ⟨S10, eS10⟩ : ∃ z : PS, z = S8.setI 132 a0 x5 := ⟨_, rfl⟩
  have hM := hM S10 eS10
  refine x_putI C hV wp_X1_24 hk9 ⟨rfl, rfl⟩ eS10 dX1_begin_24 (fun H locs hV => ?_)
  refine lv_aload_n hx hb dX1_begin_27 rfl (lv_at hl 0 rfl) ?_
  refine lv_iload_n hx hb dX1_begin_28 rfl (lv_at hl 3 rfl) ?_
  have hk11 := kp_I eS10 hk9
  obtain ⟨S12, eS12⟩ : ∃ z : PS, z = S10.setI 133 a0 x3 := ⟨_, rfl⟩
  have hM := hM S12 eS12
  refine x_putI C hV wp_X1_27 hk11 ⟨rfl, rfl⟩ eS12 dX1_begin_29 (fun H locs hV => ?_)
  refine lv_aload_n hx hb dX1_begin_32 rfl (lv_at hl 0 rfl) ?_
  refine lv_iconst (v := 0) hx hb dX1_begin_33 (by decide) ?_
  have hk13 := kp_I eS12 hk11
  obtain ⟨S14, eS14⟩ : ∃ z : PS, z = S12.setI 134 a0 0 := ⟨_, rfl⟩
  have hM := hM S14 eS14
  refine x_putI C hV wp_X1_30 hk13 (nz_b (by decide)) eS14 dX1_begin_34 (fun H locs hV => ?_)
  refine lv_aload_n hx hb dX1_begin_37 rfl (lv_at hl 0 rfl) ?_
  refine lv_iconst (v := 0) hx hb dX1_begin_38 (by decide) ?_
  have hk15 := kp_I eS14 hk13
  obtain ⟨S16, eS16⟩ : ∃ z : PS, z = S14.setI 135 a0 0 := ⟨_, rfl⟩
  have hM := hM S16 eS16
  refine x_putI C hV wp_X1_34 hk15 ⟨rfl, rfl⟩ eS16 dX1_begin_39 (fun H locs hV => ?_)
  refine lv_aload_n hx hb dX1_begin_42 rfl (lv_at hl 0 rfl) ?_
  refine lv_iconst (v := 0) hx hb dX1_begin_43 (by decide) ?_
  have hk17 := kp_I eS16 hk15
  obtain ⟨S18, eS18⟩ : ∃ z : PS, z = S16.setI 136 a0 0 := ⟨_, rfl⟩
  have hM := hM S18 eS18
  refine x_putI C hV wp_X1_37 hk17 ⟨rfl, rfl⟩ eS18 dX1_begin_44 (fun H locs hV => ?_)
  exact x_vret C hV hM dX1_begin_47

def wp_X1_isIn (N : Nat) (S : PS) (a0 : Nat) (x1 : Int32) (K : Int32 → PS → Prop) : Prop := S.K a0 = 2 ∧ if (((S.I 129 a0) >>> (x1 &&& 31)) &&& 1) = 1 then (K 1 S) else (K 0 S)
set_option maxHeartbeats 4000000 in
set_option maxRecDepth 100000 in
theorem c_X1_isIn {l : Launch} {D : DX} {cA : Nat → ClassId} {z0 N : Nat} {S : PS} {a0 : Nat} {x1 : Int32} {K : Int32 → PS → Prop} (hM : wp_X1_isIn N S a0 x1 K) : MetI l yX1_isIn cX1_isIn 2 (some .boolean) 0 0 0 D cA z0 [.ref a0, .int x1] S (fun r S => (r = 0 ∨ r = 1) ∧ K r S) := by
  refine x_met RX1 (by decide) rfl ?_
  intro p e s m below meth c C hin hV
  have hl := lv_entry ([.ref a0, .int x1]) (n := 2) (Nat.le_of_ble_eq_true rfl)
  rw [lg_entry_eq]
  generalize (lg_sl ([.ref a0, .int x1]) ++ List.replicate (2 - (lg_sl ([.ref a0, .int x1])).length) Slot.unset).toArray = ls at hl ⊢
  have hl : lv_has ls 2 [(0, .ref a0), (1, .int x1)] := hl
  obtain ⟨hx, hb, hml, hown, hts, hK, hz, hlk, hr⟩ := id C
  unfold wp_X1_isIn at hM
  refine lv_aload_n hx hb dX1_isIn_0 rfl (lv_at hl 0 rfl) ?_
  have hk1 := hM.1
  have hM := hM.2
  refine x_getI C hV wf_X1_15 hk1 dX1_isIn_1 ?_
  refine lv_iload_n hx hb dX1_isIn_4 rfl (lv_at hl 1 rfl) ?_
  refine lv_ishr hx hb dX1_isIn_5 ?_
  refine lv_iconst (v := 1) hx hb dX1_isIn_6 (by decide) ?_
  refine lv_iand hx hb dX1_isIn_7 ?_
  refine lv_iconst (v := 1) hx hb dX1_isIn_8 (by decide) ?_
  refine lv_icmp_ne (tgt := 16) hx hb dX1_isIn_9 (by decide) (fun c2 => ?_) (fun c2 => ?_)
  · have hM := ite_f c2 hM
    refine lv_iconst (v := 0) hx hb dX1_isIn_16 (by decide) ?_
    exact x_zret C hV (by decide) hM dX1_isIn_17
  have hM := ite_t c2 hM
  refine lv_iconst (v := 1) hx hb dX1_isIn_12 (by decide) ?_
  refine lv_goto (tgt := 17) hx hb dX1_isIn_13 (by decide) ?_
  exact x_zret C hV (by decide) hM dX1_isIn_17

def wp_X1_takesOn (N : Nat) (S : PS) (a0 : Nat) (x1 : Int32) (K : Int32 → PS → Prop) : Prop := S.K a0 = 2 ∧ if (S.I 136 a0) ≤ x1 then (if (S.I 128 a0) = 3 then (K ((S.I 130 a0) + (((S.I 135 a0) * (x1 - (S.I 136 a0))) / 10)) S) else (K ((S.I 130 a0) + (S.I 135 a0)) S)) else (K (S.I 130 a0) S)
set_option maxHeartbeats 4000000 in
set_option maxRecDepth 100000 in
theorem c_X1_takesOn {l : Launch} {D : DX} {cA : Nat → ClassId} {z0 N : Nat} {S : PS} {a0 : Nat} {x1 : Int32} {K : Int32 → PS → Prop} (hM : wp_X1_takesOn N S a0 x1 K) : MetI l yX1_takesOn cX1_takesOn 2 (some .int) 0 0 0 D cA z0 [.ref a0, .int x1] S K := by
  refine x_met RX1 (by decide) rfl ?_
  intro p e s m below meth c C hin hV
  have hl := lv_entry ([.ref a0, .int x1]) (n := 2) (Nat.le_of_ble_eq_true rfl)
  rw [lg_entry_eq]
  generalize (lg_sl ([.ref a0, .int x1]) ++ List.replicate (2 - (lg_sl ([.ref a0, .int x1])).length) Slot.unset).toArray = ls at hl ⊢
  have hl : lv_has ls 2 [(0, .ref a0), (1, .int x1)] := hl
  obtain ⟨hx, hb, hml, hown, hts, hK, hz, hlk, hr⟩ := id C
  unfold wp_X1_takesOn at hM
  refine lv_iload_n hx hb dX1_takesOn_0 rfl (lv_at hl 1 rfl) ?_
  refine lv_aload_n hx hb dX1_takesOn_1 rfl (lv_at hl 0 rfl) ?_
  have hk1 := hM.1
  have hM := hM.2
  refine x_getI C hV wf_X1_37 hk1 dX1_takesOn_2 ?_
  refine lv_icmp_ge (tgt := 13) hx hb dX1_takesOn_5 (by decide) (fun c2 => ?_) (fun c2 => ?_)
  · have hM := ite_t c2 hM
    refine lv_aload_n hx hb dX1_takesOn_13 rfl (lv_at hl 0 rfl) ?_
    refine x_getI C hV wf_X1_9 hk1 dX1_takesOn_14 ?_
    refine lv_iconst (v := 3) hx hb dX1_takesOn_17 (by decide) ?_
    refine lv_icmp_ne (tgt := 43) hx hb dX1_takesOn_18 (by decide) (fun c3 => ?_) (fun c3 => ?_)
    · have hM := ite_f c3 hM
      refine lv_aload_n hx hb dX1_takesOn_43 rfl (lv_at hl 0 rfl) ?_
      refine x_getI C hV wf_X1_18 hk1 dX1_takesOn_44 ?_
      refine lv_aload_n hx hb dX1_takesOn_47 rfl (lv_at hl 0 rfl) ?_
      refine x_getI C hV wf_X1_34 hk1 dX1_takesOn_48 ?_
      refine lv_iadd hx hb dX1_takesOn_51 ?_
      exact x_iret C hV hM dX1_takesOn_52
    have hM := ite_t c3 hM
    refine lv_aload_n hx hb dX1_takesOn_21 rfl (lv_at hl 0 rfl) ?_
    refine x_getI C hV wf_X1_18 hk1 dX1_takesOn_22 ?_
    refine lv_aload_n hx hb dX1_takesOn_25 rfl (lv_at hl 0 rfl) ?_
    refine x_getI C hV wf_X1_34 hk1 dX1_takesOn_26 ?_
    refine lv_iload_n hx hb dX1_takesOn_29 rfl (lv_at hl 1 rfl) ?_
    refine lv_aload_n hx hb dX1_takesOn_30 rfl (lv_at hl 0 rfl) ?_
    refine x_getI C hV wf_X1_37 hk1 dX1_takesOn_31 ?_
    refine lv_isub hx hb dX1_takesOn_34 ?_
    refine lv_imul hx hb dX1_takesOn_35 ?_
    refine lv_bipush (v := 10) hx hb dX1_takesOn_36 (by decide) ?_
    refine lv_idiv hx hb dX1_takesOn_38 (by decide) ?_
    refine lv_iadd hx hb dX1_takesOn_39 ?_
    refine lv_goto (tgt := 52) hx hb dX1_takesOn_40 (by decide) ?_
    exact x_iret C hV hM dX1_takesOn_52
  have hM := ite_f c2 hM
  refine lv_aload_n hx hb dX1_takesOn_8 rfl (lv_at hl 0 rfl) ?_
  refine x_getI C hV wf_X1_18 hk1 dX1_takesOn_9 ?_
  exact x_iret C hV hM dX1_takesOn_12

def wp_X1_lateOn (N : Nat) (S : PS) (a0 : Nat) (x1 : Int32) (K : Int32 → PS → Prop) : Prop := S.K a0 = 2 ∧ wp_X1_takesOn N S a0 x1 (fun r3 S2 => S2.K a0 = 2 ∧ K (r3 - (S2.I 133 a0)) S2)
set_option maxHeartbeats 4000000 in
set_option maxRecDepth 100000 in
theorem c_X1_lateOn {l : Launch} {D : DX} {cA : Nat → ClassId} {z0 N : Nat} {S : PS} {a0 : Nat} {x1 : Int32} {K : Int32 → PS → Prop} (hM : wp_X1_lateOn N S a0 x1 K) : MetI l yX1_lateOn cX1_lateOn 2 (some .int) 1 0 0 D cA z0 [.ref a0, .int x1] S K := by
  refine x_met RX1 (by decide) rfl ?_
  intro p e s m below meth c C hin hV
  have hl := lv_entry ([.ref a0, .int x1]) (n := 2) (Nat.le_of_ble_eq_true rfl)
  rw [lg_entry_eq]
  generalize (lg_sl ([.ref a0, .int x1]) ++ List.replicate (2 - (lg_sl ([.ref a0, .int x1])).length) Slot.unset).toArray = ls at hl ⊢
  have hl : lv_has ls 2 [(0, .ref a0), (1, .int x1)] := hl
  obtain ⟨hx, hb, hml, hown, hts, hK, hz, hlk, hr⟩ := id C
  unfold wp_X1_lateOn at hM
  refine lv_aload_n hx hb dX1_lateOn_0 rfl (lv_at hl 0 rfl) ?_
  refine lv_iload_n hx hb dX1_lateOn_1 rfl (lv_at hl 1 rfl) ?_
  have hk1 := hM.1
  have hM := hM.2
  refine x_ci hV (x_runV (As := [.int x1]) (rest := []) C hV mi_X1_takesOn wl_X1_40 hk1 (c_X1_takesOn hM) ⟨by decide, by decide⟩ rfl hl.1 (Nat.le_of_ble_eq_true rfl) dX1_lateOn_2 ⟨Nat.zero_le _, Nat.zero_le _⟩) (fun r3 S2 H locs hV hM => ?_)
  refine lv_aload_n hx hb dX1_lateOn_5 rfl (lv_at hl 0 rfl) ?_
  have hk4 := hM.1
  have hM := hM.2
  refine x_getI C hV wf_X1_27 hk4 dX1_lateOn_6 ?_
  refine lv_isub hx hb dX1_lateOn_9 ?_
  exact x_iret C hV hM dX1_lateOn_10

def wp_X2_joined (N : Nat) (S : PS) (x0 : Int32) (x1 : Int32) (x2 : Int32) (K : Int32 → PS → Prop) : Prop := if x0 = (-16) then (K (x1 &&& x2) S) else if x0 = (-15) then (if x1 ≤ x2 then (K 0 S) else (K 1 S)) else if x0 = (-14) then (if x1 = x2 then (K 1 S) else (K 0 S)) else if x0 = (-13) then (if x2 ≤ x1 then (K 0 S) else (K 1 S)) else if x0 = (-12) then (K (x1 - x2) S) else if x0 = (-11) then (K (x1 + x2) S) else if x0 = (-10) then (K (x1 * x2) S) else K (x1 ||| x2) S
set_option maxHeartbeats 4000000 in
set_option maxRecDepth 100000 in
theorem c_X2_joined {l : Launch} {D : DX} {cA : Nat → ClassId} {z0 N : Nat} {S : PS} {x0 : Int32} {x1 : Int32} {x2 : Int32} {K : Int32 → PS → Prop} (hM : wp_X2_joined N S x0 x1 x2 K) : MetI l yX2_joined cX2_joined 3 (some .int) 0 0 0 D cA z0 [.int x0, .int x1, .int x2] S K := by
  refine x_met RX2 (by decide) rfl ?_
  intro p e s m below meth c C hin hV
  have hl := lv_entry ([.int x0, .int x1, .int x2]) (n := 3) (Nat.le_of_ble_eq_true rfl)
  rw [lg_entry_eq]
  generalize (lg_sl ([.int x0, .int x1, .int x2]) ++ List.replicate (3 - (lg_sl ([.int x0, .int x1, .int x2])).length) Slot.unset).toArray = ls at hl ⊢
  have hl : lv_has ls 3 [(0, .int x0), (1, .int x1), (2, .int x2)] := hl
  obtain ⟨hx, hb, hml, hown, hts, hK, hz, hlk, hr⟩ := id C
  unfold wp_X2_joined at hM
  refine lv_iload_n hx hb dX2_joined_0 rfl (lv_at hl 0 rfl) ?_
  by_cases c1 : x0 = (-16)
  · have hM := ite_t c1 hM
    refine lv_tableIn (tgt := 89) (off := 88) hx hb dX2_joined_1 (by rw [c1]; decide) (by rw [c1]; decide) (by rw [c1]; decide) (by decide) ?_
    refine lv_iload_n hx hb dX2_joined_89 rfl (lv_at hl 1 rfl) ?_
    refine lv_iload_n hx hb dX2_joined_90 rfl (lv_at hl 2 rfl) ?_
    refine lv_iand hx hb dX2_joined_91 ?_
    exact x_iret C hV hM dX2_joined_92
  have hM := ite_f c1 hM
  by_cases c2 : x0 = (-15)
  · have hM := ite_t c2 hM
    refine lv_tableIn (tgt := 78) (off := 77) hx hb dX2_joined_1 (by rw [c2]; decide) (by rw [c2]; decide) (by rw [c2]; decide) (by decide) ?_
    refine lv_iload_n hx hb dX2_joined_78 rfl (lv_at hl 1 rfl) ?_
    refine lv_iload_n hx hb dX2_joined_79 rfl (lv_at hl 2 rfl) ?_
    refine lv_icmp_le (tgt := 87) hx hb dX2_joined_80 (by decide) (fun c3 => ?_) (fun c3 => ?_)
    · have hM := ite_t c3 hM
      refine lv_iconst (v := 0) hx hb dX2_joined_87 (by decide) ?_
      exact x_iret C hV hM dX2_joined_88
    have hM := ite_f c3 hM
    refine lv_iconst (v := 1) hx hb dX2_joined_83 (by decide) ?_
    refine lv_goto (tgt := 88) hx hb dX2_joined_84 (by decide) ?_
    exact x_iret C hV hM dX2_joined_88
  have hM := ite_f c2 hM
  by_cases c4 : x0 = (-14)
  · have hM := ite_t c4 hM
    refine lv_tableIn (tgt := 67) (off := 66) hx hb dX2_joined_1 (by rw [c4]; decide) (by rw [c4]; decide) (by rw [c4]; decide) (by decide) ?_
    refine lv_iload_n hx hb dX2_joined_67 rfl (lv_at hl 1 rfl) ?_
    refine lv_iload_n hx hb dX2_joined_68 rfl (lv_at hl 2 rfl) ?_
    refine lv_icmp_ne (tgt := 76) hx hb dX2_joined_69 (by decide) (fun c5 => ?_) (fun c5 => ?_)
    · have hM := ite_f c5 hM
      refine lv_iconst (v := 0) hx hb dX2_joined_76 (by decide) ?_
      exact x_iret C hV hM dX2_joined_77
    have hM := ite_t c5 hM
    refine lv_iconst (v := 1) hx hb dX2_joined_72 (by decide) ?_
    refine lv_goto (tgt := 77) hx hb dX2_joined_73 (by decide) ?_
    exact x_iret C hV hM dX2_joined_77
  have hM := ite_f c4 hM
  by_cases c6 : x0 = (-13)
  · have hM := ite_t c6 hM
    refine lv_tableIn (tgt := 56) (off := 55) hx hb dX2_joined_1 (by rw [c6]; decide) (by rw [c6]; decide) (by rw [c6]; decide) (by decide) ?_
    refine lv_iload_n hx hb dX2_joined_56 rfl (lv_at hl 1 rfl) ?_
    refine lv_iload_n hx hb dX2_joined_57 rfl (lv_at hl 2 rfl) ?_
    refine lv_icmp_ge (tgt := 65) hx hb dX2_joined_58 (by decide) (fun c7 => ?_) (fun c7 => ?_)
    · have hM := ite_t c7 hM
      refine lv_iconst (v := 0) hx hb dX2_joined_65 (by decide) ?_
      exact x_iret C hV hM dX2_joined_66
    have hM := ite_f c7 hM
    refine lv_iconst (v := 1) hx hb dX2_joined_61 (by decide) ?_
    refine lv_goto (tgt := 66) hx hb dX2_joined_62 (by decide) ?_
    exact x_iret C hV hM dX2_joined_66
  have hM := ite_f c6 hM
  by_cases c8 : x0 = (-12)
  · have hM := ite_t c8 hM
    refine lv_tableIn (tgt := 52) (off := 51) hx hb dX2_joined_1 (by rw [c8]; decide) (by rw [c8]; decide) (by rw [c8]; decide) (by decide) ?_
    refine lv_iload_n hx hb dX2_joined_52 rfl (lv_at hl 1 rfl) ?_
    refine lv_iload_n hx hb dX2_joined_53 rfl (lv_at hl 2 rfl) ?_
    refine lv_isub hx hb dX2_joined_54 ?_
    exact x_iret C hV hM dX2_joined_55
  have hM := ite_f c8 hM
  by_cases c9 : x0 = (-11)
  · have hM := ite_t c9 hM
    refine lv_tableIn (tgt := 48) (off := 47) hx hb dX2_joined_1 (by rw [c9]; decide) (by rw [c9]; decide) (by rw [c9]; decide) (by decide) ?_
    refine lv_iload_n hx hb dX2_joined_48 rfl (lv_at hl 1 rfl) ?_
    refine lv_iload_n hx hb dX2_joined_49 rfl (lv_at hl 2 rfl) ?_
    refine lv_iadd hx hb dX2_joined_50 ?_
    exact x_iret C hV hM dX2_joined_51
  have hM := ite_f c9 hM
  by_cases c10 : x0 = (-10)
  · have hM := ite_t c10 hM
    refine lv_tableIn (tgt := 44) (off := 43) hx hb dX2_joined_1 (by rw [c10]; decide) (by rw [c10]; decide) (by rw [c10]; decide) (by decide) ?_
    refine lv_iload_n hx hb dX2_joined_44 rfl (lv_at hl 1 rfl) ?_
    refine lv_iload_n hx hb dX2_joined_45 rfl (lv_at hl 2 rfl) ?_
    refine lv_imul hx hb dX2_joined_46 ?_
    exact x_iret C hV hM dX2_joined_47
  have hM := ite_f c10 hM
  refine lv_tableOut (tgt := 93) hx hb dX2_joined_1 (by have q0 := lv_neT c1 (a := -16) (by decide); have q1 := lv_neT c2 (a := -15) (by decide); have q2 := lv_neT c4 (a := -14) (by decide); have q3 := lv_neT c6 (a := -13) (by decide); have q4 := lv_neT c8 (a := -12) (by decide); have q5 := lv_neT c9 (a := -11) (by decide); have q6 := lv_neT c10 (a := -10) (by decide); omega) (by decide) ?_
  refine lv_iload_n hx hb dX2_joined_93 rfl (lv_at hl 1 rfl) ?_
  refine lv_iload_n hx hb dX2_joined_94 rfl (lv_at hl 2 rfl) ?_
  refine lv_ior hx hb dX2_joined_95 ?_
  exact x_iret C hV hM dX2_joined_96

def wp_X2_valueOf (N : Nat) (S : PS) (x0 : Int32) (a1 : Nat) (K : Int32 → PS → Prop) : Prop := if x0 < 0 then (∀ v2 : Int32, v2 = ((-1) - x0) → S.K a1 = 20 ∧ if (nI (S.ln a1)) ≤ v2 then (K 0 S) else (vp_in v2 (S.ln a1) ∧ K (S.A a1 v2.toNatClampNeg) S)) else (K x0 S)
set_option maxHeartbeats 4000000 in
set_option maxRecDepth 100000 in
theorem c_X2_valueOf {l : Launch} {D : DX} {cA : Nat → ClassId} {z0 N : Nat} {S : PS} {x0 : Int32} {a1 : Nat} {K : Int32 → PS → Prop} (hM : wp_X2_valueOf N S x0 a1 K) : MetI l yX2_valueOf cX2_valueOf 3 (some .int) 0 0 0 D cA z0 [.int x0, .ref a1] S K := by
  refine x_met RX2 (by decide) rfl ?_
  intro p e s m below meth c C hin hV
  have hl := lv_entry ([.int x0, .ref a1]) (n := 3) (Nat.le_of_ble_eq_true rfl)
  rw [lg_entry_eq]
  generalize (lg_sl ([.int x0, .ref a1]) ++ List.replicate (3 - (lg_sl ([.int x0, .ref a1])).length) Slot.unset).toArray = ls at hl ⊢
  have hl : lv_has ls 3 [(0, .int x0), (1, .ref a1)] := hl
  obtain ⟨hx, hb, hml, hown, hts, hK, hz, hlk, hr⟩ := id C
  unfold wp_X2_valueOf at hM
  refine lv_iload_n hx hb dX2_valueOf_0 rfl (lv_at hl 0 rfl) ?_
  refine lv_if_lt (tgt := 6) hx hb dX2_valueOf_1 (by decide) (fun c1 => ?_) (fun c1 => ?_)
  · have hM := ite_t c1 hM
    refine lv_iconst (v := (-1)) hx hb dX2_valueOf_6 (by decide) ?_
    refine lv_iload_n hx hb dX2_valueOf_7 rfl (lv_at hl 0 rfl) ?_
    refine lv_isub hx hb dX2_valueOf_8 ?_
    refine lv_topi (fun v2 ev2 => ?_)
    have hM := hM v2 ev2
    refine lv_istore_n (lv' := [(2, .int v2), (0, .int x0), (1, .ref a1)]) hx hb dX2_valueOf_9 rfl hl (by decide) rfl (fun ls hl => ?_)
    refine lv_iload_n hx hb dX2_valueOf_10 rfl (lv_at hl 0 rfl) ?_
    refine lv_aload_n hx hb dX2_valueOf_11 rfl (lv_at hl 2 rfl) ?_
    have hk3 := hM.1
    have hM := hM.2
    refine x_alen C hV hk3 (by decide) rfl dX2_valueOf_12 ?_
    refine lv_icmp_ge (tgt := 22) hx hb dX2_valueOf_13 (by decide) (fun c4 => ?_) (fun c4 => ?_)
    · have hM := ite_t c4 hM
      refine lv_iconst (v := 0) hx hb dX2_valueOf_22 (by decide) ?_
      exact x_iret C hV hM dX2_valueOf_23
    have hM := ite_f c4 hM
    refine lv_aload_n hx hb dX2_valueOf_16 rfl (lv_at hl 2 rfl) ?_
    refine lv_iload_n hx hb dX2_valueOf_17 rfl (lv_at hl 0 rfl) ?_
    have hi5 := hM.1
    have hM := hM.2
    refine x_iald C hV hk3 hi5 dX2_valueOf_18 ?_
    refine lv_goto (tgt := 23) hx hb dX2_valueOf_19 (by decide) ?_
    exact x_iret C hV hM dX2_valueOf_23
  have hM := ite_f c1 hM
  refine lv_iload_n hx hb dX2_valueOf_4 rfl (lv_at hl 0 rfl) ?_
  exact x_iret C hV hM dX2_valueOf_5

def wq_X2_isMet_96 (N : Nat) (K : Int32 → PS → Prop) (k_5 : PS → Nat → Nat → Nat → Int32 → Int32 → Prop) (S : PS) (a0 : Nat) (a1 : Nat) (a2 : Nat) (x3 : Int32) (x4 : Int32) (b0 : Nat) (t1 : Int32) (t2 : Int32) : Prop := S.K b0 = 20 ∧ vp_in t1 (S.ln b0) ∧ ∀ S31 : PS, S31 = S.setA b0 t1.toNatClampNeg t2 → k_5 S31 a0 a1 a2 x3 (x4 + 1)
def wq_X2_isMet_5 (N : Nat) (K : Int32 → PS → Prop) : Nat → PS → Nat → Nat → Nat → Int32 → Int32 → Prop
  | 0, _, _, _, _, _, _ => False
  | n + 1, S, a0, a1, a2, x3, x4 => S.K a0 = 3 ∧ ∃ p2 : Nat, S.R 192 a0 = some p2 ∧ S.K p2 = 20 ∧ if (nI (S.ln p2)) ≤ x4 then (if x3 = 1 then (S.K a2 = 20 ∧ vp_in 0 (S.ln a2) ∧ if (S.A a2 (0 : Int32).toNatClampNeg) = 1 then (K 1 S) else (K 0 S)) else (K 0 S)) else (∃ p9 : Nat, S.R 192 a0 = some p9 ∧ S.K p9 = 20 ∧ vp_in x4 (S.ln p9) ∧ ∀ v12 : Int32, v12 = (S.A p9 x4.toNatClampNeg) → if v12 ≤ (-8) then (if v12 < (-9) then (if 2 ≤ x3 then (S.K a2 = 20 ∧ vp_in ((x3 + (-1)) - 1) (S.ln a2) ∧ vp_in (x3 + (-1)) (S.ln a2) ∧ wp_X2_joined N S v12 (S.A a2 ((x3 + (-1)) - 1).toNatClampNeg) (S.A a2 (x3 + (-1)).toNatClampNeg) (fun r20 S19 => S19.K a2 = 20 ∧ vp_in ((x3 + (-1)) - 1) (S19.ln a2) ∧ ∀ S23 : PS, S23 = S19.setA a2 ((x3 + (-1)) - 1).toNatClampNeg r20 → wq_X2_isMet_5 N K n S23 a0 a1 a2 (x3 + (-1)) (x4 + 1))) else (K 0 S)) else (if 1 ≤ x3 then (S.K a2 = 20 ∧ vp_in (x3 - 1) (S.ln a2) ∧ ∀ v27 : Int32, v27 = (S.A a2 (x3 - 1).toNatClampNeg) → if v12 = (-8) then (wq_X2_isMet_96 N K (fun S a0 a1 a2 x3 x4 => wq_X2_isMet_5 N K n S a0 a1 a2 x3 x4) S a0 a1 a2 x3 x4 a2 (x3 - 1) (-v27)) else (wq_X2_isMet_96 N K (fun S a0 a1 a2 x3 x4 => wq_X2_isMet_5 N K n S a0 a1 a2 x3 x4) S a0 a1 a2 x3 x4 a2 (x3 - 1) (1 - v27))) else (K 0 S))) else (S.K a2 = 20 ∧ if x3 < (nI (S.ln a2)) then (wp_X2_valueOf N S v12 a1 (fun r35 S34 => S34.K a2 = 20 ∧ vp_in x3 (S34.ln a2) ∧ ∀ S38 : PS, S38 = S34.setA a2 x3.toNatClampNeg r35 → wq_X2_isMet_5 N K n S38 a0 a1 a2 (x3 + 1) (x4 + 1))) else (K 0 S)))
def wp_X2_isMet (N : Nat) (S : PS) (a0 : Nat) (a1 : Nat) (a2 : Nat) (K : Int32 → PS → Prop) : Prop := wq_X2_isMet_5 N K N S a0 a1 a2 0 0
set_option maxHeartbeats 4000000 in
set_option maxRecDepth 100000 in
theorem tq_X2_isMet_96 {p : Program} {l : Launch} {e : Env} {s : State} {m : MethodId} {args : Array Value} {below : List Frame} {meth : Method} {c : Code} {D : DX} {cA : Nat → ClassId} {z0 N : Nat} {K : Int32 → PS → Prop} {k_5 : PS → Nat → Nat → Nat → Int32 → Int32 → Prop} (C : CX p s m args meth c cX2_isMet 7 RX2 (some .boolean) D cA z0) (H_5 : ∀ (S : PS) (a0 : Nat) (a1 : Nat) (a2 : Nat) (x3 : Int32) (x4 : Int32) (H : Heap) (locs : List Loc) (ls : Array Slot), k_5 S a0 a1 a2 x3 x4 → XV D cA z0 s S H locs → lv_has ls 7 [(0, .ref a0), (1, .ref a1), (2, .ref a2), (3, .int x3), (4, .int x4)] → W p l e (rmd 1 0 0) s m args below meth c H locs 0 0 (MQ below (va_Qi (fun r S => (r = 0 ∨ r = 1) ∧ K r S) (XK D cA z0) (zA z0)) args s 0 0 (zA z0)) (F0 m 5 ls [])) : ∀ (S : PS) (a0 : Nat) (a1 : Nat) (a2 : Nat) (x3 : Int32) (x4 : Int32) (b0 : Nat) (t1 : Int32) (t2 : Int32) (H : Heap) (locs : List Loc) (ls : Array Slot), wq_X2_isMet_96 N K k_5 S a0 a1 a2 x3 x4 b0 t1 t2 → XV D cA z0 s S H locs → lv_has ls 7 [(0, .ref a0), (1, .ref a1), (2, .ref a2), (3, .int x3), (4, .int x4)] → W p l e (rmd 1 0 0) s m args below meth c H locs 0 0 (MQ below (va_Qi (fun r S => (r = 0 ∨ r = 1) ∧ K r S) (XK D cA z0) (zA z0)) args s 0 0 (zA z0)) (F0 m 96 ls [.int t2, .int t1, .ref b0]) := by
  obtain ⟨hx, hb, hml, hown, hts, hK, hz, hlk, hr⟩ := id C
  intro S a0 a1 a2 x3 x4 b0 t1 t2 H locs ls hM hV hl
  unfold wq_X2_isMet_96 at hM
  have hk29 := hM.1
  have hM := hM.2
  have hi30 := hM.1
  have hM := hM.2
  obtain ⟨S31, eS31⟩ : ∃ z : PS, z = S.setA b0 t1.toNatClampNeg t2 := ⟨_, rfl⟩
  have hM := hM S31 eS31
  refine x_iast C hV hk29 hi30 eS31 dX2_isMet_96 (fun H locs hV => ?_)
  refine lv_goto (tgt := 128) hx hb dX2_isMet_97 (by decide) ?_
  refine lv_iinc (v := (x4 + 1)) (lv' := [(4, .int (x4 + 1)), (0, .ref a0), (1, .ref a1), (2, .ref a2), (3, .int x3)]) hx hb dX2_isMet_128 hl (k := 4) rfl rfl (by decide) rfl (fun ls hl => ?_)
  refine lv_goto (tgt := 5) hx hb dX2_isMet_131 (by decide) ?_
  exact H_5 _ _ _ _ _ _ _ _ _ hM hV (lv_sub hl [1, 2, 3, 4, 0] rfl)
set_option maxHeartbeats 4000000 in
set_option maxRecDepth 100000 in
theorem tq_X2_isMet_5 {p : Program} {l : Launch} {e : Env} {s : State} {m : MethodId} {args : Array Value} {below : List Frame} {meth : Method} {c : Code} {D : DX} {cA : Nat → ClassId} {z0 N : Nat} {K : Int32 → PS → Prop} (C : CX p s m args meth c cX2_isMet 7 RX2 (some .boolean) D cA z0) : ∀ (n : Nat) (S : PS) (a0 : Nat) (a1 : Nat) (a2 : Nat) (x3 : Int32) (x4 : Int32) (H : Heap) (locs : List Loc) (ls : Array Slot), wq_X2_isMet_5 N K n S a0 a1 a2 x3 x4 → XV D cA z0 s S H locs → lv_has ls 7 [(0, .ref a0), (1, .ref a1), (2, .ref a2), (3, .int x3), (4, .int x4)] → W p l e (rmd 1 0 0) s m args below meth c H locs 0 0 (MQ below (va_Qi (fun r S => (r = 0 ∨ r = 1) ∧ K r S) (XK D cA z0) (zA z0)) args s 0 0 (zA z0)) (F0 m 5 ls []) := by
  obtain ⟨hx, hb, hml, hown, hts, hK, hz, hlk, hr⟩ := id C
  intro n
  induction n with
  | zero => intro S a0 a1 a2 x3 x4 H locs ls hM; exact absurd hM id
  | succ n ih =>
    intro S a0 a1 a2 x3 x4 H locs ls hM hV hl
    rw [wq_X2_isMet_5.eq_2] at hM
    refine lv_iload hx hb dX2_isMet_5 (lv_at hl 4 rfl) ?_
    refine lv_aload_n hx hb dX2_isMet_7 rfl (lv_at hl 0 rfl) ?_
    have hk1 := hM.1
    have hM := hM.2
    obtain ⟨p2, hp2, hM⟩ := hM
    refine x_getR C hV wf_X2_9 hk1 hp2 dX2_isMet_8 ?_
    have hk3 := hM.1
    have hM := hM.2
    refine x_alen C hV hk3 (by decide) rfl dX2_isMet_11 ?_
    refine lv_icmp_ge (tgt := 134) hx hb dX2_isMet_12 (by decide) (fun c4 => ?_) (fun c4 => ?_)
    · have hM := ite_t c4 hM
      refine lv_iload_n hx hb dX2_isMet_134 rfl (lv_at hl 3 rfl) ?_
      refine lv_iconst (v := 1) hx hb dX2_isMet_135 (by decide) ?_
      refine lv_icmp_ne (tgt := 150) hx hb dX2_isMet_136 (by decide) (fun c5 => ?_) (fun c5 => ?_)
      · have hM := ite_f c5 hM
        refine lv_iconst (v := 0) hx hb dX2_isMet_150 (by decide) ?_
        exact x_zret C hV (by decide) hM dX2_isMet_151
      have hM := ite_t c5 hM
      refine lv_aload_n hx hb dX2_isMet_139 rfl (lv_at hl 2 rfl) ?_
      refine lv_iconst (v := 0) hx hb dX2_isMet_140 (by decide) ?_
      have hk6 := hM.1
      have hM := hM.2
      have hi7 := hM.1
      have hM := hM.2
      refine x_iald C hV hk6 hi7 dX2_isMet_141 ?_
      refine lv_iconst (v := 1) hx hb dX2_isMet_142 (by decide) ?_
      refine lv_icmp_ne (tgt := 150) hx hb dX2_isMet_143 (by decide) (fun c8 => ?_) (fun c8 => ?_)
      · have hM := ite_f c8 hM
        refine lv_iconst (v := 0) hx hb dX2_isMet_150 (by decide) ?_
        exact x_zret C hV (by decide) hM dX2_isMet_151
      have hM := ite_t c8 hM
      refine lv_iconst (v := 1) hx hb dX2_isMet_146 (by decide) ?_
      refine lv_goto (tgt := 151) hx hb dX2_isMet_147 (by decide) ?_
      exact x_zret C hV (by decide) hM dX2_isMet_151
    have hM := ite_f c4 hM
    refine lv_aload_n hx hb dX2_isMet_15 rfl (lv_at hl 0 rfl) ?_
    obtain ⟨p9, hp9, hM⟩ := hM
    refine x_getR C hV wf_X2_9 hk1 hp9 dX2_isMet_16 ?_
    refine lv_iload hx hb dX2_isMet_19 (lv_at hl 4 rfl) ?_
    have hk10 := hM.1
    have hM := hM.2
    have hi11 := hM.1
    have hM := hM.2
    refine x_iald C hV hk10 hi11 dX2_isMet_21 ?_
    refine lv_topi (fun v12 ev12 => ?_)
    have hM := hM v12 ev12
    refine lv_istore (lv' := [(5, .int v12), (0, .ref a0), (1, .ref a1), (2, .ref a2), (3, .int x3), (4, .int x4)]) hx hb dX2_isMet_22 hl (by decide) rfl (fun ls hl => ?_)
    refine lv_iload hx hb dX2_isMet_24 (lv_at hl 0 rfl) ?_
    refine lv_bipush (v := (-8)) hx hb dX2_isMet_26 (by decide) ?_
    refine lv_icmp_le (tgt := 54) hx hb dX2_isMet_28 (by decide) (fun c13 => ?_) (fun c13 => ?_)
    · have hM := ite_t c13 hM
      refine lv_iload hx hb dX2_isMet_54 (lv_at hl 0 rfl) ?_
      refine lv_bipush (v := (-9)) hx hb dX2_isMet_56 (by decide) ?_
      refine lv_icmp_lt (tgt := 100) hx hb dX2_isMet_58 (by decide) (fun c14 => ?_) (fun c14 => ?_)
      · have hM := ite_t c14 hM
        refine lv_iload_n hx hb dX2_isMet_100 rfl (lv_at hl 4 rfl) ?_
        refine lv_iconst (v := 2) hx hb dX2_isMet_101 (by decide) ?_
        refine lv_icmp_ge (tgt := 107) hx hb dX2_isMet_102 (by decide) (fun c15 => ?_) (fun c15 => ?_)
        · have hM := ite_t c15 hM
          refine lv_iinc (v := (x3 + (-1))) (lv' := [(3, .int (x3 + (-1))), (5, .int v12), (0, .ref a0), (1, .ref a1), (2, .ref a2), (4, .int x4)]) hx hb dX2_isMet_107 hl (k := 4) rfl rfl (by decide) rfl (fun ls hl => ?_)
          refine lv_aload_n hx hb dX2_isMet_110 rfl (lv_at hl 4 rfl) ?_
          refine lv_iload_n hx hb dX2_isMet_111 rfl (lv_at hl 0 rfl) ?_
          refine lv_iconst (v := 1) hx hb dX2_isMet_112 (by decide) ?_
          refine lv_isub hx hb dX2_isMet_113 ?_
          refine lv_iload hx hb dX2_isMet_114 (lv_at hl 1 rfl) ?_
          refine lv_aload_n hx hb dX2_isMet_116 rfl (lv_at hl 4 rfl) ?_
          refine lv_iload_n hx hb dX2_isMet_117 rfl (lv_at hl 0 rfl) ?_
          refine lv_iconst (v := 1) hx hb dX2_isMet_118 (by decide) ?_
          refine lv_isub hx hb dX2_isMet_119 ?_
          have hk16 := hM.1
          have hM := hM.2
          have hi17 := hM.1
          have hM := hM.2
          refine x_iald C hV hk16 hi17 dX2_isMet_120 ?_
          refine lv_aload_n hx hb dX2_isMet_121 rfl (lv_at hl 4 rfl) ?_
          refine lv_iload_n hx hb dX2_isMet_122 rfl (lv_at hl 0 rfl) ?_
          have hi18 := hM.1
          have hM := hM.2
          refine x_iald C hV hk16 hi18 dX2_isMet_123 ?_
          refine x_ci hV (x_runS (As := [.int v12, .int (S.A a2 ((x3 + (-1)) - 1).toNatClampNeg), .int (S.A a2 (x3 + (-1)).toNatClampNeg)]) (rest := [.int ((x3 + (-1)) - 1), .ref a2]) C hV ms_X2_joined wl_X2_19 (c_X2_joined hM) ⟨by decide, by decide⟩ rfl hl.1 (Nat.le_of_ble_eq_true rfl) dX2_isMet_124 ⟨Nat.zero_le _, Nat.zero_le _⟩) (fun r20 S19 H locs hV hM => ?_)
          have hk21 := hM.1
          have hM := hM.2
          have hi22 := hM.1
          have hM := hM.2
          obtain ⟨S23, eS23⟩ : ∃ z : PS, z = S19.setA a2 ((x3 + (-1)) - 1).toNatClampNeg r20 := ⟨_, rfl⟩
          have hM := hM S23 eS23
          refine x_iast C hV hk21 hi22 eS23 dX2_isMet_127 (fun H locs hV => ?_)
          refine lv_iinc (v := (x4 + 1)) (lv' := [(4, .int (x4 + 1)), (3, .int (x3 + (-1))), (5, .int v12), (0, .ref a0), (1, .ref a1), (2, .ref a2)]) hx hb dX2_isMet_128 hl (k := 5) rfl rfl (by decide) rfl (fun ls hl => ?_)
          refine lv_goto (tgt := 5) hx hb dX2_isMet_131 (by decide) ?_
          exact ih _ _ _ _ _ _ _ _ _ hM hV (lv_sub hl [3, 4, 5, 1, 0] rfl)
        have hM := ite_f c15 hM
        refine lv_iconst (v := 0) hx hb dX2_isMet_105 (by decide) ?_
        exact x_zret C hV (by decide) hM dX2_isMet_106
      have hM := ite_f c14 hM
      refine lv_iload_n hx hb dX2_isMet_61 rfl (lv_at hl 4 rfl) ?_
      refine lv_iconst (v := 1) hx hb dX2_isMet_62 (by decide) ?_
      refine lv_icmp_ge (tgt := 68) hx hb dX2_isMet_63 (by decide) (fun c24 => ?_) (fun c24 => ?_)
      · have hM := ite_t c24 hM
        refine lv_aload_n hx hb dX2_isMet_68 rfl (lv_at hl 3 rfl) ?_
        refine lv_iload_n hx hb dX2_isMet_69 rfl (lv_at hl 4 rfl) ?_
        refine lv_iconst (v := 1) hx hb dX2_isMet_70 (by decide) ?_
        refine lv_isub hx hb dX2_isMet_71 ?_
        have hk25 := hM.1
        have hM := hM.2
        have hi26 := hM.1
        have hM := hM.2
        refine x_iald C hV hk25 hi26 dX2_isMet_72 ?_
        refine lv_topi (fun v27 ev27 => ?_)
        have hM := hM v27 ev27
        refine lv_istore (lv' := [(6, .int v27), (5, .int v12), (0, .ref a0), (1, .ref a1), (2, .ref a2), (3, .int x3), (4, .int x4)]) hx hb dX2_isMet_73 hl (by decide) rfl (fun ls hl => ?_)
        refine lv_aload_n hx hb dX2_isMet_75 rfl (lv_at hl 4 rfl) ?_
        refine lv_iload_n hx hb dX2_isMet_76 rfl (lv_at hl 5 rfl) ?_
        refine lv_iconst (v := 1) hx hb dX2_isMet_77 (by decide) ?_
        refine lv_isub hx hb dX2_isMet_78 ?_
        refine lv_iload hx hb dX2_isMet_79 (lv_at hl 1 rfl) ?_
        refine lv_bipush (v := (-8)) hx hb dX2_isMet_81 (by decide) ?_
        refine lv_icmp_ne (tgt := 92) hx hb dX2_isMet_83 (by decide) (fun c28 => ?_) (fun c28 => ?_)
        · have hM := ite_f c28 hM
          refine lv_iconst (v := 1) hx hb dX2_isMet_92 (by decide) ?_
          refine lv_iload hx hb dX2_isMet_93 (lv_at hl 0 rfl) ?_
          refine lv_isub hx hb dX2_isMet_95 ?_
          exact tq_X2_isMet_96 C ih _ _ _ _ _ _ _ _ _ _ _ _ hM hV (lv_sub hl [2, 3, 4, 5, 6] rfl)
        have hM := ite_t c28 hM
        refine lv_iload hx hb dX2_isMet_86 (lv_at hl 0 rfl) ?_
        refine lv_ineg hx hb dX2_isMet_88 ?_
        refine lv_goto (tgt := 96) hx hb dX2_isMet_89 (by decide) ?_
        exact tq_X2_isMet_96 C ih _ _ _ _ _ _ _ _ _ _ _ _ hM hV (lv_sub hl [2, 3, 4, 5, 6] rfl)
      have hM := ite_f c24 hM
      refine lv_iconst (v := 0) hx hb dX2_isMet_66 (by decide) ?_
      exact x_zret C hV (by decide) hM dX2_isMet_67
    have hM := ite_f c13 hM
    refine lv_iload_n hx hb dX2_isMet_31 rfl (lv_at hl 4 rfl) ?_
    refine lv_aload_n hx hb dX2_isMet_32 rfl (lv_at hl 3 rfl) ?_
    have hk32 := hM.1
    have hM := hM.2
    refine x_alen C hV hk32 (by decide) rfl dX2_isMet_33 ?_
    refine lv_icmp_lt (tgt := 39) hx hb dX2_isMet_34 (by decide) (fun c33 => ?_) (fun c33 => ?_)
    · have hM := ite_t c33 hM
      refine lv_aload_n hx hb dX2_isMet_39 rfl (lv_at hl 3 rfl) ?_
      refine lv_iload_n hx hb dX2_isMet_40 rfl (lv_at hl 4 rfl) ?_
      refine lv_iload hx hb dX2_isMet_41 (lv_at hl 0 rfl) ?_
      refine lv_aload_n hx hb dX2_isMet_43 rfl (lv_at hl 2 rfl) ?_
      refine x_ci hV (x_runS (As := [.int v12, .ref a1]) (rest := [.int x3, .ref a2]) C hV ms_X2_valueOf wl_X2_15 (c_X2_valueOf hM) ⟨by decide, by decide⟩ rfl hl.1 (Nat.le_of_ble_eq_true rfl) dX2_isMet_44 ⟨Nat.zero_le _, Nat.zero_le _⟩) (fun r35 S34 H locs hV hM => ?_)
      have hk36 := hM.1
      have hM := hM.2
      have hi37 := hM.1
      have hM := hM.2
      obtain ⟨S38, eS38⟩ : ∃ z : PS, z = S34.setA a2 x3.toNatClampNeg r35 := ⟨_, rfl⟩
      have hM := hM S38 eS38
      refine x_iast C hV hk36 hi37 eS38 dX2_isMet_47 (fun H locs hV => ?_)
      refine lv_iinc (v := (x3 + 1)) (lv' := [(3, .int (x3 + 1)), (5, .int v12), (0, .ref a0), (1, .ref a1), (2, .ref a2), (4, .int x4)]) hx hb dX2_isMet_48 hl (k := 4) rfl rfl (by decide) rfl (fun ls hl => ?_)
      refine lv_goto (tgt := 128) hx hb dX2_isMet_51 (by decide) ?_
      refine lv_iinc (v := (x4 + 1)) (lv' := [(4, .int (x4 + 1)), (3, .int (x3 + 1)), (5, .int v12), (0, .ref a0), (1, .ref a1), (2, .ref a2)]) hx hb dX2_isMet_128 hl (k := 5) rfl rfl (by decide) rfl (fun ls hl => ?_)
      refine lv_goto (tgt := 5) hx hb dX2_isMet_131 (by decide) ?_
      exact ih _ _ _ _ _ _ _ _ _ hM hV (lv_sub hl [3, 4, 5, 1, 0] rfl)
    have hM := ite_f c33 hM
    refine lv_iconst (v := 0) hx hb dX2_isMet_37 (by decide) ?_
    exact x_zret C hV (by decide) hM dX2_isMet_38
set_option maxHeartbeats 4000000 in
set_option maxRecDepth 100000 in
theorem c_X2_isMet {l : Launch} {D : DX} {cA : Nat → ClassId} {z0 N : Nat} {S : PS} {a0 : Nat} {a1 : Nat} {a2 : Nat} {K : Int32 → PS → Prop} (hM : wp_X2_isMet N S a0 a1 a2 K) : MetI l yX2_isMet cX2_isMet 7 (some .boolean) 1 0 0 D cA z0 [.ref a0, .ref a1, .ref a2] S (fun r S => (r = 0 ∨ r = 1) ∧ K r S) := by
  refine x_met RX2 (by decide) rfl ?_
  intro p e s m below meth c C hin hV
  have hl := lv_entry ([.ref a0, .ref a1, .ref a2]) (n := 7) (Nat.le_of_ble_eq_true rfl)
  rw [lg_entry_eq]
  generalize (lg_sl ([.ref a0, .ref a1, .ref a2]) ++ List.replicate (7 - (lg_sl ([.ref a0, .ref a1, .ref a2])).length) Slot.unset).toArray = ls at hl ⊢
  have hl : lv_has ls 7 [(0, .ref a0), (1, .ref a1), (2, .ref a2)] := hl
  obtain ⟨hx, hb, hml, hown, hts, hK, hz, hlk, hr⟩ := id C
  unfold wp_X2_isMet at hM
  refine lv_iconst (v := 0) hx hb dX2_isMet_0 (by decide) ?_
  refine lv_istore_n (lv' := [(3, .int 0), (0, .ref a0), (1, .ref a1), (2, .ref a2)]) hx hb dX2_isMet_1 rfl hl (by decide) rfl (fun ls hl => ?_)
  refine lv_iconst (v := 0) hx hb dX2_isMet_2 (by decide) ?_
  refine lv_istore (lv' := [(4, .int 0), (3, .int 0), (0, .ref a0), (1, .ref a1), (2, .ref a2)]) hx hb dX2_isMet_3 hl (by decide) rfl (fun ls hl => ?_)
  exact tq_X2_isMet_5 C N _ _ _ _ _ _ _ _ _ hM hV (lv_sub hl [2, 3, 4, 1, 0] rfl)

def wp_X4_hasItem (N : Nat) (S : PS) (a0 : Nat) (x1 : Int32) (K : Int32 → PS → Prop) : Prop := if x1 < 0 then (K 0 S) else (S.K a0 = 5 ∧ if (S.I 321 a0) ≤ x1 then (K 0 S) else (K 1 S))
set_option maxHeartbeats 4000000 in
set_option maxRecDepth 100000 in
theorem c_X4_hasItem {l : Launch} {D : DX} {cA : Nat → ClassId} {z0 N : Nat} {S : PS} {a0 : Nat} {x1 : Int32} {K : Int32 → PS → Prop} (hM : wp_X4_hasItem N S a0 x1 K) : MetI l yX4_hasItem cX4_hasItem 2 (some .boolean) 0 0 0 D cA z0 [.ref a0, .int x1] S (fun r S => (r = 0 ∨ r = 1) ∧ K r S) := by
  refine x_met RX4 (by decide) rfl ?_
  intro p e s m below meth c C hin hV
  have hl := lv_entry ([.ref a0, .int x1]) (n := 2) (Nat.le_of_ble_eq_true rfl)
  rw [lg_entry_eq]
  generalize (lg_sl ([.ref a0, .int x1]) ++ List.replicate (2 - (lg_sl ([.ref a0, .int x1])).length) Slot.unset).toArray = ls at hl ⊢
  have hl : lv_has ls 2 [(0, .ref a0), (1, .int x1)] := hl
  obtain ⟨hx, hb, hml, hown, hts, hK, hz, hlk, hr⟩ := id C
  unfold wp_X4_hasItem at hM
  refine lv_iload_n hx hb dX4_hasItem_0 rfl (lv_at hl 1 rfl) ?_
  refine lv_if_lt (tgt := 16) hx hb dX4_hasItem_1 (by decide) (fun c1 => ?_) (fun c1 => ?_)
  · have hM := ite_t c1 hM
    refine lv_iconst (v := 0) hx hb dX4_hasItem_16 (by decide) ?_
    exact x_zret C hV (by decide) hM dX4_hasItem_17
  have hM := ite_f c1 hM
  refine lv_iload_n hx hb dX4_hasItem_4 rfl (lv_at hl 1 rfl) ?_
  refine lv_aload_n hx hb dX4_hasItem_5 rfl (lv_at hl 0 rfl) ?_
  have hk2 := hM.1
  have hM := hM.2
  refine x_getI C hV wf_X4_15 hk2 dX4_hasItem_6 ?_
  refine lv_icmp_ge (tgt := 16) hx hb dX4_hasItem_9 (by decide) (fun c3 => ?_) (fun c3 => ?_)
  · have hM := ite_t c3 hM
    refine lv_iconst (v := 0) hx hb dX4_hasItem_16 (by decide) ?_
    exact x_zret C hV (by decide) hM dX4_hasItem_17
  have hM := ite_f c3 hM
  refine lv_iconst (v := 1) hx hb dX4_hasItem_12 (by decide) ?_
  refine lv_goto (tgt := 17) hx hb dX4_hasItem_13 (by decide) ?_
  exact x_zret C hV (by decide) hM dX4_hasItem_17

def wq_X4_write_31 (N : Nat) (K : PS → Prop) (S : PS) (b0 : Nat) (t1 : Int32) (t2 : Int32) : Prop := S.K b0 = 20 ∧ vp_in t1 (S.ln b0) ∧ ∀ S7 : PS, S7 = S.setA b0 t1.toNatClampNeg t2 → K S7
def wp_X4_write (N : Nat) (S : PS) (a0 : Nat) (x1 : Int32) (x2 : Int32) (K : PS → Prop) : Prop := S.K a0 = 5 ∧ ∃ p2 : Nat, S.R 322 a0 = some p2 ∧ if (S.I 320 a0) = 0 then (wq_X4_write_31 N K S p2 x1 x2.toInt8.toInt32) else (if (S.I 320 a0) = 1 then (wq_X4_write_31 N K S p2 x1 x2.toInt16.toInt32) else (wq_X4_write_31 N K S p2 x1 x2))
set_option maxHeartbeats 4000000 in
set_option maxRecDepth 100000 in
theorem tq_X4_write_31 {p : Program} {l : Launch} {e : Env} {s : State} {m : MethodId} {args : Array Value} {below : List Frame} {meth : Method} {c : Code} {D : DX} {cA : Nat → ClassId} {z0 N : Nat} {K : PS → Prop} (C : CX p s m args meth c cX4_write 3 RX4 none D cA z0) : ∀ (S : PS) (b0 : Nat) (t1 : Int32) (t2 : Int32) (H : Heap) (locs : List Loc) (ls : Array Slot), wq_X4_write_31 N K S b0 t1 t2 → XV D cA z0 s S H locs → lv_has ls 3 [] → W p l e (rmd 0 0 0) s m args below meth c H locs 0 0 (MQ below (va_Qv K (XK D cA z0) (zA z0)) args s 0 0 (zA z0)) (F0 m 31 ls [.int t2, .int t1, .ref b0]) := by
  obtain ⟨hx, hb, hml, hown, hts, hK, hz, hlk, hr⟩ := id C
  intro S b0 t1 t2 H locs ls hM hV hl
  unfold wq_X4_write_31 at hM
  have hk5 := hM.1
  have hM := hM.2
  have hi6 := hM.1
  have hM := hM.2
  obtain ⟨S7, eS7⟩ : ∃ z : PS, z = S.setA b0 t1.toNatClampNeg t2 := ⟨_, rfl⟩
  have hM := hM S7 eS7
  refine x_iast C hV hk5 hi6 eS7 dX4_write_31 (fun H locs hV => ?_)
  exact x_vret C hV hM dX4_write_32
set_option maxHeartbeats 4000000 in
set_option maxRecDepth 100000 in
theorem c_X4_write {l : Launch} {D : DX} {cA : Nat → ClassId} {z0 N : Nat} {S : PS} {a0 : Nat} {x1 : Int32} {x2 : Int32} {K : PS → Prop} (hM : wp_X4_write N S a0 x1 x2 K) : MetV l yX4_write cX4_write 3 none 0 0 0 D cA z0 [.ref a0, .int x1, .int x2] S K := by
  refine x_met RX4 (by decide) rfl ?_
  intro p e s m below meth c C hin hV
  have hl := lv_entry ([.ref a0, .int x1, .int x2]) (n := 3) (Nat.le_of_ble_eq_true rfl)
  rw [lg_entry_eq]
  generalize (lg_sl ([.ref a0, .int x1, .int x2]) ++ List.replicate (3 - (lg_sl ([.ref a0, .int x1, .int x2])).length) Slot.unset).toArray = ls at hl ⊢
  have hl : lv_has ls 3 [(0, .ref a0), (1, .int x1), (2, .int x2)] := hl
  obtain ⟨hx, hb, hml, hown, hts, hK, hz, hlk, hr⟩ := id C
  unfold wp_X4_write at hM
  refine lv_aload_n hx hb dX4_write_0 rfl (lv_at hl 0 rfl) ?_
  have hk1 := hM.1
  have hM := hM.2
  obtain ⟨p2, hp2, hM⟩ := hM
  refine x_getR C hV wf_X4_18 hk1 hp2 dX4_write_1 ?_
  refine lv_iload_n hx hb dX4_write_4 rfl (lv_at hl 1 rfl) ?_
  refine lv_aload_n hx hb dX4_write_5 rfl (lv_at hl 0 rfl) ?_
  refine x_getI C hV wf_X4_9 hk1 dX4_write_6 ?_
  refine lv_if_ne (tgt := 17) hx hb dX4_write_9 (by decide) (fun c3 => ?_) (fun c3 => ?_)
  · have hM := ite_f c3 hM
    refine lv_aload_n hx hb dX4_write_17 rfl (lv_at hl 0 rfl) ?_
    refine x_getI C hV wf_X4_9 hk1 dX4_write_18 ?_
    refine lv_iconst (v := 1) hx hb dX4_write_21 (by decide) ?_
    refine lv_icmp_ne (tgt := 30) hx hb dX4_write_22 (by decide) (fun c4 => ?_) (fun c4 => ?_)
    · have hM := ite_f c4 hM
      refine lv_iload_n hx hb dX4_write_30 rfl (lv_at hl 2 rfl) ?_
      exact tq_X4_write_31 C _ _ _ _ _ _ _ hM hV (lv_sub hl [] rfl)
    have hM := ite_t c4 hM
    refine lv_iload_n hx hb dX4_write_25 rfl (lv_at hl 2 rfl) ?_
    refine lv_i2s hx hb dX4_write_26 rfl ?_
    refine lv_goto (tgt := 31) hx hb dX4_write_27 (by decide) ?_
    exact tq_X4_write_31 C _ _ _ _ _ _ _ hM hV (lv_sub hl [] rfl)
  have hM := ite_t c3 hM
  refine lv_iload_n hx hb dX4_write_12 rfl (lv_at hl 2 rfl) ?_
  refine lv_i2b hx hb dX4_write_13 rfl ?_
  refine lv_goto (tgt := 31) hx hb dX4_write_14 (by decide) ?_
  exact tq_X4_write_31 C _ _ _ _ _ _ _ hM hV (lv_sub hl [] rfl)

def wp_X5_holdNothing (N : Nat) (S : PS) (a0 : Nat) (K : PS → Prop) : Prop := S.K a0 = 6 ∧ ∀ S2 : PS, S2 = S.setI 384 a0 2 → K S2
set_option maxHeartbeats 4000000 in
set_option maxRecDepth 100000 in
theorem c_X5_holdNothing {l : Launch} {D : DX} {cA : Nat → ClassId} {z0 N : Nat} {S : PS} {a0 : Nat} {K : PS → Prop} (hM : wp_X5_holdNothing N S a0 K) : MetV l yX5_holdNothing cX5_holdNothing 1 none 0 0 0 D cA z0 [.ref a0] S K := by
  refine x_met RX5 (by decide) rfl ?_
  intro p e s m below meth c C hin hV
  have hl := lv_entry ([.ref a0]) (n := 1) (Nat.le_of_ble_eq_true rfl)
  rw [lg_entry_eq]
  generalize (lg_sl ([.ref a0]) ++ List.replicate (1 - (lg_sl ([.ref a0])).length) Slot.unset).toArray = ls at hl ⊢
  have hl : lv_has ls 1 [(0, .ref a0)] := hl
  obtain ⟨hx, hb, hml, hown, hts, hK, hz, hlk, hr⟩ := id C
  unfold wp_X5_holdNothing at hM
  refine lv_aload_n hx hb dX5_holdNothing_0 rfl (lv_at hl 0 rfl) ?_
  refine lv_iconst (v := 2) hx hb dX5_holdNothing_1 (by decide) ?_
  have hk1 := hM.1
  have hM := hM.2
  obtain ⟨S2, eS2⟩ : ∃ z : PS, z = S.setI 384 a0 2 := ⟨_, rfl⟩
  have hM := hM S2 eS2
  refine x_putI C hV wp_X5_9 hk1 ⟨rfl, rfl⟩ eS2 dX5_holdNothing_2 (fun H locs hV => ?_)
  exact x_vret C hV hM dX5_holdNothing_5

def wp_X5_holdPart (N : Nat) (S : PS) (a0 : Nat) (x1 : Int32) (K : PS → Prop) : Prop := S.K a0 = 6 ∧ ∀ S2 : PS, S2 = S.setI 384 a0 0 → ∀ S4 : PS, S4 = S2.setI 385 a0 x1 → K S4
set_option maxHeartbeats 4000000 in
set_option maxRecDepth 100000 in
theorem c_X5_holdPart {l : Launch} {D : DX} {cA : Nat → ClassId} {z0 N : Nat} {S : PS} {a0 : Nat} {x1 : Int32} {K : PS → Prop} (hM : wp_X5_holdPart N S a0 x1 K) : MetV l yX5_holdPart cX5_holdPart 2 none 0 0 0 D cA z0 [.ref a0, .int x1] S K := by
  refine x_met RX5 (by decide) rfl ?_
  intro p e s m below meth c C hin hV
  have hl := lv_entry ([.ref a0, .int x1]) (n := 2) (Nat.le_of_ble_eq_true rfl)
  rw [lg_entry_eq]
  generalize (lg_sl ([.ref a0, .int x1]) ++ List.replicate (2 - (lg_sl ([.ref a0, .int x1])).length) Slot.unset).toArray = ls at hl ⊢
  have hl : lv_has ls 2 [(0, .ref a0), (1, .int x1)] := hl
  obtain ⟨hx, hb, hml, hown, hts, hK, hz, hlk, hr⟩ := id C
  unfold wp_X5_holdPart at hM
  refine lv_aload_n hx hb dX5_holdPart_0 rfl (lv_at hl 0 rfl) ?_
  refine lv_iconst (v := 0) hx hb dX5_holdPart_1 (by decide) ?_
  have hk1 := hM.1
  have hM := hM.2
  obtain ⟨S2, eS2⟩ : ∃ z : PS, z = S.setI 384 a0 0 := ⟨_, rfl⟩
  have hM := hM S2 eS2
  refine x_putI C hV wp_X5_9 hk1 ⟨rfl, rfl⟩ eS2 dX5_holdPart_2 (fun H locs hV => ?_)
  refine lv_aload_n hx hb dX5_holdPart_5 rfl (lv_at hl 0 rfl) ?_
  refine lv_iload_n hx hb dX5_holdPart_6 rfl (lv_at hl 1 rfl) ?_
  have hk3 := kp_I eS2 hk1
  obtain ⟨S4, eS4⟩ : ∃ z : PS, z = S2.setI 385 a0 x1 := ⟨_, rfl⟩
  have hM := hM S4 eS4
  refine x_putI C hV wp_X5_15 hk3 ⟨rfl, rfl⟩ eS4 dX5_holdPart_7 (fun H locs hV => ?_)
  exact x_vret C hV hM dX5_holdPart_10

def wp_X5_holdRow (N : Nat) (S : PS) (a0 : Nat) (x1 : Int32) (x2 : Int32) (K : PS → Prop) : Prop := S.K a0 = 6 ∧ ∀ S2 : PS, S2 = S.setI 384 a0 1 → ∀ S4 : PS, S4 = S2.setI 386 a0 x1 → ∀ S6 : PS, S6 = S4.setI 387 a0 x2 → K S6
set_option maxHeartbeats 4000000 in
set_option maxRecDepth 100000 in
theorem c_X5_holdRow {l : Launch} {D : DX} {cA : Nat → ClassId} {z0 N : Nat} {S : PS} {a0 : Nat} {x1 : Int32} {x2 : Int32} {K : PS → Prop} (hM : wp_X5_holdRow N S a0 x1 x2 K) : MetV l yX5_holdRow cX5_holdRow 3 none 0 0 0 D cA z0 [.ref a0, .int x1, .int x2] S K := by
  refine x_met RX5 (by decide) rfl ?_
  intro p e s m below meth c C hin hV
  have hl := lv_entry ([.ref a0, .int x1, .int x2]) (n := 3) (Nat.le_of_ble_eq_true rfl)
  rw [lg_entry_eq]
  generalize (lg_sl ([.ref a0, .int x1, .int x2]) ++ List.replicate (3 - (lg_sl ([.ref a0, .int x1, .int x2])).length) Slot.unset).toArray = ls at hl ⊢
  have hl : lv_has ls 3 [(0, .ref a0), (1, .int x1), (2, .int x2)] := hl
  obtain ⟨hx, hb, hml, hown, hts, hK, hz, hlk, hr⟩ := id C
  unfold wp_X5_holdRow at hM
  refine lv_aload_n hx hb dX5_holdRow_0 rfl (lv_at hl 0 rfl) ?_
  refine lv_iconst (v := 1) hx hb dX5_holdRow_1 (by decide) ?_
  have hk1 := hM.1
  have hM := hM.2
  obtain ⟨S2, eS2⟩ : ∃ z : PS, z = S.setI 384 a0 1 := ⟨_, rfl⟩
  have hM := hM S2 eS2
  refine x_putI C hV wp_X5_9 hk1 ⟨rfl, rfl⟩ eS2 dX5_holdRow_2 (fun H locs hV => ?_)
  refine lv_aload_n hx hb dX5_holdRow_5 rfl (lv_at hl 0 rfl) ?_
  refine lv_iload_n hx hb dX5_holdRow_6 rfl (lv_at hl 1 rfl) ?_
  have hk3 := kp_I eS2 hk1
  obtain ⟨S4, eS4⟩ : ∃ z : PS, z = S2.setI 386 a0 x1 := ⟨_, rfl⟩
  have hM := hM S4 eS4
  refine x_putI C hV wp_X5_18 hk3 ⟨rfl, rfl⟩ eS4 dX5_holdRow_7 (fun H locs hV => ?_)
  refine lv_aload_n hx hb dX5_holdRow_10 rfl (lv_at hl 0 rfl) ?_
  refine lv_iload_n hx hb dX5_holdRow_11 rfl (lv_at hl 2 rfl) ?_
  have hk5 := kp_I eS4 hk3
  obtain ⟨S6, eS6⟩ : ∃ z : PS, z = S4.setI 387 a0 x2 := ⟨_, rfl⟩
  have hM := hM S6 eS6
  refine x_putI C hV wp_X5_21 hk5 ⟨rfl, rfl⟩ eS6 dX5_holdRow_12 (fun H locs hV => ?_)
  exact x_vret C hV hM dX5_holdRow_15

def wp_X6_amountOn (N : Nat) (S : PS) (a0 : Nat) (x1 : Int32) (x2 : Int32) (K : Int32 → PS → Prop) : Prop := ∀ v1 : Int32, v1 = (x1 * 3) → S.K a0 = 7 ∧ ∃ p3 : Nat, S.R 451 a0 = some p3 ∧ S.K p3 = 20 ∧ vp_in (v1 + 2) (S.ln p3) ∧ if x2 < (S.A p3 (v1 + 2).toNatClampNeg) then (K 0 S) else (∃ p7 : Nat, S.R 451 a0 = some p7 ∧ S.K p7 = 20 ∧ vp_in (v1 + 1) (S.ln p7) ∧ K (S.A p7 (v1 + 1).toNatClampNeg) S)
set_option maxHeartbeats 4000000 in
set_option maxRecDepth 100000 in
theorem c_X6_amountOn {l : Launch} {D : DX} {cA : Nat → ClassId} {z0 N : Nat} {S : PS} {a0 : Nat} {x1 : Int32} {x2 : Int32} {K : Int32 → PS → Prop} (hM : wp_X6_amountOn N S a0 x1 x2 K) : MetI l yX6_amountOn cX6_amountOn 4 (some .int) 0 0 0 D cA z0 [.ref a0, .int x1, .int x2] S K := by
  refine x_met RX6 (by decide) rfl ?_
  intro p e s m below meth c C hin hV
  have hl := lv_entry ([.ref a0, .int x1, .int x2]) (n := 4) (Nat.le_of_ble_eq_true rfl)
  rw [lg_entry_eq]
  generalize (lg_sl ([.ref a0, .int x1, .int x2]) ++ List.replicate (4 - (lg_sl ([.ref a0, .int x1, .int x2])).length) Slot.unset).toArray = ls at hl ⊢
  have hl : lv_has ls 4 [(0, .ref a0), (1, .int x1), (2, .int x2)] := hl
  obtain ⟨hx, hb, hml, hown, hts, hK, hz, hlk, hr⟩ := id C
  unfold wp_X6_amountOn at hM
  refine lv_iload_n hx hb dX6_amountOn_0 rfl (lv_at hl 1 rfl) ?_
  refine lv_iconst (v := 3) hx hb dX6_amountOn_1 (by decide) ?_
  refine lv_imul hx hb dX6_amountOn_2 ?_
  refine lv_topi (fun v1 ev1 => ?_)
  have hM := hM v1 ev1
  refine lv_istore_n (lv' := [(3, .int v1), (0, .ref a0), (1, .int x1), (2, .int x2)]) hx hb dX6_amountOn_3 rfl hl (by decide) rfl (fun ls hl => ?_)
  refine lv_aload_n hx hb dX6_amountOn_4 rfl (lv_at hl 1 rfl) ?_
  have hk2 := hM.1
  have hM := hM.2
  obtain ⟨p3, hp3, hM⟩ := hM
  refine x_getR C hV wf_X6_21 hk2 hp3 dX6_amountOn_5 ?_
  refine lv_iload_n hx hb dX6_amountOn_8 rfl (lv_at hl 0 rfl) ?_
  refine lv_iconst (v := 2) hx hb dX6_amountOn_9 (by decide) ?_
  refine lv_iadd hx hb dX6_amountOn_10 ?_
  have hk4 := hM.1
  have hM := hM.2
  have hi5 := hM.1
  have hM := hM.2
  refine x_iald C hV hk4 hi5 dX6_amountOn_11 ?_
  refine lv_iload_n hx hb dX6_amountOn_12 rfl (lv_at hl 3 rfl) ?_
  refine lv_icmp_gt (tgt := 27) hx hb dX6_amountOn_13 (by decide) (fun c6 => ?_) (fun c6 => ?_)
  · have hM := ite_t c6 hM
    refine lv_iconst (v := 0) hx hb dX6_amountOn_27 (by decide) ?_
    exact x_iret C hV hM dX6_amountOn_28
  have hM := ite_f c6 hM
  refine lv_aload_n hx hb dX6_amountOn_16 rfl (lv_at hl 1 rfl) ?_
  obtain ⟨p7, hp7, hM⟩ := hM
  refine x_getR C hV wf_X6_21 hk2 hp7 dX6_amountOn_17 ?_
  refine lv_iload_n hx hb dX6_amountOn_20 rfl (lv_at hl 0 rfl) ?_
  refine lv_iconst (v := 1) hx hb dX6_amountOn_21 (by decide) ?_
  refine lv_iadd hx hb dX6_amountOn_22 ?_
  have hk8 := hM.1
  have hM := hM.2
  have hi9 := hM.1
  have hM := hM.2
  refine x_iald C hV hk8 hi9 dX6_amountOn_23 ?_
  refine lv_goto (tgt := 28) hx hb dX6_amountOn_24 (by decide) ?_
  exact x_iret C hV hM dX6_amountOn_28

def wp_X6_clauseCount (N : Nat) (S : PS) (a0 : Nat) (K : Int32 → PS → Prop) : Prop := S.K a0 = 7 ∧ ∃ p2 : Nat, S.R 451 a0 = some p2 ∧ S.K p2 = 20 ∧ K ((nI (S.ln p2)) / 3) S
set_option maxHeartbeats 4000000 in
set_option maxRecDepth 100000 in
theorem c_X6_clauseCount {l : Launch} {D : DX} {cA : Nat → ClassId} {z0 N : Nat} {S : PS} {a0 : Nat} {K : Int32 → PS → Prop} (hM : wp_X6_clauseCount N S a0 K) : MetI l yX6_clauseCount cX6_clauseCount 1 (some .int) 0 0 0 D cA z0 [.ref a0] S K := by
  refine x_met RX6 (by decide) rfl ?_
  intro p e s m below meth c C hin hV
  have hl := lv_entry ([.ref a0]) (n := 1) (Nat.le_of_ble_eq_true rfl)
  rw [lg_entry_eq]
  generalize (lg_sl ([.ref a0]) ++ List.replicate (1 - (lg_sl ([.ref a0])).length) Slot.unset).toArray = ls at hl ⊢
  have hl : lv_has ls 1 [(0, .ref a0)] := hl
  obtain ⟨hx, hb, hml, hown, hts, hK, hz, hlk, hr⟩ := id C
  unfold wp_X6_clauseCount at hM
  refine lv_aload_n hx hb dX6_clauseCount_0 rfl (lv_at hl 0 rfl) ?_
  have hk1 := hM.1
  have hM := hM.2
  obtain ⟨p2, hp2, hM⟩ := hM
  refine x_getR C hV wf_X6_21 hk1 hp2 dX6_clauseCount_1 ?_
  have hk3 := hM.1
  have hM := hM.2
  refine x_alen C hV hk3 (by decide) rfl dX6_clauseCount_4 ?_
  refine lv_iconst (v := 3) hx hb dX6_clauseCount_5 (by decide) ?_
  refine lv_idiv hx hb dX6_clauseCount_6 (by decide) ?_
  exact x_iret C hV hM dX6_clauseCount_7

def wp_X6_partOf (N : Nat) (S : PS) (a0 : Nat) (x1 : Int32) (K : Int32 → PS → Prop) : Prop := S.K a0 = 7 ∧ ∃ p2 : Nat, S.R 451 a0 = some p2 ∧ S.K p2 = 20 ∧ vp_in (x1 * 3) (S.ln p2) ∧ K (S.A p2 (x1 * 3).toNatClampNeg) S
set_option maxHeartbeats 4000000 in
set_option maxRecDepth 100000 in
theorem c_X6_partOf {l : Launch} {D : DX} {cA : Nat → ClassId} {z0 N : Nat} {S : PS} {a0 : Nat} {x1 : Int32} {K : Int32 → PS → Prop} (hM : wp_X6_partOf N S a0 x1 K) : MetI l yX6_partOf cX6_partOf 2 (some .int) 0 0 0 D cA z0 [.ref a0, .int x1] S K := by
  refine x_met RX6 (by decide) rfl ?_
  intro p e s m below meth c C hin hV
  have hl := lv_entry ([.ref a0, .int x1]) (n := 2) (Nat.le_of_ble_eq_true rfl)
  rw [lg_entry_eq]
  generalize (lg_sl ([.ref a0, .int x1]) ++ List.replicate (2 - (lg_sl ([.ref a0, .int x1])).length) Slot.unset).toArray = ls at hl ⊢
  have hl : lv_has ls 2 [(0, .ref a0), (1, .int x1)] := hl
  obtain ⟨hx, hb, hml, hown, hts, hK, hz, hlk, hr⟩ := id C
  unfold wp_X6_partOf at hM
  refine lv_aload_n hx hb dX6_partOf_0 rfl (lv_at hl 0 rfl) ?_
  have hk1 := hM.1
  have hM := hM.2
  obtain ⟨p2, hp2, hM⟩ := hM
  refine x_getR C hV wf_X6_21 hk1 hp2 dX6_partOf_1 ?_
  refine lv_iload_n hx hb dX6_partOf_4 rfl (lv_at hl 1 rfl) ?_
  refine lv_iconst (v := 3) hx hb dX6_partOf_5 (by decide) ?_
  refine lv_imul hx hb dX6_partOf_6 ?_
  have hk3 := hM.1
  have hM := hM.2
  have hi4 := hM.1
  have hM := hM.2
  refine x_iald C hV hk3 hi4 dX6_partOf_7 ?_
  exact x_iret C hV hM dX6_partOf_8

def wq_X6_foundAt_5 (N : Nat) (K : Int32 → PS → Prop) : Nat → PS → Nat → Int32 → Int32 → Int32 → Int32 → Prop
  | 0, _, _, _, _, _, _ => False
  | n + 1, S, a0, x1, x2, x3, x4 => S.K a0 = 7 ∧ wp_X6_clauseCount N S a0 (fun r3 S2 => if r3 ≤ x4 then (K x3 S2) else (S2.K a0 = 7 ∧ wp_X6_partOf N S2 a0 x4 (fun r7 S6 => if r7 = x1 then (S6.K a0 = 7 ∧ wp_X6_amountOn N S6 a0 x4 x2 (fun r11 S10 => ∀ v12 : Int32, v12 = (x3 + r11) → wq_X6_foundAt_5 N K n S10 a0 x1 x2 v12 (x4 + 1))) else (wq_X6_foundAt_5 N K n S6 a0 x1 x2 x3 (x4 + 1)))))
def wp_X6_foundAt (N : Nat) (S : PS) (a0 : Nat) (x1 : Int32) (x2 : Int32) (K : Int32 → PS → Prop) : Prop := wq_X6_foundAt_5 N K N S a0 x1 x2 0 0
set_option maxHeartbeats 4000000 in
set_option maxRecDepth 100000 in
theorem tq_X6_foundAt_5 {p : Program} {l : Launch} {e : Env} {s : State} {m : MethodId} {args : Array Value} {below : List Frame} {meth : Method} {c : Code} {D : DX} {cA : Nat → ClassId} {z0 N : Nat} {K : Int32 → PS → Prop} (C : CX p s m args meth c cX6_foundAt 5 RX6 (some .int) D cA z0) : ∀ (n : Nat) (S : PS) (a0 : Nat) (x1 : Int32) (x2 : Int32) (x3 : Int32) (x4 : Int32) (H : Heap) (locs : List Loc) (ls : Array Slot), wq_X6_foundAt_5 N K n S a0 x1 x2 x3 x4 → XV D cA z0 s S H locs → lv_has ls 5 [(0, .ref a0), (1, .int x1), (2, .int x2), (3, .int x3), (4, .int x4)] → W p l e (rmd 1 0 0) s m args below meth c H locs 0 0 (MQ below (va_Qi K (XK D cA z0) (zA z0)) args s 0 0 (zA z0)) (F0 m 5 ls []) := by
  obtain ⟨hx, hb, hml, hown, hts, hK, hz, hlk, hr⟩ := id C
  intro n
  induction n with
  | zero => intro S a0 x1 x2 x3 x4 H locs ls hM; exact absurd hM id
  | succ n ih =>
    intro S a0 x1 x2 x3 x4 H locs ls hM hV hl
    rw [wq_X6_foundAt_5.eq_2] at hM
    refine lv_iload hx hb dX6_foundAt_5 (lv_at hl 4 rfl) ?_
    refine lv_aload_n hx hb dX6_foundAt_7 rfl (lv_at hl 0 rfl) ?_
    have hk1 := hM.1
    have hM := hM.2
    refine x_ci hV (x_runV (As := []) (rest := [.int x4]) C hV mi_X6_clauseCount wl_X6_25 hk1 (c_X6_clauseCount hM) ⟨by decide, by decide⟩ rfl hl.1 (Nat.le_of_ble_eq_true rfl) dX6_foundAt_8 ⟨Nat.zero_le _, Nat.zero_le _⟩) (fun r3 S2 H locs hV hM => ?_)
    refine lv_icmp_ge (tgt := 40) hx hb dX6_foundAt_11 (by decide) (fun c4 => ?_) (fun c4 => ?_)
    · have hM := ite_t c4 hM
      refine lv_iload_n hx hb dX6_foundAt_40 rfl (lv_at hl 3 rfl) ?_
      exact x_iret C hV hM dX6_foundAt_41
    have hM := ite_f c4 hM
    refine lv_aload_n hx hb dX6_foundAt_14 rfl (lv_at hl 0 rfl) ?_
    refine lv_iload hx hb dX6_foundAt_15 (lv_at hl 4 rfl) ?_
    have hk5 := hM.1
    have hM := hM.2
    refine x_ci hV (x_runV (As := [.int x4]) (rest := []) C hV mi_X6_partOf wl_X6_29 hk5 (c_X6_partOf hM) ⟨by decide, by decide⟩ rfl hl.1 (Nat.le_of_ble_eq_true rfl) dX6_foundAt_17 ⟨Nat.zero_le _, Nat.zero_le _⟩) (fun r7 S6 H locs hV hM => ?_)
    refine lv_iload_n hx hb dX6_foundAt_20 rfl (lv_at hl 1 rfl) ?_
    refine lv_icmp_ne (tgt := 34) hx hb dX6_foundAt_21 (by decide) (fun c8 => ?_) (fun c8 => ?_)
    · have hM := ite_f c8 hM
      refine lv_iinc (v := (x4 + 1)) (lv' := [(4, .int (x4 + 1)), (0, .ref a0), (1, .int x1), (2, .int x2), (3, .int x3)]) hx hb dX6_foundAt_34 hl (k := 4) rfl rfl (by decide) rfl (fun ls hl => ?_)
      refine lv_goto (tgt := 5) hx hb dX6_foundAt_37 (by decide) ?_
      exact ih _ _ _ _ _ _ _ _ _ hM hV (lv_sub hl [1, 2, 3, 4, 0] rfl)
    have hM := ite_t c8 hM
    refine lv_iload_n hx hb dX6_foundAt_24 rfl (lv_at hl 3 rfl) ?_
    refine lv_aload_n hx hb dX6_foundAt_25 rfl (lv_at hl 0 rfl) ?_
    refine lv_iload hx hb dX6_foundAt_26 (lv_at hl 4 rfl) ?_
    refine lv_iload_n hx hb dX6_foundAt_28 rfl (lv_at hl 2 rfl) ?_
    have hk9 := hM.1
    have hM := hM.2
    refine x_ci hV (x_runV (As := [.int x4, .int x2]) (rest := [.int x3]) C hV mi_X6_amountOn wl_X6_33 hk9 (c_X6_amountOn hM) ⟨by decide, by decide⟩ rfl hl.1 (Nat.le_of_ble_eq_true rfl) dX6_foundAt_29 ⟨Nat.zero_le _, Nat.zero_le _⟩) (fun r11 S10 H locs hV hM => ?_)
    refine lv_iadd hx hb dX6_foundAt_32 ?_
    refine lv_topi (fun v12 ev12 => ?_)
    have hM := hM v12 ev12
    refine lv_istore_n (lv' := [(3, .int v12), (0, .ref a0), (1, .int x1), (2, .int x2), (4, .int x4)]) hx hb dX6_foundAt_33 rfl hl (by decide) rfl (fun ls hl => ?_)
    refine lv_iinc (v := (x4 + 1)) (lv' := [(4, .int (x4 + 1)), (3, .int v12), (0, .ref a0), (1, .int x1), (2, .int x2)]) hx hb dX6_foundAt_34 hl (k := 4) rfl rfl (by decide) rfl (fun ls hl => ?_)
    refine lv_goto (tgt := 5) hx hb dX6_foundAt_37 (by decide) ?_
    exact ih _ _ _ _ _ _ _ _ _ hM hV (lv_sub hl [2, 3, 4, 1, 0] rfl)
set_option maxHeartbeats 4000000 in
set_option maxRecDepth 100000 in
theorem c_X6_foundAt {l : Launch} {D : DX} {cA : Nat → ClassId} {z0 N : Nat} {S : PS} {a0 : Nat} {x1 : Int32} {x2 : Int32} {K : Int32 → PS → Prop} (hM : wp_X6_foundAt N S a0 x1 x2 K) : MetI l yX6_foundAt cX6_foundAt 5 (some .int) 1 0 0 D cA z0 [.ref a0, .int x1, .int x2] S K := by
  refine x_met RX6 (by decide) rfl ?_
  intro p e s m below meth c C hin hV
  have hl := lv_entry ([.ref a0, .int x1, .int x2]) (n := 5) (Nat.le_of_ble_eq_true rfl)
  rw [lg_entry_eq]
  generalize (lg_sl ([.ref a0, .int x1, .int x2]) ++ List.replicate (5 - (lg_sl ([.ref a0, .int x1, .int x2])).length) Slot.unset).toArray = ls at hl ⊢
  have hl : lv_has ls 5 [(0, .ref a0), (1, .int x1), (2, .int x2)] := hl
  obtain ⟨hx, hb, hml, hown, hts, hK, hz, hlk, hr⟩ := id C
  unfold wp_X6_foundAt at hM
  refine lv_iconst (v := 0) hx hb dX6_foundAt_0 (by decide) ?_
  refine lv_istore_n (lv' := [(3, .int 0), (0, .ref a0), (1, .int x1), (2, .int x2)]) hx hb dX6_foundAt_1 rfl hl (by decide) rfl (fun ls hl => ?_)
  refine lv_iconst (v := 0) hx hb dX6_foundAt_2 (by decide) ?_
  refine lv_istore (lv' := [(4, .int 0), (3, .int 0), (0, .ref a0), (1, .int x1), (2, .int x2)]) hx hb dX6_foundAt_3 hl (by decide) rfl (fun ls hl => ?_)
  exact tq_X6_foundAt_5 C N _ _ _ _ _ _ _ _ _ hM hV (lv_sub hl [2, 3, 4, 1, 0] rfl)
