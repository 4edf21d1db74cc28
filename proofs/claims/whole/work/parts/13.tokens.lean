def wp_X3_begin (N : Nat) (S : PS) (a0 : Nat) (K : PS → Prop) : Prop := S.K a0 = 4 ∧ ∀ S2 : PS, S2 = S.setI 258 a0 0 → K S2
set_option maxHeartbeats 4000000 in
set_option maxRecDepth 100000 in
theorem c_X3_begin {l : Launch} {D : DX} {cA : Nat → ClassId} {z0 N : Nat} {S : PS} {a0 : Nat} {K : PS → Prop} (hM : wp_X3_begin N S a0 K) : MetV l yX3_begin cX3_begin 1 none 0 0 0 D cA z0 [.ref a0] S K := by
  refine x_met RX3 (by decide) rfl ?_
  intro p e s m below meth c C hin hV
  have hl := lv_entry ([.ref a0]) (n := 1) (Nat.le_of_ble_eq_true rfl)
  rw [lg_entry_eq]
  generalize (lg_sl ([.ref a0]) ++ List.replicate (1 - (lg_sl ([.ref a0])).length) Slot.unset).toArray = ls at hl ⊢
  have hl : lv_has ls 1 [(0, .ref a0)] := hl
  obtain ⟨hx, hb, hml, hown, hts, hK, hz, hlk, hr⟩ := id C
  unfold wp_X3_begin at hM
  refine lv_aload_n hx hb dX3_begin_0 rfl (lv_at hl 0 rfl) ?_
  refine lv_iconst (v := 0) hx hb dX3_begin_1 (by decide) ?_
  have hk1 := hM.1
  have hM := hM.2
  obtain ⟨S2, eS2⟩ : ∃ z : PS, z = S.setI 258 a0 0 := ⟨_, rfl⟩
  have hM := hM S2 eS2
  refine x_putI C hV wp_X3_15 hk1 ⟨rfl, rfl⟩ eS2 dX3_begin_2 (fun H locs hV => ?_)
  exact x_vret C hV hM dX3_begin_5

def wp_X3_emit (N : Nat) (S : PS) (a0 : Nat) (x1 : Int32) (K : PS → Prop) : Prop := S.K a0 = 4 ∧ ∃ p2 : Nat, S.R 257 a0 = some p2 ∧ S.K p2 = 20 ∧ if (nI (S.ln p2)) ≤ (S.I 258 a0) then (K S) else (∃ p5 : Nat, S.R 257 a0 = some p5 ∧ S.K p5 = 20 ∧ vp_in (S.I 258 a0) (S.ln p5) ∧ ∀ S8 : PS, S8 = S.setA p5 (S.I 258 a0).toNatClampNeg x1 → ∀ S10 : PS, S10 = S8.setI 258 a0 ((S8.I 258 a0) + 1) → K S10)
set_option maxHeartbeats 4000000 in
set_option maxRecDepth 100000 in
theorem c_X3_emit {l : Launch} {D : DX} {cA : Nat → ClassId} {z0 N : Nat} {S : PS} {a0 : Nat} {x1 : Int32} {K : PS → Prop} (hM : wp_X3_emit N S a0 x1 K) : MetV l yX3_emit cX3_emit 2 none 0 0 0 D cA z0 [.ref a0, .int x1] S K := by
  refine x_met RX3 (by decide) rfl ?_
  intro p e s m below meth c C hin hV
  have hl := lv_entry ([.ref a0, .int x1]) (n := 2) (Nat.le_of_ble_eq_true rfl)
  rw [lg_entry_eq]
  generalize (lg_sl ([.ref a0, .int x1]) ++ List.replicate (2 - (lg_sl ([.ref a0, .int x1])).length) Slot.unset).toArray = ls at hl ⊢
  have hl : lv_has ls 2 [(0, .ref a0), (1, .int x1)] := hl
  obtain ⟨hx, hb, hml, hown, hts, hK, hz, hlk, hr⟩ := id C
  unfold wp_X3_emit at hM
  refine lv_aload_n hx hb dX3_emit_0 rfl (lv_at hl 0 rfl) ?_
  have hk1 := hM.1
  have hM := hM.2
  refine x_getI C hV wf_X3_15 hk1 dX3_emit_1 ?_
  refine lv_aload_n hx hb dX3_emit_4 rfl (lv_at hl 0 rfl) ?_
  obtain ⟨p2, hp2, hM⟩ := hM
  refine x_getR C hV wf_X3_9 hk1 hp2 dX3_emit_5 ?_
  have hk3 := hM.1
  have hM := hM.2
  refine x_alen C hV hk3 (by decide) rfl dX3_emit_8 ?_
  refine lv_icmp_ge (tgt := 32) hx hb dX3_emit_9 (by decide) (fun c4 => ?_) (fun c4 => ?_)
  · have hM := ite_t c4 hM
    exact x_vret C hV hM dX3_emit_32
  have hM := ite_f c4 hM
  refine lv_aload_n hx hb dX3_emit_12 rfl (lv_at hl 0 rfl) ?_
  obtain ⟨p5, hp5, hM⟩ := hM
  refine x_getR C hV wf_X3_9 hk1 hp5 dX3_emit_13 ?_
  refine lv_aload_n hx hb dX3_emit_16 rfl (lv_at hl 0 rfl) ?_
  refine x_getI C hV wf_X3_15 hk1 dX3_emit_17 ?_
  refine lv_iload_n hx hb dX3_emit_20 rfl (lv_at hl 1 rfl) ?_
  have hk6 := hM.1
  have hM := hM.2
  have hi7 := hM.1
  have hM := hM.2
  obtain ⟨S8, eS8⟩ : ∃ z : PS, z = S.setA p5 (S.I 258 a0).toNatClampNeg x1 := ⟨_, rfl⟩
  have hM := hM S8 eS8
  refine x_iast C hV hk6 hi7 eS8 dX3_emit_21 (fun H locs hV => ?_)
  refine lv_aload_n hx hb dX3_emit_22 rfl (lv_at hl 0 rfl) ?_
  refine lv_dup hx hb dX3_emit_23 rfl ?_
  have hk9 := kp_A eS8 hk1
  refine x_getI C hV wf_X3_15 hk9 dX3_emit_24 ?_
  refine lv_iconst (v := 1) hx hb dX3_emit_27 (by decide) ?_
  refine lv_iadd hx hb dX3_emit_28 ?_
  obtain ⟨S10, eS10⟩ : ∃ z : PS, z = S8.setI 258 a0 ((S8.I 258 a0) + 1) := ⟨_, rfl⟩
  have hM := hM S10 eS10
  refine x_putI C hV wp_X3_15 hk9 ⟨rfl, rfl⟩ eS10 dX3_emit_29 (fun H locs hV => ?_)
  exact x_vret C hV hM dX3_emit_32

def wp_X8_take (N : Nat) (S : PS) (a0 : Nat) (x1 : Int32) (K : Int32 → PS → Prop) : Prop := S.K a0 = 9 ∧ ∃ p2 : Nat, S.R 576 a0 = some p2 ∧ S.K p2 = 20 ∧ vp_in (S.I 580 a0) (S.ln p2) ∧ if (S.A p2 (S.I 580 a0).toNatClampNeg) = x1 then (if (S.I 580 a0) < ((S.I 579 a0) - 1) then (∀ S7 : PS, S7 = S.setI 580 a0 ((S.I 580 a0) + 1) → K 1 S7) else (K 0 S)) else (K 0 S)
set_option maxHeartbeats 4000000 in
set_option maxRecDepth 100000 in
theorem c_X8_take {l : Launch} {D : DX} {cA : Nat → ClassId} {z0 N : Nat} {S : PS} {a0 : Nat} {x1 : Int32} {K : Int32 → PS → Prop} (hM : wp_X8_take N S a0 x1 K) : MetI l yX8_take cX8_take 2 (some .boolean) 0 0 0 D cA z0 [.ref a0, .int x1] S (fun r S => (r = 0 ∨ r = 1) ∧ K r S) := by
  refine x_met RX8 (by decide) rfl ?_
  intro p e s m below meth c C hin hV
  have hl := lv_entry ([.ref a0, .int x1]) (n := 2) (Nat.le_of_ble_eq_true rfl)
  rw [lg_entry_eq]
  generalize (lg_sl ([.ref a0, .int x1]) ++ List.replicate (2 - (lg_sl ([.ref a0, .int x1])).length) Slot.unset).toArray = ls at hl ⊢
  have hl : lv_has ls 2 [(0, .ref a0), (1, .int x1)] := hl
  obtain ⟨hx, hb, hml, hown, hts, hK, hz, hlk, hr⟩ := id C
  unfold wp_X8_take at hM
  refine lv_aload_n hx hb dX8_take_0 rfl (lv_at hl 0 rfl) ?_
  have hk1 := hM.1
  have hM := hM.2
  obtain ⟨p2, hp2, hM⟩ := hM
  refine x_getR C hV wf_X8_9 hk1 hp2 dX8_take_1 ?_
  refine lv_aload_n hx hb dX8_take_4 rfl (lv_at hl 0 rfl) ?_
  refine x_getI C hV wf_X8_25 hk1 dX8_take_5 ?_
  have hk3 := hM.1
  have hM := hM.2
  have hi4 := hM.1
  have hM := hM.2
  refine x_iald C hV hk3 hi4 dX8_take_8 ?_
  refine lv_iload_n hx hb dX8_take_9 rfl (lv_at hl 1 rfl) ?_
  refine lv_icmp_ne (tgt := 26) hx hb dX8_take_10 (by decide) (fun c5 => ?_) (fun c5 => ?_)
  · have hM := ite_f c5 hM
    refine lv_iconst (v := 0) hx hb dX8_take_26 (by decide) ?_
    exact x_zret C hV (by decide) hM dX8_take_27
  have hM := ite_t c5 hM
  refine lv_aload_n hx hb dX8_take_13 rfl (lv_at hl 0 rfl) ?_
  refine x_getI C hV wf_X8_25 hk1 dX8_take_14 ?_
  refine lv_aload_n hx hb dX8_take_17 rfl (lv_at hl 0 rfl) ?_
  refine x_getI C hV wf_X8_21 hk1 dX8_take_18 ?_
  refine lv_iconst (v := 1) hx hb dX8_take_21 (by decide) ?_
  refine lv_isub hx hb dX8_take_22 ?_
  refine lv_icmp_lt (tgt := 28) hx hb dX8_take_23 (by decide) (fun c6 => ?_) (fun c6 => ?_)
  · have hM := ite_t c6 hM
    refine lv_aload_n hx hb dX8_take_28 rfl (lv_at hl 0 rfl) ?_
    refine lv_dup hx hb dX8_take_29 rfl ?_
    refine x_getI C hV wf_X8_25 hk1 dX8_take_30 ?_
    refine lv_iconst (v := 1) hx hb dX8_take_33 (by decide) ?_
    refine lv_iadd hx hb dX8_take_34 ?_
    obtain ⟨S7, eS7⟩ : ∃ z : PS, z = S.setI 580 a0 ((S.I 580 a0) + 1) := ⟨_, rfl⟩
    have hM := hM S7 eS7
    refine x_putI C hV wp_X8_25 hk1 ⟨rfl, rfl⟩ eS7 dX8_take_35 (fun H locs hV => ?_)
    refine lv_iconst (v := 1) hx hb dX8_take_38 (by decide) ?_
    exact x_zret C hV (by decide) hM dX8_take_39
  have hM := ite_f c6 hM
  refine lv_iconst (v := 0) hx hb dX8_take_26 (by decide) ?_
  exact x_zret C hV (by decide) hM dX8_take_27

def wp_X8_value (N : Nat) (S : PS) (a0 : Nat) (K : Int32 → PS → Prop) : Prop := S.K a0 = 9 ∧ ∃ p2 : Nat, S.R 577 a0 = some p2 ∧ S.K p2 = 20 ∧ vp_in (S.I 580 a0) (S.ln p2) ∧ K (S.A p2 (S.I 580 a0).toNatClampNeg) S
set_option maxHeartbeats 4000000 in
set_option maxRecDepth 100000 in
theorem c_X8_value {l : Launch} {D : DX} {cA : Nat → ClassId} {z0 N : Nat} {S : PS} {a0 : Nat} {K : Int32 → PS → Prop} (hM : wp_X8_value N S a0 K) : MetI l yX8_value cX8_value 1 (some .int) 0 0 0 D cA z0 [.ref a0] S K := by
  refine x_met RX8 (by decide) rfl ?_
  intro p e s m below meth c C hin hV
  have hl := lv_entry ([.ref a0]) (n := 1) (Nat.le_of_ble_eq_true rfl)
  rw [lg_entry_eq]
  generalize (lg_sl ([.ref a0]) ++ List.replicate (1 - (lg_sl ([.ref a0])).length) Slot.unset).toArray = ls at hl ⊢
  have hl : lv_has ls 1 [(0, .ref a0)] := hl
  obtain ⟨hx, hb, hml, hown, hts, hK, hz, hlk, hr⟩ := id C
  unfold wp_X8_value at hM
  refine lv_aload_n hx hb dX8_value_0 rfl (lv_at hl 0 rfl) ?_
  have hk1 := hM.1
  have hM := hM.2
  obtain ⟨p2, hp2, hM⟩ := hM
  refine x_getR C hV wf_X8_15 hk1 hp2 dX8_value_1 ?_
  refine lv_aload_n hx hb dX8_value_4 rfl (lv_at hl 0 rfl) ?_
  refine x_getI C hV wf_X8_25 hk1 dX8_value_5 ?_
  have hk3 := hM.1
  have hM := hM.2
  have hi4 := hM.1
  have hM := hM.2
  refine x_iald C hV hk3 hi4 dX8_value_8 ?_
  exact x_iret C hV hM dX8_value_9

def wq_X7_readBy_48 (N : Nat) (K : Int32 → PS → Prop) (S : PS) (a0 : Nat) (b0 : Nat) (t1 : Int32) : Prop := S.K b0 = 8 ∧ ∀ S21 : PS, S21 = S.setI 516 b0 t1 → S21.K a0 = 8 ∧ ∃ p23 : Nat, S21.R 512 a0 = some p23 ∧ S21.K p23 = 9 ∧ wp_X8_take N S21 p23 256 (fun r26 S25 => (r26 = 0 ∨ r26 = 1) ∧ K r26 S25)
def wp_X7_readBy (N : Nat) (S : PS) (a0 : Nat) (K : Int32 → PS → Prop) : Prop := S.K a0 = 8 ∧ ∃ p2 : Nat, S.R 512 a0 = some p2 ∧ S.K p2 = 9 ∧ wp_X8_take N S p2 302 (fun r5 S4 => if r5 = 0 then (K 0 S4) else (S4.K a0 = 8 ∧ ∃ p9 : Nat, S4.R 512 a0 = some p9 ∧ S4.K p9 = 9 ∧ wp_X8_take N S4 p9 45 (fun r12 S11 => if r12 = 0 then (S11.K a0 = 8 ∧ ∃ p16 : Nat, S11.R 512 a0 = some p16 ∧ S11.K p16 = 9 ∧ wp_X8_value N S11 p16 (fun r19 S18 => wq_X7_readBy_48 N K S18 a0 a0 r19)) else (S11.K a0 = 8 ∧ ∃ p30 : Nat, S11.R 512 a0 = some p30 ∧ S11.K p30 = 9 ∧ wp_X8_value N S11 p30 (fun r33 S32 => wq_X7_readBy_48 N K S32 a0 a0 (-r33))))))
set_option maxHeartbeats 4000000 in
set_option maxRecDepth 100000 in
theorem tq_X7_readBy_48 {p : Program} {l : Launch} {e : Env} {s : State} {m : MethodId} {args : Array Value} {below : List Frame} {meth : Method} {c : Code} {D : DX} {cA : Nat → ClassId} {z0 N : Nat} {K : Int32 → PS → Prop} (C : CX p s m args meth c cX7_readBy 2 RX7 (some .boolean) D cA z0) : ∀ (S : PS) (a0 : Nat) (b0 : Nat) (t1 : Int32) (H : Heap) (locs : List Loc) (ls : Array Slot), wq_X7_readBy_48 N K S a0 b0 t1 → XV D cA z0 s S H locs → lv_has ls 2 [(0, .ref a0)] → W p l e (rmd 1 0 0) s m args below meth c H locs 0 0 (MQ below (va_Qi (fun r S => (r = 0 ∨ r = 1) ∧ K r S) (XK D cA z0) (zA z0)) args s 0 0 (zA z0)) (F0 m 48 ls [.int t1, .ref b0]) := by
  obtain ⟨hx, hb, hml, hown, hts, hK, hz, hlk, hr⟩ := id C
  intro S a0 b0 t1 H locs ls hM hV hl
  unfold wq_X7_readBy_48 at hM
  have hk20 := hM.1
  have hM := hM.2
  obtain ⟨S21, eS21⟩ : ∃ z : PS, z = S.setI 516 b0 t1 := ⟨_, rfl⟩
  have hM := hM S21 eS21
  refine x_putI C hV wp_X7_22 hk20 ⟨rfl, rfl⟩ eS21 dX7_readBy_48 (fun H locs hV => ?_)
  refine lv_aload_n hx hb dX7_readBy_51 rfl (lv_at hl 0 rfl) ?_
  have hk22 := hM.1
  have hM := hM.2
  obtain ⟨p23, hp23, hM⟩ := hM
  refine x_getR C hV wf_X7_25 hk22 hp23 dX7_readBy_52 ?_
  refine lv_sipush (v := 256) hx hb dX7_readBy_55 (by decide) ?_
  have hk24 := hM.1
  have hM := hM.2
  refine x_ci hV (x_runV (As := [.int 256]) (rest := []) C hV mi_X8_take wl_X7_29 hk24 (c_X8_take hM) ⟨by decide, by decide⟩ rfl hl.1 (Nat.le_of_ble_eq_true rfl) dX7_readBy_58 ⟨Nat.zero_le _, Nat.zero_le _⟩) (fun r26 S25 H locs hV hM => ?_)
  have hz27 := hM.1
  have hM := hM.2
  have hz28 := hM.1
  have hM := hM.2
  exact x_zret C hV hz28 hM dX7_readBy_61
set_option maxHeartbeats 4000000 in
set_option maxRecDepth 100000 in
theorem c_X7_readBy {l : Launch} {D : DX} {cA : Nat → ClassId} {z0 N : Nat} {S : PS} {a0 : Nat} {K : Int32 → PS → Prop} (hM : wp_X7_readBy N S a0 K) : MetI l yX7_readBy cX7_readBy 2 (some .boolean) 1 0 0 D cA z0 [.ref a0] S (fun r S => (r = 0 ∨ r = 1) ∧ K r S) := by
  refine x_met RX7 (by decide) rfl ?_
  intro p e s m below meth c C hin hV
  have hl := lv_entry ([.ref a0]) (n := 2) (Nat.le_of_ble_eq_true rfl)
  rw [lg_entry_eq]
  generalize (lg_sl ([.ref a0]) ++ List.replicate (2 - (lg_sl ([.ref a0])).length) Slot.unset).toArray = ls at hl ⊢
  have hl : lv_has ls 2 [(0, .ref a0)] := hl
  obtain ⟨hx, hb, hml, hown, hts, hK, hz, hlk, hr⟩ := id C
  unfold wp_X7_readBy at hM
  refine lv_aload_n hx hb dX7_readBy_0 rfl (lv_at hl 0 rfl) ?_
  have hk1 := hM.1
  have hM := hM.2
  obtain ⟨p2, hp2, hM⟩ := hM
  refine x_getR C hV wf_X7_25 hk1 hp2 dX7_readBy_1 ?_
  refine lv_sipush (v := 302) hx hb dX7_readBy_4 (by decide) ?_
  have hk3 := hM.1
  have hM := hM.2
  refine x_ci hV (x_runV (As := [.int 302]) (rest := []) C hV mi_X8_take wl_X7_29 hk3 (c_X8_take hM) ⟨by decide, by decide⟩ rfl hl.1 (Nat.le_of_ble_eq_true rfl) dX7_readBy_7 ⟨Nat.zero_le _, Nat.zero_le _⟩) (fun r5 S4 H locs hV hM => ?_)
  have hz6 := hM.1
  have hM := hM.2
  refine lv_if_ne (tgt := 15) hx hb dX7_readBy_10 (by decide) (fun c7 => ?_) (fun c7 => ?_)
  · have hM := ite_f c7 hM
    refine lv_aload_n hx hb dX7_readBy_15 rfl (lv_at hl 0 rfl) ?_
    have hk8 := hM.1
    have hM := hM.2
    obtain ⟨p9, hp9, hM⟩ := hM
    refine x_getR C hV wf_X7_25 hk8 hp9 dX7_readBy_16 ?_
    refine lv_bipush (v := 45) hx hb dX7_readBy_19 (by decide) ?_
    have hk10 := hM.1
    have hM := hM.2
    refine x_ci hV (x_runV (As := [.int 45]) (rest := []) C hV mi_X8_take wl_X7_29 hk10 (c_X8_take hM) ⟨by decide, by decide⟩ rfl hl.1 (Nat.le_of_ble_eq_true rfl) dX7_readBy_21 ⟨Nat.zero_le _, Nat.zero_le _⟩) (fun r12 S11 H locs hV hM => ?_)
    have hz13 := hM.1
    have hM := hM.2
    refine lv_istore_n (lv' := [(1, .int r12), (0, .ref a0)]) hx hb dX7_readBy_24 rfl hl (by decide) rfl (fun ls hl => ?_)
    refine lv_aload_n hx hb dX7_readBy_25 rfl (lv_at hl 1 rfl) ?_
    refine lv_iload_n hx hb dX7_readBy_26 rfl (lv_at hl 0 rfl) ?_
    refine lv_if_eq (tgt := 41) hx hb dX7_readBy_27 (by decide) (fun c14 => ?_) (fun c14 => ?_)
    · have hM := ite_t c14 hM
      refine lv_aload_n hx hb dX7_readBy_41 rfl (lv_at hl 1 rfl) ?_
      have hk15 := hM.1
      have hM := hM.2
      obtain ⟨p16, hp16, hM⟩ := hM
      refine x_getR C hV wf_X7_25 hk15 hp16 dX7_readBy_42 ?_
      have hk17 := hM.1
      have hM := hM.2
      refine x_ci hV (x_runV (As := []) (rest := [.ref a0]) C hV mi_X8_value wl_X7_59 hk17 (c_X8_value hM) ⟨by decide, by decide⟩ rfl hl.1 (Nat.le_of_ble_eq_true rfl) dX7_readBy_45 ⟨Nat.zero_le _, Nat.zero_le _⟩) (fun r19 S18 H locs hV hM => ?_)
      exact tq_X7_readBy_48 C _ _ _ _ _ _ _ hM hV (lv_sub hl [1] rfl)
    have hM := ite_f c14 hM
    refine lv_aload_n hx hb dX7_readBy_30 rfl (lv_at hl 1 rfl) ?_
    have hk29 := hM.1
    have hM := hM.2
    obtain ⟨p30, hp30, hM⟩ := hM
    refine x_getR C hV wf_X7_25 hk29 hp30 dX7_readBy_31 ?_
    have hk31 := hM.1
    have hM := hM.2
    refine x_ci hV (x_runV (As := []) (rest := [.ref a0]) C hV mi_X8_value wl_X7_59 hk31 (c_X8_value hM) ⟨by decide, by decide⟩ rfl hl.1 (Nat.le_of_ble_eq_true rfl) dX7_readBy_34 ⟨Nat.zero_le _, Nat.zero_le _⟩) (fun r33 S32 H locs hV hM => ?_)
    refine lv_ineg hx hb dX7_readBy_37 ?_
    refine lv_goto (tgt := 48) hx hb dX7_readBy_38 (by decide) ?_
    exact tq_X7_readBy_48 C _ _ _ _ _ _ _ hM hV (lv_sub hl [1] rfl)
  have hM := ite_t c7 hM
  refine lv_iconst (v := 0) hx hb dX7_readBy_13 (by decide) ?_
  exact x_zret C hV (by decide) hM dX7_readBy_14

def wp_X7_readClause (N : Nat) (S : PS) (a0 : Nat) (x1 : Int32) (K : Int32 → PS → Prop) : Prop := S.K a0 = 8 ∧ ∃ p2 : Nat, S.R 512 a0 = some p2 ∧ S.K p2 = 9 ∧ wp_X8_take N S p2 303 (fun r5 S4 => if r5 = 0 then (K 0 S4) else (S4.K a0 = 8 ∧ ∃ p9 : Nat, S4.R 513 a0 = some p9 ∧ ∃ p10 : Nat, S4.R 512 a0 = some p10 ∧ S4.K p10 = 9 ∧ wp_X8_value N S4 p10 (fun r13 S12 => S12.K p9 = 20 ∧ vp_in x1 (S12.ln p9) ∧ ∀ S16 : PS, S16 = S12.setA p9 x1.toNatClampNeg r13 → S16.K a0 = 8 ∧ ∃ p18 : Nat, S16.R 512 a0 = some p18 ∧ S16.K p18 = 9 ∧ wp_X8_take N S16 p18 256 (fun r21 S20 => if r21 = 0 then (K 0 S20) else (S20.K a0 = 8 ∧ wp_X7_readBy N S20 a0 (fun r26 S25 => if r26 = 0 then (K 0 S25) else (S25.K a0 = 8 ∧ ∃ p30 : Nat, S25.R 513 a0 = some p30 ∧ S25.K p30 = 20 ∧ vp_in (x1 + 1) (S25.ln p30) ∧ ∀ S33 : PS, S33 = S25.setA p30 (x1 + 1).toNatClampNeg (S25.I 516 a0) → ∃ p35 : Nat, S33.R 513 a0 = some p35 ∧ S33.K p35 = 20 ∧ vp_in (x1 + 2) (S33.ln p35) ∧ ∀ S38 : PS, S38 = S33.setA p35 (x1 + 2).toNatClampNeg 0 → ∃ p40 : Nat, S38.R 512 a0 = some p40 ∧ S38.K p40 = 9 ∧ wp_X8_take N S38 p40 304 (fun r43 S42 => if r43 = 0 then (K 1 S42) else (S42.K a0 = 8 ∧ ∃ p47 : Nat, S42.R 513 a0 = some p47 ∧ ∃ p48 : Nat, S42.R 512 a0 = some p48 ∧ S42.K p48 = 9 ∧ wp_X8_value N S42 p48 (fun r51 S50 => S50.K p47 = 20 ∧ vp_in (x1 + 2) (S50.ln p47) ∧ ∀ S54 : PS, S54 = S50.setA p47 (x1 + 2).toNatClampNeg r51 → S54.K a0 = 8 ∧ ∃ p56 : Nat, S54.R 512 a0 = some p56 ∧ S54.K p56 = 9 ∧ wp_X8_take N S54 p56 256 (fun r59 S58 => (r59 = 0 ∨ r59 = 1) ∧ K r59 S58)))))))))))
set_option maxHeartbeats 4000000 in
set_option maxRecDepth 100000 in
theorem c_X7_readClause {l : Launch} {D : DX} {cA : Nat → ClassId} {z0 N : Nat} {S : PS} {a0 : Nat} {x1 : Int32} {K : Int32 → PS → Prop} (hM : wp_X7_readClause N S a0 x1 K) : MetI l yX7_readClause cX7_readClause 2 (some .boolean) 2 0 0 D cA z0 [.ref a0, .int x1] S (fun r S => (r = 0 ∨ r = 1) ∧ K r S) := by
  refine x_met RX7 (by decide) rfl ?_
  intro p e s m below meth c C hin hV
  have hl := lv_entry ([.ref a0, .int x1]) (n := 2) (Nat.le_of_ble_eq_true rfl)
  rw [lg_entry_eq]
  generalize (lg_sl ([.ref a0, .int x1]) ++ List.replicate (2 - (lg_sl ([.ref a0, .int x1])).length) Slot.unset).toArray = ls at hl ⊢
  have hl : lv_has ls 2 [(0, .ref a0), (1, .int x1)] := hl
  obtain ⟨hx, hb, hml, hown, hts, hK, hz, hlk, hr⟩ := id C
  unfold wp_X7_readClause at hM
  refine lv_aload_n hx hb dX7_readClause_0 rfl (lv_at hl 0 rfl) ?_
  have hk1 := hM.1
  have hM := hM.2
  obtain ⟨p2, hp2, hM⟩ := hM
  refine x_getR C hV wf_X7_25 hk1 hp2 dX7_readClause_1 ?_
  refine lv_sipush (v := 303) hx hb dX7_readClause_4 (by decide) ?_
  have hk3 := hM.1
  have hM := hM.2
  refine x_ci hV (x_runV (As := [.int 303]) (rest := []) C hV mi_X8_take wl_X7_29 hk3 (c_X8_take hM) ⟨by decide, by decide⟩ rfl hl.1 (Nat.le_of_ble_eq_true rfl) dX7_readClause_7 ⟨Nat.zero_le _, Nat.zero_le _⟩) (fun r5 S4 H locs hV hM => ?_)
  have hz6 := hM.1
  have hM := hM.2
  refine lv_if_ne (tgt := 15) hx hb dX7_readClause_10 (by decide) (fun c7 => ?_) (fun c7 => ?_)
  · have hM := ite_f c7 hM
    refine lv_aload_n hx hb dX7_readClause_15 rfl (lv_at hl 0 rfl) ?_
    have hk8 := hM.1
    have hM := hM.2
    obtain ⟨p9, hp9, hM⟩ := hM
    refine x_getR C hV wf_X7_9 hk8 hp9 dX7_readClause_16 ?_
    refine lv_iload_n hx hb dX7_readClause_19 rfl (lv_at hl 1 rfl) ?_
    refine lv_aload_n hx hb dX7_readClause_20 rfl (lv_at hl 0 rfl) ?_
    obtain ⟨p10, hp10, hM⟩ := hM
    refine x_getR C hV wf_X7_25 hk8 hp10 dX7_readClause_21 ?_
    have hk11 := hM.1
    have hM := hM.2
    refine x_ci hV (x_runV (As := []) (rest := [.int x1, .ref p9]) C hV mi_X8_value wl_X7_59 hk11 (c_X8_value hM) ⟨by decide, by decide⟩ rfl hl.1 (Nat.le_of_ble_eq_true rfl) dX7_readClause_24 ⟨Nat.zero_le _, Nat.zero_le _⟩) (fun r13 S12 H locs hV hM => ?_)
    have hk14 := hM.1
    have hM := hM.2
    have hi15 := hM.1
    have hM := hM.2
    obtain ⟨S16, eS16⟩ : ∃ z : PS, z = S12.setA p9 x1.toNatClampNeg r13 := ⟨_, rfl⟩
    have hM := hM S16 eS16
    refine x_iast C hV hk14 hi15 eS16 dX7_readClause_27 (fun H locs hV => ?_)
    refine lv_aload_n hx hb dX7_readClause_28 rfl (lv_at hl 0 rfl) ?_
    have hk17 := hM.1
    have hM := hM.2
    obtain ⟨p18, hp18, hM⟩ := hM
    refine x_getR C hV wf_X7_25 hk17 hp18 dX7_readClause_29 ?_
    refine lv_sipush (v := 256) hx hb dX7_readClause_32 (by decide) ?_
    have hk19 := hM.1
    have hM := hM.2
    refine x_ci hV (x_runV (As := [.int 256]) (rest := []) C hV mi_X8_take wl_X7_29 hk19 (c_X8_take hM) ⟨by decide, by decide⟩ rfl hl.1 (Nat.le_of_ble_eq_true rfl) dX7_readClause_35 ⟨Nat.zero_le _, Nat.zero_le _⟩) (fun r21 S20 H locs hV hM => ?_)
    have hz22 := hM.1
    have hM := hM.2
    refine lv_if_eq (tgt := 48) hx hb dX7_readClause_38 (by decide) (fun c23 => ?_) (fun c23 => ?_)
    · have hM := ite_t c23 hM
      refine lv_iconst (v := 0) hx hb dX7_readClause_48 (by decide) ?_
      exact x_zret C hV (by decide) hM dX7_readClause_49
    have hM := ite_f c23 hM
    refine lv_aload_n hx hb dX7_readClause_41 rfl (lv_at hl 0 rfl) ?_
    have hk24 := hM.1
    have hM := hM.2
    refine x_ci hV (x_runV (As := []) (rest := []) C hV mi_X7_readBy wl_X7_35 hk24 (c_X7_readBy hM) ⟨by decide, by decide⟩ rfl hl.1 (Nat.le_of_ble_eq_true rfl) dX7_readClause_42 ⟨Nat.zero_le _, Nat.zero_le _⟩) (fun r26 S25 H locs hV hM => ?_)
    have hz27 := hM.1
    have hM := hM.2
    refine lv_if_ne (tgt := 50) hx hb dX7_readClause_45 (by decide) (fun c28 => ?_) (fun c28 => ?_)
    · have hM := ite_f c28 hM
      refine lv_aload_n hx hb dX7_readClause_50 rfl (lv_at hl 0 rfl) ?_
      have hk29 := hM.1
      have hM := hM.2
      obtain ⟨p30, hp30, hM⟩ := hM
      refine x_getR C hV wf_X7_9 hk29 hp30 dX7_readClause_51 ?_
      refine lv_iload_n hx hb dX7_readClause_54 rfl (lv_at hl 1 rfl) ?_
      refine lv_iconst (v := 1) hx hb dX7_readClause_55 (by decide) ?_
      refine lv_iadd hx hb dX7_readClause_56 ?_
      refine lv_aload_n hx hb dX7_readClause_57 rfl (lv_at hl 0 rfl) ?_
      refine x_getI C hV wf_X7_22 hk29 dX7_readClause_58 ?_
      have hk31 := hM.1
      have hM := hM.2
      have hi32 := hM.1
      have hM := hM.2
      obtain ⟨S33, eS33⟩ : ∃ z : PS, z = S25.setA p30 (x1 + 1).toNatClampNeg (S25.I 516 a0) := ⟨_, rfl⟩
      have hM := hM S33 eS33
      refine x_iast C hV hk31 hi32 eS33 dX7_readClause_61 (fun H locs hV => ?_)
      refine lv_aload_n hx hb dX7_readClause_62 rfl (lv_at hl 0 rfl) ?_
      have hk34 := kp_A eS33 hk29
      obtain ⟨p35, hp35, hM⟩ := hM
      refine x_getR C hV wf_X7_9 hk34 hp35 dX7_readClause_63 ?_
      refine lv_iload_n hx hb dX7_readClause_66 rfl (lv_at hl 1 rfl) ?_
      refine lv_iconst (v := 2) hx hb dX7_readClause_67 (by decide) ?_
      refine lv_iadd hx hb dX7_readClause_68 ?_
      refine lv_iconst (v := 0) hx hb dX7_readClause_69 (by decide) ?_
      have hk36 := hM.1
      have hM := hM.2
      have hi37 := hM.1
      have hM := hM.2
      obtain ⟨S38, eS38⟩ : ∃ z : PS, z = S33.setA p35 (x1 + 2).toNatClampNeg 0 := ⟨_, rfl⟩
      have hM := hM S38 eS38
      refine x_iast C hV hk36 hi37 eS38 dX7_readClause_70 (fun H locs hV => ?_)
      refine lv_aload_n hx hb dX7_readClause_71 rfl (lv_at hl 0 rfl) ?_
      have hk39 := kp_A eS38 hk34
      obtain ⟨p40, hp40, hM⟩ := hM
      refine x_getR C hV wf_X7_25 hk39 hp40 dX7_readClause_72 ?_
      refine lv_sipush (v := 304) hx hb dX7_readClause_75 (by decide) ?_
      have hk41 := hM.1
      have hM := hM.2
      refine x_ci hV (x_runV (As := [.int 304]) (rest := []) C hV mi_X8_take wl_X7_29 hk41 (c_X8_take hM) ⟨by decide, by decide⟩ rfl hl.1 (Nat.le_of_ble_eq_true rfl) dX7_readClause_78 ⟨Nat.zero_le _, Nat.zero_le _⟩) (fun r43 S42 H locs hV hM => ?_)
      have hz44 := hM.1
      have hM := hM.2
      refine lv_if_eq (tgt := 110) hx hb dX7_readClause_81 (by decide) (fun c45 => ?_) (fun c45 => ?_)
      · have hM := ite_t c45 hM
        refine lv_iconst (v := 1) hx hb dX7_readClause_110 (by decide) ?_
        exact x_zret C hV (by decide) hM dX7_readClause_111
      have hM := ite_f c45 hM
      refine lv_aload_n hx hb dX7_readClause_84 rfl (lv_at hl 0 rfl) ?_
      have hk46 := hM.1
      have hM := hM.2
      obtain ⟨p47, hp47, hM⟩ := hM
      refine x_getR C hV wf_X7_9 hk46 hp47 dX7_readClause_85 ?_
      refine lv_iload_n hx hb dX7_readClause_88 rfl (lv_at hl 1 rfl) ?_
      refine lv_iconst (v := 2) hx hb dX7_readClause_89 (by decide) ?_
      refine lv_iadd hx hb dX7_readClause_90 ?_
      refine lv_aload_n hx hb dX7_readClause_91 rfl (lv_at hl 0 rfl) ?_
      obtain ⟨p48, hp48, hM⟩ := hM
      refine x_getR C hV wf_X7_25 hk46 hp48 dX7_readClause_92 ?_
      have hk49 := hM.1
      have hM := hM.2
      refine x_ci hV (x_runV (As := []) (rest := [.int (x1 + 2), .ref p47]) C hV mi_X8_value wl_X7_59 hk49 (c_X8_value hM) ⟨by decide, by decide⟩ rfl hl.1 (Nat.le_of_ble_eq_true rfl) dX7_readClause_95 ⟨Nat.zero_le _, Nat.zero_le _⟩) (fun r51 S50 H locs hV hM => ?_)
      have hk52 := hM.1
      have hM := hM.2
      have hi53 := hM.1
      have hM := hM.2
      obtain ⟨S54, eS54⟩ : ∃ z : PS, z = S50.setA p47 (x1 + 2).toNatClampNeg r51 := ⟨_, rfl⟩
      have hM := hM S54 eS54
      refine x_iast C hV hk52 hi53 eS54 dX7_readClause_98 (fun H locs hV => ?_)
      refine lv_aload_n hx hb dX7_readClause_99 rfl (lv_at hl 0 rfl) ?_
      have hk55 := hM.1
      have hM := hM.2
      obtain ⟨p56, hp56, hM⟩ := hM
      refine x_getR C hV wf_X7_25 hk55 hp56 dX7_readClause_100 ?_
      refine lv_sipush (v := 256) hx hb dX7_readClause_103 (by decide) ?_
      have hk57 := hM.1
      have hM := hM.2
      refine x_ci hV (x_runV (As := [.int 256]) (rest := []) C hV mi_X8_take wl_X7_29 hk57 (c_X8_take hM) ⟨by decide, by decide⟩ rfl hl.1 (Nat.le_of_ble_eq_true rfl) dX7_readClause_106 ⟨Nat.zero_le _, Nat.zero_le _⟩) (fun r59 S58 H locs hV hM => ?_)
      have hz60 := hM.1
      have hM := hM.2
      have hz61 := hM.1
      have hM := hM.2
      exact x_zret C hV hz61 hM dX7_readClause_109
    have hM := ite_t c28 hM
    refine lv_iconst (v := 0) hx hb dX7_readClause_48 (by decide) ?_
    exact x_zret C hV (by decide) hM dX7_readClause_49
  have hM := ite_t c7 hM
  refine lv_iconst (v := 0) hx hb dX7_readClause_13 (by decide) ?_
  exact x_zret C hV (by decide) hM dX7_readClause_14

def wq_X7_readClauses_2 (N : Nat) (K : Int32 → PS → Prop) : Nat → PS → Nat → Int32 → Prop
  | 0, _, _, _ => False
  | n + 1, S, a0, x1 => if 4 ≤ x1 then (K 1 S) else (S.K a0 = 8 ∧ wp_X7_readClause N S a0 (x1 * 3) (fun r4 S3 => if r4 = 0 then (K 0 S3) else (S3.K a0 = 8 ∧ ∀ S8 : PS, S8 = S3.setI 515 a0 ((S3.I 515 a0) + 1) → if x1 = 3 then (K 1 S8) else (∃ p11 : Nat, S8.R 512 a0 = some p11 ∧ S8.K p11 = 9 ∧ wp_X8_take N S8 p11 305 (fun r14 S13 => if r14 = 0 then (K 1 S13) else (wq_X7_readClauses_2 N K n S13 a0 (x1 + 1)))))))
def wp_X7_readClauses (N : Nat) (S : PS) (a0 : Nat) (K : Int32 → PS → Prop) : Prop := wq_X7_readClauses_2 N K N S a0 0
set_option maxHeartbeats 4000000 in
set_option maxRecDepth 100000 in
theorem tq_X7_readClauses_2 {p : Program} {l : Launch} {e : Env} {s : State} {m : MethodId} {args : Array Value} {below : List Frame} {meth : Method} {c : Code} {D : DX} {cA : Nat → ClassId} {z0 N : Nat} {K : Int32 → PS → Prop} (C : CX p s m args meth c cX7_readClauses 2 RX7 (some .boolean) D cA z0) : ∀ (n : Nat) (S : PS) (a0 : Nat) (x1 : Int32) (H : Heap) (locs : List Loc) (ls : Array Slot), wq_X7_readClauses_2 N K n S a0 x1 → XV D cA z0 s S H locs → lv_has ls 2 [(0, .ref a0), (1, .int x1)] → W p l e (rmd 3 0 0) s m args below meth c H locs 0 0 (MQ below (va_Qi (fun r S => (r = 0 ∨ r = 1) ∧ K r S) (XK D cA z0) (zA z0)) args s 0 0 (zA z0)) (F0 m 2 ls []) := by
  obtain ⟨hx, hb, hml, hown, hts, hK, hz, hlk, hr⟩ := id C
  intro n
  induction n with
  | zero => intro S a0 x1 H locs ls hM; exact absurd hM id
  | succ n ih =>
    intro S a0 x1 H locs ls hM hV hl
    rw [wq_X7_readClauses_2.eq_2] at hM
    refine lv_iload_n hx hb dX7_readClauses_2 rfl (lv_at hl 1 rfl) ?_
    refine lv_iconst (v := 4) hx hb dX7_readClauses_3 (by decide) ?_
    refine lv_icmp_ge (tgt := 56) hx hb dX7_readClauses_4 (by decide) (fun c1 => ?_) (fun c1 => ?_)
    · have hM := ite_t c1 hM
      refine lv_iconst (v := 1) hx hb dX7_readClauses_56 (by decide) ?_
      exact x_zret C hV (by decide) hM dX7_readClauses_57
    have hM := ite_f c1 hM
    refine lv_aload_n hx hb dX7_readClauses_7 rfl (lv_at hl 0 rfl) ?_
    refine lv_iload_n hx hb dX7_readClauses_8 rfl (lv_at hl 1 rfl) ?_
    refine lv_iconst (v := 3) hx hb dX7_readClauses_9 (by decide) ?_
    refine lv_imul hx hb dX7_readClauses_10 ?_
    have hk2 := hM.1
    have hM := hM.2
    refine x_ci hV (x_runV (As := [.int (x1 * 3)]) (rest := []) C hV mi_X7_readClause wl_X7_56 hk2 (c_X7_readClause hM) ⟨by decide, by decide⟩ rfl hl.1 (Nat.le_of_ble_eq_true rfl) dX7_readClauses_11 ⟨Nat.zero_le _, Nat.zero_le _⟩) (fun r4 S3 H locs hV hM => ?_)
    have hz5 := hM.1
    have hM := hM.2
    refine lv_if_ne (tgt := 19) hx hb dX7_readClauses_14 (by decide) (fun c6 => ?_) (fun c6 => ?_)
    · have hM := ite_f c6 hM
      refine lv_aload_n hx hb dX7_readClauses_19 rfl (lv_at hl 0 rfl) ?_
      refine lv_dup hx hb dX7_readClauses_20 rfl ?_
      have hk7 := hM.1
      have hM := hM.2
      refine x_getI C hV wf_X7_19 hk7 dX7_readClauses_21 ?_
      refine lv_iconst (v := 1) hx hb dX7_readClauses_24 (by decide) ?_
      refine lv_iadd hx hb dX7_readClauses_25 ?_
      obtain ⟨S8, eS8⟩ : ∃ z : PS, z = S3.setI 515 a0 ((S3.I 515 a0) + 1) := ⟨_, rfl⟩
      have hM := hM S8 eS8
      refine x_putI C hV wp_X7_19 hk7 ⟨rfl, rfl⟩ eS8 dX7_readClauses_26 (fun H locs hV => ?_)
      refine lv_iload_n hx hb dX7_readClauses_29 rfl (lv_at hl 1 rfl) ?_
      refine lv_iconst (v := 3) hx hb dX7_readClauses_30 (by decide) ?_
      refine lv_icmp_eq (tgt := 56) hx hb dX7_readClauses_31 (by decide) (fun c9 => ?_) (fun c9 => ?_)
      · have hM := ite_t c9 hM
        refine lv_iconst (v := 1) hx hb dX7_readClauses_56 (by decide) ?_
        exact x_zret C hV (by decide) hM dX7_readClauses_57
      have hM := ite_f c9 hM
      refine lv_aload_n hx hb dX7_readClauses_34 rfl (lv_at hl 0 rfl) ?_
      have hk10 := kp_I eS8 hk7
      obtain ⟨p11, hp11, hM⟩ := hM
      refine x_getR C hV wf_X7_25 hk10 hp11 dX7_readClauses_35 ?_
      refine lv_sipush (v := 305) hx hb dX7_readClauses_38 (by decide) ?_
      have hk12 := hM.1
      have hM := hM.2
      refine x_ci hV (x_runV (As := [.int 305]) (rest := []) C hV mi_X8_take wl_X7_29 hk12 (c_X8_take hM) ⟨by decide, by decide⟩ rfl hl.1 (Nat.le_of_ble_eq_true rfl) dX7_readClauses_41 ⟨Nat.zero_le _, Nat.zero_le _⟩) (fun r14 S13 H locs hV hM => ?_)
      have hz15 := hM.1
      have hM := hM.2
      refine lv_if_ne (tgt := 50) hx hb dX7_readClauses_44 (by decide) (fun c16 => ?_) (fun c16 => ?_)
      · have hM := ite_f c16 hM
        refine lv_iinc (v := (x1 + 1)) (lv' := [(1, .int (x1 + 1)), (0, .ref a0)]) hx hb dX7_readClauses_50 hl (k := 1) rfl rfl (by decide) rfl (fun ls hl => ?_)
        refine lv_goto (tgt := 2) hx hb dX7_readClauses_53 (by decide) ?_
        exact ih _ _ _ _ _ _ hM hV (lv_sub hl [1, 0] rfl)
      have hM := ite_t c16 hM
      refine lv_goto (tgt := 56) hx hb dX7_readClauses_47 (by decide) ?_
      refine lv_iconst (v := 1) hx hb dX7_readClauses_56 (by decide) ?_
      exact x_zret C hV (by decide) hM dX7_readClauses_57
    have hM := ite_t c6 hM
    refine lv_iconst (v := 0) hx hb dX7_readClauses_17 (by decide) ?_
    exact x_zret C hV (by decide) hM dX7_readClauses_18
set_option maxHeartbeats 4000000 in
set_option maxRecDepth 100000 in
theorem c_X7_readClauses {l : Launch} {D : DX} {cA : Nat → ClassId} {z0 N : Nat} {S : PS} {a0 : Nat} {K : Int32 → PS → Prop} (hM : wp_X7_readClauses N S a0 K) : MetI l yX7_readClauses cX7_readClauses 2 (some .boolean) 3 0 0 D cA z0 [.ref a0] S (fun r S => (r = 0 ∨ r = 1) ∧ K r S) := by
  refine x_met RX7 (by decide) rfl ?_
  intro p e s m below meth c C hin hV
  have hl := lv_entry ([.ref a0]) (n := 2) (Nat.le_of_ble_eq_true rfl)
  rw [lg_entry_eq]
  generalize (lg_sl ([.ref a0]) ++ List.replicate (2 - (lg_sl ([.ref a0])).length) Slot.unset).toArray = ls at hl ⊢
  have hl : lv_has ls 2 [(0, .ref a0)] := hl
  obtain ⟨hx, hb, hml, hown, hts, hK, hz, hlk, hr⟩ := id C
  unfold wp_X7_readClauses at hM
  refine lv_iconst (v := 0) hx hb dX7_readClauses_0 (by decide) ?_
  refine lv_istore_n (lv' := [(1, .int 0), (0, .ref a0)]) hx hb dX7_readClauses_1 rfl hl (by decide) rfl (fun ls hl => ?_)
  exact tq_X7_readClauses_2 C N _ _ _ _ _ _ hM hV (lv_sub hl [1, 0] rfl)

def wp_X8_add (N : Nat) (S : PS) (a0 : Nat) (x1 : Int32) (x2 : Int32) (x3 : Int32) (K : PS → Prop) : Prop := S.K a0 = 9 ∧ ∃ p2 : Nat, S.R 576 a0 = some p2 ∧ S.K p2 = 20 ∧ if (nI (S.ln p2)) ≤ (S.I 579 a0) then (K S) else (∃ p5 : Nat, S.R 576 a0 = some p5 ∧ S.K p5 = 20 ∧ vp_in (S.I 579 a0) (S.ln p5) ∧ ∀ S8 : PS, S8 = S.setA p5 (S.I 579 a0).toNatClampNeg x1 → ∃ p10 : Nat, S8.R 577 a0 = some p10 ∧ S8.K p10 = 20 ∧ vp_in (S8.I 579 a0) (S8.ln p10) ∧ ∀ S13 : PS, S13 = S8.setA p10 (S8.I 579 a0).toNatClampNeg x2 → ∃ p15 : Nat, S13.R 578 a0 = some p15 ∧ S13.K p15 = 20 ∧ vp_in (S13.I 579 a0) (S13.ln p15) ∧ ∀ S18 : PS, S18 = S13.setA p15 (S13.I 579 a0).toNatClampNeg x3 → ∀ S20 : PS, S20 = S18.setI 579 a0 ((S18.I 579 a0) + 1) → K S20)
set_option maxHeartbeats 4000000 in
set_option maxRecDepth 100000 in
theorem c_X8_add {l : Launch} {D : DX} {cA : Nat → ClassId} {z0 N : Nat} {S : PS} {a0 : Nat} {x1 : Int32} {x2 : Int32} {x3 : Int32} {K : PS → Prop} (hM : wp_X8_add N S a0 x1 x2 x3 K) : MetV l yX8_add cX8_add 4 none 0 0 0 D cA z0 [.ref a0, .int x1, .int x2, .int x3] S K := by
  refine x_met RX8 (by decide) rfl ?_
  intro p e s m below meth c C hin hV
  have hl := lv_entry ([.ref a0, .int x1, .int x2, .int x3]) (n := 4) (Nat.le_of_ble_eq_true rfl)
  rw [lg_entry_eq]
  generalize (lg_sl ([.ref a0, .int x1, .int x2, .int x3]) ++ List.replicate (4 - (lg_sl ([.ref a0, .int x1, .int x2, .int x3])).length) Slot.unset).toArray = ls at hl ⊢
  have hl : lv_has ls 4 [(0, .ref a0), (1, .int x1), (2, .int x2), (3, .int x3)] := hl
  obtain ⟨hx, hb, hml, hown, hts, hK, hz, hlk, hr⟩ := id C
  unfold wp_X8_add at hM
  refine lv_aload_n hx hb dX8_add_0 rfl (lv_at hl 0 rfl) ?_
  have hk1 := hM.1
  have hM := hM.2
  refine x_getI C hV wf_X8_21 hk1 dX8_add_1 ?_
  refine lv_aload_n hx hb dX8_add_4 rfl (lv_at hl 0 rfl) ?_
  obtain ⟨p2, hp2, hM⟩ := hM
  refine x_getR C hV wf_X8_9 hk1 hp2 dX8_add_5 ?_
  have hk3 := hM.1
  have hM := hM.2
  refine x_alen C hV hk3 (by decide) rfl dX8_add_8 ?_
  refine lv_icmp_ge (tgt := 52) hx hb dX8_add_9 (by decide) (fun c4 => ?_) (fun c4 => ?_)
  · have hM := ite_t c4 hM
    exact x_vret C hV hM dX8_add_52
  have hM := ite_f c4 hM
  refine lv_aload_n hx hb dX8_add_12 rfl (lv_at hl 0 rfl) ?_
  obtain ⟨p5, hp5, hM⟩ := hM
  refine x_getR C hV wf_X8_9 hk1 hp5 dX8_add_13 ?_
  refine lv_aload_n hx hb dX8_add_16 rfl (lv_at hl 0 rfl) ?_
  refine x_getI C hV wf_X8_21 hk1 dX8_add_17 ?_
  refine lv_iload_n hx hb dX8_add_20 rfl (lv_at hl 1 rfl) ?_
  have hk6 := hM.1
  have hM := hM.2
  have hi7 := hM.1
  have hM := hM.2
  obtain ⟨S8, eS8⟩ : ∃ z : PS, z = S.setA p5 (S.I 579 a0).toNatClampNeg x1 := ⟨_, rfl⟩
  have hM := hM S8 eS8
  refine x_iast C hV hk6 hi7 eS8 dX8_add_21 (fun H locs hV => ?_)
  refine lv_aload_n hx hb dX8_add_22 rfl (lv_at hl 0 rfl) ?_
  have hk9 := kp_A eS8 hk1
  obtain ⟨p10, hp10, hM⟩ := hM
  refine x_getR C hV wf_X8_15 hk9 hp10 dX8_add_23 ?_
  refine lv_aload_n hx hb dX8_add_26 rfl (lv_at hl 0 rfl) ?_
  refine x_getI C hV wf_X8_21 hk9 dX8_add_27 ?_
  refine lv_iload_n hx hb dX8_add_30 rfl (lv_at hl 2 rfl) ?_
  have hk11 := hM.1
  have hM := hM.2
  have hi12 := hM.1
  have hM := hM.2
  obtain ⟨S13, eS13⟩ : ∃ z : PS, z = S8.setA p10 (S8.I 579 a0).toNatClampNeg x2 := ⟨_, rfl⟩
  have hM := hM S13 eS13
  refine x_iast C hV hk11 hi12 eS13 dX8_add_31 (fun H locs hV => ?_)
  refine lv_aload_n hx hb dX8_add_32 rfl (lv_at hl 0 rfl) ?_
  have hk14 := kp_A eS13 hk9
  obtain ⟨p15, hp15, hM⟩ := hM
  refine x_getR C hV wf_X8_18 hk14 hp15 dX8_add_33 ?_
  refine lv_aload_n hx hb dX8_add_36 rfl (lv_at hl 0 rfl) ?_
  refine x_getI C hV wf_X8_21 hk14 dX8_add_37 ?_
  refine lv_iload_n hx hb dX8_add_40 rfl (lv_at hl 3 rfl) ?_
  have hk16 := hM.1
  have hM := hM.2
  have hi17 := hM.1
  have hM := hM.2
  obtain ⟨S18, eS18⟩ : ∃ z : PS, z = S13.setA p15 (S13.I 579 a0).toNatClampNeg x3 := ⟨_, rfl⟩
  have hM := hM S18 eS18
  refine x_iast C hV hk16 hi17 eS18 dX8_add_41 (fun H locs hV => ?_)
  refine lv_aload_n hx hb dX8_add_42 rfl (lv_at hl 0 rfl) ?_
  refine lv_dup hx hb dX8_add_43 rfl ?_
  have hk19 := kp_A eS18 hk14
  refine x_getI C hV wf_X8_21 hk19 dX8_add_44 ?_
  refine lv_iconst (v := 1) hx hb dX8_add_47 (by decide) ?_
  refine lv_iadd hx hb dX8_add_48 ?_
  obtain ⟨S20, eS20⟩ : ∃ z : PS, z = S18.setI 579 a0 ((S18.I 579 a0) + 1) := ⟨_, rfl⟩
  have hM := hM S20 eS20
  refine x_putI C hV wp_X8_21 hk19 ⟨rfl, rfl⟩ eS20 dX8_add_49 (fun H locs hV => ?_)
  exact x_vret C hV hM dX8_add_52

def wp_X8_code (N : Nat) (S : PS) (a0 : Nat) (K : Int32 → PS → Prop) : Prop := S.K a0 = 9 ∧ ∃ p2 : Nat, S.R 576 a0 = some p2 ∧ S.K p2 = 20 ∧ vp_in (S.I 580 a0) (S.ln p2) ∧ K (S.A p2 (S.I 580 a0).toNatClampNeg) S
set_option maxHeartbeats 4000000 in
set_option maxRecDepth 100000 in
theorem c_X8_code {l : Launch} {D : DX} {cA : Nat → ClassId} {z0 N : Nat} {S : PS} {a0 : Nat} {K : Int32 → PS → Prop} (hM : wp_X8_code N S a0 K) : MetI l yX8_code cX8_code 1 (some .int) 0 0 0 D cA z0 [.ref a0] S K := by
  refine x_met RX8 (by decide) rfl ?_
  intro p e s m below meth c C hin hV
  have hl := lv_entry ([.ref a0]) (n := 1) (Nat.le_of_ble_eq_true rfl)
  rw [lg_entry_eq]
  generalize (lg_sl ([.ref a0]) ++ List.replicate (1 - (lg_sl ([.ref a0])).length) Slot.unset).toArray = ls at hl ⊢
  have hl : lv_has ls 1 [(0, .ref a0)] := hl
  obtain ⟨hx, hb, hml, hown, hts, hK, hz, hlk, hr⟩ := id C
  unfold wp_X8_code at hM
  refine lv_aload_n hx hb dX8_code_0 rfl (lv_at hl 0 rfl) ?_
  have hk1 := hM.1
  have hM := hM.2
  obtain ⟨p2, hp2, hM⟩ := hM
  refine x_getR C hV wf_X8_9 hk1 hp2 dX8_code_1 ?_
  refine lv_aload_n hx hb dX8_code_4 rfl (lv_at hl 0 rfl) ?_
  refine x_getI C hV wf_X8_25 hk1 dX8_code_5 ?_
  have hk3 := hM.1
  have hM := hM.2
  have hi4 := hM.1
  have hM := hM.2
  refine x_iald C hV hk3 hi4 dX8_code_8 ?_
  exact x_iret C hV hM dX8_code_9

def wq_X8_endOfRun_3 (N : Nat) (K : Int32 → PS → Prop) : Nat → PS → Nat → Int32 → Int32 → Int32 → Int32 → Prop
  | 0, _, _, _, _, _, _ => False
  | n + 1, S, a0, x1, x3, x4, x5 => if x1 ≤ x5 then (K x5 S) else (S.K a0 = 21 ∧ vp_in x5 (S.ln a0) ∧ if (S.A a0 x5.toNatClampNeg) < x3 then (K x5 S) else (vp_in x5 (S.ln a0) ∧ if x4 < (S.A a0 x5.toNatClampNeg) then (K x5 S) else (wq_X8_endOfRun_3 N K n S a0 x1 x3 x4 (x5 + 1))))
def wp_X8_endOfRun (N : Nat) (S : PS) (a0 : Nat) (x1 : Int32) (x2 : Int32) (x3 : Int32) (x4 : Int32) (K : Int32 → PS → Prop) : Prop := wq_X8_endOfRun_3 N K N S a0 x1 x3 x4 x2
set_option maxHeartbeats 4000000 in
set_option maxRecDepth 100000 in
theorem tq_X8_endOfRun_3 {p : Program} {l : Launch} {e : Env} {s : State} {m : MethodId} {args : Array Value} {below : List Frame} {meth : Method} {c : Code} {D : DX} {cA : Nat → ClassId} {z0 N : Nat} {K : Int32 → PS → Prop} (C : CX p s m args meth c cX8_endOfRun 6 RX8 (some .int) D cA z0) : ∀ (n : Nat) (S : PS) (a0 : Nat) (x1 : Int32) (x3 : Int32) (x4 : Int32) (x5 : Int32) (H : Heap) (locs : List Loc) (ls : Array Slot), wq_X8_endOfRun_3 N K n S a0 x1 x3 x4 x5 → XV D cA z0 s S H locs → lv_has ls 6 [(0, .ref a0), (1, .int x1), (3, .int x3), (4, .int x4), (5, .int x5)] → W p l e (rmd 0 0 0) s m args below meth c H locs 0 0 (MQ below (va_Qi K (XK D cA z0) (zA z0)) args s 0 0 (zA z0)) (F0 m 3 ls []) := by
  obtain ⟨hx, hb, hml, hown, hts, hK, hz, hlk, hr⟩ := id C
  intro n
  induction n with
  | zero => intro S a0 x1 x3 x4 x5 H locs ls hM; exact absurd hM id
  | succ n ih =>
    intro S a0 x1 x3 x4 x5 H locs ls hM hV hl
    rw [wq_X8_endOfRun_3.eq_2] at hM
    refine lv_iload hx hb dX8_endOfRun_3 (lv_at hl 4 rfl) ?_
    refine lv_iload_n hx hb dX8_endOfRun_5 rfl (lv_at hl 1 rfl) ?_
    refine lv_icmp_ge (tgt := 32) hx hb dX8_endOfRun_6 (by decide) (fun c1 => ?_) (fun c1 => ?_)
    · have hM := ite_t c1 hM
      refine lv_iload hx hb dX8_endOfRun_32 (lv_at hl 4 rfl) ?_
      exact x_iret C hV hM dX8_endOfRun_34
    have hM := ite_f c1 hM
    refine lv_aload_n hx hb dX8_endOfRun_9 rfl (lv_at hl 0 rfl) ?_
    refine lv_iload hx hb dX8_endOfRun_10 (lv_at hl 4 rfl) ?_
    have hk2 := hM.1
    have hM := hM.2
    have hi3 := hM.1
    have hM := hM.2
    refine x_cald C hV hk2 hi3 dX8_endOfRun_12 ?_
    refine lv_iload_n hx hb dX8_endOfRun_13 rfl (lv_at hl 2 rfl) ?_
    refine lv_icmp_lt (tgt := 32) hx hb dX8_endOfRun_14 (by decide) (fun c4 => ?_) (fun c4 => ?_)
    · have hM := ite_t c4 hM
      refine lv_iload hx hb dX8_endOfRun_32 (lv_at hl 4 rfl) ?_
      exact x_iret C hV hM dX8_endOfRun_34
    have hM := ite_f c4 hM
    refine lv_aload_n hx hb dX8_endOfRun_17 rfl (lv_at hl 0 rfl) ?_
    refine lv_iload hx hb dX8_endOfRun_18 (lv_at hl 4 rfl) ?_
    have hi5 := hM.1
    have hM := hM.2
    refine x_cald C hV hk2 hi5 dX8_endOfRun_20 ?_
    refine lv_iload hx hb dX8_endOfRun_21 (lv_at hl 3 rfl) ?_
    refine lv_icmp_gt (tgt := 32) hx hb dX8_endOfRun_23 (by decide) (fun c6 => ?_) (fun c6 => ?_)
    · have hM := ite_t c6 hM
      refine lv_iload hx hb dX8_endOfRun_32 (lv_at hl 4 rfl) ?_
      exact x_iret C hV hM dX8_endOfRun_34
    have hM := ite_f c6 hM
    refine lv_iinc (v := (x5 + 1)) (lv' := [(5, .int (x5 + 1)), (0, .ref a0), (1, .int x1), (3, .int x3), (4, .int x4)]) hx hb dX8_endOfRun_26 hl (k := 4) rfl rfl (by decide) rfl (fun ls hl => ?_)
    refine lv_goto (tgt := 3) hx hb dX8_endOfRun_29 (by decide) ?_
    exact ih _ _ _ _ _ _ _ _ _ hM hV (lv_sub hl [1, 2, 3, 4, 0] rfl)
set_option maxHeartbeats 4000000 in
set_option maxRecDepth 100000 in
theorem c_X8_endOfRun {l : Launch} {D : DX} {cA : Nat → ClassId} {z0 N : Nat} {S : PS} {a0 : Nat} {x1 : Int32} {x2 : Int32} {x3 : Int32} {x4 : Int32} {K : Int32 → PS → Prop} (hM : wp_X8_endOfRun N S a0 x1 x2 x3 x4 K) : MetI l yX8_endOfRun cX8_endOfRun 6 (some .int) 0 0 0 D cA z0 [.ref a0, .int x1, .int x2, .int x3, .int x4] S K := by
  refine x_met RX8 (by decide) rfl ?_
  intro p e s m below meth c C hin hV
  have hl := lv_entry ([.ref a0, .int x1, .int x2, .int x3, .int x4]) (n := 6) (Nat.le_of_ble_eq_true rfl)
  rw [lg_entry_eq]
  generalize (lg_sl ([.ref a0, .int x1, .int x2, .int x3, .int x4]) ++ List.replicate (6 - (lg_sl ([.ref a0, .int x1, .int x2, .int x3, .int x4])).length) Slot.unset).toArray = ls at hl ⊢
  have hl : lv_has ls 6 [(0, .ref a0), (1, .int x1), (2, .int x2), (3, .int x3), (4, .int x4)] := hl
  obtain ⟨hx, hb, hml, hown, hts, hK, hz, hlk, hr⟩ := id C
  unfold wp_X8_endOfRun at hM
  refine lv_iload_n hx hb dX8_endOfRun_0 rfl (lv_at hl 2 rfl) ?_
  refine lv_istore (lv' := [(5, .int x2), (0, .ref a0), (1, .int x1), (2, .int x2), (3, .int x3), (4, .int x4)]) hx hb dX8_endOfRun_1 hl (by decide) rfl (fun ls hl => ?_)
  exact tq_X8_endOfRun_3 C N _ _ _ _ _ _ _ _ _ hM hV (lv_sub hl [1, 2, 4, 5, 0] rfl)

def wp_X8_isDigit (N : Nat) (S : PS) (x0 : Int32) (K : Int32 → PS → Prop) : Prop := if x0 < 48 then (K 0 S) else (if 57 < x0 then (K 0 S) else (K 1 S))
set_option maxHeartbeats 4000000 in
set_option maxRecDepth 100000 in
theorem c_X8_isDigit {l : Launch} {D : DX} {cA : Nat → ClassId} {z0 N : Nat} {S : PS} {x0 : Int32} {K : Int32 → PS → Prop} (hM : wp_X8_isDigit N S x0 K) : MetI l yX8_isDigit cX8_isDigit 1 (some .boolean) 0 0 0 D cA z0 [.int x0] S (fun r S => (r = 0 ∨ r = 1) ∧ K r S) := by
  refine x_met RX8 (by decide) rfl ?_
  intro p e s m below meth c C hin hV
  have hl := lv_entry ([.int x0]) (n := 1) (Nat.le_of_ble_eq_true rfl)
  rw [lg_entry_eq]
  generalize (lg_sl ([.int x0]) ++ List.replicate (1 - (lg_sl ([.int x0])).length) Slot.unset).toArray = ls at hl ⊢
  have hl : lv_has ls 1 [(0, .int x0)] := hl
  obtain ⟨hx, hb, hml, hown, hts, hK, hz, hlk, hr⟩ := id C
  unfold wp_X8_isDigit at hM
  refine lv_iload_n hx hb dX8_isDigit_0 rfl (lv_at hl 0 rfl) ?_
  refine lv_bipush (v := 48) hx hb dX8_isDigit_1 (by decide) ?_
  refine lv_icmp_lt (tgt := 16) hx hb dX8_isDigit_3 (by decide) (fun c1 => ?_) (fun c1 => ?_)
  · have hM := ite_t c1 hM
    refine lv_iconst (v := 0) hx hb dX8_isDigit_16 (by decide) ?_
    exact x_zret C hV (by decide) hM dX8_isDigit_17
  have hM := ite_f c1 hM
  refine lv_iload_n hx hb dX8_isDigit_6 rfl (lv_at hl 0 rfl) ?_
  refine lv_bipush (v := 57) hx hb dX8_isDigit_7 (by decide) ?_
  refine lv_icmp_gt (tgt := 16) hx hb dX8_isDigit_9 (by decide) (fun c2 => ?_) (fun c2 => ?_)
  · have hM := ite_t c2 hM
    refine lv_iconst (v := 0) hx hb dX8_isDigit_16 (by decide) ?_
    exact x_zret C hV (by decide) hM dX8_isDigit_17
  have hM := ite_f c2 hM
  refine lv_iconst (v := 1) hx hb dX8_isDigit_12 (by decide) ?_
  refine lv_goto (tgt := 17) hx hb dX8_isDigit_13 (by decide) ?_
  exact x_zret C hV (by decide) hM dX8_isDigit_17

def wp_X8_isLetter (N : Nat) (S : PS) (x0 : Int32) (K : Int32 → PS → Prop) : Prop := if x0 < 97 then (K 0 S) else (if 122 < x0 then (K 0 S) else (K 1 S))
set_option maxHeartbeats 4000000 in
set_option maxRecDepth 100000 in
theorem c_X8_isLetter {l : Launch} {D : DX} {cA : Nat → ClassId} {z0 N : Nat} {S : PS} {x0 : Int32} {K : Int32 → PS → Prop} (hM : wp_X8_isLetter N S x0 K) : MetI l yX8_isLetter cX8_isLetter 1 (some .boolean) 0 0 0 D cA z0 [.int x0] S (fun r S => (r = 0 ∨ r = 1) ∧ K r S) := by
  refine x_met RX8 (by decide) rfl ?_
  intro p e s m below meth c C hin hV
  have hl := lv_entry ([.int x0]) (n := 1) (Nat.le_of_ble_eq_true rfl)
  rw [lg_entry_eq]
  generalize (lg_sl ([.int x0]) ++ List.replicate (1 - (lg_sl ([.int x0])).length) Slot.unset).toArray = ls at hl ⊢
  have hl : lv_has ls 1 [(0, .int x0)] := hl
  obtain ⟨hx, hb, hml, hown, hts, hK, hz, hlk, hr⟩ := id C
  unfold wp_X8_isLetter at hM
  refine lv_iload_n hx hb dX8_isLetter_0 rfl (lv_at hl 0 rfl) ?_
  refine lv_bipush (v := 97) hx hb dX8_isLetter_1 (by decide) ?_
  refine lv_icmp_lt (tgt := 16) hx hb dX8_isLetter_3 (by decide) (fun c1 => ?_) (fun c1 => ?_)
  · have hM := ite_t c1 hM
    refine lv_iconst (v := 0) hx hb dX8_isLetter_16 (by decide) ?_
    exact x_zret C hV (by decide) hM dX8_isLetter_17
  have hM := ite_f c1 hM
  refine lv_iload_n hx hb dX8_isLetter_6 rfl (lv_at hl 0 rfl) ?_
  refine lv_bipush (v := 122) hx hb dX8_isLetter_7 (by decide) ?_
  refine lv_icmp_gt (tgt := 16) hx hb dX8_isLetter_9 (by decide) (fun c2 => ?_) (fun c2 => ?_)
  · have hM := ite_t c2 hM
    refine lv_iconst (v := 0) hx hb dX8_isLetter_16 (by decide) ?_
    exact x_zret C hV (by decide) hM dX8_isLetter_17
  have hM := ite_f c2 hM
  refine lv_iconst (v := 1) hx hb dX8_isLetter_12 (by decide) ?_
  refine lv_goto (tgt := 17) hx hb dX8_isLetter_13 (by decide) ?_
  exact x_zret C hV (by decide) hM dX8_isLetter_17

def wp_X8_isNow (N : Nat) (S : PS) (a0 : Nat) (x1 : Int32) (K : Int32 → PS → Prop) : Prop := S.K a0 = 9 ∧ ∃ p2 : Nat, S.R 576 a0 = some p2 ∧ S.K p2 = 20 ∧ vp_in (S.I 580 a0) (S.ln p2) ∧ if (S.A p2 (S.I 580 a0).toNatClampNeg) = x1 then (K 1 S) else (K 0 S)
set_option maxHeartbeats 4000000 in
set_option maxRecDepth 100000 in
theorem c_X8_isNow {l : Launch} {D : DX} {cA : Nat → ClassId} {z0 N : Nat} {S : PS} {a0 : Nat} {x1 : Int32} {K : Int32 → PS → Prop} (hM : wp_X8_isNow N S a0 x1 K) : MetI l yX8_isNow cX8_isNow 2 (some .boolean) 0 0 0 D cA z0 [.ref a0, .int x1] S (fun r S => (r = 0 ∨ r = 1) ∧ K r S) := by
  refine x_met RX8 (by decide) rfl ?_
  intro p e s m below meth c C hin hV
  have hl := lv_entry ([.ref a0, .int x1]) (n := 2) (Nat.le_of_ble_eq_true rfl)
  rw [lg_entry_eq]
  generalize (lg_sl ([.ref a0, .int x1]) ++ List.replicate (2 - (lg_sl ([.ref a0, .int x1])).length) Slot.unset).toArray = ls at hl ⊢
  have hl : lv_has ls 2 [(0, .ref a0), (1, .int x1)] := hl
  obtain ⟨hx, hb, hml, hown, hts, hK, hz, hlk, hr⟩ := id C
  unfold wp_X8_isNow at hM
  refine lv_aload_n hx hb dX8_isNow_0 rfl (lv_at hl 0 rfl) ?_
  have hk1 := hM.1
  have hM := hM.2
  obtain ⟨p2, hp2, hM⟩ := hM
  refine x_getR C hV wf_X8_9 hk1 hp2 dX8_isNow_1 ?_
  refine lv_aload_n hx hb dX8_isNow_4 rfl (lv_at hl 0 rfl) ?_
  refine x_getI C hV wf_X8_25 hk1 dX8_isNow_5 ?_
  have hk3 := hM.1
  have hM := hM.2
  have hi4 := hM.1
  have hM := hM.2
  refine x_iald C hV hk3 hi4 dX8_isNow_8 ?_
  refine lv_iload_n hx hb dX8_isNow_9 rfl (lv_at hl 1 rfl) ?_
  refine lv_icmp_ne (tgt := 17) hx hb dX8_isNow_10 (by decide) (fun c5 => ?_) (fun c5 => ?_)
  · have hM := ite_f c5 hM
    refine lv_iconst (v := 0) hx hb dX8_isNow_17 (by decide) ?_
    exact x_zret C hV (by decide) hM dX8_isNow_18
  have hM := ite_t c5 hM
  refine lv_iconst (v := 1) hx hb dX8_isNow_13 (by decide) ?_
  refine lv_goto (tgt := 18) hx hb dX8_isNow_14 (by decide) ?_
  exact x_zret C hV (by decide) hM dX8_isNow_18

def wq_X8_number_5 (N : Nat) (K : Int32 → PS → Prop) : Nat → PS → Nat → Int32 → Int32 → Int32 → Prop
  | 0, _, _, _, _, _ => False
  | n + 1, S, a0, x2, x3, x4 => if x2 ≤ x4 then (K x3 S) else (S.K a0 = 21 ∧ vp_in x4 (S.ln a0) ∧ ∀ v4 : Int32, v4 = ((x3 * 10) + ((S.A a0 x4.toNatClampNeg) - 48)) → wq_X8_number_5 N K n S a0 x2 v4 (x4 + 1))
def wp_X8_number (N : Nat) (S : PS) (a0 : Nat) (x1 : Int32) (x2 : Int32) (K : Int32 → PS → Prop) : Prop := wq_X8_number_5 N K N S a0 x2 0 x1
set_option maxHeartbeats 4000000 in
set_option maxRecDepth 100000 in
theorem tq_X8_number_5 {p : Program} {l : Launch} {e : Env} {s : State} {m : MethodId} {args : Array Value} {below : List Frame} {meth : Method} {c : Code} {D : DX} {cA : Nat → ClassId} {z0 N : Nat} {K : Int32 → PS → Prop} (C : CX p s m args meth c cX8_number 5 RX8 (some .int) D cA z0) : ∀ (n : Nat) (S : PS) (a0 : Nat) (x2 : Int32) (x3 : Int32) (x4 : Int32) (H : Heap) (locs : List Loc) (ls : Array Slot), wq_X8_number_5 N K n S a0 x2 x3 x4 → XV D cA z0 s S H locs → lv_has ls 5 [(0, .ref a0), (2, .int x2), (3, .int x3), (4, .int x4)] → W p l e (rmd 0 0 0) s m args below meth c H locs 0 0 (MQ below (va_Qi K (XK D cA z0) (zA z0)) args s 0 0 (zA z0)) (F0 m 5 ls []) := by
  obtain ⟨hx, hb, hml, hown, hts, hK, hz, hlk, hr⟩ := id C
  intro n
  induction n with
  | zero => intro S a0 x2 x3 x4 H locs ls hM; exact absurd hM id
  | succ n ih =>
    intro S a0 x2 x3 x4 H locs ls hM hV hl
    rw [wq_X8_number_5.eq_2] at hM
    refine lv_iload hx hb dX8_number_5 (lv_at hl 3 rfl) ?_
    refine lv_iload_n hx hb dX8_number_7 rfl (lv_at hl 1 rfl) ?_
    refine lv_icmp_ge (tgt := 30) hx hb dX8_number_8 (by decide) (fun c1 => ?_) (fun c1 => ?_)
    · have hM := ite_t c1 hM
      refine lv_iload_n hx hb dX8_number_30 rfl (lv_at hl 2 rfl) ?_
      exact x_iret C hV hM dX8_number_31
    have hM := ite_f c1 hM
    refine lv_iload_n hx hb dX8_number_11 rfl (lv_at hl 2 rfl) ?_
    refine lv_bipush (v := 10) hx hb dX8_number_12 (by decide) ?_
    refine lv_imul hx hb dX8_number_14 ?_
    refine lv_aload_n hx hb dX8_number_15 rfl (lv_at hl 0 rfl) ?_
    refine lv_iload hx hb dX8_number_16 (lv_at hl 3 rfl) ?_
    have hk2 := hM.1
    have hM := hM.2
    have hi3 := hM.1
    have hM := hM.2
    refine x_cald C hV hk2 hi3 dX8_number_18 ?_
    refine lv_bipush (v := 48) hx hb dX8_number_19 (by decide) ?_
    refine lv_isub hx hb dX8_number_21 ?_
    refine lv_iadd hx hb dX8_number_22 ?_
    refine lv_topi (fun v4 ev4 => ?_)
    have hM := hM v4 ev4
    refine lv_istore_n (lv' := [(3, .int v4), (0, .ref a0), (2, .int x2), (4, .int x4)]) hx hb dX8_number_23 rfl hl (by decide) rfl (fun ls hl => ?_)
    refine lv_iinc (v := (x4 + 1)) (lv' := [(4, .int (x4 + 1)), (3, .int v4), (0, .ref a0), (2, .int x2)]) hx hb dX8_number_24 hl (k := 3) rfl rfl (by decide) rfl (fun ls hl => ?_)
    refine lv_goto (tgt := 5) hx hb dX8_number_27 (by decide) ?_
    exact ih _ _ _ _ _ _ _ _ hM hV (lv_sub hl [2, 3, 1, 0] rfl)
set_option maxHeartbeats 4000000 in
set_option maxRecDepth 100000 in
theorem c_X8_number {l : Launch} {D : DX} {cA : Nat → ClassId} {z0 N : Nat} {S : PS} {a0 : Nat} {x1 : Int32} {x2 : Int32} {K : Int32 → PS → Prop} (hM : wp_X8_number N S a0 x1 x2 K) : MetI l yX8_number cX8_number 5 (some .int) 0 0 0 D cA z0 [.ref a0, .int x1, .int x2] S K := by
  refine x_met RX8 (by decide) rfl ?_
  intro p e s m below meth c C hin hV
  have hl := lv_entry ([.ref a0, .int x1, .int x2]) (n := 5) (Nat.le_of_ble_eq_true rfl)
  rw [lg_entry_eq]
  generalize (lg_sl ([.ref a0, .int x1, .int x2]) ++ List.replicate (5 - (lg_sl ([.ref a0, .int x1, .int x2])).length) Slot.unset).toArray = ls at hl ⊢
  have hl : lv_has ls 5 [(0, .ref a0), (1, .int x1), (2, .int x2)] := hl
  obtain ⟨hx, hb, hml, hown, hts, hK, hz, hlk, hr⟩ := id C
  unfold wp_X8_number at hM
  refine lv_iconst (v := 0) hx hb dX8_number_0 (by decide) ?_
  refine lv_istore_n (lv' := [(3, .int 0), (0, .ref a0), (1, .int x1), (2, .int x2)]) hx hb dX8_number_1 rfl hl (by decide) rfl (fun ls hl => ?_)
  refine lv_iload_n hx hb dX8_number_2 rfl (lv_at hl 2 rfl) ?_
  refine lv_istore (lv' := [(4, .int x1), (3, .int 0), (0, .ref a0), (1, .int x1), (2, .int x2)]) hx hb dX8_number_3 hl (by decide) rfl (fun ls hl => ?_)
  exact tq_X8_number_5 C N _ _ _ _ _ _ _ _ hM hV (lv_sub hl [2, 4, 1, 0] rfl)

def wp_X8_place (N : Nat) (S : PS) (a0 : Nat) (K : Int32 → PS → Prop) : Prop := S.K a0 = 9 ∧ ∃ p2 : Nat, S.R 578 a0 = some p2 ∧ S.K p2 = 20 ∧ vp_in (S.I 580 a0) (S.ln p2) ∧ K (S.A p2 (S.I 580 a0).toNatClampNeg) S
set_option maxHeartbeats 4000000 in
set_option maxRecDepth 100000 in
theorem c_X8_place {l : Launch} {D : DX} {cA : Nat → ClassId} {z0 N : Nat} {S : PS} {a0 : Nat} {K : Int32 → PS → Prop} (hM : wp_X8_place N S a0 K) : MetI l yX8_place cX8_place 1 (some .int) 0 0 0 D cA z0 [.ref a0] S K := by
  refine x_met RX8 (by decide) rfl ?_
  intro p e s m below meth c C hin hV
  have hl := lv_entry ([.ref a0]) (n := 1) (Nat.le_of_ble_eq_true rfl)
  rw [lg_entry_eq]
  generalize (lg_sl ([.ref a0]) ++ List.replicate (1 - (lg_sl ([.ref a0])).length) Slot.unset).toArray = ls at hl ⊢
  have hl : lv_has ls 1 [(0, .ref a0)] := hl
  obtain ⟨hx, hb, hml, hown, hts, hK, hz, hlk, hr⟩ := id C
  unfold wp_X8_place at hM
  refine lv_aload_n hx hb dX8_place_0 rfl (lv_at hl 0 rfl) ?_
  have hk1 := hM.1
  have hM := hM.2
  obtain ⟨p2, hp2, hM⟩ := hM
  refine x_getR C hV wf_X8_18 hk1 hp2 dX8_place_1 ?_
  refine lv_aload_n hx hb dX8_place_4 rfl (lv_at hl 0 rfl) ?_
  refine x_getI C hV wf_X8_25 hk1 dX8_place_5 ?_
  have hk3 := hM.1
  have hM := hM.2
  have hi4 := hM.1
  have hM := hM.2
  refine x_iald C hV hk3 hi4 dX8_place_8 ?_
  exact x_iret C hV hM dX8_place_9
