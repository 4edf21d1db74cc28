def wp_X10_holdsPart (N : Nat) (S : PS) (a0 : Nat) (a1 : Nat) (K : Int32 → PS → Prop) : Prop := S.K a1 = 6 ∧ if (S.I 384 a1) = 0 then (S.K a0 = 11 ∧ ∃ p4 : Nat, S.R 704 a0 = some p4 ∧ S.K p4 = 10 ∧ wp_X9_hasPart N S p4 (S.I 385 a1) (fun r7 S6 => if r7 = 0 then (K 0 S6) else (K 1 S6))) else (K 0 S)
set_option maxHeartbeats 4000000 in
set_option maxRecDepth 100000 in
theorem c_X10_holdsPart {l : Launch} {D : DX} {cA : Nat → ClassId} {z0 N : Nat} {S : PS} {a0 : Nat} {a1 : Nat} {K : Int32 → PS → Prop} (hM : wp_X10_holdsPart N S a0 a1 K) : MetI l yX10_holdsPart cX10_holdsPart 2 (some .boolean) 1 0 0 D cA z0 [.ref a0, .ref a1] S (fun r S => (r = 0 ∨ r = 1) ∧ K r S) := by
  refine x_met RX10 (by decide) rfl ?_
  intro p e s m below meth c C hin hV
  have hl := lv_entry ([.ref a0, .ref a1]) (n := 2) (Nat.le_of_ble_eq_true rfl)
  rw [lg_entry_eq]
  generalize (lg_sl ([.ref a0, .ref a1]) ++ List.replicate (2 - (lg_sl ([.ref a0, .ref a1])).length) Slot.unset).toArray = ls at hl ⊢
  have hl : lv_has ls 2 [(0, .ref a0), (1, .ref a1)] := hl
  obtain ⟨hx, hb, hml, hown, hts, hK, hz, hlk, hr⟩ := id C
  unfold wp_X10_holdsPart at hM
  refine lv_aload_n hx hb dX10_holdsPart_0 rfl (lv_at hl 1 rfl) ?_
  have hk1 := hM.1
  have hM := hM.2
  refine x_getI C hV wf_X10_362 hk1 dX10_holdsPart_1 ?_
  refine lv_if_ne (tgt := 25) hx hb dX10_holdsPart_4 (by decide) (fun c2 => ?_) (fun c2 => ?_)
  · have hM := ite_f c2 hM
    refine lv_iconst (v := 0) hx hb dX10_holdsPart_25 (by decide) ?_
    exact x_zret C hV (by decide) hM dX10_holdsPart_26
  have hM := ite_t c2 hM
  refine lv_aload_n hx hb dX10_holdsPart_7 rfl (lv_at hl 0 rfl) ?_
  have hk3 := hM.1
  have hM := hM.2
  obtain ⟨p4, hp4, hM⟩ := hM
  refine x_getR C hV wf_X10_10 hk3 hp4 dX10_holdsPart_8 ?_
  refine lv_aload_n hx hb dX10_holdsPart_11 rfl (lv_at hl 1 rfl) ?_
  refine x_getI C hV wf_X10_356 hk1 dX10_holdsPart_12 ?_
  have hk5 := hM.1
  have hM := hM.2
  refine x_ci hV (x_runV (As := [.int (S.I 385 a1)]) (rest := []) C hV mi_X9_hasPart wl_X10_111 hk5 (c_X9_hasPart hM) ⟨by decide, by decide⟩ rfl hl.1 (Nat.le_of_ble_eq_true rfl) dX10_holdsPart_15 ⟨Nat.zero_le _, Nat.zero_le _⟩) (fun r7 S6 H locs hV hM => ?_)
  have hz8 := hM.1
  have hM := hM.2
  refine lv_if_eq (tgt := 25) hx hb dX10_holdsPart_18 (by decide) (fun c9 => ?_) (fun c9 => ?_)
  · have hM := ite_t c9 hM
    refine lv_iconst (v := 0) hx hb dX10_holdsPart_25 (by decide) ?_
    exact x_zret C hV (by decide) hM dX10_holdsPart_26
  have hM := ite_f c9 hM
  refine lv_iconst (v := 1) hx hb dX10_holdsPart_21 (by decide) ?_
  refine lv_goto (tgt := 26) hx hb dX10_holdsPart_22 (by decide) ?_
  exact x_zret C hV (by decide) hM dX10_holdsPart_26

def wp_X10_within (N : Nat) (S : PS) (x0 : Int32) (x1 : Int32) (x2 : Int32) (K : Int32 → PS → Prop) : Prop := if x0 < x1 then (K 0 S) else (if x2 < x0 then (K 0 S) else (K 1 S))
set_option maxHeartbeats 4000000 in
set_option maxRecDepth 100000 in
theorem c_X10_within {l : Launch} {D : DX} {cA : Nat → ClassId} {z0 N : Nat} {S : PS} {x0 : Int32} {x1 : Int32} {x2 : Int32} {K : Int32 → PS → Prop} (hM : wp_X10_within N S x0 x1 x2 K) : MetI l yX10_within cX10_within 3 (some .boolean) 0 0 0 D cA z0 [.int x0, .int x1, .int x2] S (fun r S => (r = 0 ∨ r = 1) ∧ K r S) := by
  refine x_met RX10 (by decide) rfl ?_
  intro p e s m below meth c C hin hV
  have hl := lv_entry ([.int x0, .int x1, .int x2]) (n := 3) (Nat.le_of_ble_eq_true rfl)
  rw [lg_entry_eq]
  generalize (lg_sl ([.int x0, .int x1, .int x2]) ++ List.replicate (3 - (lg_sl ([.int x0, .int x1, .int x2])).length) Slot.unset).toArray = ls at hl ⊢
  have hl : lv_has ls 3 [(0, .int x0), (1, .int x1), (2, .int x2)] := hl
  obtain ⟨hx, hb, hml, hown, hts, hK, hz, hlk, hr⟩ := id C
  unfold wp_X10_within at hM
  refine lv_iload_n hx hb dX10_within_0 rfl (lv_at hl 0 rfl) ?_
  refine lv_iload_n hx hb dX10_within_1 rfl (lv_at hl 1 rfl) ?_
  refine lv_icmp_lt (tgt := 14) hx hb dX10_within_2 (by decide) (fun c1 => ?_) (fun c1 => ?_)
  · have hM := ite_t c1 hM
    refine lv_iconst (v := 0) hx hb dX10_within_14 (by decide) ?_
    exact x_zret C hV (by decide) hM dX10_within_15
  have hM := ite_f c1 hM
  refine lv_iload_n hx hb dX10_within_5 rfl (lv_at hl 0 rfl) ?_
  refine lv_iload_n hx hb dX10_within_6 rfl (lv_at hl 2 rfl) ?_
  refine lv_icmp_gt (tgt := 14) hx hb dX10_within_7 (by decide) (fun c2 => ?_) (fun c2 => ?_)
  · have hM := ite_t c2 hM
    refine lv_iconst (v := 0) hx hb dX10_within_14 (by decide) ?_
    exact x_zret C hV (by decide) hM dX10_within_15
  have hM := ite_f c2 hM
  refine lv_iconst (v := 1) hx hb dX10_within_10 (by decide) ?_
  refine lv_goto (tgt := 15) hx hb dX10_within_11 (by decide) ?_
  exact x_zret C hV (by decide) hM dX10_within_15

def wp_X10_isShelf (N : Nat) (S : PS) (x0 : Int32) (K : Int32 → PS → Prop) : Prop := wp_X10_within N S x0 0 3 (fun r2 S1 => (r2 = 0 ∨ r2 = 1) ∧ K r2 S1)
set_option maxHeartbeats 4000000 in
set_option maxRecDepth 100000 in
theorem c_X10_isShelf {l : Launch} {D : DX} {cA : Nat → ClassId} {z0 N : Nat} {S : PS} {x0 : Int32} {K : Int32 → PS → Prop} (hM : wp_X10_isShelf N S x0 K) : MetI l yX10_isShelf cX10_isShelf 1 (some .boolean) 1 0 0 D cA z0 [.int x0] S (fun r S => (r = 0 ∨ r = 1) ∧ K r S) := by
  refine x_met RX10 (by decide) rfl ?_
  intro p e s m below meth c C hin hV
  have hl := lv_entry ([.int x0]) (n := 1) (Nat.le_of_ble_eq_true rfl)
  rw [lg_entry_eq]
  generalize (lg_sl ([.int x0]) ++ List.replicate (1 - (lg_sl ([.int x0])).length) Slot.unset).toArray = ls at hl ⊢
  have hl : lv_has ls 1 [(0, .int x0)] := hl
  obtain ⟨hx, hb, hml, hown, hts, hK, hz, hlk, hr⟩ := id C
  unfold wp_X10_isShelf at hM
  refine lv_iload_n hx hb dX10_isShelf_0 rfl (lv_at hl 0 rfl) ?_
  refine lv_iconst (v := 0) hx hb dX10_isShelf_1 (by decide) ?_
  refine lv_iconst (v := 3) hx hb dX10_isShelf_2 (by decide) ?_
  refine x_ci hV (x_runS (As := [.int x0, .int 0, .int 3]) (rest := []) C hV ms_X10_within wl_X10_94 (c_X10_within hM) ⟨by decide, by decide⟩ rfl hl.1 (Nat.le_of_ble_eq_true rfl) dX10_isShelf_3 ⟨Nat.zero_le _, Nat.zero_le _⟩) (fun r2 S1 H locs hV hM => ?_)
  have hz3 := hM.1
  have hM := hM.2
  have hz4 := hM.1
  have hM := hM.2
  exact x_zret C hV hz4 hM dX10_isShelf_6

def wq_X10_act_162 (N : Nat) (K : Int32 → PS → Prop) (S : PS) (a0 : Nat) (x5 : Int32) : Prop := S.K a0 = 11 ∧ ∃ p51 : Nat, S.R 720 a0 = some p51 ∧ S.K p51 = 1 ∧ if (S.I 66 p51) = 0 then (K x5 S) else (K (-15) S)
def wp_X10_act (N : Nat) (S : PS) (a0 : Nat) (x1 : Int32) (x2 : Int32) (x3 : Int32) (K : Int32 → PS → Prop) : Prop := S.K a0 = 11 ∧ ∃ p2 : Nat, S.R 720 a0 = some p2 ∧ S.K p2 = 1 ∧ wp_X0_forget N S p2 (fun S4 => wp_X10_isShelf N S4 x1 (fun r7 S6 => if r7 = 0 then (K 0 S6) else (S6.K a0 = 11 ∧ ∃ p11 : Nat, S6.R 719 a0 = some p11 ∧ S6.K p11 = 26 ∧ vp_in x1 (S6.ln p11) ∧ ∃ p14 : Nat, S6.Q p11 x1.toNatClampNeg = some p14 ∧ wp_X10_holdsPart N S6 a0 p14 (fun r16 S15 => if r16 = 0 then (K 0 S15) else (S15.K a0 = 11 ∧ ∃ p20 : Nat, S15.R 719 a0 = some p20 ∧ S15.K p20 = 26 ∧ vp_in x1 (S15.ln p20) ∧ ∃ p23 : Nat, S15.Q p20 x1.toNatClampNeg = some p23 ∧ S15.K p23 = 6 ∧ ∀ v25 : Int32, v25 = (S15.I 385 p23) → ∃ p26 : Nat, S15.R 720 a0 = some p26 ∧ ∃ p27 : Nat, S15.R 704 a0 = some p27 ∧ S15.K p27 = 10 ∧ ∃ p29 : Nat, S15.R 648 p27 = some p29 ∧ S15.K p29 = 23 ∧ vp_in v25 (S15.ln p29) ∧ ∃ p32 : Nat, S15.Q p29 v25.toNatClampNeg = some p32 ∧ S15.K p32 = 2 ∧ ∃ p34 : Nat, S15.R 704 a0 = some p34 ∧ S15.K p34 = 10 ∧ ∃ p36 : Nat, S15.R 648 p34 = some p36 ∧ S15.K p36 = 23 ∧ vp_in v25 (S15.ln p36) ∧ ∃ p39 : Nat, S15.Q p36 v25.toNatClampNeg = some p39 ∧ S15.K p39 = 2 ∧ S15.K p26 = 1 ∧ wp_X0_play N S15 p26 v25 (S15.I 128 p32) (S15.I 131 p39) (fun S42 => if x2 = 0 then (S42.K a0 = 11 ∧ ∃ p46 : Nat, S42.R 720 a0 = some p46 ∧ S42.K p46 = 1 ∧ wp_X0_takes N S42 p46 x3 (fun r49 S48 => wq_X10_act_162 N K S48 a0 r49)) else if x2 = 1 then (S42.K a0 = 11 ∧ ∃ p56 : Nat, S42.R 720 a0 = some p56 ∧ S42.K p56 = 1 ∧ wp_X0_shares N S42 p56 x3 (fun r59 S58 => wq_X10_act_162 N K S58 a0 r59)) else if x2 = 2 then (S42.K a0 = 11 ∧ ∃ p62 : Nat, S42.R 720 a0 = some p62 ∧ S42.K p62 = 1 ∧ wp_X0_bounds N S42 p62 x3 (fun r65 S64 => wq_X10_act_162 N K S64 a0 r65)) else if x2 = 3 then (S42.K a0 = 11 ∧ ∃ p68 : Nat, S42.R 720 a0 = some p68 ∧ S42.K p68 = 1 ∧ wp_X0_tells N S42 p68 x3 (fun r71 S70 => wq_X10_act_162 N K S70 a0 r71)) else K 0 S42))))))
set_option maxHeartbeats 4000000 in
set_option maxRecDepth 100000 in
theorem tq_X10_act_162 {p : Program} {l : Launch} {e : Env} {s : State} {m : MethodId} {args : Array Value} {below : List Frame} {meth : Method} {c : Code} {D : DX} {cA : Nat → ClassId} {z0 N : Nat} {K : Int32 → PS → Prop} (C : CX p s m args meth c cX10_act 6 RX10 (some .int) D cA z0) : ∀ (S : PS) (a0 : Nat) (x5 : Int32) (H : Heap) (locs : List Loc) (ls : Array Slot), wq_X10_act_162 N K S a0 x5 → XV D cA z0 s S H locs → lv_has ls 6 [(0, .ref a0), (5, .int x5)] → W p l e (rmd 7 0 0) s m args below meth c H locs 0 0 (MQ below (va_Qi K (XK D cA z0) (zA z0)) args s 0 0 (zA z0)) (F0 m 162 ls []) := by
  obtain ⟨hx, hb, hml, hown, hts, hK, hz, hlk, hr⟩ := id C
  intro S a0 x5 H locs ls hM hV hl
  unfold wq_X10_act_162 at hM
  refine lv_aload_n hx hb dX10_act_162 rfl (lv_at hl 0 rfl) ?_
  have hk50 := hM.1
  have hM := hM.2
  obtain ⟨p51, hp51, hM⟩ := hM
  refine x_getR C hV wf_X10_88 hk50 hp51 dX10_act_163 ?_
  have hk52 := hM.1
  have hM := hM.2
  refine x_getI C hV wf_X10_386 hk52 dX10_act_166 ?_
  refine lv_if_eq (tgt := 177) hx hb dX10_act_169 (by decide) (fun c53 => ?_) (fun c53 => ?_)
  · have hM := ite_t c53 hM
    refine lv_iload hx hb dX10_act_177 (lv_at hl 1 rfl) ?_
    exact x_iret C hV hM dX10_act_179
  have hM := ite_f c53 hM
  refine lv_bipush (v := (-15)) hx hb dX10_act_172 (by decide) ?_
  refine lv_goto (tgt := 179) hx hb dX10_act_174 (by decide) ?_
  exact x_iret C hV hM dX10_act_179
set_option maxHeartbeats 4000000 in
set_option maxRecDepth 100000 in
theorem c_X10_act {l : Launch} {D : DX} {cA : Nat → ClassId} {z0 N : Nat} {S : PS} {a0 : Nat} {x1 : Int32} {x2 : Int32} {x3 : Int32} {K : Int32 → PS → Prop} (hM : wp_X10_act N S a0 x1 x2 x3 K) : MetI l yX10_act cX10_act 6 (some .int) 7 0 0 D cA z0 [.ref a0, .int x1, .int x2, .int x3] S K := by
  refine x_met RX10 (by decide) rfl ?_
  intro p e s m below meth c C hin hV
  have hl := lv_entry ([.ref a0, .int x1, .int x2, .int x3]) (n := 6) (Nat.le_of_ble_eq_true rfl)
  rw [lg_entry_eq]
  generalize (lg_sl ([.ref a0, .int x1, .int x2, .int x3]) ++ List.replicate (6 - (lg_sl ([.ref a0, .int x1, .int x2, .int x3])).length) Slot.unset).toArray = ls at hl ⊢
  have hl : lv_has ls 6 [(0, .ref a0), (1, .int x1), (2, .int x2), (3, .int x3)] := hl
  obtain ⟨hx, hb, hml, hown, hts, hK, hz, hlk, hr⟩ := id C
  unfold wp_X10_act at hM
  refine lv_aload_n hx hb dX10_act_0 rfl (lv_at hl 0 rfl) ?_
  have hk1 := hM.1
  have hM := hM.2
  obtain ⟨p2, hp2, hM⟩ := hM
  refine x_getR C hV wf_X10_88 hk1 hp2 dX10_act_1 ?_
  have hk3 := hM.1
  have hM := hM.2
  refine x_cv hV (x_runV (As := []) (rest := []) C hV mi_X0_forget wl_X10_367 hk3 (c_X0_forget hM) ⟨by decide, by decide⟩ rfl hl.1 (Nat.le_of_ble_eq_true rfl) dX10_act_4 ⟨Nat.zero_le _, Nat.zero_le _⟩) (fun S4 H locs hV hM => ?_)
  refine lv_iload_n hx hb dX10_act_7 rfl (lv_at hl 1 rfl) ?_
  refine x_ci hV (x_runS (As := [.int x1]) (rest := []) C hV ms_X10_isShelf wl_X10_336 (c_X10_isShelf hM) ⟨by decide, by decide⟩ rfl hl.1 (Nat.le_of_ble_eq_true rfl) dX10_act_8 ⟨Nat.zero_le _, Nat.zero_le _⟩) (fun r7 S6 H locs hV hM => ?_)
  have hz8 := hM.1
  have hM := hM.2
  refine lv_if_eq (tgt := 27) hx hb dX10_act_11 (by decide) (fun c9 => ?_) (fun c9 => ?_)
  · have hM := ite_t c9 hM
    refine lv_iconst (v := 0) hx hb dX10_act_27 (by decide) ?_
    exact x_iret C hV hM dX10_act_28
  have hM := ite_f c9 hM
  refine lv_aload_n hx hb dX10_act_14 rfl (lv_at hl 0 rfl) ?_
  refine lv_aload_n hx hb dX10_act_15 rfl (lv_at hl 0 rfl) ?_
  have hk10 := hM.1
  have hM := hM.2
  obtain ⟨p11, hp11, hM⟩ := hM
  refine x_getR C hV wf_X10_81 hk10 hp11 dX10_act_16 ?_
  refine lv_iload_n hx hb dX10_act_19 rfl (lv_at hl 1 rfl) ?_
  have hk12 := hM.1
  have hM := hM.2
  have hi13 := hM.1
  have hM := hM.2
  obtain ⟨p14, hp14, hM⟩ := hM
  refine x_aald C hV hk12 (by decide) rfl hi13 hp14 dX10_act_20 ?_
  refine x_ci hV (x_runV (As := [.ref p14]) (rest := []) C hV mi_X10_holdsPart wl_X10_352 hk10 (c_X10_holdsPart hM) ⟨by decide, by decide⟩ rfl hl.1 (Nat.le_of_ble_eq_true rfl) dX10_act_21 ⟨Nat.zero_le _, Nat.zero_le _⟩) (fun r16 S15 H locs hV hM => ?_)
  have hz17 := hM.1
  have hM := hM.2
  refine lv_if_ne (tgt := 29) hx hb dX10_act_24 (by decide) (fun c18 => ?_) (fun c18 => ?_)
  · have hM := ite_f c18 hM
    refine lv_aload_n hx hb dX10_act_29 rfl (lv_at hl 0 rfl) ?_
    have hk19 := hM.1
    have hM := hM.2
    obtain ⟨p20, hp20, hM⟩ := hM
    refine x_getR C hV wf_X10_81 hk19 hp20 dX10_act_30 ?_
    refine lv_iload_n hx hb dX10_act_33 rfl (lv_at hl 1 rfl) ?_
    have hk21 := hM.1
    have hM := hM.2
    have hi22 := hM.1
    have hM := hM.2
    obtain ⟨p23, hp23, hM⟩ := hM
    refine x_aald C hV hk21 (by decide) rfl hi22 hp23 dX10_act_34 ?_
    have hk24 := hM.1
    have hM := hM.2
    refine x_getI C hV wf_X10_356 hk24 dX10_act_35 ?_
    refine lv_topi (fun v25 ev25 => ?_)
    have hM := hM v25 ev25
    refine lv_istore (lv' := [(4, .int v25), (0, .ref a0), (1, .int x1), (2, .int x2), (3, .int x3)]) hx hb dX10_act_38 hl (by decide) rfl (fun ls hl => ?_)
    refine lv_aload_n hx hb dX10_act_40 rfl (lv_at hl 1 rfl) ?_
    obtain ⟨p26, hp26, hM⟩ := hM
    refine x_getR C hV wf_X10_88 hk19 hp26 dX10_act_41 ?_
    refine lv_iload hx hb dX10_act_44 (lv_at hl 0 rfl) ?_
    refine lv_aload_n hx hb dX10_act_46 rfl (lv_at hl 1 rfl) ?_
    obtain ⟨p27, hp27, hM⟩ := hM
    refine x_getR C hV wf_X10_10 hk19 hp27 dX10_act_47 ?_
    have hk28 := hM.1
    have hM := hM.2
    obtain ⟨p29, hp29, hM⟩ := hM
    refine x_getR C hV wf_X10_101 hk28 hp29 dX10_act_50 ?_
    refine lv_iload hx hb dX10_act_53 (lv_at hl 0 rfl) ?_
    have hk30 := hM.1
    have hM := hM.2
    have hi31 := hM.1
    have hM := hM.2
    obtain ⟨p32, hp32, hM⟩ := hM
    refine x_aald C hV hk30 (by decide) rfl hi31 hp32 dX10_act_55 ?_
    have hk33 := hM.1
    have hM := hM.2
    refine x_getI C hV wf_X10_116 hk33 dX10_act_56 ?_
    refine lv_aload_n hx hb dX10_act_59 rfl (lv_at hl 1 rfl) ?_
    obtain ⟨p34, hp34, hM⟩ := hM
    refine x_getR C hV wf_X10_10 hk19 hp34 dX10_act_60 ?_
    have hk35 := hM.1
    have hM := hM.2
    obtain ⟨p36, hp36, hM⟩ := hM
    refine x_getR C hV wf_X10_101 hk35 hp36 dX10_act_63 ?_
    refine lv_iload hx hb dX10_act_66 (lv_at hl 0 rfl) ?_
    have hk37 := hM.1
    have hM := hM.2
    have hi38 := hM.1
    have hM := hM.2
    obtain ⟨p39, hp39, hM⟩ := hM
    refine x_aald C hV hk37 (by decide) rfl hi38 hp39 dX10_act_68 ?_
    have hk40 := hM.1
    have hM := hM.2
    refine x_getI C hV wf_X10_125 hk40 dX10_act_69 ?_
    have hk41 := hM.1
    have hM := hM.2
    refine x_cv hV (x_runV (As := [.int v25, .int (S15.I 128 p32), .int (S15.I 131 p39)]) (rest := []) C hV mi_X0_play wl_X10_370 hk41 (c_X0_play hM) ⟨by decide, by decide⟩ rfl hl.1 (Nat.le_of_ble_eq_true rfl) dX10_act_72 ⟨Nat.zero_le _, Nat.zero_le _⟩) (fun S42 H locs hV hM => ?_)
    refine lv_iconst (v := 0) hx hb dX10_act_75 (by decide) ?_
    refine lv_istore (lv' := [(5, .int 0), (4, .int v25), (0, .ref a0), (1, .int x1), (2, .int x2), (3, .int x3)]) hx hb dX10_act_76 hl (by decide) rfl (fun ls hl => ?_)
    refine lv_iload_n hx hb dX10_act_78 rfl (lv_at hl 4 rfl) ?_
    by_cases c44 : x2 = 0
    · have hM := ite_t c44 hM
      refine lv_tableIn (tgt := 108) (off := 29) hx hb dX10_act_79 (by rw [c44]; decide) (by rw [c44]; decide) (by rw [c44]; decide) (by decide) ?_
      refine lv_aload_n hx hb dX10_act_108 rfl (lv_at hl 2 rfl) ?_
      have hk45 := hM.1
      have hM := hM.2
      obtain ⟨p46, hp46, hM⟩ := hM
      refine x_getR C hV wf_X10_88 hk45 hp46 dX10_act_109 ?_
      refine lv_iload_n hx hb dX10_act_112 rfl (lv_at hl 5 rfl) ?_
      have hk47 := hM.1
      have hM := hM.2
      refine x_ci hV (x_runV (As := [.int x3]) (rest := []) C hV mi_X0_takes wl_X10_374 hk47 (c_X0_takes hM) ⟨by decide, by decide⟩ rfl hl.1 (Nat.le_of_ble_eq_true rfl) dX10_act_113 ⟨Nat.zero_le _, Nat.zero_le _⟩) (fun r49 S48 H locs hV hM => ?_)
      refine lv_istore (lv' := [(5, .int r49), (4, .int v25), (0, .ref a0), (1, .int x1), (2, .int x2), (3, .int x3)]) hx hb dX10_act_116 hl (by decide) rfl (fun ls hl => ?_)
      refine lv_goto (tgt := 162) hx hb dX10_act_118 (by decide) ?_
      exact tq_X10_act_162 C _ _ _ _ _ _ hM hV (lv_sub hl [2, 0] rfl)
    have hM := ite_f c44 hM
    by_cases c54 : x2 = 1
    · have hM := ite_t c54 hM
      refine lv_tableIn (tgt := 121) (off := 42) hx hb dX10_act_79 (by rw [c54]; decide) (by rw [c54]; decide) (by rw [c54]; decide) (by decide) ?_
      refine lv_aload_n hx hb dX10_act_121 rfl (lv_at hl 2 rfl) ?_
      have hk55 := hM.1
      have hM := hM.2
      obtain ⟨p56, hp56, hM⟩ := hM
      refine x_getR C hV wf_X10_88 hk55 hp56 dX10_act_122 ?_
      refine lv_iload_n hx hb dX10_act_125 rfl (lv_at hl 5 rfl) ?_
      have hk57 := hM.1
      have hM := hM.2
      refine x_ci hV (x_runV (As := [.int x3]) (rest := []) C hV mi_X0_shares wl_X10_377 hk57 (c_X0_shares hM) ⟨by decide, by decide⟩ rfl hl.1 (Nat.le_of_ble_eq_true rfl) dX10_act_126 ⟨Nat.zero_le _, Nat.zero_le _⟩) (fun r59 S58 H locs hV hM => ?_)
      refine lv_istore (lv' := [(5, .int r59), (4, .int v25), (0, .ref a0), (1, .int x1), (2, .int x2), (3, .int x3)]) hx hb dX10_act_129 hl (by decide) rfl (fun ls hl => ?_)
      refine lv_goto (tgt := 162) hx hb dX10_act_131 (by decide) ?_
      exact tq_X10_act_162 C _ _ _ _ _ _ hM hV (lv_sub hl [2, 0] rfl)
    have hM := ite_f c54 hM
    by_cases c60 : x2 = 2
    · have hM := ite_t c60 hM
      refine lv_tableIn (tgt := 134) (off := 55) hx hb dX10_act_79 (by rw [c60]; decide) (by rw [c60]; decide) (by rw [c60]; decide) (by decide) ?_
      refine lv_aload_n hx hb dX10_act_134 rfl (lv_at hl 2 rfl) ?_
      have hk61 := hM.1
      have hM := hM.2
      obtain ⟨p62, hp62, hM⟩ := hM
      refine x_getR C hV wf_X10_88 hk61 hp62 dX10_act_135 ?_
      refine lv_iload_n hx hb dX10_act_138 rfl (lv_at hl 5 rfl) ?_
      have hk63 := hM.1
      have hM := hM.2
      refine x_ci hV (x_runV (As := [.int x3]) (rest := []) C hV mi_X0_bounds wl_X10_380 hk63 (c_X0_bounds hM) ⟨by decide, by decide⟩ rfl hl.1 (Nat.le_of_ble_eq_true rfl) dX10_act_139 ⟨Nat.zero_le _, Nat.zero_le _⟩) (fun r65 S64 H locs hV hM => ?_)
      refine lv_istore (lv' := [(5, .int r65), (4, .int v25), (0, .ref a0), (1, .int x1), (2, .int x2), (3, .int x3)]) hx hb dX10_act_142 hl (by decide) rfl (fun ls hl => ?_)
      refine lv_goto (tgt := 162) hx hb dX10_act_144 (by decide) ?_
      exact tq_X10_act_162 C _ _ _ _ _ _ hM hV (lv_sub hl [2, 0] rfl)
    have hM := ite_f c60 hM
    by_cases c66 : x2 = 3
    · have hM := ite_t c66 hM
      refine lv_tableIn (tgt := 147) (off := 68) hx hb dX10_act_79 (by rw [c66]; decide) (by rw [c66]; decide) (by rw [c66]; decide) (by decide) ?_
      refine lv_aload_n hx hb dX10_act_147 rfl (lv_at hl 2 rfl) ?_
      have hk67 := hM.1
      have hM := hM.2
      obtain ⟨p68, hp68, hM⟩ := hM
      refine x_getR C hV wf_X10_88 hk67 hp68 dX10_act_148 ?_
      refine lv_iload_n hx hb dX10_act_151 rfl (lv_at hl 5 rfl) ?_
      have hk69 := hM.1
      have hM := hM.2
      refine x_ci hV (x_runV (As := [.int x3]) (rest := []) C hV mi_X0_tells wl_X10_383 hk69 (c_X0_tells hM) ⟨by decide, by decide⟩ rfl hl.1 (Nat.le_of_ble_eq_true rfl) dX10_act_152 ⟨Nat.zero_le _, Nat.zero_le _⟩) (fun r71 S70 H locs hV hM => ?_)
      refine lv_istore (lv' := [(5, .int r71), (4, .int v25), (0, .ref a0), (1, .int x1), (2, .int x2), (3, .int x3)]) hx hb dX10_act_155 hl (by decide) rfl (fun ls hl => ?_)
      refine lv_goto (tgt := 162) hx hb dX10_act_157 (by decide) ?_
      exact tq_X10_act_162 C _ _ _ _ _ _ hM hV (lv_sub hl [2, 0] rfl)
    have hM := ite_f c66 hM
    refine lv_tableOut (tgt := 160) hx hb dX10_act_79 (by have q0 := lv_neT c44 (a := 0) (by decide); have q1 := lv_neT c54 (a := 1) (by decide); have q2 := lv_neT c60 (a := 2) (by decide); have q3 := lv_neT c66 (a := 3) (by decide); omega) (by decide) ?_
    refine lv_iconst (v := 0) hx hb dX10_act_160 (by decide) ?_
    exact x_iret C hV hM dX10_act_161
  have hM := ite_t c18 hM
  refine lv_iconst (v := 0) hx hb dX10_act_27 (by decide) ?_
  exact x_iret C hV hM dX10_act_28

def wp_X10_isInRows (N : Nat) (S : PS) (a0 : Nat) (x1 : Int32) (x2 : Int32) (K : Int32 → PS → Prop) : Prop := S.K a0 = 11 ∧ wp_X10_within N S x1 0 ((S.I 717 a0) - 1) (fun r3 S2 => if r3 = 0 then (K 0 S2) else (wp_X10_within N S2 x2 0 2 (fun r7 S6 => if r7 = 0 then (K 0 S6) else (K 1 S6))))
set_option maxHeartbeats 4000000 in
set_option maxRecDepth 100000 in
theorem c_X10_isInRows {l : Launch} {D : DX} {cA : Nat → ClassId} {z0 N : Nat} {S : PS} {a0 : Nat} {x1 : Int32} {x2 : Int32} {K : Int32 → PS → Prop} (hM : wp_X10_isInRows N S a0 x1 x2 K) : MetI l yX10_isInRows cX10_isInRows 3 (some .boolean) 1 0 0 D cA z0 [.ref a0, .int x1, .int x2] S (fun r S => (r = 0 ∨ r = 1) ∧ K r S) := by
  refine x_met RX10 (by decide) rfl ?_
  intro p e s m below meth c C hin hV
  have hl := lv_entry ([.ref a0, .int x1, .int x2]) (n := 3) (Nat.le_of_ble_eq_true rfl)
  rw [lg_entry_eq]
  generalize (lg_sl ([.ref a0, .int x1, .int x2]) ++ List.replicate (3 - (lg_sl ([.ref a0, .int x1, .int x2])).length) Slot.unset).toArray = ls at hl ⊢
  have hl : lv_has ls 3 [(0, .ref a0), (1, .int x1), (2, .int x2)] := hl
  obtain ⟨hx, hb, hml, hown, hts, hK, hz, hlk, hr⟩ := id C
  unfold wp_X10_isInRows at hM
  refine lv_iload_n hx hb dX10_isInRows_0 rfl (lv_at hl 1 rfl) ?_
  refine lv_iconst (v := 0) hx hb dX10_isInRows_1 (by decide) ?_
  refine lv_aload_n hx hb dX10_isInRows_2 rfl (lv_at hl 0 rfl) ?_
  have hk1 := hM.1
  have hM := hM.2
  refine x_getI C hV wf_X10_70 hk1 dX10_isInRows_3 ?_
  refine lv_iconst (v := 1) hx hb dX10_isInRows_6 (by decide) ?_
  refine lv_isub hx hb dX10_isInRows_7 ?_
  refine x_ci hV (x_runS (As := [.int x1, .int 0, .int ((S.I 717 a0) - 1)]) (rest := []) C hV ms_X10_within wl_X10_94 (c_X10_within hM) ⟨by decide, by decide⟩ rfl hl.1 (Nat.le_of_ble_eq_true rfl) dX10_isInRows_8 ⟨Nat.zero_le _, Nat.zero_le _⟩) (fun r3 S2 H locs hV hM => ?_)
  have hz4 := hM.1
  have hM := hM.2
  refine lv_if_eq (tgt := 27) hx hb dX10_isInRows_11 (by decide) (fun c5 => ?_) (fun c5 => ?_)
  · have hM := ite_t c5 hM
    refine lv_iconst (v := 0) hx hb dX10_isInRows_27 (by decide) ?_
    exact x_zret C hV (by decide) hM dX10_isInRows_28
  have hM := ite_f c5 hM
  refine lv_iload_n hx hb dX10_isInRows_14 rfl (lv_at hl 2 rfl) ?_
  refine lv_iconst (v := 0) hx hb dX10_isInRows_15 (by decide) ?_
  refine lv_iconst (v := 2) hx hb dX10_isInRows_16 (by decide) ?_
  refine x_ci hV (x_runS (As := [.int x2, .int 0, .int 2]) (rest := []) C hV ms_X10_within wl_X10_94 (c_X10_within hM) ⟨by decide, by decide⟩ rfl hl.1 (Nat.le_of_ble_eq_true rfl) dX10_isInRows_17 ⟨Nat.zero_le _, Nat.zero_le _⟩) (fun r7 S6 H locs hV hM => ?_)
  have hz8 := hM.1
  have hM := hM.2
  refine lv_if_eq (tgt := 27) hx hb dX10_isInRows_20 (by decide) (fun c9 => ?_) (fun c9 => ?_)
  · have hM := ite_t c9 hM
    refine lv_iconst (v := 0) hx hb dX10_isInRows_27 (by decide) ?_
    exact x_zret C hV (by decide) hM dX10_isInRows_28
  have hM := ite_f c9 hM
  refine lv_iconst (v := 1) hx hb dX10_isInRows_23 (by decide) ?_
  refine lv_goto (tgt := 28) hx hb dX10_isInRows_24 (by decide) ?_
  exact x_zret C hV (by decide) hM dX10_isInRows_28

def wp_X10_alterRow (N : Nat) (S : PS) (a0 : Nat) (x1 : Int32) (x2 : Int32) (x3 : Int32) (K : Int32 → PS → Prop) : Prop := S.K a0 = 11 ∧ wp_X10_isInRows N S a0 x1 x2 (fun r3 S2 => if r3 = 0 then (K (-2147483648) S2) else (S2.K a0 = 11 ∧ ∃ p7 : Nat, S2.R 716 a0 = some p7 ∧ S2.K p7 = 20 ∧ vp_in ((x1 * 3) + x2) (S2.ln p7) ∧ ∀ v10 : Int32, v10 = (S2.A p7 ((x1 * 3) + x2).toNatClampNeg) → ∃ p11 : Nat, S2.R 716 a0 = some p11 ∧ S2.K p11 = 20 ∧ vp_in ((x1 * 3) + x2) (S2.ln p11) ∧ ∀ S14 : PS, S14 = S2.setA p11 ((x1 * 3) + x2).toNatClampNeg x3 → K v10 S14))
set_option maxHeartbeats 4000000 in
set_option maxRecDepth 100000 in
theorem c_X10_alterRow {l : Launch} {D : DX} {cA : Nat → ClassId} {z0 N : Nat} {S : PS} {a0 : Nat} {x1 : Int32} {x2 : Int32} {x3 : Int32} {K : Int32 → PS → Prop} (hM : wp_X10_alterRow N S a0 x1 x2 x3 K) : MetI l yX10_alterRow cX10_alterRow 5 (some .int) 2 0 0 D cA z0 [.ref a0, .int x1, .int x2, .int x3] S K := by
  refine x_met RX10 (by decide) rfl ?_
  intro p e s m below meth c C hin hV
  have hl := lv_entry ([.ref a0, .int x1, .int x2, .int x3]) (n := 5) (Nat.le_of_ble_eq_true rfl)
  rw [lg_entry_eq]
  generalize (lg_sl ([.ref a0, .int x1, .int x2, .int x3]) ++ List.replicate (5 - (lg_sl ([.ref a0, .int x1, .int x2, .int x3])).length) Slot.unset).toArray = ls at hl ⊢
  have hl : lv_has ls 5 [(0, .ref a0), (1, .int x1), (2, .int x2), (3, .int x3)] := hl
  obtain ⟨hx, hb, hml, hown, hts, hK, hz, hlk, hr⟩ := id C
  unfold wp_X10_alterRow at hM
  refine lv_aload_n hx hb dX10_alterRow_0 rfl (lv_at hl 0 rfl) ?_
  refine lv_iload_n hx hb dX10_alterRow_1 rfl (lv_at hl 1 rfl) ?_
  refine lv_iload_n hx hb dX10_alterRow_2 rfl (lv_at hl 2 rfl) ?_
  have hk1 := hM.1
  have hM := hM.2
  refine x_ci hV (x_runV (As := [.int x1, .int x2]) (rest := []) C hV mi_X10_isInRows wl_X10_315 hk1 (c_X10_isInRows hM) ⟨by decide, by decide⟩ rfl hl.1 (Nat.le_of_ble_eq_true rfl) dX10_alterRow_3 ⟨Nat.zero_le _, Nat.zero_le _⟩) (fun r3 S2 H locs hV hM => ?_)
  have hz4 := hM.1
  have hM := hM.2
  refine lv_if_ne (tgt := 12) hx hb dX10_alterRow_6 (by decide) (fun c5 => ?_) (fun c5 => ?_)
  · have hM := ite_f c5 hM
    refine lv_aload_n hx hb dX10_alterRow_12 rfl (lv_at hl 0 rfl) ?_
    have hk6 := hM.1
    have hM := hM.2
    obtain ⟨p7, hp7, hM⟩ := hM
    refine x_getR C hV wf_X10_67 hk6 hp7 dX10_alterRow_13 ?_
    refine lv_iload_n hx hb dX10_alterRow_16 rfl (lv_at hl 1 rfl) ?_
    refine lv_iconst (v := 3) hx hb dX10_alterRow_17 (by decide) ?_
    refine lv_imul hx hb dX10_alterRow_18 ?_
    refine lv_iload_n hx hb dX10_alterRow_19 rfl (lv_at hl 2 rfl) ?_
    refine lv_iadd hx hb dX10_alterRow_20 ?_
    have hk8 := hM.1
    have hM := hM.2
    have hi9 := hM.1
    have hM := hM.2
    refine x_iald C hV hk8 hi9 dX10_alterRow_21 ?_
    refine lv_topi (fun v10 ev10 => ?_)
    have hM := hM v10 ev10
    refine lv_istore (lv' := [(4, .int v10), (0, .ref a0), (1, .int x1), (2, .int x2), (3, .int x3)]) hx hb dX10_alterRow_22 hl (by decide) rfl (fun ls hl => ?_)
    refine lv_aload_n hx hb dX10_alterRow_24 rfl (lv_at hl 1 rfl) ?_
    obtain ⟨p11, hp11, hM⟩ := hM
    refine x_getR C hV wf_X10_67 hk6 hp11 dX10_alterRow_25 ?_
    refine lv_iload_n hx hb dX10_alterRow_28 rfl (lv_at hl 2 rfl) ?_
    refine lv_iconst (v := 3) hx hb dX10_alterRow_29 (by decide) ?_
    refine lv_imul hx hb dX10_alterRow_30 ?_
    refine lv_iload_n hx hb dX10_alterRow_31 rfl (lv_at hl 3 rfl) ?_
    refine lv_iadd hx hb dX10_alterRow_32 ?_
    refine lv_iload_n hx hb dX10_alterRow_33 rfl (lv_at hl 4 rfl) ?_
    have hk12 := hM.1
    have hM := hM.2
    have hi13 := hM.1
    have hM := hM.2
    obtain ⟨S14, eS14⟩ : ∃ z : PS, z = S2.setA p11 ((x1 * 3) + x2).toNatClampNeg x3 := ⟨_, rfl⟩
    have hM := hM S14 eS14
    refine x_iast C hV hk12 hi13 eS14 dX10_alterRow_34 (fun H locs hV => ?_)
    refine lv_iload hx hb dX10_alterRow_35 (lv_at hl 0 rfl) ?_
    exact x_iret C hV hM dX10_alterRow_37
  have hM := ite_t c5 hM
  refine lv_ldc hx hb hown (hts _ wc_X10_115) dX10_alterRow_9 ?_
  exact x_iret C hV hM dX10_alterRow_11

def wp_X10_back (N : Nat) (S : PS) (a0 : Nat) (K : Int32 → PS → Prop) : Prop := S.K a0 = 11 ∧ if (S.I 706 a0) = 0 then (K (-3) S) else (∃ p3 : Nat, S.R 704 a0 = some p3 ∧ ∃ p4 : Nat, S.R 705 a0 = some p4 ∧ S.K p3 = 10 ∧ wp_X9_become N S p3 p4 (fun S6 => S6.K a0 = 11 ∧ ∃ p9 : Nat, S6.R 704 a0 = some p9 ∧ S6.K p9 = 10 ∧ K (S6.I 640 p9) S6))
set_option maxHeartbeats 4000000 in
set_option maxRecDepth 100000 in
theorem c_X10_back {l : Launch} {D : DX} {cA : Nat → ClassId} {z0 N : Nat} {S : PS} {a0 : Nat} {K : Int32 → PS → Prop} (hM : wp_X10_back N S a0 K) : MetI l yX10_back cX10_back 1 (some .int) 2 0 0 D cA z0 [.ref a0] S K := by
  refine x_met RX10 (by decide) rfl ?_
  intro p e s m below meth c C hin hV
  have hl := lv_entry ([.ref a0]) (n := 1) (Nat.le_of_ble_eq_true rfl)
  rw [lg_entry_eq]
  generalize (lg_sl ([.ref a0]) ++ List.replicate (1 - (lg_sl ([.ref a0])).length) Slot.unset).toArray = ls at hl ⊢
  have hl : lv_has ls 1 [(0, .ref a0)] := hl
  obtain ⟨hx, hb, hml, hown, hts, hK, hz, hlk, hr⟩ := id C
  unfold wp_X10_back at hM
  refine lv_aload_n hx hb dX10_back_0 rfl (lv_at hl 0 rfl) ?_
  have hk1 := hM.1
  have hM := hM.2
  refine x_getI C hV wf_X10_19 hk1 dX10_back_1 ?_
  refine lv_if_ne (tgt := 10) hx hb dX10_back_4 (by decide) (fun c2 => ?_) (fun c2 => ?_)
  · have hM := ite_f c2 hM
    refine lv_aload_n hx hb dX10_back_10 rfl (lv_at hl 0 rfl) ?_
    obtain ⟨p3, hp3, hM⟩ := hM
    refine x_getR C hV wf_X10_10 hk1 hp3 dX10_back_11 ?_
    refine lv_aload_n hx hb dX10_back_14 rfl (lv_at hl 0 rfl) ?_
    obtain ⟨p4, hp4, hM⟩ := hM
    refine x_getR C hV wf_X10_16 hk1 hp4 dX10_back_15 ?_
    have hk5 := hM.1
    have hM := hM.2
    refine x_cv hV (x_runV (As := [.ref p4]) (rest := []) C hV mi_X9_become wl_X10_395 hk5 (c_X9_become hM) ⟨by decide, by decide⟩ rfl hl.1 (Nat.le_of_ble_eq_true rfl) dX10_back_18 ⟨Nat.zero_le _, Nat.zero_le _⟩) (fun S6 H locs hV hM => ?_)
    refine lv_aload_n hx hb dX10_back_21 rfl (lv_at hl 0 rfl) ?_
    have hk8 := hM.1
    have hM := hM.2
    obtain ⟨p9, hp9, hM⟩ := hM
    refine x_getR C hV wf_X10_10 hk8 hp9 dX10_back_22 ?_
    have hk10 := hM.1
    have hM := hM.2
    refine x_getI C hV wf_X10_146 hk10 dX10_back_25 ?_
    exact x_iret C hV hM dX10_back_28
  have hM := ite_t c2 hM
  refine lv_bipush (v := (-3)) hx hb dX10_back_7 (by decide) ?_
  exact x_iret C hV hM dX10_back_9

def wq_X10_commonDivisor_45 (N : Nat) (K : Int64 → PS → Prop) (S : PS) (j4 : Int64) : Prop := K j4 S
def wq_X10_commonDivisor_9 (N : Nat) (K : Int64 → PS → Prop) : Nat → PS → Int64 → Int64 → Int32 → Prop
  | 0, _, _, _, _ => False
  | n + 1, S, j4, j6, x8 => if 200 ≤ x8 then (wq_X10_commonDivisor_45 N K S j4) else (if (lg_cmp j6 (0 : Int64)) = 0 then (wq_X10_commonDivisor_45 N K S j4) else ((¬ j6 = 0) ∧ ∀ v4 : Int64, v4 = (j4 - j4 / j6 * j6) → wq_X10_commonDivisor_9 N K n S j6 v4 (x8 + 1)))
def wp_X10_commonDivisor (N : Nat) (S : PS) (j0 : Int64) (j2 : Int64) (K : Int64 → PS → Prop) : Prop := wq_X10_commonDivisor_9 N K N S j0 j2 0
set_option maxHeartbeats 4000000 in
set_option maxRecDepth 100000 in
theorem tq_X10_commonDivisor_45 {p : Program} {l : Launch} {e : Env} {s : State} {m : MethodId} {args : Array Value} {below : List Frame} {meth : Method} {c : Code} {D : DX} {cA : Nat → ClassId} {z0 N : Nat} {K : Int64 → PS → Prop} (C : CX p s m args meth c cX10_commonDivisor 11 RX10 (some .long) D cA z0) : ∀ (S : PS) (j4 : Int64) (H : Heap) (locs : List Loc) (ls : Array Slot), wq_X10_commonDivisor_45 N K S j4 → XV D cA z0 s S H locs → lv_has ls 11 [(4, .long j4)] → W p l e (rmd 0 0 0) s m args below meth c H locs 0 0 (MQ below (va_Ql K (XK D cA z0) (zA z0)) args s 0 0 (zA z0)) (F0 m 45 ls []) := by
  obtain ⟨hx, hb, hml, hown, hts, hK, hz, hlk, hr⟩ := id C
  intro S j4 H locs ls hM hV hl
  unfold wq_X10_commonDivisor_45 at hM
  refine lv_lload hx hb dX10_commonDivisor_45 (lv_at hl 0 rfl) ?_
  exact x_lret C hV hM dX10_commonDivisor_47
set_option maxHeartbeats 4000000 in
set_option maxRecDepth 100000 in
theorem tq_X10_commonDivisor_9 {p : Program} {l : Launch} {e : Env} {s : State} {m : MethodId} {args : Array Value} {below : List Frame} {meth : Method} {c : Code} {D : DX} {cA : Nat → ClassId} {z0 N : Nat} {K : Int64 → PS → Prop} (C : CX p s m args meth c cX10_commonDivisor 11 RX10 (some .long) D cA z0) : ∀ (n : Nat) (S : PS) (j4 : Int64) (j6 : Int64) (x8 : Int32) (H : Heap) (locs : List Loc) (ls : Array Slot), wq_X10_commonDivisor_9 N K n S j4 j6 x8 → XV D cA z0 s S H locs → lv_has ls 11 [(4, .long j4), (6, .long j6), (8, .int x8)] → W p l e (rmd 0 0 0) s m args below meth c H locs 0 0 (MQ below (va_Ql K (XK D cA z0) (zA z0)) args s 0 0 (zA z0)) (F0 m 9 ls []) := by
  obtain ⟨hx, hb, hml, hown, hts, hK, hz, hlk, hr⟩ := id C
  intro n
  induction n with
  | zero => intro S j4 j6 x8 H locs ls hM; exact absurd hM id
  | succ n ih =>
    intro S j4 j6 x8 H locs ls hM hV hl
    rw [wq_X10_commonDivisor_9.eq_2] at hM
    refine lv_iload hx hb dX10_commonDivisor_9 (lv_at hl 2 rfl) ?_
    refine lv_sipush (v := 200) hx hb dX10_commonDivisor_11 (by decide) ?_
    refine lv_icmp_ge (tgt := 45) hx hb dX10_commonDivisor_14 (by decide) (fun c1 => ?_) (fun c1 => ?_)
    · have hM := ite_t c1 hM
      exact tq_X10_commonDivisor_45 C _ _ _ _ _ hM hV (lv_sub hl [0] rfl)
    have hM := ite_f c1 hM
    refine lv_lload hx hb dX10_commonDivisor_17 (lv_at hl 1 rfl) ?_
    refine lv_lconst (v := 0) hx hb dX10_commonDivisor_19 (by decide) ?_
    refine W.lcmp hx hb dX10_commonDivisor_20 ?_
    refine lv_if_eq (tgt := 45) hx hb dX10_commonDivisor_21 (by decide) (fun c2 => ?_) (fun c2 => ?_)
    · have hM := ite_t c2 hM
      exact tq_X10_commonDivisor_45 C _ _ _ _ _ hM hV (lv_sub hl [0] rfl)
    have hM := ite_f c2 hM
    refine lv_lload hx hb dX10_commonDivisor_24 (lv_at hl 0 rfl) ?_
    refine lv_lload hx hb dX10_commonDivisor_26 (lv_at hl 1 rfl) ?_
    have hne3 := hM.1
    have hM := hM.2
    refine lv_lrem hx hb dX10_commonDivisor_28 hne3 ?_
    refine lv_topl (fun v4 ev4 => ?_)
    have hM := hM v4 ev4
    refine lv_lstore (lv' := [(9, .long v4), (4, .long j4), (6, .long j6), (8, .int x8)]) hx hb dX10_commonDivisor_29 hl (by decide) rfl (fun ls hl => ?_)
    refine lv_lload hx hb dX10_commonDivisor_31 (lv_at hl 2 rfl) ?_
    refine lv_lstore (lv' := [(4, .long j6), (9, .long v4), (6, .long j6), (8, .int x8)]) hx hb dX10_commonDivisor_33 hl (by decide) rfl (fun ls hl => ?_)
    refine lv_lload hx hb dX10_commonDivisor_35 (lv_at hl 1 rfl) ?_
    refine lv_lstore (lv' := [(6, .long v4), (4, .long j6), (9, .long v4), (8, .int x8)]) hx hb dX10_commonDivisor_37 hl (by decide) rfl (fun ls hl => ?_)
    refine lv_iinc (v := (x8 + 1)) (lv' := [(8, .int (x8 + 1)), (6, .long v4), (4, .long j6), (9, .long v4)]) hx hb dX10_commonDivisor_39 hl (k := 3) rfl rfl (by decide) rfl (fun ls hl => ?_)
    refine lv_goto (tgt := 9) hx hb dX10_commonDivisor_42 (by decide) ?_
    exact ih _ _ _ _ _ _ _ hM hV (lv_sub hl [2, 1, 0] rfl)
set_option maxHeartbeats 4000000 in
set_option maxRecDepth 100000 in
theorem c_X10_commonDivisor {l : Launch} {D : DX} {cA : Nat → ClassId} {z0 N : Nat} {S : PS} {j0 : Int64} {j2 : Int64} {K : Int64 → PS → Prop} (hM : wp_X10_commonDivisor N S j0 j2 K) : MetL l yX10_commonDivisor cX10_commonDivisor 11 (some .long) 0 0 0 D cA z0 [.long j0, .long j2] S K := by
  refine x_met RX10 (by decide) rfl ?_
  intro p e s m below meth c C hin hV
  have hl := lv_entry ([.long j0, .long j2]) (n := 11) (Nat.le_of_ble_eq_true rfl)
  rw [lg_entry_eq]
  generalize (lg_sl ([.long j0, .long j2]) ++ List.replicate (11 - (lg_sl ([.long j0, .long j2])).length) Slot.unset).toArray = ls at hl ⊢
  have hl : lv_has ls 11 [(0, .long j0), (2, .long j2)] := hl
  obtain ⟨hx, hb, hml, hown, hts, hK, hz, hlk, hr⟩ := id C
  unfold wp_X10_commonDivisor at hM
  refine lv_lload_n hx hb dX10_commonDivisor_0 rfl (lv_at hl 0 rfl) ?_
  refine lv_lstore (lv' := [(4, .long j0), (0, .long j0), (2, .long j2)]) hx hb dX10_commonDivisor_1 hl (by decide) rfl (fun ls hl => ?_)
  refine lv_lload_n hx hb dX10_commonDivisor_3 rfl (lv_at hl 2 rfl) ?_
  refine lv_lstore (lv' := [(6, .long j2), (4, .long j0), (0, .long j0), (2, .long j2)]) hx hb dX10_commonDivisor_4 hl (by decide) rfl (fun ls hl => ?_)
  refine lv_iconst (v := 0) hx hb dX10_commonDivisor_6 (by decide) ?_
  refine lv_istore (lv' := [(8, .int 0), (6, .long j2), (4, .long j0), (0, .long j0), (2, .long j2)]) hx hb dX10_commonDivisor_7 hl (by decide) rfl (fun ls hl => ?_)
  exact tq_X10_commonDivisor_9 C N _ _ _ _ _ _ _ hM hV (lv_sub hl [2, 1, 0] rfl)

def wp_X10_isWay (N : Nat) (S : PS) (x0 : Int32) (K : Int32 → PS → Prop) : Prop := wp_X10_within N S x0 0 1 (fun r2 S1 => (r2 = 0 ∨ r2 = 1) ∧ K r2 S1)
set_option maxHeartbeats 4000000 in
set_option maxRecDepth 100000 in
theorem c_X10_isWay {l : Launch} {D : DX} {cA : Nat → ClassId} {z0 N : Nat} {S : PS} {x0 : Int32} {K : Int32 → PS → Prop} (hM : wp_X10_isWay N S x0 K) : MetI l yX10_isWay cX10_isWay 1 (some .boolean) 1 0 0 D cA z0 [.int x0] S (fun r S => (r = 0 ∨ r = 1) ∧ K r S) := by
  refine x_met RX10 (by decide) rfl ?_
  intro p e s m below meth c C hin hV
  have hl := lv_entry ([.int x0]) (n := 1) (Nat.le_of_ble_eq_true rfl)
  rw [lg_entry_eq]
  generalize (lg_sl ([.int x0]) ++ List.replicate (1 - (lg_sl ([.int x0])).length) Slot.unset).toArray = ls at hl ⊢
  have hl : lv_has ls 1 [(0, .int x0)] := hl
  obtain ⟨hx, hb, hml, hown, hts, hK, hz, hlk, hr⟩ := id C
  unfold wp_X10_isWay at hM
  refine lv_iload_n hx hb dX10_isWay_0 rfl (lv_at hl 0 rfl) ?_
  refine lv_iconst (v := 0) hx hb dX10_isWay_1 (by decide) ?_
  refine lv_iconst (v := 1) hx hb dX10_isWay_2 (by decide) ?_
  refine x_ci hV (x_runS (As := [.int x0, .int 0, .int 1]) (rest := []) C hV ms_X10_within wl_X10_94 (c_X10_within hM) ⟨by decide, by decide⟩ rfl hl.1 (Nat.le_of_ble_eq_true rfl) dX10_isWay_3 ⟨Nat.zero_le _, Nat.zero_le _⟩) (fun r2 S1 H locs hV hM => ?_)
  have hz3 := hM.1
  have hM := hM.2
  have hz4 := hM.1
  have hM := hM.2
  exact x_zret C hV hz4 hM dX10_isWay_6

def wq_X10_could_27 (N : Nat) (K : Int32 → PS → Prop) : Nat → PS → Nat → Int32 → Int32 → Int32 → Int32 → Prop
  | 0, _, _, _, _, _, _ => False
  | n + 1, S, a0, x1, x2, x3, x4 => S.K a0 = 11 ∧ ∃ p10 : Nat, S.R 704 a0 = some p10 ∧ S.K p10 = 10 ∧ if (S.I 644 p10) ≤ x4 then (K x3 S) else (∃ p13 : Nat, S.R 704 a0 = some p13 ∧ S.K p13 = 10 ∧ ∃ p15 : Nat, S.R 648 p13 = some p15 ∧ S.K p15 = 23 ∧ vp_in x4 (S.ln p15) ∧ ∃ p18 : Nat, S.Q p15 x4.toNatClampNeg = some p18 ∧ S.K p18 = 2 ∧ wp_X1_isIn N S p18 x1 (fun r21 S20 => if r21 = 0 then (wq_X10_could_27 N K n S20 a0 x1 x2 x3 (x4 + 1)) else (S20.K a0 = 11 ∧ ∃ p25 : Nat, S20.R 704 a0 = some p25 ∧ S20.K p25 = 10 ∧ ∃ p27 : Nat, S20.R 648 p25 = some p27 ∧ S20.K p27 = 23 ∧ vp_in x4 (S20.ln p27) ∧ ∃ p30 : Nat, S20.Q p27 x4.toNatClampNeg = some p30 ∧ S20.K p30 = 2 ∧ if (S20.I 131 p30) < (if 0 ≤ x2 then x2 else 0 - x2) then (wq_X10_could_27 N K n S20 a0 x1 x2 x3 (x4 + 1)) else (∀ v33 : Int32, v33 = (x3 ||| ((1 : Int32) <<< (x4 &&& 31))) → wq_X10_could_27 N K n S20 a0 x1 x2 v33 (x4 + 1)))))
def wp_X10_could (N : Nat) (S : PS) (a0 : Nat) (x1 : Int32) (x2 : Int32) (K : Int32 → PS → Prop) : Prop := wp_X10_isWay N S x1 (fun r2 S1 => if r2 = 0 then (K (-1) S1) else (wp_X10_within N S1 x2 (-9999) 9999 (fun r6 S5 => if r6 = 0 then (K (-1) S5) else (wq_X10_could_27 N K N S5 a0 x1 x2 0 0))))
set_option maxHeartbeats 4000000 in
set_option maxRecDepth 100000 in
theorem tq_X10_could_27 {p : Program} {l : Launch} {e : Env} {s : State} {m : MethodId} {args : Array Value} {below : List Frame} {meth : Method} {c : Code} {D : DX} {cA : Nat → ClassId} {z0 N : Nat} {K : Int32 → PS → Prop} (C : CX p s m args meth c cX10_could 5 RX10 (some .int) D cA z0) : ∀ (n : Nat) (S : PS) (a0 : Nat) (x1 : Int32) (x2 : Int32) (x3 : Int32) (x4 : Int32) (H : Heap) (locs : List Loc) (ls : Array Slot), wq_X10_could_27 N K n S a0 x1 x2 x3 x4 → XV D cA z0 s S H locs → lv_has ls 5 [(0, .ref a0), (1, .int x1), (2, .int x2), (3, .int x3), (4, .int x4)] → W p l e (rmd 2 0 0) s m args below meth c H locs 0 0 (MQ below (va_Qi K (XK D cA z0) (zA z0)) args s 0 0 (zA z0)) (F0 m 27 ls []) := by
  obtain ⟨hx, hb, hml, hown, hts, hK, hz, hlk, hr⟩ := id C
  intro n
  induction n with
  | zero => intro S a0 x1 x2 x3 x4 H locs ls hM; exact absurd hM id
  | succ n ih =>
    intro S a0 x1 x2 x3 x4 H locs ls hM hV hl
    rw [wq_X10_could_27.eq_2] at hM
    refine lv_iload hx hb dX10_could_27 (lv_at hl 4 rfl) ?_
    refine lv_aload_n hx hb dX10_could_29 rfl (lv_at hl 0 rfl) ?_
    have hk9 := hM.1
    have hM := hM.2
    obtain ⟨p10, hp10, hM⟩ := hM
    refine x_getR C hV wf_X10_10 hk9 hp10 dX10_could_30 ?_
    have hk11 := hM.1
    have hM := hM.2
    refine x_getI C hV wf_X10_98 hk11 dX10_could_33 ?_
    refine lv_icmp_ge (tgt := 89) hx hb dX10_could_36 (by decide) (fun c12 => ?_) (fun c12 => ?_)
    · have hM := ite_t c12 hM
      refine lv_iload_n hx hb dX10_could_89 rfl (lv_at hl 3 rfl) ?_
      exact x_iret C hV hM dX10_could_90
    have hM := ite_f c12 hM
    refine lv_aload_n hx hb dX10_could_39 rfl (lv_at hl 0 rfl) ?_
    obtain ⟨p13, hp13, hM⟩ := hM
    refine x_getR C hV wf_X10_10 hk9 hp13 dX10_could_40 ?_
    have hk14 := hM.1
    have hM := hM.2
    obtain ⟨p15, hp15, hM⟩ := hM
    refine x_getR C hV wf_X10_101 hk14 hp15 dX10_could_43 ?_
    refine lv_iload hx hb dX10_could_46 (lv_at hl 4 rfl) ?_
    have hk16 := hM.1
    have hM := hM.2
    have hi17 := hM.1
    have hM := hM.2
    obtain ⟨p18, hp18, hM⟩ := hM
    refine x_aald C hV hk16 (by decide) rfl hi17 hp18 dX10_could_48 ?_
    refine lv_iload_n hx hb dX10_could_49 rfl (lv_at hl 1 rfl) ?_
    have hk19 := hM.1
    have hM := hM.2
    refine x_ci hV (x_runV (As := [.int x1]) (rest := []) C hV mi_X1_isIn wl_X10_165 hk19 (c_X1_isIn hM) ⟨by decide, by decide⟩ rfl hl.1 (Nat.le_of_ble_eq_true rfl) dX10_could_50 ⟨Nat.zero_le _, Nat.zero_le _⟩) (fun r21 S20 H locs hV hM => ?_)
    have hz22 := hM.1
    have hM := hM.2
    refine lv_if_eq (tgt := 83) hx hb dX10_could_53 (by decide) (fun c23 => ?_) (fun c23 => ?_)
    · have hM := ite_t c23 hM
      refine lv_iinc (v := (x4 + 1)) (lv' := [(4, .int (x4 + 1)), (0, .ref a0), (1, .int x1), (2, .int x2), (3, .int x3)]) hx hb dX10_could_83 hl (k := 4) rfl rfl (by decide) rfl (fun ls hl => ?_)
      refine lv_goto (tgt := 27) hx hb dX10_could_86 (by decide) ?_
      exact ih _ _ _ _ _ _ _ _ _ hM hV (lv_sub hl [1, 2, 3, 4, 0] rfl)
    have hM := ite_f c23 hM
    refine lv_aload_n hx hb dX10_could_56 rfl (lv_at hl 0 rfl) ?_
    have hk24 := hM.1
    have hM := hM.2
    obtain ⟨p25, hp25, hM⟩ := hM
    refine x_getR C hV wf_X10_10 hk24 hp25 dX10_could_57 ?_
    have hk26 := hM.1
    have hM := hM.2
    obtain ⟨p27, hp27, hM⟩ := hM
    refine x_getR C hV wf_X10_101 hk26 hp27 dX10_could_60 ?_
    refine lv_iload hx hb dX10_could_63 (lv_at hl 4 rfl) ?_
    have hk28 := hM.1
    have hM := hM.2
    have hi29 := hM.1
    have hM := hM.2
    obtain ⟨p30, hp30, hM⟩ := hM
    refine x_aald C hV hk28 (by decide) rfl hi29 hp30 dX10_could_65 ?_
    have hk31 := hM.1
    have hM := hM.2
    refine x_getI C hV wf_X10_125 hk31 dX10_could_66 ?_
    refine lv_iload_n hx hb dX10_could_69 rfl (lv_at hl 2 rfl) ?_
    refine x_mabs C hl.1 wl_X10_270 (by decide) (by decide) (Nat.zero_le _) (Nat.zero_le _) (Nat.le_of_ble_eq_true rfl) dX10_could_70 ?_
    refine lv_icmp_lt (tgt := 83) hx hb dX10_could_73 (by decide) (fun c32 => ?_) (fun c32 => ?_)
    · have hM := ite_t c32 hM
      refine lv_iinc (v := (x4 + 1)) (lv' := [(4, .int (x4 + 1)), (0, .ref a0), (1, .int x1), (2, .int x2), (3, .int x3)]) hx hb dX10_could_83 hl (k := 4) rfl rfl (by decide) rfl (fun ls hl => ?_)
      refine lv_goto (tgt := 27) hx hb dX10_could_86 (by decide) ?_
      exact ih _ _ _ _ _ _ _ _ _ hM hV (lv_sub hl [1, 2, 3, 4, 0] rfl)
    have hM := ite_f c32 hM
    refine lv_iload_n hx hb dX10_could_76 rfl (lv_at hl 3 rfl) ?_
    refine lv_iconst (v := 1) hx hb dX10_could_77 (by decide) ?_
    refine lv_iload hx hb dX10_could_78 (lv_at hl 4 rfl) ?_
    refine lv_ishl hx hb dX10_could_80 ?_
    refine lv_ior hx hb dX10_could_81 ?_
    refine lv_topi (fun v33 ev33 => ?_)
    have hM := hM v33 ev33
    refine lv_istore_n (lv' := [(3, .int v33), (0, .ref a0), (1, .int x1), (2, .int x2), (4, .int x4)]) hx hb dX10_could_82 rfl hl (by decide) rfl (fun ls hl => ?_)
    refine lv_iinc (v := (x4 + 1)) (lv' := [(4, .int (x4 + 1)), (3, .int v33), (0, .ref a0), (1, .int x1), (2, .int x2)]) hx hb dX10_could_83 hl (k := 4) rfl rfl (by decide) rfl (fun ls hl => ?_)
    refine lv_goto (tgt := 27) hx hb dX10_could_86 (by decide) ?_
    exact ih _ _ _ _ _ _ _ _ _ hM hV (lv_sub hl [2, 3, 4, 1, 0] rfl)
set_option maxHeartbeats 4000000 in
set_option maxRecDepth 100000 in
theorem c_X10_could {l : Launch} {D : DX} {cA : Nat → ClassId} {z0 N : Nat} {S : PS} {a0 : Nat} {x1 : Int32} {x2 : Int32} {K : Int32 → PS → Prop} (hM : wp_X10_could N S a0 x1 x2 K) : MetI l yX10_could cX10_could 5 (some .int) 2 0 0 D cA z0 [.ref a0, .int x1, .int x2] S K := by
  refine x_met RX10 (by decide) rfl ?_
  intro p e s m below meth c C hin hV
  have hl := lv_entry ([.ref a0, .int x1, .int x2]) (n := 5) (Nat.le_of_ble_eq_true rfl)
  rw [lg_entry_eq]
  generalize (lg_sl ([.ref a0, .int x1, .int x2]) ++ List.replicate (5 - (lg_sl ([.ref a0, .int x1, .int x2])).length) Slot.unset).toArray = ls at hl ⊢
  have hl : lv_has ls 5 [(0, .ref a0), (1, .int x1), (2, .int x2)] := hl
  obtain ⟨hx, hb, hml, hown, hts, hK, hz, hlk, hr⟩ := id C
  unfold wp_X10_could at hM
  refine lv_iload_n hx hb dX10_could_0 rfl (lv_at hl 1 rfl) ?_
  refine x_ci hV (x_runS (As := [.int x1]) (rest := []) C hV ms_X10_isWay wl_X10_159 (c_X10_isWay hM) ⟨by decide, by decide⟩ rfl hl.1 (Nat.le_of_ble_eq_true rfl) dX10_could_1 ⟨Nat.zero_le _, Nat.zero_le _⟩) (fun r2 S1 H locs hV hM => ?_)
  have hz3 := hM.1
  have hM := hM.2
  refine lv_if_eq (tgt := 20) hx hb dX10_could_4 (by decide) (fun c4 => ?_) (fun c4 => ?_)
  · have hM := ite_t c4 hM
    refine lv_iconst (v := (-1)) hx hb dX10_could_20 (by decide) ?_
    exact x_iret C hV hM dX10_could_21
  have hM := ite_f c4 hM
  refine lv_iload_n hx hb dX10_could_7 rfl (lv_at hl 2 rfl) ?_
  refine lv_sipush (v := (-9999)) hx hb dX10_could_8 (by decide) ?_
  refine lv_sipush (v := 9999) hx hb dX10_could_11 (by decide) ?_
  refine x_ci hV (x_runS (As := [.int x2, .int (-9999), .int 9999]) (rest := []) C hV ms_X10_within wl_X10_94 (c_X10_within hM) ⟨by decide, by decide⟩ rfl hl.1 (Nat.le_of_ble_eq_true rfl) dX10_could_14 ⟨Nat.zero_le _, Nat.zero_le _⟩) (fun r6 S5 H locs hV hM => ?_)
  have hz7 := hM.1
  have hM := hM.2
  refine lv_if_ne (tgt := 22) hx hb dX10_could_17 (by decide) (fun c8 => ?_) (fun c8 => ?_)
  · have hM := ite_f c8 hM
    refine lv_iconst (v := 0) hx hb dX10_could_22 (by decide) ?_
    refine lv_istore_n (lv' := [(3, .int 0), (0, .ref a0), (1, .int x1), (2, .int x2)]) hx hb dX10_could_23 rfl hl (by decide) rfl (fun ls hl => ?_)
    refine lv_iconst (v := 0) hx hb dX10_could_24 (by decide) ?_
    refine lv_istore (lv' := [(4, .int 0), (3, .int 0), (0, .ref a0), (1, .int x1), (2, .int x2)]) hx hb dX10_could_25 hl (by decide) rfl (fun ls hl => ?_)
    exact tq_X10_could_27 C N _ _ _ _ _ _ _ _ _ hM hV (lv_sub hl [2, 3, 4, 1, 0] rfl)
  have hM := ite_t c8 hM
  refine lv_iconst (v := (-1)) hx hb dX10_could_20 (by decide) ?_
  exact x_iret C hV hM dX10_could_21

def wp_X10_fact (N : Nat) (S : PS) (a0 : Nat) (x1 : Int32) (K : Int32 → PS → Prop) : Prop := wp_X10_within N S x1 0 6 (fun r2 S1 => if r2 = 0 then (K (-2147483648) S1) else (S1.K a0 = 11 ∧ ∃ p6 : Nat, S1.R 704 a0 = some p6 ∧ ∃ p7 : Nat, S1.R 712 a0 = some p7 ∧ S1.K p6 = 10 ∧ wp_X9_tellFacts N S1 p6 p7 (fun S9 => S9.K a0 = 11 ∧ ∃ p12 : Nat, S9.R 712 a0 = some p12 ∧ S9.K p12 = 20 ∧ vp_in x1 (S9.ln p12) ∧ K (S9.A p12 x1.toNatClampNeg) S9)))
set_option maxHeartbeats 4000000 in
set_option maxRecDepth 100000 in
theorem c_X10_fact {l : Launch} {D : DX} {cA : Nat → ClassId} {z0 N : Nat} {S : PS} {a0 : Nat} {x1 : Int32} {K : Int32 → PS → Prop} (hM : wp_X10_fact N S a0 x1 K) : MetI l yX10_fact cX10_fact 2 (some .int) 6 0 0 D cA z0 [.ref a0, .int x1] S K := by
  refine x_met RX10 (by decide) rfl ?_
  intro p e s m below meth c C hin hV
  have hl := lv_entry ([.ref a0, .int x1]) (n := 2) (Nat.le_of_ble_eq_true rfl)
  rw [lg_entry_eq]
  generalize (lg_sl ([.ref a0, .int x1]) ++ List.replicate (2 - (lg_sl ([.ref a0, .int x1])).length) Slot.unset).toArray = ls at hl ⊢
  have hl : lv_has ls 2 [(0, .ref a0), (1, .int x1)] := hl
  obtain ⟨hx, hb, hml, hown, hts, hK, hz, hlk, hr⟩ := id C
  unfold wp_X10_fact at hM
  refine lv_iload_n hx hb dX10_fact_0 rfl (lv_at hl 1 rfl) ?_
  refine lv_iconst (v := 0) hx hb dX10_fact_1 (by decide) ?_
  refine lv_bipush (v := 6) hx hb dX10_fact_2 (by decide) ?_
  refine x_ci hV (x_runS (As := [.int x1, .int 0, .int 6]) (rest := []) C hV ms_X10_within wl_X10_94 (c_X10_within hM) ⟨by decide, by decide⟩ rfl hl.1 (Nat.le_of_ble_eq_true rfl) dX10_fact_4 ⟨Nat.zero_le _, Nat.zero_le _⟩) (fun r2 S1 H locs hV hM => ?_)
  have hz3 := hM.1
  have hM := hM.2
  refine lv_if_ne (tgt := 13) hx hb dX10_fact_7 (by decide) (fun c4 => ?_) (fun c4 => ?_)
  · have hM := ite_f c4 hM
    refine lv_aload_n hx hb dX10_fact_13 rfl (lv_at hl 0 rfl) ?_
    have hk5 := hM.1
    have hM := hM.2
    obtain ⟨p6, hp6, hM⟩ := hM
    refine x_getR C hV wf_X10_10 hk5 hp6 dX10_fact_14 ?_
    refine lv_aload_n hx hb dX10_fact_17 rfl (lv_at hl 0 rfl) ?_
    obtain ⟨p7, hp7, hM⟩ := hM
    refine x_getR C hV wf_X10_54 hk5 hp7 dX10_fact_18 ?_
    have hk8 := hM.1
    have hM := hM.2
    refine x_cv hV (x_runV (As := [.ref p7]) (rest := []) C hV mi_X9_tellFacts wl_X10_305 hk8 (c_X9_tellFacts hM) ⟨by decide, by decide⟩ rfl hl.1 (Nat.le_of_ble_eq_true rfl) dX10_fact_21 ⟨Nat.zero_le _, Nat.zero_le _⟩) (fun S9 H locs hV hM => ?_)
    refine lv_aload_n hx hb dX10_fact_24 rfl (lv_at hl 0 rfl) ?_
    have hk11 := hM.1
    have hM := hM.2
    obtain ⟨p12, hp12, hM⟩ := hM
    refine x_getR C hV wf_X10_54 hk11 hp12 dX10_fact_25 ?_
    refine lv_iload_n hx hb dX10_fact_28 rfl (lv_at hl 1 rfl) ?_
    have hk13 := hM.1
    have hM := hM.2
    have hi14 := hM.1
    have hM := hM.2
    refine x_iald C hV hk13 hi14 dX10_fact_29 ?_
    exact x_iret C hV hM dX10_fact_30
  have hM := ite_t c4 hM
  refine lv_ldc hx hb hown (hts _ wc_X10_115) dX10_fact_10 ?_
  exact x_iret C hV hM dX10_fact_12

def wp_X10_isDay (N : Nat) (S : PS) (x0 : Int32) (K : Int32 → PS → Prop) : Prop := wp_X10_within N S x0 0 999 (fun r2 S1 => (r2 = 0 ∨ r2 = 1) ∧ K r2 S1)
set_option maxHeartbeats 4000000 in
set_option maxRecDepth 100000 in
theorem c_X10_isDay {l : Launch} {D : DX} {cA : Nat → ClassId} {z0 N : Nat} {S : PS} {x0 : Int32} {K : Int32 → PS → Prop} (hM : wp_X10_isDay N S x0 K) : MetI l yX10_isDay cX10_isDay 1 (some .boolean) 1 0 0 D cA z0 [.int x0] S (fun r S => (r = 0 ∨ r = 1) ∧ K r S) := by
  refine x_met RX10 (by decide) rfl ?_
  intro p e s m below meth c C hin hV
  have hl := lv_entry ([.int x0]) (n := 1) (Nat.le_of_ble_eq_true rfl)
  rw [lg_entry_eq]
  generalize (lg_sl ([.int x0]) ++ List.replicate (1 - (lg_sl ([.int x0])).length) Slot.unset).toArray = ls at hl ⊢
  have hl : lv_has ls 1 [(0, .int x0)] := hl
  obtain ⟨hx, hb, hml, hown, hts, hK, hz, hlk, hr⟩ := id C
  unfold wp_X10_isDay at hM
  refine lv_iload_n hx hb dX10_isDay_0 rfl (lv_at hl 0 rfl) ?_
  refine lv_iconst (v := 0) hx hb dX10_isDay_1 (by decide) ?_
  refine lv_sipush (v := 999) hx hb dX10_isDay_2 (by decide) ?_
  refine x_ci hV (x_runS (As := [.int x0, .int 0, .int 999]) (rest := []) C hV ms_X10_within wl_X10_94 (c_X10_within hM) ⟨by decide, by decide⟩ rfl hl.1 (Nat.le_of_ble_eq_true rfl) dX10_isDay_5 ⟨Nat.zero_le _, Nat.zero_le _⟩) (fun r2 S1 H locs hV hM => ?_)
  have hz3 := hM.1
  have hM := hM.2
  have hz4 := hM.1
  have hM := hM.2
  exact x_zret C hV hz4 hM dX10_isDay_8

def wp_X10_fail (N : Nat) (S : PS) (a0 : Nat) (x1 : Int32) (x2 : Int32) (x3 : Int32) (K : Int32 → PS → Prop) : Prop := S.K a0 = 11 ∧ ∃ p2 : Nat, S.R 704 a0 = some p2 ∧ S.K p2 = 10 ∧ wp_X9_hasPart N S p2 x1 (fun r5 S4 => if r5 = 0 then (K (-2147483648) S4) else (wp_X10_within N S4 x2 (-500) 500 (fun r9 S8 => if r9 = 0 then (K (-2147483648) S8) else (wp_X10_isDay N S8 x3 (fun r13 S12 => if r13 = 0 then (K (-2147483648) S12) else (S12.K a0 = 11 ∧ ∃ p17 : Nat, S12.R 704 a0 = some p17 ∧ S12.K p17 = 10 ∧ ∃ p19 : Nat, S12.R 648 p17 = some p19 ∧ S12.K p19 = 23 ∧ vp_in x1 (S12.ln p19) ∧ ∃ p22 : Nat, S12.Q p19 x1.toNatClampNeg = some p22 ∧ S12.K p22 = 2 ∧ ∀ S24 : PS, S24 = S12.setI 135 p22 x2 → ∀ S26 : PS, S26 = S24.setI 136 p22 x3 → ∃ p29 : Nat, S26.R 704 a0 = some p29 ∧ S26.K p29 = 10 ∧ wp_X1_takesOn N S26 p22 (S26.I 640 p29) (fun r33 S32 => K r33 S32)))))))
set_option maxHeartbeats 4000000 in
set_option maxRecDepth 100000 in
theorem c_X10_fail {l : Launch} {D : DX} {cA : Nat → ClassId} {z0 N : Nat} {S : PS} {a0 : Nat} {x1 : Int32} {x2 : Int32} {x3 : Int32} {K : Int32 → PS → Prop} (hM : wp_X10_fail N S a0 x1 x2 x3 K) : MetI l yX10_fail cX10_fail 5 (some .int) 2 0 0 D cA z0 [.ref a0, .int x1, .int x2, .int x3] S K := by
  refine x_met RX10 (by decide) rfl ?_
  intro p e s m below meth c C hin hV
  have hl := lv_entry ([.ref a0, .int x1, .int x2, .int x3]) (n := 5) (Nat.le_of_ble_eq_true rfl)
  rw [lg_entry_eq]
  generalize (lg_sl ([.ref a0, .int x1, .int x2, .int x3]) ++ List.replicate (5 - (lg_sl ([.ref a0, .int x1, .int x2, .int x3])).length) Slot.unset).toArray = ls at hl ⊢
  have hl : lv_has ls 5 [(0, .ref a0), (1, .int x1), (2, .int x2), (3, .int x3)] := hl
  obtain ⟨hx, hb, hml, hown, hts, hK, hz, hlk, hr⟩ := id C
  unfold wp_X10_fail at hM
  refine lv_aload_n hx hb dX10_fail_0 rfl (lv_at hl 0 rfl) ?_
  have hk1 := hM.1
  have hM := hM.2
  obtain ⟨p2, hp2, hM⟩ := hM
  refine x_getR C hV wf_X10_10 hk1 hp2 dX10_fail_1 ?_
  refine lv_iload_n hx hb dX10_fail_4 rfl (lv_at hl 1 rfl) ?_
  have hk3 := hM.1
  have hM := hM.2
  refine x_ci hV (x_runV (As := [.int x1]) (rest := []) C hV mi_X9_hasPart wl_X10_111 hk3 (c_X9_hasPart hM) ⟨by decide, by decide⟩ rfl hl.1 (Nat.le_of_ble_eq_true rfl) dX10_fail_5 ⟨Nat.zero_le _, Nat.zero_le _⟩) (fun r5 S4 H locs hV hM => ?_)
  have hz6 := hM.1
  have hM := hM.2
  refine lv_if_eq (tgt := 31) hx hb dX10_fail_8 (by decide) (fun c7 => ?_) (fun c7 => ?_)
  · have hM := ite_t c7 hM
    refine lv_ldc hx hb hown (hts _ wc_X10_115) dX10_fail_31 ?_
    exact x_iret C hV hM dX10_fail_33
  have hM := ite_f c7 hM
  refine lv_iload_n hx hb dX10_fail_11 rfl (lv_at hl 2 rfl) ?_
  refine lv_sipush (v := (-500)) hx hb dX10_fail_12 (by decide) ?_
  refine lv_sipush (v := 500) hx hb dX10_fail_15 (by decide) ?_
  refine x_ci hV (x_runS (As := [.int x2, .int (-500), .int 500]) (rest := []) C hV ms_X10_within wl_X10_94 (c_X10_within hM) ⟨by decide, by decide⟩ rfl hl.1 (Nat.le_of_ble_eq_true rfl) dX10_fail_18 ⟨Nat.zero_le _, Nat.zero_le _⟩) (fun r9 S8 H locs hV hM => ?_)
  have hz10 := hM.1
  have hM := hM.2
  refine lv_if_eq (tgt := 31) hx hb dX10_fail_21 (by decide) (fun c11 => ?_) (fun c11 => ?_)
  · have hM := ite_t c11 hM
    refine lv_ldc hx hb hown (hts _ wc_X10_115) dX10_fail_31 ?_
    exact x_iret C hV hM dX10_fail_33
  have hM := ite_f c11 hM
  refine lv_iload_n hx hb dX10_fail_24 rfl (lv_at hl 3 rfl) ?_
  refine x_ci hV (x_runS (As := [.int x3]) (rest := []) C hV ms_X10_isDay wl_X10_137 (c_X10_isDay hM) ⟨by decide, by decide⟩ rfl hl.1 (Nat.le_of_ble_eq_true rfl) dX10_fail_25 ⟨Nat.zero_le _, Nat.zero_le _⟩) (fun r13 S12 H locs hV hM => ?_)
  have hz14 := hM.1
  have hM := hM.2
  refine lv_if_ne (tgt := 34) hx hb dX10_fail_28 (by decide) (fun c15 => ?_) (fun c15 => ?_)
  · have hM := ite_f c15 hM
    refine lv_aload_n hx hb dX10_fail_34 rfl (lv_at hl 0 rfl) ?_
    have hk16 := hM.1
    have hM := hM.2
    obtain ⟨p17, hp17, hM⟩ := hM
    refine x_getR C hV wf_X10_10 hk16 hp17 dX10_fail_35 ?_
    have hk18 := hM.1
    have hM := hM.2
    obtain ⟨p19, hp19, hM⟩ := hM
    refine x_getR C hV wf_X10_101 hk18 hp19 dX10_fail_38 ?_
    refine lv_iload_n hx hb dX10_fail_41 rfl (lv_at hl 1 rfl) ?_
    have hk20 := hM.1
    have hM := hM.2
    have hi21 := hM.1
    have hM := hM.2
    obtain ⟨p22, hp22, hM⟩ := hM
    refine x_aald C hV hk20 (by decide) rfl hi21 hp22 dX10_fail_42 ?_
    refine lv_astore (lv' := [(4, .ref p22), (0, .ref a0), (1, .int x1), (2, .int x2), (3, .int x3)]) hx hb dX10_fail_43 hl (by decide) rfl (fun ls hl => ?_)
    refine lv_aload hx hb dX10_fail_45 (lv_at hl 0 rfl) ?_
    refine lv_iload_n hx hb dX10_fail_47 rfl (lv_at hl 3 rfl) ?_
    have hk23 := hM.1
    have hM := hM.2
    obtain ⟨S24, eS24⟩ : ∃ z : PS, z = S12.setI 135 p22 x2 := ⟨_, rfl⟩
    have hM := hM S24 eS24
    refine x_putI C hV wp_X10_140 hk23 ⟨rfl, rfl⟩ eS24 dX10_fail_48 (fun H locs hV => ?_)
    refine lv_aload hx hb dX10_fail_51 (lv_at hl 0 rfl) ?_
    refine lv_iload_n hx hb dX10_fail_53 rfl (lv_at hl 4 rfl) ?_
    have hk25 := kp_I eS24 hk23
    obtain ⟨S26, eS26⟩ : ∃ z : PS, z = S24.setI 136 p22 x3 := ⟨_, rfl⟩
    have hM := hM S26 eS26
    refine x_putI C hV wp_X10_143 hk25 ⟨rfl, rfl⟩ eS26 dX10_fail_54 (fun H locs hV => ?_)
    refine lv_aload hx hb dX10_fail_57 (lv_at hl 0 rfl) ?_
    refine lv_aload_n hx hb dX10_fail_59 rfl (lv_at hl 1 rfl) ?_
    have hk27 := kp_I eS24 hk16
    have hk28 := kp_I eS26 hk27
    obtain ⟨p29, hp29, hM⟩ := hM
    refine x_getR C hV wf_X10_10 hk28 hp29 dX10_fail_60 ?_
    have hk30 := hM.1
    have hM := hM.2
    refine x_getI C hV wf_X10_146 hk30 dX10_fail_63 ?_
    have hk31 := kp_I eS26 hk25
    refine x_ci hV (x_runV (As := [.int (S26.I 640 p29)]) (rest := []) C hV mi_X1_takesOn wl_X10_149 hk31 (c_X1_takesOn hM) ⟨by decide, by decide⟩ rfl hl.1 (Nat.le_of_ble_eq_true rfl) dX10_fail_66 ⟨Nat.zero_le _, Nat.zero_le _⟩) (fun r33 S32 H locs hV hM => ?_)
    exact x_iret C hV hM dX10_fail_69
  have hM := ite_t c15 hM
  refine lv_ldc hx hb hown (hts _ wc_X10_115) dX10_fail_31 ?_
  exact x_iret C hV hM dX10_fail_33

def wq_X10_feed_30 (N : Nat) (K : Int32 → PS → Prop) : Nat → PS → Nat → Int64 → Int32 → Int32 → Prop
  | 0, _, _, _, _, _ => False
  | n + 1, S, a0, j1, x3, x4 => if x3 ≤ x4 then (S.K a0 = 11 ∧ ∀ S9 : PS, S9 = S.setI 708 a0 ((S.I 708 a0) + x3) → K (S9.I 708 a0) S9) else (S.K a0 = 11 ∧ ∃ p12 : Nat, S.R 707 a0 = some p12 ∧ S.K p12 = 21 ∧ vp_in ((S.I 708 a0) + x4) (S.ln p12) ∧ ∀ S15 : PS, S15 = S.setA p12 ((S.I 708 a0) + x4).toNatClampNeg (vp_nar .char (((((((j1).toUInt64 >>> ((8 * x4).toInt64.toUInt64 &&& Int64.toUInt64 63)).toInt64) &&& (255 : Int64)).toInt32).toUInt32 % 65536).toInt32)) → wq_X10_feed_30 N K n S15 a0 j1 x3 (x4 + 1))
def wp_X10_feed (N : Nat) (S : PS) (a0 : Nat) (j1 : Int64) (x3 : Int32) (K : Int32 → PS → Prop) : Prop := wp_X10_within N S x3 1 8 (fun r2 S1 => if r2 = 0 then (K (-1) S1) else (S1.K a0 = 11 ∧ if ((S1.I 708 a0) + x3) ≤ 200 then (wq_X10_feed_30 N K N S1 a0 j1 x3 0) else (K (-2) S1)))
set_option maxHeartbeats 4000000 in
set_option maxRecDepth 100000 in
theorem tq_X10_feed_30 {p : Program} {l : Launch} {e : Env} {s : State} {m : MethodId} {args : Array Value} {below : List Frame} {meth : Method} {c : Code} {D : DX} {cA : Nat → ClassId} {z0 N : Nat} {K : Int32 → PS → Prop} (C : CX p s m args meth c cX10_feed 5 RX10 (some .int) D cA z0) : ∀ (n : Nat) (S : PS) (a0 : Nat) (j1 : Int64) (x3 : Int32) (x4 : Int32) (H : Heap) (locs : List Loc) (ls : Array Slot), wq_X10_feed_30 N K n S a0 j1 x3 x4 → XV D cA z0 s S H locs → lv_has ls 5 [(0, .ref a0), (1, .long j1), (3, .int x3), (4, .int x4)] → W p l e (rmd 1 0 0) s m args below meth c H locs 0 0 (MQ below (va_Qi K (XK D cA z0) (zA z0)) args s 0 0 (zA z0)) (F0 m 30 ls []) := by
  obtain ⟨hx, hb, hml, hown, hts, hK, hz, hlk, hr⟩ := id C
  intro n
  induction n with
  | zero => intro S a0 j1 x3 x4 H locs ls hM; exact absurd hM id
  | succ n ih =>
    intro S a0 j1 x3 x4 H locs ls hM hV hl
    rw [wq_X10_feed_30.eq_2] at hM
    refine lv_iload hx hb dX10_feed_30 (lv_at hl 3 rfl) ?_
    refine lv_iload_n hx hb dX10_feed_32 rfl (lv_at hl 2 rfl) ?_
    refine lv_icmp_ge (tgt := 67) hx hb dX10_feed_33 (by decide) (fun c7 => ?_) (fun c7 => ?_)
    · have hM := ite_t c7 hM
      refine lv_aload_n hx hb dX10_feed_67 rfl (lv_at hl 0 rfl) ?_
      refine lv_dup hx hb dX10_feed_68 rfl ?_
      have hk8 := hM.1
      have hM := hM.2
      refine x_getI C hV wf_X10_27 hk8 dX10_feed_69 ?_
      refine lv_iload_n hx hb dX10_feed_72 rfl (lv_at hl 2 rfl) ?_
      refine lv_iadd hx hb dX10_feed_73 ?_
      obtain ⟨S9, eS9⟩ : ∃ z : PS, z = S.setI 708 a0 ((S.I 708 a0) + x3) := ⟨_, rfl⟩
      have hM := hM S9 eS9
      refine x_putI C hV wp_X10_27 hk8 ⟨rfl, rfl⟩ eS9 dX10_feed_74 (fun H locs hV => ?_)
      refine lv_aload_n hx hb dX10_feed_77 rfl (lv_at hl 0 rfl) ?_
      have hk10 := kp_I eS9 hk8
      refine x_getI C hV wf_X10_27 hk10 dX10_feed_78 ?_
      exact x_iret C hV hM dX10_feed_81
    have hM := ite_f c7 hM
    refine lv_aload_n hx hb dX10_feed_36 rfl (lv_at hl 0 rfl) ?_
    have hk11 := hM.1
    have hM := hM.2
    obtain ⟨p12, hp12, hM⟩ := hM
    refine x_getR C hV wf_X10_23 hk11 hp12 dX10_feed_37 ?_
    refine lv_aload_n hx hb dX10_feed_40 rfl (lv_at hl 0 rfl) ?_
    refine x_getI C hV wf_X10_27 hk11 dX10_feed_41 ?_
    refine lv_iload hx hb dX10_feed_44 (lv_at hl 3 rfl) ?_
    refine lv_iadd hx hb dX10_feed_46 ?_
    refine lv_lload_n hx hb dX10_feed_47 rfl (lv_at hl 1 rfl) ?_
    refine lv_bipush (v := 8) hx hb dX10_feed_48 (by decide) ?_
    refine lv_iload hx hb dX10_feed_50 (lv_at hl 3 rfl) ?_
    refine lv_imul hx hb dX10_feed_52 ?_
    refine lv_lushr hx hb dX10_feed_53 rfl ?_
    refine lv_ldc2 hx hb hown (hts _ wc_X10_191) dX10_feed_54 ?_
    refine lv_land hx hb dX10_feed_57 ?_
    refine lv_l2i hx hb dX10_feed_58 rfl ?_
    refine lv_i2c hx hb dX10_feed_59 rfl ?_
    have hk13 := hM.1
    have hM := hM.2
    have hi14 := hM.1
    have hM := hM.2
    obtain ⟨S15, eS15⟩ : ∃ z : PS, z = S.setA p12 ((S.I 708 a0) + x4).toNatClampNeg (vp_nar .char (((((((j1).toUInt64 >>> ((8 * x4).toInt64.toUInt64 &&& Int64.toUInt64 63)).toInt64) &&& (255 : Int64)).toInt32).toUInt32 % 65536).toInt32)) := ⟨_, rfl⟩
    have hM := hM S15 eS15
    refine x_cast C hV hk13 hi14 eS15 dX10_feed_60 (fun H locs hV => ?_)
    refine lv_iinc (v := (x4 + 1)) (lv' := [(4, .int (x4 + 1)), (0, .ref a0), (1, .long j1), (3, .int x3)]) hx hb dX10_feed_61 hl (k := 3) rfl rfl (by decide) rfl (fun ls hl => ?_)
    refine lv_goto (tgt := 30) hx hb dX10_feed_64 (by decide) ?_
    exact ih _ _ _ _ _ _ _ _ hM hV (lv_sub hl [1, 2, 3, 0] rfl)
set_option maxHeartbeats 4000000 in
set_option maxRecDepth 100000 in
theorem c_X10_feed {l : Launch} {D : DX} {cA : Nat → ClassId} {z0 N : Nat} {S : PS} {a0 : Nat} {j1 : Int64} {x3 : Int32} {K : Int32 → PS → Prop} (hM : wp_X10_feed N S a0 j1 x3 K) : MetI l yX10_feed cX10_feed 5 (some .int) 1 0 0 D cA z0 [.ref a0, .long j1, .int x3] S K := by
  refine x_met RX10 (by decide) rfl ?_
  intro p e s m below meth c C hin hV
  have hl := lv_entry ([.ref a0, .long j1, .int x3]) (n := 5) (Nat.le_of_ble_eq_true rfl)
  rw [lg_entry_eq]
  generalize (lg_sl ([.ref a0, .long j1, .int x3]) ++ List.replicate (5 - (lg_sl ([.ref a0, .long j1, .int x3])).length) Slot.unset).toArray = ls at hl ⊢
  have hl : lv_has ls 5 [(0, .ref a0), (1, .long j1), (3, .int x3)] := hl
  obtain ⟨hx, hb, hml, hown, hts, hK, hz, hlk, hr⟩ := id C
  unfold wp_X10_feed at hM
  refine lv_iload_n hx hb dX10_feed_0 rfl (lv_at hl 2 rfl) ?_
  refine lv_iconst (v := 1) hx hb dX10_feed_1 (by decide) ?_
  refine lv_bipush (v := 8) hx hb dX10_feed_2 (by decide) ?_
  refine x_ci hV (x_runS (As := [.int x3, .int 1, .int 8]) (rest := []) C hV ms_X10_within wl_X10_94 (c_X10_within hM) ⟨by decide, by decide⟩ rfl hl.1 (Nat.le_of_ble_eq_true rfl) dX10_feed_4 ⟨Nat.zero_le _, Nat.zero_le _⟩) (fun r2 S1 H locs hV hM => ?_)
  have hz3 := hM.1
  have hM := hM.2
  refine lv_if_ne (tgt := 12) hx hb dX10_feed_7 (by decide) (fun c4 => ?_) (fun c4 => ?_)
  · have hM := ite_f c4 hM
    refine lv_aload_n hx hb dX10_feed_12 rfl (lv_at hl 0 rfl) ?_
    have hk5 := hM.1
    have hM := hM.2
    refine x_getI C hV wf_X10_27 hk5 dX10_feed_13 ?_
    refine lv_iload_n hx hb dX10_feed_16 rfl (lv_at hl 2 rfl) ?_
    refine lv_iadd hx hb dX10_feed_17 ?_
    refine lv_sipush (v := 200) hx hb dX10_feed_18 (by decide) ?_
    refine lv_icmp_le (tgt := 27) hx hb dX10_feed_21 (by decide) (fun c6 => ?_) (fun c6 => ?_)
    · have hM := ite_t c6 hM
      refine lv_iconst (v := 0) hx hb dX10_feed_27 (by decide) ?_
      refine lv_istore (lv' := [(4, .int 0), (0, .ref a0), (1, .long j1), (3, .int x3)]) hx hb dX10_feed_28 hl (by decide) rfl (fun ls hl => ?_)
      exact tq_X10_feed_30 C N _ _ _ _ _ _ _ _ hM hV (lv_sub hl [1, 2, 3, 0] rfl)
    have hM := ite_f c6 hM
    refine lv_bipush (v := (-2)) hx hb dX10_feed_24 (by decide) ?_
    exact x_iret C hV hM dX10_feed_26
  have hM := ite_t c4 hM
  refine lv_iconst (v := (-1)) hx hb dX10_feed_10 (by decide) ?_
  exact x_iret C hV hM dX10_feed_11

def wp_X10_finds (N : Nat) (S : PS) (a0 : Nat) (x1 : Int32) (x2 : Int32) (K : Int32 → PS → Prop) : Prop := S.K a0 = 11 ∧ ∃ p2 : Nat, S.R 704 a0 = some p2 ∧ S.K p2 = 10 ∧ wp_X9_hasStory N S p2 x1 (fun r5 S4 => if r5 = 0 then (K (-2147483648) S4) else (S4.K a0 = 11 ∧ ∃ p9 : Nat, S4.R 704 a0 = some p9 ∧ S4.K p9 = 10 ∧ wp_X9_hasPart N S4 p9 x2 (fun r12 S11 => if r12 = 0 then (K (-2147483648) S11) else (S11.K a0 = 11 ∧ ∃ p16 : Nat, S11.R 704 a0 = some p16 ∧ S11.K p16 = 10 ∧ ∃ p18 : Nat, S11.R 652 p16 = some p18 ∧ S11.K p18 = 27 ∧ vp_in x1 (S11.ln p18) ∧ ∃ p21 : Nat, S11.Q p18 x1.toNatClampNeg = some p21 ∧ ∃ p22 : Nat, S11.R 704 a0 = some p22 ∧ S11.K p22 = 10 ∧ S11.K p21 = 7 ∧ wp_X6_foundAt N S11 p21 x2 (S11.I 640 p22) (fun r26 S25 => K r26 S25)))))
set_option maxHeartbeats 4000000 in
set_option maxRecDepth 100000 in
theorem c_X10_finds {l : Launch} {D : DX} {cA : Nat → ClassId} {z0 N : Nat} {S : PS} {a0 : Nat} {x1 : Int32} {x2 : Int32} {K : Int32 → PS → Prop} (hM : wp_X10_finds N S a0 x1 x2 K) : MetI l yX10_finds cX10_finds 3 (some .int) 2 0 0 D cA z0 [.ref a0, .int x1, .int x2] S K := by
  refine x_met RX10 (by decide) rfl ?_
  intro p e s m below meth c C hin hV
  have hl := lv_entry ([.ref a0, .int x1, .int x2]) (n := 3) (Nat.le_of_ble_eq_true rfl)
  rw [lg_entry_eq]
  generalize (lg_sl ([.ref a0, .int x1, .int x2]) ++ List.replicate (3 - (lg_sl ([.ref a0, .int x1, .int x2])).length) Slot.unset).toArray = ls at hl ⊢
  have hl : lv_has ls 3 [(0, .ref a0), (1, .int x1), (2, .int x2)] := hl
  obtain ⟨hx, hb, hml, hown, hts, hK, hz, hlk, hr⟩ := id C
  unfold wp_X10_finds at hM
  refine lv_aload_n hx hb dX10_finds_0 rfl (lv_at hl 0 rfl) ?_
  have hk1 := hM.1
  have hM := hM.2
  obtain ⟨p2, hp2, hM⟩ := hM
  refine x_getR C hV wf_X10_10 hk1 hp2 dX10_finds_1 ?_
  refine lv_iload_n hx hb dX10_finds_4 rfl (lv_at hl 1 rfl) ?_
  have hk3 := hM.1
  have hM := hM.2
  refine x_ci hV (x_runV (As := [.int x1]) (rest := []) C hV mi_X9_hasStory wl_X10_214 hk3 (c_X9_hasStory hM) ⟨by decide, by decide⟩ rfl hl.1 (Nat.le_of_ble_eq_true rfl) dX10_finds_5 ⟨Nat.zero_le _, Nat.zero_le _⟩) (fun r5 S4 H locs hV hM => ?_)
  have hz6 := hM.1
  have hM := hM.2
  refine lv_if_eq (tgt := 22) hx hb dX10_finds_8 (by decide) (fun c7 => ?_) (fun c7 => ?_)
  · have hM := ite_t c7 hM
    refine lv_ldc hx hb hown (hts _ wc_X10_115) dX10_finds_22 ?_
    exact x_iret C hV hM dX10_finds_24
  have hM := ite_f c7 hM
  refine lv_aload_n hx hb dX10_finds_11 rfl (lv_at hl 0 rfl) ?_
  have hk8 := hM.1
  have hM := hM.2
  obtain ⟨p9, hp9, hM⟩ := hM
  refine x_getR C hV wf_X10_10 hk8 hp9 dX10_finds_12 ?_
  refine lv_iload_n hx hb dX10_finds_15 rfl (lv_at hl 2 rfl) ?_
  have hk10 := hM.1
  have hM := hM.2
  refine x_ci hV (x_runV (As := [.int x2]) (rest := []) C hV mi_X9_hasPart wl_X10_111 hk10 (c_X9_hasPart hM) ⟨by decide, by decide⟩ rfl hl.1 (Nat.le_of_ble_eq_true rfl) dX10_finds_16 ⟨Nat.zero_le _, Nat.zero_le _⟩) (fun r12 S11 H locs hV hM => ?_)
  have hz13 := hM.1
  have hM := hM.2
  refine lv_if_ne (tgt := 25) hx hb dX10_finds_19 (by decide) (fun c14 => ?_) (fun c14 => ?_)
  · have hM := ite_f c14 hM
    refine lv_aload_n hx hb dX10_finds_25 rfl (lv_at hl 0 rfl) ?_
    have hk15 := hM.1
    have hM := hM.2
    obtain ⟨p16, hp16, hM⟩ := hM
    refine x_getR C hV wf_X10_10 hk15 hp16 dX10_finds_26 ?_
    have hk17 := hM.1
    have hM := hM.2
    obtain ⟨p18, hp18, hM⟩ := hM
    refine x_getR C hV wf_X10_206 hk17 hp18 dX10_finds_29 ?_
    refine lv_iload_n hx hb dX10_finds_32 rfl (lv_at hl 1 rfl) ?_
    have hk19 := hM.1
    have hM := hM.2
    have hi20 := hM.1
    have hM := hM.2
    obtain ⟨p21, hp21, hM⟩ := hM
    refine x_aald C hV hk19 (by decide) rfl hi20 hp21 dX10_finds_33 ?_
    refine lv_iload_n hx hb dX10_finds_34 rfl (lv_at hl 2 rfl) ?_
    refine lv_aload_n hx hb dX10_finds_35 rfl (lv_at hl 0 rfl) ?_
    obtain ⟨p22, hp22, hM⟩ := hM
    refine x_getR C hV wf_X10_10 hk15 hp22 dX10_finds_36 ?_
    have hk23 := hM.1
    have hM := hM.2
    refine x_getI C hV wf_X10_146 hk23 dX10_finds_39 ?_
    have hk24 := hM.1
    have hM := hM.2
    refine x_ci hV (x_runV (As := [.int x2, .int (S11.I 640 p22)]) (rest := []) C hV mi_X6_foundAt wl_X10_220 hk24 (c_X6_foundAt hM) ⟨by decide, by decide⟩ rfl hl.1 (Nat.le_of_ble_eq_true rfl) dX10_finds_42 ⟨Nat.zero_le _, Nat.zero_le _⟩) (fun r26 S25 H locs hV hM => ?_)
    exact x_iret C hV hM dX10_finds_45
  have hM := ite_t c14 hM
  refine lv_ldc hx hb hown (hts _ wc_X10_115) dX10_finds_22 ?_
  exact x_iret C hV hM dX10_finds_24

def wq_X10_fitsOfTwo_47 (N : Nat) (K : Int32 → PS → Prop) (S : PS) (x2 : Int32) (x3 : Int32) (x4 : Int32) (x5 : Int32) : Prop := if x2 = 0 then (K x5 S) else (wp_X10_within N S x2 x3 x4 (fun r11 S10 => if r11 = 0 then (K x5 S10) else (K (x5 + (-1)) S10)))
def wp_X10_fitsOfTwo (N : Nat) (S : PS) (x0 : Int32) (x1 : Int32) (x2 : Int32) (K : Int32 → PS → Prop) : Prop := ∀ v1 : Int32, v1 = (if (-x0) < (x2 - x1) then (x2 - x1) else (-x0)) → ∀ v2 : Int32, v2 = (if (x2 + x1) < x0 then (x2 + x1) else x0) → if v1 ≤ v2 then (∀ v4 : Int32, v4 = ((v2 - v1) + 1) → wp_X10_within N S 0 v1 v2 (fun r6 S5 => if r6 = 0 then (wq_X10_fitsOfTwo_47 N K S5 x2 v1 v2 v4) else (wq_X10_fitsOfTwo_47 N K S5 x2 v1 v2 (v4 + (-1))))) else (K 0 S)
set_option maxHeartbeats 4000000 in
set_option maxRecDepth 100000 in
theorem tq_X10_fitsOfTwo_47 {p : Program} {l : Launch} {e : Env} {s : State} {m : MethodId} {args : Array Value} {below : List Frame} {meth : Method} {c : Code} {D : DX} {cA : Nat → ClassId} {z0 N : Nat} {K : Int32 → PS → Prop} (C : CX p s m args meth c cX10_fitsOfTwo 6 RX10 (some .int) D cA z0) : ∀ (S : PS) (x2 : Int32) (x3 : Int32) (x4 : Int32) (x5 : Int32) (H : Heap) (locs : List Loc) (ls : Array Slot), wq_X10_fitsOfTwo_47 N K S x2 x3 x4 x5 → XV D cA z0 s S H locs → lv_has ls 6 [(2, .int x2), (3, .int x3), (4, .int x4), (5, .int x5)] → W p l e (rmd 1 0 0) s m args below meth c H locs 0 0 (MQ below (va_Qi K (XK D cA z0) (zA z0)) args s 0 0 (zA z0)) (F0 m 47 ls []) := by
  obtain ⟨hx, hb, hml, hown, hts, hK, hz, hlk, hr⟩ := id C
  intro S x2 x3 x4 x5 H locs ls hM hV hl
  unfold wq_X10_fitsOfTwo_47 at hM
  refine lv_iload_n hx hb dX10_fitsOfTwo_47 rfl (lv_at hl 0 rfl) ?_
  refine lv_if_eq (tgt := 64) hx hb dX10_fitsOfTwo_48 (by decide) (fun c9 => ?_) (fun c9 => ?_)
  · have hM := ite_t c9 hM
    refine lv_iload hx hb dX10_fitsOfTwo_64 (lv_at hl 3 rfl) ?_
    exact x_iret C hV hM dX10_fitsOfTwo_66
  have hM := ite_f c9 hM
  refine lv_iload_n hx hb dX10_fitsOfTwo_51 rfl (lv_at hl 0 rfl) ?_
  refine lv_iload_n hx hb dX10_fitsOfTwo_52 rfl (lv_at hl 1 rfl) ?_
  refine lv_iload hx hb dX10_fitsOfTwo_53 (lv_at hl 2 rfl) ?_
  refine x_ci hV (x_runS (As := [.int x2, .int x3, .int x4]) (rest := []) C hV ms_X10_within wl_X10_94 (c_X10_within hM) ⟨by decide, by decide⟩ rfl hl.1 (Nat.le_of_ble_eq_true rfl) dX10_fitsOfTwo_55 ⟨Nat.zero_le _, Nat.zero_le _⟩) (fun r11 S10 H locs hV hM => ?_)
  have hz12 := hM.1
  have hM := hM.2
  refine lv_if_eq (tgt := 64) hx hb dX10_fitsOfTwo_58 (by decide) (fun c13 => ?_) (fun c13 => ?_)
  · have hM := ite_t c13 hM
    refine lv_iload hx hb dX10_fitsOfTwo_64 (lv_at hl 3 rfl) ?_
    exact x_iret C hV hM dX10_fitsOfTwo_66
  have hM := ite_f c13 hM
  refine lv_iinc (v := (x5 + (-1))) (lv' := [(5, .int (x5 + (-1))), (2, .int x2), (3, .int x3), (4, .int x4)]) hx hb dX10_fitsOfTwo_61 hl (k := 3) rfl rfl (by decide) rfl (fun ls hl => ?_)
  refine lv_iload hx hb dX10_fitsOfTwo_64 (lv_at hl 0 rfl) ?_
  exact x_iret C hV hM dX10_fitsOfTwo_66
set_option maxHeartbeats 4000000 in
set_option maxRecDepth 100000 in
theorem c_X10_fitsOfTwo {l : Launch} {D : DX} {cA : Nat → ClassId} {z0 N : Nat} {S : PS} {x0 : Int32} {x1 : Int32} {x2 : Int32} {K : Int32 → PS → Prop} (hM : wp_X10_fitsOfTwo N S x0 x1 x2 K) : MetI l yX10_fitsOfTwo cX10_fitsOfTwo 6 (some .int) 1 0 0 D cA z0 [.int x0, .int x1, .int x2] S K := by
  refine x_met RX10 (by decide) rfl ?_
  intro p e s m below meth c C hin hV
  have hl := lv_entry ([.int x0, .int x1, .int x2]) (n := 6) (Nat.le_of_ble_eq_true rfl)
  rw [lg_entry_eq]
  generalize (lg_sl ([.int x0, .int x1, .int x2]) ++ List.replicate (6 - (lg_sl ([.int x0, .int x1, .int x2])).length) Slot.unset).toArray = ls at hl ⊢
  have hl : lv_has ls 6 [(0, .int x0), (1, .int x1), (2, .int x2)] := hl
  obtain ⟨hx, hb, hml, hown, hts, hK, hz, hlk, hr⟩ := id C
  unfold wp_X10_fitsOfTwo at hM
  refine lv_iload_n hx hb dX10_fitsOfTwo_0 rfl (lv_at hl 0 rfl) ?_
  refine lv_ineg hx hb dX10_fitsOfTwo_1 ?_
  refine lv_iload_n hx hb dX10_fitsOfTwo_2 rfl (lv_at hl 2 rfl) ?_
  refine lv_iload_n hx hb dX10_fitsOfTwo_3 rfl (lv_at hl 1 rfl) ?_
  refine lv_isub hx hb dX10_fitsOfTwo_4 ?_
  refine x_mmax C hl.1 wl_X10_407 (by decide) (by decide) (Nat.zero_le _) (Nat.zero_le _) (Nat.le_of_ble_eq_true rfl) dX10_fitsOfTwo_5 ?_
  refine lv_topi (fun v1 ev1 => ?_)
  have hM := hM v1 ev1
  refine lv_istore_n (lv' := [(3, .int v1), (0, .int x0), (1, .int x1), (2, .int x2)]) hx hb dX10_fitsOfTwo_8 rfl hl (by decide) rfl (fun ls hl => ?_)
  refine lv_iload_n hx hb dX10_fitsOfTwo_9 rfl (lv_at hl 1 rfl) ?_
  refine lv_iload_n hx hb dX10_fitsOfTwo_10 rfl (lv_at hl 3 rfl) ?_
  refine lv_iload_n hx hb dX10_fitsOfTwo_11 rfl (lv_at hl 2 rfl) ?_
  refine lv_iadd hx hb dX10_fitsOfTwo_12 ?_
  refine x_mmin C hl.1 wl_X10_410 (by decide) (by decide) (Nat.zero_le _) (Nat.zero_le _) (Nat.le_of_ble_eq_true rfl) dX10_fitsOfTwo_13 ?_
  refine lv_topi (fun v2 ev2 => ?_)
  have hM := hM v2 ev2
  refine lv_istore (lv' := [(4, .int v2), (3, .int v1), (0, .int x0), (1, .int x1), (2, .int x2)]) hx hb dX10_fitsOfTwo_16 hl (by decide) rfl (fun ls hl => ?_)
  refine lv_iload_n hx hb dX10_fitsOfTwo_18 rfl (lv_at hl 1 rfl) ?_
  refine lv_iload hx hb dX10_fitsOfTwo_19 (lv_at hl 0 rfl) ?_
  refine lv_icmp_le (tgt := 26) hx hb dX10_fitsOfTwo_21 (by decide) (fun c3 => ?_) (fun c3 => ?_)
  · have hM := ite_t c3 hM
    refine lv_iload hx hb dX10_fitsOfTwo_26 (lv_at hl 0 rfl) ?_
    refine lv_iload_n hx hb dX10_fitsOfTwo_28 rfl (lv_at hl 1 rfl) ?_
    refine lv_isub hx hb dX10_fitsOfTwo_29 ?_
    refine lv_iconst (v := 1) hx hb dX10_fitsOfTwo_30 (by decide) ?_
    refine lv_iadd hx hb dX10_fitsOfTwo_31 ?_
    refine lv_topi (fun v4 ev4 => ?_)
    have hM := hM v4 ev4
    refine lv_istore (lv' := [(5, .int v4), (4, .int v2), (3, .int v1), (0, .int x0), (1, .int x1), (2, .int x2)]) hx hb dX10_fitsOfTwo_32 hl (by decide) rfl (fun ls hl => ?_)
    refine lv_iconst (v := 0) hx hb dX10_fitsOfTwo_34 (by decide) ?_
    refine lv_iload_n hx hb dX10_fitsOfTwo_35 rfl (lv_at hl 2 rfl) ?_
    refine lv_iload hx hb dX10_fitsOfTwo_36 (lv_at hl 1 rfl) ?_
    refine x_ci hV (x_runS (As := [.int 0, .int v1, .int v2]) (rest := []) C hV ms_X10_within wl_X10_94 (c_X10_within hM) ⟨by decide, by decide⟩ rfl hl.1 (Nat.le_of_ble_eq_true rfl) dX10_fitsOfTwo_38 ⟨Nat.zero_le _, Nat.zero_le _⟩) (fun r6 S5 H locs hV hM => ?_)
    have hz7 := hM.1
    have hM := hM.2
    refine lv_if_eq (tgt := 47) hx hb dX10_fitsOfTwo_41 (by decide) (fun c8 => ?_) (fun c8 => ?_)
    · have hM := ite_t c8 hM
      exact tq_X10_fitsOfTwo_47 C _ _ _ _ _ _ _ _ hM hV (lv_sub hl [5, 2, 1, 0] rfl)
    have hM := ite_f c8 hM
    refine lv_iinc (v := (v4 + (-1))) (lv' := [(5, .int (v4 + (-1))), (4, .int v2), (3, .int v1), (0, .int x0), (1, .int x1), (2, .int x2)]) hx hb dX10_fitsOfTwo_44 hl (k := 0) rfl rfl (by decide) rfl (fun ls hl => ?_)
    exact tq_X10_fitsOfTwo_47 C _ _ _ _ _ _ _ _ hM hV (lv_sub hl [5, 2, 1, 0] rfl)
  have hM := ite_f c3 hM
  refine lv_iconst (v := 0) hx hb dX10_fitsOfTwo_24 (by decide) ?_
  exact x_iret C hV hM dX10_fitsOfTwo_25

def wq_X10_fits_42 (N : Nat) (K : Int32 → PS → Prop) (k_27 : PS → Nat → Int32 → Int32 → Int32 → Int32 → Prop) : Nat → PS → Nat → Int32 → Int32 → Int32 → Int32 → Int32 → Prop
  | 0, _, _, _, _, _, _, _ => False
  | n + 1, S, a0, x1, x2, x3, x4, x5 => if x4 ≤ x5 then (k_27 S a0 x1 x2 x3 (x4 + 1)) else (S.K a0 = 11 ∧ ∃ p15 : Nat, S.R 704 a0 = some p15 ∧ S.K p15 = 10 ∧ ∃ p17 : Nat, S.R 648 p15 = some p17 ∧ S.K p17 = 23 ∧ vp_in x5 (S.ln p17) ∧ ∃ p20 : Nat, S.Q p17 x5.toNatClampNeg = some p20 ∧ S.K p20 = 2 ∧ wp_X1_isIn N S p20 x1 (fun r23 S22 => if r23 = 0 then (wq_X10_fits_42 N K k_27 n S22 a0 x1 x2 x3 x4 (x5 + 1)) else (S22.K a0 = 11 ∧ ∃ p27 : Nat, S22.R 704 a0 = some p27 ∧ S22.K p27 = 10 ∧ ∃ p29 : Nat, S22.R 648 p27 = some p29 ∧ S22.K p29 = 23 ∧ vp_in x4 (S22.ln p29) ∧ ∃ p32 : Nat, S22.Q p29 x4.toNatClampNeg = some p32 ∧ S22.K p32 = 2 ∧ wp_X1_isIn N S22 p32 x1 (fun r35 S34 => if r35 = 0 then (wq_X10_fits_42 N K k_27 n S34 a0 x1 x2 x3 x4 (x5 + 1)) else (S34.K a0 = 11 ∧ ∃ p39 : Nat, S34.R 704 a0 = some p39 ∧ S34.K p39 = 10 ∧ ∃ p41 : Nat, S34.R 648 p39 = some p41 ∧ S34.K p41 = 23 ∧ vp_in x5 (S34.ln p41) ∧ ∃ p44 : Nat, S34.Q p41 x5.toNatClampNeg = some p44 ∧ S34.K p44 = 2 ∧ ∃ p46 : Nat, S34.R 704 a0 = some p46 ∧ S34.K p46 = 10 ∧ ∃ p48 : Nat, S34.R 648 p46 = some p48 ∧ S34.K p48 = 23 ∧ vp_in x4 (S34.ln p48) ∧ ∃ p51 : Nat, S34.Q p48 x4.toNatClampNeg = some p51 ∧ S34.K p51 = 2 ∧ wp_X10_fitsOfTwo N S34 (S34.I 131 p44) (S34.I 131 p51) x2 (fun r54 S53 => ∀ v55 : Int32, v55 = (x3 + r54) → wq_X10_fits_42 N K k_27 n S53 a0 x1 x2 v55 x4 (x5 + 1)))))))
def wq_X10_fits_27 (N : Nat) (K : Int32 → PS → Prop) : Nat → PS → Nat → Int32 → Int32 → Int32 → Int32 → Prop
  | 0, _, _, _, _, _, _ => False
  | n + 1, S, a0, x1, x2, x3, x4 => S.K a0 = 11 ∧ ∃ p10 : Nat, S.R 704 a0 = some p10 ∧ S.K p10 = 10 ∧ if (S.I 644 p10) ≤ x4 then (K x3 S) else (wq_X10_fits_42 N K (fun S a0 x1 x2 x3 x4 => wq_X10_fits_27 N K n S a0 x1 x2 x3 x4) N S a0 x1 x2 x3 x4 0)
def wp_X10_fits (N : Nat) (S : PS) (a0 : Nat) (x1 : Int32) (x2 : Int32) (K : Int32 → PS → Prop) : Prop := wp_X10_isWay N S x1 (fun r2 S1 => if r2 = 0 then (K (-1) S1) else (wp_X10_within N S1 x2 (-9999) 9999 (fun r6 S5 => if r6 = 0 then (K (-1) S5) else (wq_X10_fits_27 N K N S5 a0 x1 x2 0 0))))
set_option maxHeartbeats 4000000 in
set_option maxRecDepth 100000 in
theorem tq_X10_fits_42 {p : Program} {l : Launch} {e : Env} {s : State} {m : MethodId} {args : Array Value} {below : List Frame} {meth : Method} {c : Code} {D : DX} {cA : Nat → ClassId} {z0 N : Nat} {K : Int32 → PS → Prop} {k_27 : PS → Nat → Int32 → Int32 → Int32 → Int32 → Prop} (C : CX p s m args meth c cX10_fits 6 RX10 (some .int) D cA z0) (H_27 : ∀ (S : PS) (a0 : Nat) (x1 : Int32) (x2 : Int32) (x3 : Int32) (x4 : Int32) (H : Heap) (locs : List Loc) (ls : Array Slot), k_27 S a0 x1 x2 x3 x4 → XV D cA z0 s S H locs → lv_has ls 6 [(0, .ref a0), (1, .int x1), (2, .int x2), (3, .int x3), (4, .int x4)] → W p l e (rmd 2 0 0) s m args below meth c H locs 0 0 (MQ below (va_Qi K (XK D cA z0) (zA z0)) args s 0 0 (zA z0)) (F0 m 27 ls [])) : ∀ (n : Nat) (S : PS) (a0 : Nat) (x1 : Int32) (x2 : Int32) (x3 : Int32) (x4 : Int32) (x5 : Int32) (H : Heap) (locs : List Loc) (ls : Array Slot), wq_X10_fits_42 N K k_27 n S a0 x1 x2 x3 x4 x5 → XV D cA z0 s S H locs → lv_has ls 6 [(0, .ref a0), (1, .int x1), (2, .int x2), (3, .int x3), (4, .int x4), (5, .int x5)] → W p l e (rmd 2 0 0) s m args below meth c H locs 0 0 (MQ below (va_Qi K (XK D cA z0) (zA z0)) args s 0 0 (zA z0)) (F0 m 42 ls []) := by
  obtain ⟨hx, hb, hml, hown, hts, hK, hz, hlk, hr⟩ := id C
  intro n
  induction n with
  | zero => intro S a0 x1 x2 x3 x4 x5 H locs ls hM; exact absurd hM id
  | succ n ih =>
    intro S a0 x1 x2 x3 x4 x5 H locs ls hM hV hl
    rw [wq_X10_fits_42.eq_2] at hM
    refine lv_iload hx hb dX10_fits_42 (lv_at hl 5 rfl) ?_
    refine lv_iload hx hb dX10_fits_44 (lv_at hl 4 rfl) ?_
    refine lv_icmp_ge (tgt := 122) hx hb dX10_fits_46 (by decide) (fun c13 => ?_) (fun c13 => ?_)
    · have hM := ite_t c13 hM
      refine lv_iinc (v := (x4 + 1)) (lv' := [(4, .int (x4 + 1)), (0, .ref a0), (1, .int x1), (2, .int x2), (3, .int x3), (5, .int x5)]) hx hb dX10_fits_122 hl (k := 4) rfl rfl (by decide) rfl (fun ls hl => ?_)
      refine lv_goto (tgt := 27) hx hb dX10_fits_125 (by decide) ?_
      exact H_27 _ _ _ _ _ _ _ _ _ hM hV (lv_sub hl [1, 2, 3, 4, 0] rfl)
    have hM := ite_f c13 hM
    refine lv_aload_n hx hb dX10_fits_49 rfl (lv_at hl 0 rfl) ?_
    have hk14 := hM.1
    have hM := hM.2
    obtain ⟨p15, hp15, hM⟩ := hM
    refine x_getR C hV wf_X10_10 hk14 hp15 dX10_fits_50 ?_
    have hk16 := hM.1
    have hM := hM.2
    obtain ⟨p17, hp17, hM⟩ := hM
    refine x_getR C hV wf_X10_101 hk16 hp17 dX10_fits_53 ?_
    refine lv_iload hx hb dX10_fits_56 (lv_at hl 5 rfl) ?_
    have hk18 := hM.1
    have hM := hM.2
    have hi19 := hM.1
    have hM := hM.2
    obtain ⟨p20, hp20, hM⟩ := hM
    refine x_aald C hV hk18 (by decide) rfl hi19 hp20 dX10_fits_58 ?_
    refine lv_iload_n hx hb dX10_fits_59 rfl (lv_at hl 1 rfl) ?_
    have hk21 := hM.1
    have hM := hM.2
    refine x_ci hV (x_runV (As := [.int x1]) (rest := []) C hV mi_X1_isIn wl_X10_165 hk21 (c_X1_isIn hM) ⟨by decide, by decide⟩ rfl hl.1 (Nat.le_of_ble_eq_true rfl) dX10_fits_60 ⟨Nat.zero_le _, Nat.zero_le _⟩) (fun r23 S22 H locs hV hM => ?_)
    have hz24 := hM.1
    have hM := hM.2
    refine lv_if_eq (tgt := 116) hx hb dX10_fits_63 (by decide) (fun c25 => ?_) (fun c25 => ?_)
    · have hM := ite_t c25 hM
      refine lv_iinc (v := (x5 + 1)) (lv' := [(5, .int (x5 + 1)), (0, .ref a0), (1, .int x1), (2, .int x2), (3, .int x3), (4, .int x4)]) hx hb dX10_fits_116 hl (k := 5) rfl rfl (by decide) rfl (fun ls hl => ?_)
      refine lv_goto (tgt := 42) hx hb dX10_fits_119 (by decide) ?_
      exact ih _ _ _ _ _ _ _ _ _ _ hM hV (lv_sub hl [1, 2, 3, 4, 5, 0] rfl)
    have hM := ite_f c25 hM
    refine lv_aload_n hx hb dX10_fits_66 rfl (lv_at hl 0 rfl) ?_
    have hk26 := hM.1
    have hM := hM.2
    obtain ⟨p27, hp27, hM⟩ := hM
    refine x_getR C hV wf_X10_10 hk26 hp27 dX10_fits_67 ?_
    have hk28 := hM.1
    have hM := hM.2
    obtain ⟨p29, hp29, hM⟩ := hM
    refine x_getR C hV wf_X10_101 hk28 hp29 dX10_fits_70 ?_
    refine lv_iload hx hb dX10_fits_73 (lv_at hl 4 rfl) ?_
    have hk30 := hM.1
    have hM := hM.2
    have hi31 := hM.1
    have hM := hM.2
    obtain ⟨p32, hp32, hM⟩ := hM
    refine x_aald C hV hk30 (by decide) rfl hi31 hp32 dX10_fits_75 ?_
    refine lv_iload_n hx hb dX10_fits_76 rfl (lv_at hl 1 rfl) ?_
    have hk33 := hM.1
    have hM := hM.2
    refine x_ci hV (x_runV (As := [.int x1]) (rest := []) C hV mi_X1_isIn wl_X10_165 hk33 (c_X1_isIn hM) ⟨by decide, by decide⟩ rfl hl.1 (Nat.le_of_ble_eq_true rfl) dX10_fits_77 ⟨Nat.zero_le _, Nat.zero_le _⟩) (fun r35 S34 H locs hV hM => ?_)
    have hz36 := hM.1
    have hM := hM.2
    refine lv_if_eq (tgt := 116) hx hb dX10_fits_80 (by decide) (fun c37 => ?_) (fun c37 => ?_)
    · have hM := ite_t c37 hM
      refine lv_iinc (v := (x5 + 1)) (lv' := [(5, .int (x5 + 1)), (0, .ref a0), (1, .int x1), (2, .int x2), (3, .int x3), (4, .int x4)]) hx hb dX10_fits_116 hl (k := 5) rfl rfl (by decide) rfl (fun ls hl => ?_)
      refine lv_goto (tgt := 42) hx hb dX10_fits_119 (by decide) ?_
      exact ih _ _ _ _ _ _ _ _ _ _ hM hV (lv_sub hl [1, 2, 3, 4, 5, 0] rfl)
    have hM := ite_f c37 hM
    refine lv_iload_n hx hb dX10_fits_83 rfl (lv_at hl 3 rfl) ?_
    refine lv_aload_n hx hb dX10_fits_84 rfl (lv_at hl 0 rfl) ?_
    have hk38 := hM.1
    have hM := hM.2
    obtain ⟨p39, hp39, hM⟩ := hM
    refine x_getR C hV wf_X10_10 hk38 hp39 dX10_fits_85 ?_
    have hk40 := hM.1
    have hM := hM.2
    obtain ⟨p41, hp41, hM⟩ := hM
    refine x_getR C hV wf_X10_101 hk40 hp41 dX10_fits_88 ?_
    refine lv_iload hx hb dX10_fits_91 (lv_at hl 5 rfl) ?_
    have hk42 := hM.1
    have hM := hM.2
    have hi43 := hM.1
    have hM := hM.2
    obtain ⟨p44, hp44, hM⟩ := hM
    refine x_aald C hV hk42 (by decide) rfl hi43 hp44 dX10_fits_93 ?_
    have hk45 := hM.1
    have hM := hM.2
    refine x_getI C hV wf_X10_125 hk45 dX10_fits_94 ?_
    refine lv_aload_n hx hb dX10_fits_97 rfl (lv_at hl 0 rfl) ?_
    obtain ⟨p46, hp46, hM⟩ := hM
    refine x_getR C hV wf_X10_10 hk38 hp46 dX10_fits_98 ?_
    have hk47 := hM.1
    have hM := hM.2
    obtain ⟨p48, hp48, hM⟩ := hM
    refine x_getR C hV wf_X10_101 hk47 hp48 dX10_fits_101 ?_
    refine lv_iload hx hb dX10_fits_104 (lv_at hl 4 rfl) ?_
    have hk49 := hM.1
    have hM := hM.2
    have hi50 := hM.1
    have hM := hM.2
    obtain ⟨p51, hp51, hM⟩ := hM
    refine x_aald C hV hk49 (by decide) rfl hi50 hp51 dX10_fits_106 ?_
    have hk52 := hM.1
    have hM := hM.2
    refine x_getI C hV wf_X10_125 hk52 dX10_fits_107 ?_
    refine lv_iload_n hx hb dX10_fits_110 rfl (lv_at hl 2 rfl) ?_
    refine x_ci hV (x_runS (As := [.int (S34.I 131 p44), .int (S34.I 131 p51), .int x2]) (rest := [.int x3]) C hV ms_X10_fitsOfTwo wl_X10_275 (c_X10_fitsOfTwo hM) ⟨by decide, by decide⟩ rfl hl.1 (Nat.le_of_ble_eq_true rfl) dX10_fits_111 ⟨Nat.zero_le _, Nat.zero_le _⟩) (fun r54 S53 H locs hV hM => ?_)
    refine lv_iadd hx hb dX10_fits_114 ?_
    refine lv_topi (fun v55 ev55 => ?_)
    have hM := hM v55 ev55
    refine lv_istore_n (lv' := [(3, .int v55), (0, .ref a0), (1, .int x1), (2, .int x2), (4, .int x4), (5, .int x5)]) hx hb dX10_fits_115 rfl hl (by decide) rfl (fun ls hl => ?_)
    refine lv_iinc (v := (x5 + 1)) (lv' := [(5, .int (x5 + 1)), (3, .int v55), (0, .ref a0), (1, .int x1), (2, .int x2), (4, .int x4)]) hx hb dX10_fits_116 hl (k := 5) rfl rfl (by decide) rfl (fun ls hl => ?_)
    refine lv_goto (tgt := 42) hx hb dX10_fits_119 (by decide) ?_
    exact ih _ _ _ _ _ _ _ _ _ _ hM hV (lv_sub hl [2, 3, 4, 1, 5, 0] rfl)
set_option maxHeartbeats 4000000 in
set_option maxRecDepth 100000 in
theorem tq_X10_fits_27 {p : Program} {l : Launch} {e : Env} {s : State} {m : MethodId} {args : Array Value} {below : List Frame} {meth : Method} {c : Code} {D : DX} {cA : Nat → ClassId} {z0 N : Nat} {K : Int32 → PS → Prop} (C : CX p s m args meth c cX10_fits 6 RX10 (some .int) D cA z0) : ∀ (n : Nat) (S : PS) (a0 : Nat) (x1 : Int32) (x2 : Int32) (x3 : Int32) (x4 : Int32) (H : Heap) (locs : List Loc) (ls : Array Slot), wq_X10_fits_27 N K n S a0 x1 x2 x3 x4 → XV D cA z0 s S H locs → lv_has ls 6 [(0, .ref a0), (1, .int x1), (2, .int x2), (3, .int x3), (4, .int x4)] → W p l e (rmd 2 0 0) s m args below meth c H locs 0 0 (MQ below (va_Qi K (XK D cA z0) (zA z0)) args s 0 0 (zA z0)) (F0 m 27 ls []) := by
  obtain ⟨hx, hb, hml, hown, hts, hK, hz, hlk, hr⟩ := id C
  intro n
  induction n with
  | zero => intro S a0 x1 x2 x3 x4 H locs ls hM; exact absurd hM id
  | succ n ih =>
    intro S a0 x1 x2 x3 x4 H locs ls hM hV hl
    rw [wq_X10_fits_27.eq_2] at hM
    refine lv_iload hx hb dX10_fits_27 (lv_at hl 4 rfl) ?_
    refine lv_aload_n hx hb dX10_fits_29 rfl (lv_at hl 0 rfl) ?_
    have hk9 := hM.1
    have hM := hM.2
    obtain ⟨p10, hp10, hM⟩ := hM
    refine x_getR C hV wf_X10_10 hk9 hp10 dX10_fits_30 ?_
    have hk11 := hM.1
    have hM := hM.2
    refine x_getI C hV wf_X10_98 hk11 dX10_fits_33 ?_
    refine lv_icmp_ge (tgt := 128) hx hb dX10_fits_36 (by decide) (fun c12 => ?_) (fun c12 => ?_)
    · have hM := ite_t c12 hM
      refine lv_iload_n hx hb dX10_fits_128 rfl (lv_at hl 3 rfl) ?_
      exact x_iret C hV hM dX10_fits_129
    have hM := ite_f c12 hM
    refine lv_iconst (v := 0) hx hb dX10_fits_39 (by decide) ?_
    refine lv_istore (lv' := [(5, .int 0), (0, .ref a0), (1, .int x1), (2, .int x2), (3, .int x3), (4, .int x4)]) hx hb dX10_fits_40 hl (by decide) rfl (fun ls hl => ?_)
    exact tq_X10_fits_42 C ih N _ _ _ _ _ _ _ _ _ _ hM hV (lv_sub hl [1, 2, 3, 4, 5, 0] rfl)
set_option maxHeartbeats 4000000 in
set_option maxRecDepth 100000 in
theorem c_X10_fits {l : Launch} {D : DX} {cA : Nat → ClassId} {z0 N : Nat} {S : PS} {a0 : Nat} {x1 : Int32} {x2 : Int32} {K : Int32 → PS → Prop} (hM : wp_X10_fits N S a0 x1 x2 K) : MetI l yX10_fits cX10_fits 6 (some .int) 2 0 0 D cA z0 [.ref a0, .int x1, .int x2] S K := by
  refine x_met RX10 (by decide) rfl ?_
  intro p e s m below meth c C hin hV
  have hl := lv_entry ([.ref a0, .int x1, .int x2]) (n := 6) (Nat.le_of_ble_eq_true rfl)
  rw [lg_entry_eq]
  generalize (lg_sl ([.ref a0, .int x1, .int x2]) ++ List.replicate (6 - (lg_sl ([.ref a0, .int x1, .int x2])).length) Slot.unset).toArray = ls at hl ⊢
  have hl : lv_has ls 6 [(0, .ref a0), (1, .int x1), (2, .int x2)] := hl
  obtain ⟨hx, hb, hml, hown, hts, hK, hz, hlk, hr⟩ := id C
  unfold wp_X10_fits at hM
  refine lv_iload_n hx hb dX10_fits_0 rfl (lv_at hl 1 rfl) ?_
  refine x_ci hV (x_runS (As := [.int x1]) (rest := []) C hV ms_X10_isWay wl_X10_159 (c_X10_isWay hM) ⟨by decide, by decide⟩ rfl hl.1 (Nat.le_of_ble_eq_true rfl) dX10_fits_1 ⟨Nat.zero_le _, Nat.zero_le _⟩) (fun r2 S1 H locs hV hM => ?_)
  have hz3 := hM.1
  have hM := hM.2
  refine lv_if_eq (tgt := 20) hx hb dX10_fits_4 (by decide) (fun c4 => ?_) (fun c4 => ?_)
  · have hM := ite_t c4 hM
    refine lv_iconst (v := (-1)) hx hb dX10_fits_20 (by decide) ?_
    exact x_iret C hV hM dX10_fits_21
  have hM := ite_f c4 hM
  refine lv_iload_n hx hb dX10_fits_7 rfl (lv_at hl 2 rfl) ?_
  refine lv_sipush (v := (-9999)) hx hb dX10_fits_8 (by decide) ?_
  refine lv_sipush (v := 9999) hx hb dX10_fits_11 (by decide) ?_
  refine x_ci hV (x_runS (As := [.int x2, .int (-9999), .int 9999]) (rest := []) C hV ms_X10_within wl_X10_94 (c_X10_within hM) ⟨by decide, by decide⟩ rfl hl.1 (Nat.le_of_ble_eq_true rfl) dX10_fits_14 ⟨Nat.zero_le _, Nat.zero_le _⟩) (fun r6 S5 H locs hV hM => ?_)
  have hz7 := hM.1
  have hM := hM.2
  refine lv_if_ne (tgt := 22) hx hb dX10_fits_17 (by decide) (fun c8 => ?_) (fun c8 => ?_)
  · have hM := ite_f c8 hM
    refine lv_iconst (v := 0) hx hb dX10_fits_22 (by decide) ?_
    refine lv_istore_n (lv' := [(3, .int 0), (0, .ref a0), (1, .int x1), (2, .int x2)]) hx hb dX10_fits_23 rfl hl (by decide) rfl (fun ls hl => ?_)
    refine lv_iconst (v := 0) hx hb dX10_fits_24 (by decide) ?_
    refine lv_istore (lv' := [(4, .int 0), (3, .int 0), (0, .ref a0), (1, .int x1), (2, .int x2)]) hx hb dX10_fits_25 hl (by decide) rfl (fun ls hl => ?_)
    exact tq_X10_fits_27 C N _ _ _ _ _ _ _ _ _ hM hV (lv_sub hl [2, 3, 4, 1, 0] rfl)
  have hM := ite_t c8 hM
  refine lv_iconst (v := (-1)) hx hb dX10_fits_20 (by decide) ?_
  exact x_iret C hV hM dX10_fits_21

def wq_X10_fraction_29 (N : Nat) (K : Int64 → PS → Prop) (S : PS) (j5 : Int64) (u0 : Int64) : Prop := (¬ j5 = 0) ∧ K (u0 / j5) S
def wp_X10_fraction (N : Nat) (S : PS) (j0 : Int64) (j2 : Int64) (x4 : Int32) (K : Int64 → PS → Prop) : Prop := wp_X10_commonDivisor N S (if 0 < j0 then j0 else -j0) j2 (fun r2 S1 => if 0 < (lg_cmp r2 (0 : Int64)) then (if x4 = 0 then (wq_X10_fraction_29 N K S1 r2 j0) else (wq_X10_fraction_29 N K S1 r2 j2)) else (K (0 : Int64) S1))
set_option maxHeartbeats 4000000 in
set_option maxRecDepth 100000 in
theorem tq_X10_fraction_29 {p : Program} {l : Launch} {e : Env} {s : State} {m : MethodId} {args : Array Value} {below : List Frame} {meth : Method} {c : Code} {D : DX} {cA : Nat → ClassId} {z0 N : Nat} {K : Int64 → PS → Prop} (C : CX p s m args meth c cX10_fraction 7 RX10 (some .long) D cA z0) : ∀ (S : PS) (j5 : Int64) (u0 : Int64) (H : Heap) (locs : List Loc) (ls : Array Slot), wq_X10_fraction_29 N K S j5 u0 → XV D cA z0 s S H locs → lv_has ls 7 [(5, .long j5)] → W p l e (rmd 1 0 0) s m args below meth c H locs 0 0 (MQ below (va_Ql K (XK D cA z0) (zA z0)) args s 0 0 (zA z0)) (F0 m 29 ls [.long u0]) := by
  obtain ⟨hx, hb, hml, hown, hts, hK, hz, hlk, hr⟩ := id C
  intro S j5 u0 H locs ls hM hV hl
  unfold wq_X10_fraction_29 at hM
  refine lv_lload hx hb dX10_fraction_29 (lv_at hl 0 rfl) ?_
  have hne5 := hM.1
  have hM := hM.2
  refine lv_ldiv hx hb dX10_fraction_31 hne5 ?_
  exact x_lret C hV hM dX10_fraction_32
set_option maxHeartbeats 4000000 in
set_option maxRecDepth 100000 in
theorem c_X10_fraction {l : Launch} {D : DX} {cA : Nat → ClassId} {z0 N : Nat} {S : PS} {j0 : Int64} {j2 : Int64} {x4 : Int32} {K : Int64 → PS → Prop} (hM : wp_X10_fraction N S j0 j2 x4 K) : MetL l yX10_fraction cX10_fraction 7 (some .long) 1 0 0 D cA z0 [.long j0, .long j2, .int x4] S K := by
  refine x_met RX10 (by decide) rfl ?_
  intro p e s m below meth c C hin hV
  have hl := lv_entry ([.long j0, .long j2, .int x4]) (n := 7) (Nat.le_of_ble_eq_true rfl)
  rw [lg_entry_eq]
  generalize (lg_sl ([.long j0, .long j2, .int x4]) ++ List.replicate (7 - (lg_sl ([.long j0, .long j2, .int x4])).length) Slot.unset).toArray = ls at hl ⊢
  have hl : lv_has ls 7 [(0, .long j0), (2, .long j2), (4, .int x4)] := hl
  obtain ⟨hx, hb, hml, hown, hts, hK, hz, hlk, hr⟩ := id C
  unfold wp_X10_fraction at hM
  refine lv_lload_n hx hb dX10_fraction_0 rfl (lv_at hl 0 rfl) ?_
  refine x_mabsl C hl.1 wl_X10_284 (by decide) (by decide) (Nat.zero_le _) (Nat.zero_le _) (Nat.le_of_ble_eq_true rfl) dX10_fraction_1 ?_
  refine lv_lload_n hx hb dX10_fraction_4 rfl (lv_at hl 1 rfl) ?_
  refine x_cl hV (x_runS (As := [.long (if 0 < j0 then j0 else -j0), .long j2]) (rest := []) C hV ms_X10_commonDivisor wl_X10_403 (c_X10_commonDivisor hM) ⟨by decide, by decide⟩ rfl hl.1 (Nat.le_of_ble_eq_true rfl) dX10_fraction_5 ⟨Nat.zero_le _, Nat.zero_le _⟩) (fun r2 S1 H locs hV hM => ?_)
  refine lv_lstore (lv' := [(5, .long r2), (0, .long j0), (2, .long j2), (4, .int x4)]) hx hb dX10_fraction_8 hl (by decide) rfl (fun ls hl => ?_)
  refine lv_lload hx hb dX10_fraction_10 (lv_at hl 0 rfl) ?_
  refine lv_lconst (v := 0) hx hb dX10_fraction_12 (by decide) ?_
  refine W.lcmp hx hb dX10_fraction_13 ?_
  refine lv_if_gt (tgt := 19) hx hb dX10_fraction_14 (by decide) (fun c3 => ?_) (fun c3 => ?_)
  · have hM := ite_t c3 hM
    refine lv_iload hx hb dX10_fraction_19 (lv_at hl 3 rfl) ?_
    refine lv_if_ne (tgt := 28) hx hb dX10_fraction_21 (by decide) (fun c4 => ?_) (fun c4 => ?_)
    · have hM := ite_f c4 hM
      refine lv_lload_n hx hb dX10_fraction_28 rfl (lv_at hl 2 rfl) ?_
      exact tq_X10_fraction_29 C _ _ _ _ _ _ hM hV (lv_sub hl [0] rfl)
    have hM := ite_t c4 hM
    refine lv_lload_n hx hb dX10_fraction_24 rfl (lv_at hl 1 rfl) ?_
    refine lv_goto (tgt := 29) hx hb dX10_fraction_25 (by decide) ?_
    exact tq_X10_fraction_29 C _ _ _ _ _ _ hM hV (lv_sub hl [0] rfl)
  have hM := ite_f c3 hM
  refine lv_lconst (v := 0) hx hb dX10_fraction_17 (by decide) ?_
  exact x_lret C hV hM dX10_fraction_18

def wq_X10_gatherTwos_43 (N : Nat) (K : Int32 → PS → Prop) (k_4 : PS → Nat → Int32 → Int32 → Int32 → Prop) (k_18 : PS → Nat → Int32 → Int32 → Int32 → Int32 → Prop) (S : PS) (a0 : Nat) (x1 : Int32) (x2 : Int32) (x3 : Int32) (x4 : Int32) (t0 : Int32) : Prop := if t0 = 0 then (k_18 S a0 x1 x2 x3 (x4 + 1)) else (if 28 ≤ x2 then (k_18 S a0 x1 x2 x3 (x4 + 1)) else (S.K a0 = 11 ∧ ∃ p10 : Nat, S.R 714 a0 = some p10 ∧ ∃ p11 : Nat, S.R 704 a0 = some p11 ∧ S.K p11 = 10 ∧ wp_X9_partsBetween N S p11 x4 x3 (fun r14 S13 => S13.K p10 = 20 ∧ vp_in x2 (S13.ln p10) ∧ ∀ S17 : PS, S17 = S13.setA p10 x2.toNatClampNeg r14 → k_18 S17 a0 x1 (x2 + 1) x3 (x4 + 1))))
def wq_X10_gatherTwos_18 (N : Nat) (K : Int32 → PS → Prop) (k_4 : PS → Nat → Int32 → Int32 → Int32 → Prop) : Nat → PS → Nat → Int32 → Int32 → Int32 → Int32 → Prop
  | 0, _, _, _, _, _, _ => False
  | n + 1, S, a0, x1, x2, x3, x4 => if x3 ≤ x4 then (k_4 S a0 x1 x2 (x3 + 1)) else (if (((x1 >>> (x4 &&& 31)) &&& (x1 >>> (x3 &&& 31))) &&& 1) = 1 then (wq_X10_gatherTwos_43 N K k_4 (fun S a0 x1 x2 x3 x4 => wq_X10_gatherTwos_18 N K k_4 n S a0 x1 x2 x3 x4) S a0 x1 x2 x3 x4 1) else (wq_X10_gatherTwos_43 N K k_4 (fun S a0 x1 x2 x3 x4 => wq_X10_gatherTwos_18 N K k_4 n S a0 x1 x2 x3 x4) S a0 x1 x2 x3 x4 0))
def wq_X10_gatherTwos_4 (N : Nat) (K : Int32 → PS → Prop) : Nat → PS → Nat → Int32 → Int32 → Int32 → Prop
  | 0, _, _, _, _, _ => False
  | n + 1, S, a0, x1, x2, x3 => S.K a0 = 11 ∧ ∃ p2 : Nat, S.R 704 a0 = some p2 ∧ S.K p2 = 10 ∧ if (S.I 646 p2) ≤ x3 then (K x2 S) else (wq_X10_gatherTwos_18 N K (fun S a0 x1 x2 x3 => wq_X10_gatherTwos_4 N K n S a0 x1 x2 x3) N S a0 x1 x2 x3 0)
def wp_X10_gatherTwos (N : Nat) (S : PS) (a0 : Nat) (x1 : Int32) (K : Int32 → PS → Prop) : Prop := wq_X10_gatherTwos_4 N K N S a0 x1 0 1
set_option maxHeartbeats 4000000 in
set_option maxRecDepth 100000 in
theorem tq_X10_gatherTwos_43 {p : Program} {l : Launch} {e : Env} {s : State} {m : MethodId} {args : Array Value} {below : List Frame} {meth : Method} {c : Code} {D : DX} {cA : Nat → ClassId} {z0 N : Nat} {K : Int32 → PS → Prop} {k_4 : PS → Nat → Int32 → Int32 → Int32 → Prop} {k_18 : PS → Nat → Int32 → Int32 → Int32 → Int32 → Prop} (C : CX p s m args meth c cX10_gatherTwos 6 RX10 (some .int) D cA z0) (H_4 : ∀ (S : PS) (a0 : Nat) (x1 : Int32) (x2 : Int32) (x3 : Int32) (H : Heap) (locs : List Loc) (ls : Array Slot), k_4 S a0 x1 x2 x3 → XV D cA z0 s S H locs → lv_has ls 6 [(0, .ref a0), (1, .int x1), (2, .int x2), (3, .int x3)] → W p l e (rmd 3 0 0) s m args below meth c H locs 0 0 (MQ below (va_Qi K (XK D cA z0) (zA z0)) args s 0 0 (zA z0)) (F0 m 4 ls [])) (H_18 : ∀ (S : PS) (a0 : Nat) (x1 : Int32) (x2 : Int32) (x3 : Int32) (x4 : Int32) (H : Heap) (locs : List Loc) (ls : Array Slot), k_18 S a0 x1 x2 x3 x4 → XV D cA z0 s S H locs → lv_has ls 6 [(0, .ref a0), (1, .int x1), (2, .int x2), (3, .int x3), (4, .int x4)] → W p l e (rmd 3 0 0) s m args below meth c H locs 0 0 (MQ below (va_Qi K (XK D cA z0) (zA z0)) args s 0 0 (zA z0)) (F0 m 18 ls [])) : ∀ (S : PS) (a0 : Nat) (x1 : Int32) (x2 : Int32) (x3 : Int32) (x4 : Int32) (t0 : Int32) (H : Heap) (locs : List Loc) (ls : Array Slot), wq_X10_gatherTwos_43 N K k_4 k_18 S a0 x1 x2 x3 x4 t0 → XV D cA z0 s S H locs → lv_has ls 6 [(0, .ref a0), (1, .int x1), (2, .int x2), (3, .int x3), (4, .int x4)] → W p l e (rmd 3 0 0) s m args below meth c H locs 0 0 (MQ below (va_Qi K (XK D cA z0) (zA z0)) args s 0 0 (zA z0)) (F0 m 43 ls [.int t0]) := by
  obtain ⟨hx, hb, hml, hown, hts, hK, hz, hlk, hr⟩ := id C
  intro S a0 x1 x2 x3 x4 t0 H locs ls hM hV hl
  unfold wq_X10_gatherTwos_43 at hM
  refine lv_istore (lv' := [(5, .int t0), (0, .ref a0), (1, .int x1), (2, .int x2), (3, .int x3), (4, .int x4)]) hx hb dX10_gatherTwos_43 hl (by decide) rfl (fun ls hl => ?_)
  refine lv_iload hx hb dX10_gatherTwos_45 (lv_at hl 0 rfl) ?_
  refine lv_if_eq (tgt := 75) hx hb dX10_gatherTwos_47 (by decide) (fun c7 => ?_) (fun c7 => ?_)
  · have hM := ite_t c7 hM
    refine lv_iinc (v := (x4 + 1)) (lv' := [(4, .int (x4 + 1)), (5, .int t0), (0, .ref a0), (1, .int x1), (2, .int x2), (3, .int x3)]) hx hb dX10_gatherTwos_75 hl (k := 5) rfl rfl (by decide) rfl (fun ls hl => ?_)
    refine lv_goto (tgt := 18) hx hb dX10_gatherTwos_78 (by decide) ?_
    exact H_18 _ _ _ _ _ _ _ _ _ hM hV (lv_sub hl [2, 3, 4, 5, 0] rfl)
  have hM := ite_f c7 hM
  refine lv_iload_n hx hb dX10_gatherTwos_50 rfl (lv_at hl 3 rfl) ?_
  refine lv_bipush (v := 28) hx hb dX10_gatherTwos_51 (by decide) ?_
  refine lv_icmp_ge (tgt := 75) hx hb dX10_gatherTwos_53 (by decide) (fun c8 => ?_) (fun c8 => ?_)
  · have hM := ite_t c8 hM
    refine lv_iinc (v := (x4 + 1)) (lv' := [(4, .int (x4 + 1)), (5, .int t0), (0, .ref a0), (1, .int x1), (2, .int x2), (3, .int x3)]) hx hb dX10_gatherTwos_75 hl (k := 5) rfl rfl (by decide) rfl (fun ls hl => ?_)
    refine lv_goto (tgt := 18) hx hb dX10_gatherTwos_78 (by decide) ?_
    exact H_18 _ _ _ _ _ _ _ _ _ hM hV (lv_sub hl [2, 3, 4, 5, 0] rfl)
  have hM := ite_f c8 hM
  refine lv_aload_n hx hb dX10_gatherTwos_56 rfl (lv_at hl 1 rfl) ?_
  have hk9 := hM.1
  have hM := hM.2
  obtain ⟨p10, hp10, hM⟩ := hM
  refine x_getR C hV wf_X10_61 hk9 hp10 dX10_gatherTwos_57 ?_
  refine lv_iload_n hx hb dX10_gatherTwos_60 rfl (lv_at hl 3 rfl) ?_
  refine lv_aload_n hx hb dX10_gatherTwos_61 rfl (lv_at hl 1 rfl) ?_
  obtain ⟨p11, hp11, hM⟩ := hM
  refine x_getR C hV wf_X10_10 hk9 hp11 dX10_gatherTwos_62 ?_
  refine lv_iload hx hb dX10_gatherTwos_65 (lv_at hl 5 rfl) ?_
  refine lv_iload_n hx hb dX10_gatherTwos_67 rfl (lv_at hl 4 rfl) ?_
  have hk12 := hM.1
  have hM := hM.2
  refine x_ci hV (x_runV (As := [.int x4, .int x3]) (rest := [.int x2, .ref p10]) C hV mi_X9_partsBetween wl_X10_413 hk12 (c_X9_partsBetween hM) ⟨by decide, by decide⟩ rfl hl.1 (Nat.le_of_ble_eq_true rfl) dX10_gatherTwos_68 ⟨Nat.zero_le _, Nat.zero_le _⟩) (fun r14 S13 H locs hV hM => ?_)
  have hk15 := hM.1
  have hM := hM.2
  have hi16 := hM.1
  have hM := hM.2
  obtain ⟨S17, eS17⟩ : ∃ z : PS, z = S13.setA p10 x2.toNatClampNeg r14 := ⟨_, rfl⟩
  have hM := hM S17 eS17
  refine x_iast C hV hk15 hi16 eS17 dX10_gatherTwos_71 (fun H locs hV => ?_)
  refine lv_iinc (v := (x2 + 1)) (lv' := [(2, .int (x2 + 1)), (5, .int t0), (0, .ref a0), (1, .int x1), (3, .int x3), (4, .int x4)]) hx hb dX10_gatherTwos_72 hl (k := 3) rfl rfl (by decide) rfl (fun ls hl => ?_)
  refine lv_iinc (v := (x4 + 1)) (lv' := [(4, .int (x4 + 1)), (2, .int (x2 + 1)), (5, .int t0), (0, .ref a0), (1, .int x1), (3, .int x3)]) hx hb dX10_gatherTwos_75 hl (k := 5) rfl rfl (by decide) rfl (fun ls hl => ?_)
  refine lv_goto (tgt := 18) hx hb dX10_gatherTwos_78 (by decide) ?_
  exact H_18 _ _ _ _ _ _ _ _ _ hM hV (lv_sub hl [3, 4, 1, 5, 0] rfl)
set_option maxHeartbeats 4000000 in
set_option maxRecDepth 100000 in
theorem tq_X10_gatherTwos_18 {p : Program} {l : Launch} {e : Env} {s : State} {m : MethodId} {args : Array Value} {below : List Frame} {meth : Method} {c : Code} {D : DX} {cA : Nat → ClassId} {z0 N : Nat} {K : Int32 → PS → Prop} {k_4 : PS → Nat → Int32 → Int32 → Int32 → Prop} (C : CX p s m args meth c cX10_gatherTwos 6 RX10 (some .int) D cA z0) (H_4 : ∀ (S : PS) (a0 : Nat) (x1 : Int32) (x2 : Int32) (x3 : Int32) (H : Heap) (locs : List Loc) (ls : Array Slot), k_4 S a0 x1 x2 x3 → XV D cA z0 s S H locs → lv_has ls 6 [(0, .ref a0), (1, .int x1), (2, .int x2), (3, .int x3)] → W p l e (rmd 3 0 0) s m args below meth c H locs 0 0 (MQ below (va_Qi K (XK D cA z0) (zA z0)) args s 0 0 (zA z0)) (F0 m 4 ls [])) : ∀ (n : Nat) (S : PS) (a0 : Nat) (x1 : Int32) (x2 : Int32) (x3 : Int32) (x4 : Int32) (H : Heap) (locs : List Loc) (ls : Array Slot), wq_X10_gatherTwos_18 N K k_4 n S a0 x1 x2 x3 x4 → XV D cA z0 s S H locs → lv_has ls 6 [(0, .ref a0), (1, .int x1), (2, .int x2), (3, .int x3), (4, .int x4)] → W p l e (rmd 3 0 0) s m args below meth c H locs 0 0 (MQ below (va_Qi K (XK D cA z0) (zA z0)) args s 0 0 (zA z0)) (F0 m 18 ls []) := by
  obtain ⟨hx, hb, hml, hown, hts, hK, hz, hlk, hr⟩ := id C
  intro n
  induction n with
  | zero => intro S a0 x1 x2 x3 x4 H locs ls hM; exact absurd hM id
  | succ n ih =>
    intro S a0 x1 x2 x3 x4 H locs ls hM hV hl
    rw [wq_X10_gatherTwos_18.eq_2] at hM
    refine lv_iload hx hb dX10_gatherTwos_18 (lv_at hl 4 rfl) ?_
    refine lv_iload_n hx hb dX10_gatherTwos_20 rfl (lv_at hl 3 rfl) ?_
    refine lv_icmp_ge (tgt := 81) hx hb dX10_gatherTwos_21 (by decide) (fun c5 => ?_) (fun c5 => ?_)
    · have hM := ite_t c5 hM
      refine lv_iinc (v := (x3 + 1)) (lv' := [(3, .int (x3 + 1)), (0, .ref a0), (1, .int x1), (2, .int x2), (4, .int x4)]) hx hb dX10_gatherTwos_81 hl (k := 3) rfl rfl (by decide) rfl (fun ls hl => ?_)
      refine lv_goto (tgt := 4) hx hb dX10_gatherTwos_84 (by decide) ?_
      exact H_4 _ _ _ _ _ _ _ _ hM hV (lv_sub hl [1, 2, 3, 0] rfl)
    have hM := ite_f c5 hM
    refine lv_iload_n hx hb dX10_gatherTwos_24 rfl (lv_at hl 1 rfl) ?_
    refine lv_iload hx hb dX10_gatherTwos_25 (lv_at hl 4 rfl) ?_
    refine lv_ishr hx hb dX10_gatherTwos_27 ?_
    refine lv_iload_n hx hb dX10_gatherTwos_28 rfl (lv_at hl 1 rfl) ?_
    refine lv_iload_n hx hb dX10_gatherTwos_29 rfl (lv_at hl 3 rfl) ?_
    refine lv_ishr hx hb dX10_gatherTwos_30 ?_
    refine lv_iand hx hb dX10_gatherTwos_31 ?_
    refine lv_iconst (v := 1) hx hb dX10_gatherTwos_32 (by decide) ?_
    refine lv_iand hx hb dX10_gatherTwos_33 ?_
    refine lv_iconst (v := 1) hx hb dX10_gatherTwos_34 (by decide) ?_
    refine lv_icmp_ne (tgt := 42) hx hb dX10_gatherTwos_35 (by decide) (fun c6 => ?_) (fun c6 => ?_)
    · have hM := ite_f c6 hM
      refine lv_iconst (v := 0) hx hb dX10_gatherTwos_42 (by decide) ?_
      exact tq_X10_gatherTwos_43 C H_4 ih _ _ _ _ _ _ _ _ _ _ hM hV (lv_sub hl [0, 1, 2, 3, 4] rfl)
    have hM := ite_t c6 hM
    refine lv_iconst (v := 1) hx hb dX10_gatherTwos_38 (by decide) ?_
    refine lv_goto (tgt := 43) hx hb dX10_gatherTwos_39 (by decide) ?_
    exact tq_X10_gatherTwos_43 C H_4 ih _ _ _ _ _ _ _ _ _ _ hM hV (lv_sub hl [0, 1, 2, 3, 4] rfl)
set_option maxHeartbeats 4000000 in
set_option maxRecDepth 100000 in
theorem tq_X10_gatherTwos_4 {p : Program} {l : Launch} {e : Env} {s : State} {m : MethodId} {args : Array Value} {below : List Frame} {meth : Method} {c : Code} {D : DX} {cA : Nat → ClassId} {z0 N : Nat} {K : Int32 → PS → Prop} (C : CX p s m args meth c cX10_gatherTwos 6 RX10 (some .int) D cA z0) : ∀ (n : Nat) (S : PS) (a0 : Nat) (x1 : Int32) (x2 : Int32) (x3 : Int32) (H : Heap) (locs : List Loc) (ls : Array Slot), wq_X10_gatherTwos_4 N K n S a0 x1 x2 x3 → XV D cA z0 s S H locs → lv_has ls 6 [(0, .ref a0), (1, .int x1), (2, .int x2), (3, .int x3)] → W p l e (rmd 3 0 0) s m args below meth c H locs 0 0 (MQ below (va_Qi K (XK D cA z0) (zA z0)) args s 0 0 (zA z0)) (F0 m 4 ls []) := by
  obtain ⟨hx, hb, hml, hown, hts, hK, hz, hlk, hr⟩ := id C
  intro n
  induction n with
  | zero => intro S a0 x1 x2 x3 H locs ls hM; exact absurd hM id
  | succ n ih =>
    intro S a0 x1 x2 x3 H locs ls hM hV hl
    rw [wq_X10_gatherTwos_4.eq_2] at hM
    refine lv_iload_n hx hb dX10_gatherTwos_4 rfl (lv_at hl 3 rfl) ?_
    refine lv_aload_n hx hb dX10_gatherTwos_5 rfl (lv_at hl 0 rfl) ?_
    have hk1 := hM.1
    have hM := hM.2
    obtain ⟨p2, hp2, hM⟩ := hM
    refine x_getR C hV wf_X10_10 hk1 hp2 dX10_gatherTwos_6 ?_
    have hk3 := hM.1
    have hM := hM.2
    refine x_getI C hV wf_X10_193 hk3 dX10_gatherTwos_9 ?_
    refine lv_icmp_ge (tgt := 87) hx hb dX10_gatherTwos_12 (by decide) (fun c4 => ?_) (fun c4 => ?_)
    · have hM := ite_t c4 hM
      refine lv_iload_n hx hb dX10_gatherTwos_87 rfl (lv_at hl 2 rfl) ?_
      exact x_iret C hV hM dX10_gatherTwos_88
    have hM := ite_f c4 hM
    refine lv_iconst (v := 0) hx hb dX10_gatherTwos_15 (by decide) ?_
    refine lv_istore (lv' := [(4, .int 0), (0, .ref a0), (1, .int x1), (2, .int x2), (3, .int x3)]) hx hb dX10_gatherTwos_16 hl (by decide) rfl (fun ls hl => ?_)
    exact tq_X10_gatherTwos_18 C ih N _ _ _ _ _ _ _ _ _ hM hV (lv_sub hl [1, 2, 3, 4, 0] rfl)
set_option maxHeartbeats 4000000 in
set_option maxRecDepth 100000 in
theorem c_X10_gatherTwos {l : Launch} {D : DX} {cA : Nat → ClassId} {z0 N : Nat} {S : PS} {a0 : Nat} {x1 : Int32} {K : Int32 → PS → Prop} (hM : wp_X10_gatherTwos N S a0 x1 K) : MetI l yX10_gatherTwos cX10_gatherTwos 6 (some .int) 3 0 0 D cA z0 [.ref a0, .int x1] S K := by
  refine x_met RX10 (by decide) rfl ?_
  intro p e s m below meth c C hin hV
  have hl := lv_entry ([.ref a0, .int x1]) (n := 6) (Nat.le_of_ble_eq_true rfl)
  rw [lg_entry_eq]
  generalize (lg_sl ([.ref a0, .int x1]) ++ List.replicate (6 - (lg_sl ([.ref a0, .int x1])).length) Slot.unset).toArray = ls at hl ⊢
  have hl : lv_has ls 6 [(0, .ref a0), (1, .int x1)] := hl
  obtain ⟨hx, hb, hml, hown, hts, hK, hz, hlk, hr⟩ := id C
  unfold wp_X10_gatherTwos at hM
  refine lv_iconst (v := 0) hx hb dX10_gatherTwos_0 (by decide) ?_
  refine lv_istore_n (lv' := [(2, .int 0), (0, .ref a0), (1, .int x1)]) hx hb dX10_gatherTwos_1 rfl hl (by decide) rfl (fun ls hl => ?_)
  refine lv_iconst (v := 1) hx hb dX10_gatherTwos_2 (by decide) ?_
  refine lv_istore_n (lv' := [(3, .int 1), (2, .int 0), (0, .ref a0), (1, .int x1)]) hx hb dX10_gatherTwos_3 rfl hl (by decide) rfl (fun ls hl => ?_)
  exact tq_X10_gatherTwos_4 C N _ _ _ _ _ _ _ _ hM hV (lv_sub hl [2, 3, 1, 0] rfl)

def wp_X10_gives (N : Nat) (S : PS) (a0 : Nat) (x1 : Int32) (x2 : Int32) (x3 : Int32) (K : Int32 → PS → Prop) : Prop := S.K a0 = 11 ∧ ∃ p2 : Nat, S.R 704 a0 = some p2 ∧ S.K p2 = 10 ∧ wp_X9_hasStory N S p2 x1 (fun r5 S4 => if r5 = 0 then (K (-2147483648) S4) else (wp_X10_isWay N S4 x2 (fun r9 S8 => if r9 = 0 then (K (-2147483648) S8) else (wp_X10_isDay N S8 x3 (fun r13 S12 => if r13 = 0 then (K (-2147483648) S12) else (S12.K a0 = 11 ∧ ∃ p17 : Nat, S12.R 704 a0 = some p17 ∧ S12.K p17 = 10 ∧ wp_X9_given N S12 p17 x1 x2 x3 (fun r20 S19 => K r20 S19)))))))
set_option maxHeartbeats 4000000 in
set_option maxRecDepth 100000 in
theorem c_X10_gives {l : Launch} {D : DX} {cA : Nat → ClassId} {z0 N : Nat} {S : PS} {a0 : Nat} {x1 : Int32} {x2 : Int32} {x3 : Int32} {K : Int32 → PS → Prop} (hM : wp_X10_gives N S a0 x1 x2 x3 K) : MetI l yX10_gives cX10_gives 4 (some .int) 2 0 0 D cA z0 [.ref a0, .int x1, .int x2, .int x3] S K := by
  refine x_met RX10 (by decide) rfl ?_
  intro p e s m below meth c C hin hV
  have hl := lv_entry ([.ref a0, .int x1, .int x2, .int x3]) (n := 4) (Nat.le_of_ble_eq_true rfl)
  rw [lg_entry_eq]
  generalize (lg_sl ([.ref a0, .int x1, .int x2, .int x3]) ++ List.replicate (4 - (lg_sl ([.ref a0, .int x1, .int x2, .int x3])).length) Slot.unset).toArray = ls at hl ⊢
  have hl : lv_has ls 4 [(0, .ref a0), (1, .int x1), (2, .int x2), (3, .int x3)] := hl
  obtain ⟨hx, hb, hml, hown, hts, hK, hz, hlk, hr⟩ := id C
  unfold wp_X10_gives at hM
  refine lv_aload_n hx hb dX10_gives_0 rfl (lv_at hl 0 rfl) ?_
  have hk1 := hM.1
  have hM := hM.2
  obtain ⟨p2, hp2, hM⟩ := hM
  refine x_getR C hV wf_X10_10 hk1 hp2 dX10_gives_1 ?_
  refine lv_iload_n hx hb dX10_gives_4 rfl (lv_at hl 1 rfl) ?_
  have hk3 := hM.1
  have hM := hM.2
  refine x_ci hV (x_runV (As := [.int x1]) (rest := []) C hV mi_X9_hasStory wl_X10_214 hk3 (c_X9_hasStory hM) ⟨by decide, by decide⟩ rfl hl.1 (Nat.le_of_ble_eq_true rfl) dX10_gives_5 ⟨Nat.zero_le _, Nat.zero_le _⟩) (fun r5 S4 H locs hV hM => ?_)
  have hz6 := hM.1
  have hM := hM.2
  refine lv_if_eq (tgt := 25) hx hb dX10_gives_8 (by decide) (fun c7 => ?_) (fun c7 => ?_)
  · have hM := ite_t c7 hM
    refine lv_ldc hx hb hown (hts _ wc_X10_115) dX10_gives_25 ?_
    exact x_iret C hV hM dX10_gives_27
  have hM := ite_f c7 hM
  refine lv_iload_n hx hb dX10_gives_11 rfl (lv_at hl 2 rfl) ?_
  refine x_ci hV (x_runS (As := [.int x2]) (rest := []) C hV ms_X10_isWay wl_X10_159 (c_X10_isWay hM) ⟨by decide, by decide⟩ rfl hl.1 (Nat.le_of_ble_eq_true rfl) dX10_gives_12 ⟨Nat.zero_le _, Nat.zero_le _⟩) (fun r9 S8 H locs hV hM => ?_)
  have hz10 := hM.1
  have hM := hM.2
  refine lv_if_eq (tgt := 25) hx hb dX10_gives_15 (by decide) (fun c11 => ?_) (fun c11 => ?_)
  · have hM := ite_t c11 hM
    refine lv_ldc hx hb hown (hts _ wc_X10_115) dX10_gives_25 ?_
    exact x_iret C hV hM dX10_gives_27
  have hM := ite_f c11 hM
  refine lv_iload_n hx hb dX10_gives_18 rfl (lv_at hl 3 rfl) ?_
  refine x_ci hV (x_runS (As := [.int x3]) (rest := []) C hV ms_X10_isDay wl_X10_137 (c_X10_isDay hM) ⟨by decide, by decide⟩ rfl hl.1 (Nat.le_of_ble_eq_true rfl) dX10_gives_19 ⟨Nat.zero_le _, Nat.zero_le _⟩) (fun r13 S12 H locs hV hM => ?_)
  have hz14 := hM.1
  have hM := hM.2
  refine lv_if_ne (tgt := 28) hx hb dX10_gives_22 (by decide) (fun c15 => ?_) (fun c15 => ?_)
  · have hM := ite_f c15 hM
    refine lv_aload_n hx hb dX10_gives_28 rfl (lv_at hl 0 rfl) ?_
    have hk16 := hM.1
    have hM := hM.2
    obtain ⟨p17, hp17, hM⟩ := hM
    refine x_getR C hV wf_X10_10 hk16 hp17 dX10_gives_29 ?_
    refine lv_iload_n hx hb dX10_gives_32 rfl (lv_at hl 1 rfl) ?_
    refine lv_iload_n hx hb dX10_gives_33 rfl (lv_at hl 2 rfl) ?_
    refine lv_iload_n hx hb dX10_gives_34 rfl (lv_at hl 3 rfl) ?_
    have hk18 := hM.1
    have hM := hM.2
    refine x_ci hV (x_runV (As := [.int x1, .int x2, .int x3]) (rest := []) C hV mi_X9_given wl_X10_217 hk18 (c_X9_given hM) ⟨by decide, by decide⟩ rfl hl.1 (Nat.le_of_ble_eq_true rfl) dX10_gives_35 ⟨Nat.zero_le _, Nat.zero_le _⟩) (fun r20 S19 H locs hV hM => ?_)
    exact x_iret C hV hM dX10_gives_38
  have hM := ite_t c15 hM
  refine lv_ldc hx hb hown (hts _ wc_X10_115) dX10_gives_25 ?_
  exact x_iret C hV hM dX10_gives_27

def wp_X10_holds (N : Nat) (S : PS) (a0 : Nat) (x1 : Int32) (x2 : Int32) (K : Int32 → PS → Prop) : Prop := S.K a0 = 11 ∧ ∃ p2 : Nat, S.R 704 a0 = some p2 ∧ S.K p2 = 10 ∧ wp_X10_within N S x1 0 ((S.I 647 p2) - 1) (fun r5 S4 => if r5 = 0 then (K (-1) S4) else (wp_X10_within N S4 x2 0 8 (fun r9 S8 => if r9 = 0 then (K (-1) S8) else (S8.K a0 = 11 ∧ ∃ p13 : Nat, S8.R 704 a0 = some p13 ∧ ∃ p14 : Nat, S8.R 712 a0 = some p14 ∧ S8.K p13 = 10 ∧ wp_X9_tellFacts N S8 p13 p14 (fun S16 => S16.K a0 = 11 ∧ ∃ p19 : Nat, S16.R 712 a0 = some p19 ∧ S16.K p19 = 20 ∧ vp_in 6 (S16.ln p19) ∧ ∀ S22 : PS, S22 = S16.setA p19 (6 : Int32).toNatClampNeg x2 → ∃ p24 : Nat, S22.R 704 a0 = some p24 ∧ S22.K p24 = 10 ∧ ∃ p26 : Nat, S22.R 653 p24 = some p26 ∧ S22.K p26 = 24 ∧ vp_in x1 (S22.ln p26) ∧ ∃ p29 : Nat, S22.Q p26 x1.toNatClampNeg = some p29 ∧ ∃ p30 : Nat, S22.R 712 a0 = some p30 ∧ ∃ p31 : Nat, S22.R 713 a0 = some p31 ∧ S22.K p29 = 3 ∧ wp_X2_isMet N S22 p29 p30 p31 (fun r34 S33 => if r34 = 0 then (K 0 S33) else (K 1 S33)))))))
set_option maxHeartbeats 4000000 in
set_option maxRecDepth 100000 in
theorem c_X10_holds {l : Launch} {D : DX} {cA : Nat → ClassId} {z0 N : Nat} {S : PS} {a0 : Nat} {x1 : Int32} {x2 : Int32} {K : Int32 → PS → Prop} (hM : wp_X10_holds N S a0 x1 x2 K) : MetI l yX10_holds cX10_holds 3 (some .int) 6 0 0 D cA z0 [.ref a0, .int x1, .int x2] S K := by
  refine x_met RX10 (by decide) rfl ?_
  intro p e s m below meth c C hin hV
  have hl := lv_entry ([.ref a0, .int x1, .int x2]) (n := 3) (Nat.le_of_ble_eq_true rfl)
  rw [lg_entry_eq]
  generalize (lg_sl ([.ref a0, .int x1, .int x2]) ++ List.replicate (3 - (lg_sl ([.ref a0, .int x1, .int x2])).length) Slot.unset).toArray = ls at hl ⊢
  have hl : lv_has ls 3 [(0, .ref a0), (1, .int x1), (2, .int x2)] := hl
  obtain ⟨hx, hb, hml, hown, hts, hK, hz, hlk, hr⟩ := id C
  unfold wp_X10_holds at hM
  refine lv_iload_n hx hb dX10_holds_0 rfl (lv_at hl 1 rfl) ?_
  refine lv_iconst (v := 0) hx hb dX10_holds_1 (by decide) ?_
  refine lv_aload_n hx hb dX10_holds_2 rfl (lv_at hl 0 rfl) ?_
  have hk1 := hM.1
  have hM := hM.2
  obtain ⟨p2, hp2, hM⟩ := hM
  refine x_getR C hV wf_X10_10 hk1 hp2 dX10_holds_3 ?_
  have hk3 := hM.1
  have hM := hM.2
  refine x_getI C hV wf_X10_287 hk3 dX10_holds_6 ?_
  refine lv_iconst (v := 1) hx hb dX10_holds_9 (by decide) ?_
  refine lv_isub hx hb dX10_holds_10 ?_
  refine x_ci hV (x_runS (As := [.int x1, .int 0, .int ((S.I 647 p2) - 1)]) (rest := []) C hV ms_X10_within wl_X10_94 (c_X10_within hM) ⟨by decide, by decide⟩ rfl hl.1 (Nat.le_of_ble_eq_true rfl) dX10_holds_11 ⟨Nat.zero_le _, Nat.zero_le _⟩) (fun r5 S4 H locs hV hM => ?_)
  have hz6 := hM.1
  have hM := hM.2
  refine lv_if_eq (tgt := 27) hx hb dX10_holds_14 (by decide) (fun c7 => ?_) (fun c7 => ?_)
  · have hM := ite_t c7 hM
    refine lv_iconst (v := (-1)) hx hb dX10_holds_27 (by decide) ?_
    exact x_iret C hV hM dX10_holds_28
  have hM := ite_f c7 hM
  refine lv_iload_n hx hb dX10_holds_17 rfl (lv_at hl 2 rfl) ?_
  refine lv_iconst (v := 0) hx hb dX10_holds_18 (by decide) ?_
  refine lv_bipush (v := 8) hx hb dX10_holds_19 (by decide) ?_
  refine x_ci hV (x_runS (As := [.int x2, .int 0, .int 8]) (rest := []) C hV ms_X10_within wl_X10_94 (c_X10_within hM) ⟨by decide, by decide⟩ rfl hl.1 (Nat.le_of_ble_eq_true rfl) dX10_holds_21 ⟨Nat.zero_le _, Nat.zero_le _⟩) (fun r9 S8 H locs hV hM => ?_)
  have hz10 := hM.1
  have hM := hM.2
  refine lv_if_ne (tgt := 29) hx hb dX10_holds_24 (by decide) (fun c11 => ?_) (fun c11 => ?_)
  · have hM := ite_f c11 hM
    refine lv_aload_n hx hb dX10_holds_29 rfl (lv_at hl 0 rfl) ?_
    have hk12 := hM.1
    have hM := hM.2
    obtain ⟨p13, hp13, hM⟩ := hM
    refine x_getR C hV wf_X10_10 hk12 hp13 dX10_holds_30 ?_
    refine lv_aload_n hx hb dX10_holds_33 rfl (lv_at hl 0 rfl) ?_
    obtain ⟨p14, hp14, hM⟩ := hM
    refine x_getR C hV wf_X10_54 hk12 hp14 dX10_holds_34 ?_
    have hk15 := hM.1
    have hM := hM.2
    refine x_cv hV (x_runV (As := [.ref p14]) (rest := []) C hV mi_X9_tellFacts wl_X10_305 hk15 (c_X9_tellFacts hM) ⟨by decide, by decide⟩ rfl hl.1 (Nat.le_of_ble_eq_true rfl) dX10_holds_37 ⟨Nat.zero_le _, Nat.zero_le _⟩) (fun S16 H locs hV hM => ?_)
    refine lv_aload_n hx hb dX10_holds_40 rfl (lv_at hl 0 rfl) ?_
    have hk18 := hM.1
    have hM := hM.2
    obtain ⟨p19, hp19, hM⟩ := hM
    refine x_getR C hV wf_X10_54 hk18 hp19 dX10_holds_41 ?_
    refine lv_bipush (v := 6) hx hb dX10_holds_44 (by decide) ?_
    refine lv_iload_n hx hb dX10_holds_46 rfl (lv_at hl 2 rfl) ?_
    have hk20 := hM.1
    have hM := hM.2
    have hi21 := hM.1
    have hM := hM.2
    obtain ⟨S22, eS22⟩ : ∃ z : PS, z = S16.setA p19 (6 : Int32).toNatClampNeg x2 := ⟨_, rfl⟩
    have hM := hM S22 eS22
    refine x_iast C hV hk20 hi21 eS22 dX10_holds_47 (fun H locs hV => ?_)
    refine lv_aload_n hx hb dX10_holds_48 rfl (lv_at hl 0 rfl) ?_
    have hk23 := kp_A eS22 hk18
    obtain ⟨p24, hp24, hM⟩ := hM
    refine x_getR C hV wf_X10_10 hk23 hp24 dX10_holds_49 ?_
    have hk25 := hM.1
    have hM := hM.2
    obtain ⟨p26, hp26, hM⟩ := hM
    refine x_getR C hV wf_X10_298 hk25 hp26 dX10_holds_52 ?_
    refine lv_iload_n hx hb dX10_holds_55 rfl (lv_at hl 1 rfl) ?_
    have hk27 := hM.1
    have hM := hM.2
    have hi28 := hM.1
    have hM := hM.2
    obtain ⟨p29, hp29, hM⟩ := hM
    refine x_aald C hV hk27 (by decide) rfl hi28 hp29 dX10_holds_56 ?_
    refine lv_aload_n hx hb dX10_holds_57 rfl (lv_at hl 0 rfl) ?_
    obtain ⟨p30, hp30, hM⟩ := hM
    refine x_getR C hV wf_X10_54 hk23 hp30 dX10_holds_58 ?_
    refine lv_aload_n hx hb dX10_holds_61 rfl (lv_at hl 0 rfl) ?_
    obtain ⟨p31, hp31, hM⟩ := hM
    refine x_getR C hV wf_X10_58 hk23 hp31 dX10_holds_62 ?_
    have hk32 := hM.1
    have hM := hM.2
    refine x_ci hV (x_runV (As := [.ref p30, .ref p31]) (rest := []) C hV mi_X2_isMet wl_X10_309 hk32 (c_X2_isMet hM) ⟨by decide, by decide⟩ rfl hl.1 (Nat.le_of_ble_eq_true rfl) dX10_holds_65 ⟨Nat.zero_le _, Nat.zero_le _⟩) (fun r34 S33 H locs hV hM => ?_)
    have hz35 := hM.1
    have hM := hM.2
    refine lv_if_eq (tgt := 75) hx hb dX10_holds_68 (by decide) (fun c36 => ?_) (fun c36 => ?_)
    · have hM := ite_t c36 hM
      refine lv_iconst (v := 0) hx hb dX10_holds_75 (by decide) ?_
      exact x_iret C hV hM dX10_holds_76
    have hM := ite_f c36 hM
    refine lv_iconst (v := 1) hx hb dX10_holds_71 (by decide) ?_
    refine lv_goto (tgt := 76) hx hb dX10_holds_72 (by decide) ?_
    exact x_iret C hV hM dX10_holds_76
  have hM := ite_t c11 hM
  refine lv_iconst (v := (-1)) hx hb dX10_holds_27 (by decide) ?_
  exact x_iret C hV hM dX10_holds_28

def wp_X10_isSheet (N : Nat) (S : PS) (x0 : Int32) (K : Int32 → PS → Prop) : Prop := wp_X10_within N S x0 0 3 (fun r2 S1 => (r2 = 0 ∨ r2 = 1) ∧ K r2 S1)
set_option maxHeartbeats 4000000 in
set_option maxRecDepth 100000 in
theorem c_X10_isSheet {l : Launch} {D : DX} {cA : Nat → ClassId} {z0 N : Nat} {S : PS} {x0 : Int32} {K : Int32 → PS → Prop} (hM : wp_X10_isSheet N S x0 K) : MetI l yX10_isSheet cX10_isSheet 1 (some .boolean) 1 0 0 D cA z0 [.int x0] S (fun r S => (r = 0 ∨ r = 1) ∧ K r S) := by
  refine x_met RX10 (by decide) rfl ?_
  intro p e s m below meth c C hin hV
  have hl := lv_entry ([.int x0]) (n := 1) (Nat.le_of_ble_eq_true rfl)
  rw [lg_entry_eq]
  generalize (lg_sl ([.int x0]) ++ List.replicate (1 - (lg_sl ([.int x0])).length) Slot.unset).toArray = ls at hl ⊢
  have hl : lv_has ls 1 [(0, .int x0)] := hl
  obtain ⟨hx, hb, hml, hown, hts, hK, hz, hlk, hr⟩ := id C
  unfold wp_X10_isSheet at hM
  refine lv_iload_n hx hb dX10_isSheet_0 rfl (lv_at hl 0 rfl) ?_
  refine lv_iconst (v := 0) hx hb dX10_isSheet_1 (by decide) ?_
  refine lv_iconst (v := 3) hx hb dX10_isSheet_2 (by decide) ?_
  refine x_ci hV (x_runS (As := [.int x0, .int 0, .int 3]) (rest := []) C hV ms_X10_within wl_X10_94 (c_X10_within hM) ⟨by decide, by decide⟩ rfl hl.1 (Nat.le_of_ble_eq_true rfl) dX10_isSheet_3 ⟨Nat.zero_le _, Nat.zero_le _⟩) (fun r2 S1 H locs hV hM => ?_)
  have hz3 := hM.1
  have hM := hM.2
  have hz4 := hM.1
  have hM := hM.2
  exact x_zret C hV hz4 hM dX10_isSheet_6

def wq_X10_isUnder_19 (N : Nat) (K : Int32 → PS → Prop) (S : PS) (x0 : Int32) (x1 : Int32) : Prop := if x0 = 6 then (if x1 = 1 then (K 1 S) else (K 0 S)) else (K 0 S)
def wp_X10_isUnder (N : Nat) (S : PS) (x0 : Int32) (x1 : Int32) (K : Int32 → PS → Prop) : Prop := if x0 = x1 then (K 1 S) else (if x1 = 0 then (K 1 S) else (if x0 = 5 then (if x1 = 4 then (K 1 S) else (wq_X10_isUnder_19 N K S x0 x1)) else (wq_X10_isUnder_19 N K S x0 x1)))
set_option maxHeartbeats 4000000 in
set_option maxRecDepth 100000 in
theorem tq_X10_isUnder_19 {p : Program} {l : Launch} {e : Env} {s : State} {m : MethodId} {args : Array Value} {below : List Frame} {meth : Method} {c : Code} {D : DX} {cA : Nat → ClassId} {z0 N : Nat} {K : Int32 → PS → Prop} (C : CX p s m args meth c cX10_isUnder 2 RX10 (some .boolean) D cA z0) : ∀ (S : PS) (x0 : Int32) (x1 : Int32) (H : Heap) (locs : List Loc) (ls : Array Slot), wq_X10_isUnder_19 N K S x0 x1 → XV D cA z0 s S H locs → lv_has ls 2 [(0, .int x0), (1, .int x1)] → W p l e (rmd 0 0 0) s m args below meth c H locs 0 0 (MQ below (va_Qi (fun r S => (r = 0 ∨ r = 1) ∧ K r S) (XK D cA z0) (zA z0)) args s 0 0 (zA z0)) (F0 m 19 ls []) := by
  obtain ⟨hx, hb, hml, hown, hts, hK, hz, hlk, hr⟩ := id C
  intro S x0 x1 H locs ls hM hV hl
  unfold wq_X10_isUnder_19 at hM
  refine lv_iload_n hx hb dX10_isUnder_19 rfl (lv_at hl 0 rfl) ?_
  refine lv_bipush (v := 6) hx hb dX10_isUnder_20 (by decide) ?_
  refine lv_icmp_ne (tgt := 34) hx hb dX10_isUnder_22 (by decide) (fun c4 => ?_) (fun c4 => ?_)
  · have hM := ite_f c4 hM
    refine lv_iconst (v := 0) hx hb dX10_isUnder_34 (by decide) ?_
    exact x_zret C hV (by decide) hM dX10_isUnder_35
  have hM := ite_t c4 hM
  refine lv_iload_n hx hb dX10_isUnder_25 rfl (lv_at hl 1 rfl) ?_
  refine lv_iconst (v := 1) hx hb dX10_isUnder_26 (by decide) ?_
  refine lv_icmp_ne (tgt := 34) hx hb dX10_isUnder_27 (by decide) (fun c5 => ?_) (fun c5 => ?_)
  · have hM := ite_f c5 hM
    refine lv_iconst (v := 0) hx hb dX10_isUnder_34 (by decide) ?_
    exact x_zret C hV (by decide) hM dX10_isUnder_35
  have hM := ite_t c5 hM
  refine lv_iconst (v := 1) hx hb dX10_isUnder_30 (by decide) ?_
  refine lv_goto (tgt := 35) hx hb dX10_isUnder_31 (by decide) ?_
  exact x_zret C hV (by decide) hM dX10_isUnder_35
set_option maxHeartbeats 4000000 in
set_option maxRecDepth 100000 in
theorem c_X10_isUnder {l : Launch} {D : DX} {cA : Nat → ClassId} {z0 N : Nat} {S : PS} {x0 : Int32} {x1 : Int32} {K : Int32 → PS → Prop} (hM : wp_X10_isUnder N S x0 x1 K) : MetI l yX10_isUnder cX10_isUnder 2 (some .boolean) 0 0 0 D cA z0 [.int x0, .int x1] S (fun r S => (r = 0 ∨ r = 1) ∧ K r S) := by
  refine x_met RX10 (by decide) rfl ?_
  intro p e s m below meth c C hin hV
  have hl := lv_entry ([.int x0, .int x1]) (n := 2) (Nat.le_of_ble_eq_true rfl)
  rw [lg_entry_eq]
  generalize (lg_sl ([.int x0, .int x1]) ++ List.replicate (2 - (lg_sl ([.int x0, .int x1])).length) Slot.unset).toArray = ls at hl ⊢
  have hl : lv_has ls 2 [(0, .int x0), (1, .int x1)] := hl
  obtain ⟨hx, hb, hml, hown, hts, hK, hz, hlk, hr⟩ := id C
  unfold wp_X10_isUnder at hM
  refine lv_iload_n hx hb dX10_isUnder_0 rfl (lv_at hl 0 rfl) ?_
  refine lv_iload_n hx hb dX10_isUnder_1 rfl (lv_at hl 1 rfl) ?_
  refine lv_icmp_eq (tgt := 30) hx hb dX10_isUnder_2 (by decide) (fun c1 => ?_) (fun c1 => ?_)
  · have hM := ite_t c1 hM
    refine lv_iconst (v := 1) hx hb dX10_isUnder_30 (by decide) ?_
    refine lv_goto (tgt := 35) hx hb dX10_isUnder_31 (by decide) ?_
    exact x_zret C hV (by decide) hM dX10_isUnder_35
  have hM := ite_f c1 hM
  refine lv_iload_n hx hb dX10_isUnder_5 rfl (lv_at hl 1 rfl) ?_
  refine lv_if_eq (tgt := 30) hx hb dX10_isUnder_6 (by decide) (fun c2 => ?_) (fun c2 => ?_)
  · have hM := ite_t c2 hM
    refine lv_iconst (v := 1) hx hb dX10_isUnder_30 (by decide) ?_
    refine lv_goto (tgt := 35) hx hb dX10_isUnder_31 (by decide) ?_
    exact x_zret C hV (by decide) hM dX10_isUnder_35
  have hM := ite_f c2 hM
  refine lv_iload_n hx hb dX10_isUnder_9 rfl (lv_at hl 0 rfl) ?_
  refine lv_iconst (v := 5) hx hb dX10_isUnder_10 (by decide) ?_
  refine lv_icmp_ne (tgt := 19) hx hb dX10_isUnder_11 (by decide) (fun c3 => ?_) (fun c3 => ?_)
  · have hM := ite_f c3 hM
    exact tq_X10_isUnder_19 C _ _ _ _ _ _ hM hV (lv_sub hl [0, 1] rfl)
  have hM := ite_t c3 hM
  refine lv_iload_n hx hb dX10_isUnder_14 rfl (lv_at hl 1 rfl) ?_
  refine lv_iconst (v := 4) hx hb dX10_isUnder_15 (by decide) ?_
  refine lv_icmp_eq (tgt := 30) hx hb dX10_isUnder_16 (by decide) (fun c6 => ?_) (fun c6 => ?_)
  · have hM := ite_t c6 hM
    refine lv_iconst (v := 1) hx hb dX10_isUnder_30 (by decide) ?_
    refine lv_goto (tgt := 35) hx hb dX10_isUnder_31 (by decide) ?_
    exact x_zret C hV (by decide) hM dX10_isUnder_35
  have hM := ite_f c6 hM
  exact tq_X10_isUnder_19 C _ _ _ _ _ _ hM hV (lv_sub hl [0, 1] rfl)

def wp_X10_item (N : Nat) (S : PS) (a0 : Nat) (x1 : Int32) (x2 : Int32) (x3 : Int32) (K : Int32 → PS → Prop) : Prop := wp_X10_isSheet N S x1 (fun r2 S1 => if r2 = 0 then (K (-1) S1) else (wp_X10_within N S1 x2 0 3 (fun r6 S5 => if r6 = 0 then (K (-1) S5) else (S5.K a0 = 11 ∧ ∃ p10 : Nat, S5.R 718 a0 = some p10 ∧ S5.K p10 = 25 ∧ vp_in x1 (S5.ln p10) ∧ ∃ p13 : Nat, S5.Q p10 x1.toNatClampNeg = some p13 ∧ S5.K p13 = 5 ∧ if (S5.I 320 p13) = (-1) then (K (-11) S5) else (∃ p16 : Nat, S5.R 718 a0 = some p16 ∧ S5.K p16 = 25 ∧ vp_in x1 (S5.ln p16) ∧ ∃ p19 : Nat, S5.Q p16 x1.toNatClampNeg = some p19 ∧ S5.K p19 = 5 ∧ if (S5.I 320 p19) = x2 then (∃ p22 : Nat, S5.R 718 a0 = some p22 ∧ S5.K p22 = 25 ∧ vp_in x1 (S5.ln p22) ∧ ∃ p25 : Nat, S5.Q p22 x1.toNatClampNeg = some p25 ∧ S5.K p25 = 5 ∧ wp_X4_hasItem N S5 p25 x3 (fun r28 S27 => if r28 = 0 then (K (-12) S27) else (S27.K a0 = 11 ∧ ∃ p32 : Nat, S27.R 718 a0 = some p32 ∧ S27.K p32 = 25 ∧ vp_in x1 (S27.ln p32) ∧ ∃ p35 : Nat, S27.Q p32 x1.toNatClampNeg = some p35 ∧ S27.K p35 = 5 ∧ ∃ p37 : Nat, S27.R 322 p35 = some p37 ∧ S27.K p37 = 20 ∧ vp_in x3 (S27.ln p37) ∧ K (S27.A p37 x3.toNatClampNeg) S27))) else (K (-13) S5))))))
set_option maxHeartbeats 4000000 in
set_option maxRecDepth 100000 in
theorem c_X10_item {l : Launch} {D : DX} {cA : Nat → ClassId} {z0 N : Nat} {S : PS} {a0 : Nat} {x1 : Int32} {x2 : Int32} {x3 : Int32} {K : Int32 → PS → Prop} (hM : wp_X10_item N S a0 x1 x2 x3 K) : MetI l yX10_item cX10_item 4 (some .int) 2 0 0 D cA z0 [.ref a0, .int x1, .int x2, .int x3] S K := by
  refine x_met RX10 (by decide) rfl ?_
  intro p e s m below meth c C hin hV
  have hl := lv_entry ([.ref a0, .int x1, .int x2, .int x3]) (n := 4) (Nat.le_of_ble_eq_true rfl)
  rw [lg_entry_eq]
  generalize (lg_sl ([.ref a0, .int x1, .int x2, .int x3]) ++ List.replicate (4 - (lg_sl ([.ref a0, .int x1, .int x2, .int x3])).length) Slot.unset).toArray = ls at hl ⊢
  have hl : lv_has ls 4 [(0, .ref a0), (1, .int x1), (2, .int x2), (3, .int x3)] := hl
  obtain ⟨hx, hb, hml, hown, hts, hK, hz, hlk, hr⟩ := id C
  unfold wp_X10_item at hM
  refine lv_iload_n hx hb dX10_item_0 rfl (lv_at hl 1 rfl) ?_
  refine x_ci hV (x_runS (As := [.int x1]) (rest := []) C hV ms_X10_isSheet wl_X10_318 (c_X10_isSheet hM) ⟨by decide, by decide⟩ rfl hl.1 (Nat.le_of_ble_eq_true rfl) dX10_item_1 ⟨Nat.zero_le _, Nat.zero_le _⟩) (fun r2 S1 H locs hV hM => ?_)
  have hz3 := hM.1
  have hM := hM.2
  refine lv_if_eq (tgt := 16) hx hb dX10_item_4 (by decide) (fun c4 => ?_) (fun c4 => ?_)
  · have hM := ite_t c4 hM
    refine lv_iconst (v := (-1)) hx hb dX10_item_16 (by decide) ?_
    exact x_iret C hV hM dX10_item_17
  have hM := ite_f c4 hM
  refine lv_iload_n hx hb dX10_item_7 rfl (lv_at hl 2 rfl) ?_
  refine lv_iconst (v := 0) hx hb dX10_item_8 (by decide) ?_
  refine lv_iconst (v := 3) hx hb dX10_item_9 (by decide) ?_
  refine x_ci hV (x_runS (As := [.int x2, .int 0, .int 3]) (rest := []) C hV ms_X10_within wl_X10_94 (c_X10_within hM) ⟨by decide, by decide⟩ rfl hl.1 (Nat.le_of_ble_eq_true rfl) dX10_item_10 ⟨Nat.zero_le _, Nat.zero_le _⟩) (fun r6 S5 H locs hV hM => ?_)
  have hz7 := hM.1
  have hM := hM.2
  refine lv_if_ne (tgt := 18) hx hb dX10_item_13 (by decide) (fun c8 => ?_) (fun c8 => ?_)
  · have hM := ite_f c8 hM
    refine lv_aload_n hx hb dX10_item_18 rfl (lv_at hl 0 rfl) ?_
    have hk9 := hM.1
    have hM := hM.2
    obtain ⟨p10, hp10, hM⟩ := hM
    refine x_getR C hV wf_X10_75 hk9 hp10 dX10_item_19 ?_
    refine lv_iload_n hx hb dX10_item_22 rfl (lv_at hl 1 rfl) ?_
    have hk11 := hM.1
    have hM := hM.2
    have hi12 := hM.1
    have hM := hM.2
    obtain ⟨p13, hp13, hM⟩ := hM
    refine x_aald C hV hk11 (by decide) rfl hi12 hp13 dX10_item_23 ?_
    have hk14 := hM.1
    have hM := hM.2
    refine x_getI C hV wf_X10_324 hk14 dX10_item_24 ?_
    refine lv_iconst (v := (-1)) hx hb dX10_item_27 (by decide) ?_
    refine lv_icmp_ne (tgt := 34) hx hb dX10_item_28 (by decide) (fun c15 => ?_) (fun c15 => ?_)
    · have hM := ite_f c15 hM
      refine lv_aload_n hx hb dX10_item_34 rfl (lv_at hl 0 rfl) ?_
      obtain ⟨p16, hp16, hM⟩ := hM
      refine x_getR C hV wf_X10_75 hk9 hp16 dX10_item_35 ?_
      refine lv_iload_n hx hb dX10_item_38 rfl (lv_at hl 1 rfl) ?_
      have hk17 := hM.1
      have hM := hM.2
      have hi18 := hM.1
      have hM := hM.2
      obtain ⟨p19, hp19, hM⟩ := hM
      refine x_aald C hV hk17 (by decide) rfl hi18 hp19 dX10_item_39 ?_
      have hk20 := hM.1
      have hM := hM.2
      refine x_getI C hV wf_X10_324 hk20 dX10_item_40 ?_
      refine lv_iload_n hx hb dX10_item_43 rfl (lv_at hl 2 rfl) ?_
      refine lv_icmp_eq (tgt := 50) hx hb dX10_item_44 (by decide) (fun c21 => ?_) (fun c21 => ?_)
      · have hM := ite_t c21 hM
        refine lv_aload_n hx hb dX10_item_50 rfl (lv_at hl 0 rfl) ?_
        obtain ⟨p22, hp22, hM⟩ := hM
        refine x_getR C hV wf_X10_75 hk9 hp22 dX10_item_51 ?_
        refine lv_iload_n hx hb dX10_item_54 rfl (lv_at hl 1 rfl) ?_
        have hk23 := hM.1
        have hM := hM.2
        have hi24 := hM.1
        have hM := hM.2
        obtain ⟨p25, hp25, hM⟩ := hM
        refine x_aald C hV hk23 (by decide) rfl hi24 hp25 dX10_item_55 ?_
        refine lv_iload_n hx hb dX10_item_56 rfl (lv_at hl 3 rfl) ?_
        have hk26 := hM.1
        have hM := hM.2
        refine x_ci hV (x_runV (As := [.int x3]) (rest := []) C hV mi_X4_hasItem wl_X10_327 hk26 (c_X4_hasItem hM) ⟨by decide, by decide⟩ rfl hl.1 (Nat.le_of_ble_eq_true rfl) dX10_item_57 ⟨Nat.zero_le _, Nat.zero_le _⟩) (fun r28 S27 H locs hV hM => ?_)
        have hz29 := hM.1
        have hM := hM.2
        refine lv_if_eq (tgt := 77) hx hb dX10_item_60 (by decide) (fun c30 => ?_) (fun c30 => ?_)
        · have hM := ite_t c30 hM
          refine lv_bipush (v := (-12)) hx hb dX10_item_77 (by decide) ?_
          exact x_iret C hV hM dX10_item_79
        have hM := ite_f c30 hM
        refine lv_aload_n hx hb dX10_item_63 rfl (lv_at hl 0 rfl) ?_
        have hk31 := hM.1
        have hM := hM.2
        obtain ⟨p32, hp32, hM⟩ := hM
        refine x_getR C hV wf_X10_75 hk31 hp32 dX10_item_64 ?_
        refine lv_iload_n hx hb dX10_item_67 rfl (lv_at hl 1 rfl) ?_
        have hk33 := hM.1
        have hM := hM.2
        have hi34 := hM.1
        have hM := hM.2
        obtain ⟨p35, hp35, hM⟩ := hM
        refine x_aald C hV hk33 (by decide) rfl hi34 hp35 dX10_item_68 ?_
        have hk36 := hM.1
        have hM := hM.2
        obtain ⟨p37, hp37, hM⟩ := hM
        refine x_getR C hV wf_X10_333 hk36 hp37 dX10_item_69 ?_
        refine lv_iload_n hx hb dX10_item_72 rfl (lv_at hl 3 rfl) ?_
        have hk38 := hM.1
        have hM := hM.2
        have hi39 := hM.1
        have hM := hM.2
        refine x_iald C hV hk38 hi39 dX10_item_73 ?_
        refine lv_goto (tgt := 79) hx hb dX10_item_74 (by decide) ?_
        exact x_iret C hV hM dX10_item_79
      have hM := ite_f c21 hM
      refine lv_bipush (v := (-13)) hx hb dX10_item_47 (by decide) ?_
      exact x_iret C hV hM dX10_item_49
    have hM := ite_t c15 hM
    refine lv_bipush (v := (-11)) hx hb dX10_item_31 (by decide) ?_
    exact x_iret C hV hM dX10_item_33
  have hM := ite_t c8 hM
  refine lv_iconst (v := (-1)) hx hb dX10_item_16 (by decide) ?_
  exact x_iret C hV hM dX10_item_17

def wq_X10_judge_16 (N : Nat) (K : Int32 → PS → Prop) : Nat → PS → Nat → Int32 → Int32 → Int32 → Int32 → Prop
  | 0, _, _, _, _, _, _ => False
  | n + 1, S, a0, x1, x2, x3, x4 => S.K a0 = 11 ∧ ∃ p6 : Nat, S.R 704 a0 = some p6 ∧ S.K p6 = 10 ∧ if (S.I 644 p6) ≤ x4 then (if (S.I 717 a0) ≤ x2 then (K 0 S) else (K (x2 + 1) S)) else (∃ p10 : Nat, S.R 704 a0 = some p10 ∧ S.K p10 = 10 ∧ ∃ p12 : Nat, S.R 648 p10 = some p12 ∧ S.K p12 = 23 ∧ vp_in x4 (S.ln p12) ∧ ∃ p15 : Nat, S.Q p12 x4.toNatClampNeg = some p15 ∧ S.K p15 = 2 ∧ wp_X1_isIn N S p15 x1 (fun r18 S17 => if r18 = 0 then (wq_X10_judge_16 N K n S17 a0 x1 x2 x3 (x4 + 1)) else (S17.K a0 = 11 ∧ if x2 < (S17.I 717 a0) then (∃ p23 : Nat, S17.R 704 a0 = some p23 ∧ S17.K p23 = 10 ∧ ∃ p25 : Nat, S17.R 648 p23 = some p25 ∧ S17.K p25 = 23 ∧ vp_in x4 (S17.ln p25) ∧ ∃ p28 : Nat, S17.Q p25 x4.toNatClampNeg = some p28 ∧ ∃ p29 : Nat, S17.R 704 a0 = some p29 ∧ S17.K p29 = 10 ∧ S17.K p28 = 2 ∧ wp_X1_lateOn N S17 p28 (S17.I 640 p29) (fun r33 S32 => ∀ v34 : Int32, v34 = (x3 + r33) → ∀ v35 : Int32, v35 = (x2 * 3) → S32.K a0 = 11 ∧ ∃ p37 : Nat, S32.R 716 a0 = some p37 ∧ S32.K p37 = 20 ∧ vp_in v35 (S32.ln p37) ∧ if (S32.A p37 v35.toNatClampNeg) = x4 then (∃ p41 : Nat, S32.R 716 a0 = some p41 ∧ S32.K p41 = 20 ∧ vp_in (v35 + 1) (S32.ln p41) ∧ if (S32.A p41 (v35 + 1).toNatClampNeg) = r33 then (∃ p45 : Nat, S32.R 716 a0 = some p45 ∧ S32.K p45 = 20 ∧ vp_in (v35 + 2) (S32.ln p45) ∧ if (S32.A p45 (v35 + 2).toNatClampNeg) = v34 then (wq_X10_judge_16 N K n S32 a0 x1 (x2 + 1) v34 (x4 + 1)) else (K (x2 + 1) S32)) else (K (x2 + 1) S32)) else (K (x2 + 1) S32))) else (K 222 S17))))
def wp_X10_judge (N : Nat) (S : PS) (a0 : Nat) (x1 : Int32) (K : Int32 → PS → Prop) : Prop := wp_X10_isWay N S x1 (fun r2 S1 => if r2 = 0 then (K (-1) S1) else (wq_X10_judge_16 N K N S1 a0 x1 0 0 0))
set_option maxHeartbeats 4000000 in
set_option maxRecDepth 100000 in
theorem tq_X10_judge_16 {p : Program} {l : Launch} {e : Env} {s : State} {m : MethodId} {args : Array Value} {below : List Frame} {meth : Method} {c : Code} {D : DX} {cA : Nat → ClassId} {z0 N : Nat} {K : Int32 → PS → Prop} (C : CX p s m args meth c cX10_judge 7 RX10 (some .int) D cA z0) : ∀ (n : Nat) (S : PS) (a0 : Nat) (x1 : Int32) (x2 : Int32) (x3 : Int32) (x4 : Int32) (H : Heap) (locs : List Loc) (ls : Array Slot), wq_X10_judge_16 N K n S a0 x1 x2 x3 x4 → XV D cA z0 s S H locs → lv_has ls 7 [(0, .ref a0), (1, .int x1), (2, .int x2), (3, .int x3), (4, .int x4)] → W p l e (rmd 2 0 0) s m args below meth c H locs 0 0 (MQ below (va_Qi K (XK D cA z0) (zA z0)) args s 0 0 (zA z0)) (F0 m 16 ls []) := by
  obtain ⟨hx, hb, hml, hown, hts, hK, hz, hlk, hr⟩ := id C
  intro n
  induction n with
  | zero => intro S a0 x1 x2 x3 x4 H locs ls hM; exact absurd hM id
  | succ n ih =>
    intro S a0 x1 x2 x3 x4 H locs ls hM hV hl
    rw [wq_X10_judge_16.eq_2] at hM
    refine lv_iload hx hb dX10_judge_16 (lv_at hl 4 rfl) ?_
    refine lv_aload_n hx hb dX10_judge_18 rfl (lv_at hl 0 rfl) ?_
    have hk5 := hM.1
    have hM := hM.2
    obtain ⟨p6, hp6, hM⟩ := hM
    refine x_getR C hV wf_X10_10 hk5 hp6 dX10_judge_19 ?_
    have hk7 := hM.1
    have hM := hM.2
    refine x_getI C hV wf_X10_98 hk7 dX10_judge_22 ?_
    refine lv_icmp_ge (tgt := 139) hx hb dX10_judge_25 (by decide) (fun c8 => ?_) (fun c8 => ?_)
    · have hM := ite_t c8 hM
      refine lv_iload_n hx hb dX10_judge_139 rfl (lv_at hl 2 rfl) ?_
      refine lv_aload_n hx hb dX10_judge_140 rfl (lv_at hl 0 rfl) ?_
      refine x_getI C hV wf_X10_70 hk5 dX10_judge_141 ?_
      refine lv_icmp_ge (tgt := 153) hx hb dX10_judge_144 (by decide) (fun c9 => ?_) (fun c9 => ?_)
      · have hM := ite_t c9 hM
        refine lv_iconst (v := 0) hx hb dX10_judge_153 (by decide) ?_
        exact x_iret C hV hM dX10_judge_154
      have hM := ite_f c9 hM
      refine lv_iload_n hx hb dX10_judge_147 rfl (lv_at hl 2 rfl) ?_
      refine lv_iconst (v := 1) hx hb dX10_judge_148 (by decide) ?_
      refine lv_iadd hx hb dX10_judge_149 ?_
      refine lv_goto (tgt := 154) hx hb dX10_judge_150 (by decide) ?_
      exact x_iret C hV hM dX10_judge_154
    have hM := ite_f c8 hM
    refine lv_aload_n hx hb dX10_judge_28 rfl (lv_at hl 0 rfl) ?_
    obtain ⟨p10, hp10, hM⟩ := hM
    refine x_getR C hV wf_X10_10 hk5 hp10 dX10_judge_29 ?_
    have hk11 := hM.1
    have hM := hM.2
    obtain ⟨p12, hp12, hM⟩ := hM
    refine x_getR C hV wf_X10_101 hk11 hp12 dX10_judge_32 ?_
    refine lv_iload hx hb dX10_judge_35 (lv_at hl 4 rfl) ?_
    have hk13 := hM.1
    have hM := hM.2
    have hi14 := hM.1
    have hM := hM.2
    obtain ⟨p15, hp15, hM⟩ := hM
    refine x_aald C hV hk13 (by decide) rfl hi14 hp15 dX10_judge_37 ?_
    refine lv_iload_n hx hb dX10_judge_38 rfl (lv_at hl 1 rfl) ?_
    have hk16 := hM.1
    have hM := hM.2
    refine x_ci hV (x_runV (As := [.int x1]) (rest := []) C hV mi_X1_isIn wl_X10_165 hk16 (c_X1_isIn hM) ⟨by decide, by decide⟩ rfl hl.1 (Nat.le_of_ble_eq_true rfl) dX10_judge_39 ⟨Nat.zero_le _, Nat.zero_le _⟩) (fun r18 S17 H locs hV hM => ?_)
    have hz19 := hM.1
    have hM := hM.2
    refine lv_if_eq (tgt := 133) hx hb dX10_judge_42 (by decide) (fun c20 => ?_) (fun c20 => ?_)
    · have hM := ite_t c20 hM
      refine lv_iinc (v := (x4 + 1)) (lv' := [(4, .int (x4 + 1)), (0, .ref a0), (1, .int x1), (2, .int x2), (3, .int x3)]) hx hb dX10_judge_133 hl (k := 4) rfl rfl (by decide) rfl (fun ls hl => ?_)
      refine lv_goto (tgt := 16) hx hb dX10_judge_136 (by decide) ?_
      exact ih _ _ _ _ _ _ _ _ _ hM hV (lv_sub hl [1, 2, 3, 4, 0] rfl)
    have hM := ite_f c20 hM
    refine lv_iload_n hx hb dX10_judge_45 rfl (lv_at hl 2 rfl) ?_
    refine lv_aload_n hx hb dX10_judge_46 rfl (lv_at hl 0 rfl) ?_
    have hk21 := hM.1
    have hM := hM.2
    refine x_getI C hV wf_X10_70 hk21 dX10_judge_47 ?_
    refine lv_icmp_lt (tgt := 57) hx hb dX10_judge_50 (by decide) (fun c22 => ?_) (fun c22 => ?_)
    · have hM := ite_t c22 hM
      refine lv_aload_n hx hb dX10_judge_57 rfl (lv_at hl 0 rfl) ?_
      obtain ⟨p23, hp23, hM⟩ := hM
      refine x_getR C hV wf_X10_10 hk21 hp23 dX10_judge_58 ?_
      have hk24 := hM.1
      have hM := hM.2
      obtain ⟨p25, hp25, hM⟩ := hM
      refine x_getR C hV wf_X10_101 hk24 hp25 dX10_judge_61 ?_
      refine lv_iload hx hb dX10_judge_64 (lv_at hl 4 rfl) ?_
      have hk26 := hM.1
      have hM := hM.2
      have hi27 := hM.1
      have hM := hM.2
      obtain ⟨p28, hp28, hM⟩ := hM
      refine x_aald C hV hk26 (by decide) rfl hi27 hp28 dX10_judge_66 ?_
      refine lv_aload_n hx hb dX10_judge_67 rfl (lv_at hl 0 rfl) ?_
      obtain ⟨p29, hp29, hM⟩ := hM
      refine x_getR C hV wf_X10_10 hk21 hp29 dX10_judge_68 ?_
      have hk30 := hM.1
      have hM := hM.2
      refine x_getI C hV wf_X10_146 hk30 dX10_judge_71 ?_
      have hk31 := hM.1
      have hM := hM.2
      refine x_ci hV (x_runV (As := [.int (S17.I 640 p29)]) (rest := []) C hV mi_X1_lateOn wl_X10_168 hk31 (c_X1_lateOn hM) ⟨by decide, by decide⟩ rfl hl.1 (Nat.le_of_ble_eq_true rfl) dX10_judge_74 ⟨Nat.zero_le _, Nat.zero_le _⟩) (fun r33 S32 H locs hV hM => ?_)
      refine lv_istore (lv' := [(5, .int r33), (0, .ref a0), (1, .int x1), (2, .int x2), (3, .int x3), (4, .int x4)]) hx hb dX10_judge_77 hl (by decide) rfl (fun ls hl => ?_)
      refine lv_iload_n hx hb dX10_judge_79 rfl (lv_at hl 4 rfl) ?_
      refine lv_iload hx hb dX10_judge_80 (lv_at hl 0 rfl) ?_
      refine lv_iadd hx hb dX10_judge_82 ?_
      refine lv_topi (fun v34 ev34 => ?_)
      have hM := hM v34 ev34
      refine lv_istore_n (lv' := [(3, .int v34), (5, .int r33), (0, .ref a0), (1, .int x1), (2, .int x2), (4, .int x4)]) hx hb dX10_judge_83 rfl hl (by decide) rfl (fun ls hl => ?_)
      refine lv_iload_n hx hb dX10_judge_84 rfl (lv_at hl 4 rfl) ?_
      refine lv_iconst (v := 3) hx hb dX10_judge_85 (by decide) ?_
      refine lv_imul hx hb dX10_judge_86 ?_
      refine lv_topi (fun v35 ev35 => ?_)
      have hM := hM v35 ev35
      refine lv_istore (lv' := [(6, .int v35), (3, .int v34), (5, .int r33), (0, .ref a0), (1, .int x1), (2, .int x2), (4, .int x4)]) hx hb dX10_judge_87 hl (by decide) rfl (fun ls hl => ?_)
      refine lv_iinc (v := (x2 + 1)) (lv' := [(2, .int (x2 + 1)), (6, .int v35), (3, .int v34), (5, .int r33), (0, .ref a0), (1, .int x1), (4, .int x4)]) hx hb dX10_judge_89 hl (k := 5) rfl rfl (by decide) rfl (fun ls hl => ?_)
      refine lv_aload_n hx hb dX10_judge_92 rfl (lv_at hl 4 rfl) ?_
      have hk36 := hM.1
      have hM := hM.2
      obtain ⟨p37, hp37, hM⟩ := hM
      refine x_getR C hV wf_X10_67 hk36 hp37 dX10_judge_93 ?_
      refine lv_iload hx hb dX10_judge_96 (lv_at hl 1 rfl) ?_
      have hk38 := hM.1
      have hM := hM.2
      have hi39 := hM.1
      have hM := hM.2
      refine x_iald C hV hk38 hi39 dX10_judge_98 ?_
      refine lv_iload hx hb dX10_judge_99 (lv_at hl 6 rfl) ?_
      refine lv_icmp_ne (tgt := 131) hx hb dX10_judge_101 (by decide) (fun c40 => ?_) (fun c40 => ?_)
      · have hM := ite_f c40 hM
        refine lv_iload_n hx hb dX10_judge_131 rfl (lv_at hl 0 rfl) ?_
        exact x_iret C hV hM dX10_judge_132
      have hM := ite_t c40 hM
      refine lv_aload_n hx hb dX10_judge_104 rfl (lv_at hl 4 rfl) ?_
      obtain ⟨p41, hp41, hM⟩ := hM
      refine x_getR C hV wf_X10_67 hk36 hp41 dX10_judge_105 ?_
      refine lv_iload hx hb dX10_judge_108 (lv_at hl 1 rfl) ?_
      refine lv_iconst (v := 1) hx hb dX10_judge_110 (by decide) ?_
      refine lv_iadd hx hb dX10_judge_111 ?_
      have hk42 := hM.1
      have hM := hM.2
      have hi43 := hM.1
      have hM := hM.2
      refine x_iald C hV hk42 hi43 dX10_judge_112 ?_
      refine lv_iload hx hb dX10_judge_113 (lv_at hl 3 rfl) ?_
      refine lv_icmp_ne (tgt := 131) hx hb dX10_judge_115 (by decide) (fun c44 => ?_) (fun c44 => ?_)
      · have hM := ite_f c44 hM
        refine lv_iload_n hx hb dX10_judge_131 rfl (lv_at hl 0 rfl) ?_
        exact x_iret C hV hM dX10_judge_132
      have hM := ite_t c44 hM
      refine lv_aload_n hx hb dX10_judge_118 rfl (lv_at hl 4 rfl) ?_
      obtain ⟨p45, hp45, hM⟩ := hM
      refine x_getR C hV wf_X10_67 hk36 hp45 dX10_judge_119 ?_
      refine lv_iload hx hb dX10_judge_122 (lv_at hl 1 rfl) ?_
      refine lv_iconst (v := 2) hx hb dX10_judge_124 (by decide) ?_
      refine lv_iadd hx hb dX10_judge_125 ?_
      have hk46 := hM.1
      have hM := hM.2
      have hi47 := hM.1
      have hM := hM.2
      refine x_iald C hV hk46 hi47 dX10_judge_126 ?_
      refine lv_iload_n hx hb dX10_judge_127 rfl (lv_at hl 2 rfl) ?_
      refine lv_icmp_eq (tgt := 133) hx hb dX10_judge_128 (by decide) (fun c48 => ?_) (fun c48 => ?_)
      · have hM := ite_t c48 hM
        refine lv_iinc (v := (x4 + 1)) (lv' := [(4, .int (x4 + 1)), (2, .int (x2 + 1)), (6, .int v35), (3, .int v34), (5, .int r33), (0, .ref a0), (1, .int x1)]) hx hb dX10_judge_133 hl (k := 6) rfl rfl (by decide) rfl (fun ls hl => ?_)
        refine lv_goto (tgt := 16) hx hb dX10_judge_136 (by decide) ?_
        exact ih _ _ _ _ _ _ _ _ _ hM hV (lv_sub hl [5, 6, 1, 3, 0] rfl)
      have hM := ite_f c48 hM
      refine lv_iload_n hx hb dX10_judge_131 rfl (lv_at hl 0 rfl) ?_
      exact x_iret C hV hM dX10_judge_132
    have hM := ite_f c22 hM
    refine lv_sipush (v := 222) hx hb dX10_judge_53 (by decide) ?_
    exact x_iret C hV hM dX10_judge_56
set_option maxHeartbeats 4000000 in
set_option maxRecDepth 100000 in
theorem c_X10_judge {l : Launch} {D : DX} {cA : Nat → ClassId} {z0 N : Nat} {S : PS} {a0 : Nat} {x1 : Int32} {K : Int32 → PS → Prop} (hM : wp_X10_judge N S a0 x1 K) : MetI l yX10_judge cX10_judge 7 (some .int) 2 0 0 D cA z0 [.ref a0, .int x1] S K := by
  refine x_met RX10 (by decide) rfl ?_
  intro p e s m below meth c C hin hV
  have hl := lv_entry ([.ref a0, .int x1]) (n := 7) (Nat.le_of_ble_eq_true rfl)
  rw [lg_entry_eq]
  generalize (lg_sl ([.ref a0, .int x1]) ++ List.replicate (7 - (lg_sl ([.ref a0, .int x1])).length) Slot.unset).toArray = ls at hl ⊢
  have hl : lv_has ls 7 [(0, .ref a0), (1, .int x1)] := hl
  obtain ⟨hx, hb, hml, hown, hts, hK, hz, hlk, hr⟩ := id C
  unfold wp_X10_judge at hM
  refine lv_iload_n hx hb dX10_judge_0 rfl (lv_at hl 1 rfl) ?_
  refine x_ci hV (x_runS (As := [.int x1]) (rest := []) C hV ms_X10_isWay wl_X10_159 (c_X10_isWay hM) ⟨by decide, by decide⟩ rfl hl.1 (Nat.le_of_ble_eq_true rfl) dX10_judge_1 ⟨Nat.zero_le _, Nat.zero_le _⟩) (fun r2 S1 H locs hV hM => ?_)
  have hz3 := hM.1
  have hM := hM.2
  refine lv_if_ne (tgt := 9) hx hb dX10_judge_4 (by decide) (fun c4 => ?_) (fun c4 => ?_)
  · have hM := ite_f c4 hM
    refine lv_iconst (v := 0) hx hb dX10_judge_9 (by decide) ?_
    refine lv_istore_n (lv' := [(2, .int 0), (0, .ref a0), (1, .int x1)]) hx hb dX10_judge_10 rfl hl (by decide) rfl (fun ls hl => ?_)
    refine lv_iconst (v := 0) hx hb dX10_judge_11 (by decide) ?_
    refine lv_istore_n (lv' := [(3, .int 0), (2, .int 0), (0, .ref a0), (1, .int x1)]) hx hb dX10_judge_12 rfl hl (by decide) rfl (fun ls hl => ?_)
    refine lv_iconst (v := 0) hx hb dX10_judge_13 (by decide) ?_
    refine lv_istore (lv' := [(4, .int 0), (3, .int 0), (2, .int 0), (0, .ref a0), (1, .int x1)]) hx hb dX10_judge_14 hl (by decide) rfl (fun ls hl => ?_)
    exact tq_X10_judge_16 C N _ _ _ _ _ _ _ _ _ hM hV (lv_sub hl [3, 4, 2, 1, 0] rfl)
  have hM := ite_t c4 hM
  refine lv_iconst (v := (-1)) hx hb dX10_judge_7 (by decide) ?_
  exact x_iret C hV hM dX10_judge_8

def wq_X10_jump_152 (N : Nat) (K : Int64 → PS → Prop) (k_72 : PS → Nat → Int32 → Int32 → Int64 → Int64 → Int64 → Int64 → Int32 → Int32 → Prop) (S : PS) (a0 : Nat) (x2 : Int32) (x3 : Int32) (j4 : Int64) (j6 : Int64) (x13 : Int32) (j14 : Int64) (j16 : Int64) : Prop := S.K a0 = 11 ∧ ∃ p39 : Nat, S.R 704 a0 = some p39 ∧ S.K p39 = 10 ∧ ∃ p41 : Nat, S.R 649 p39 = some p41 ∧ ∃ p42 : Nat, S.R 715 a0 = some p42 ∧ S.K p42 = 20 ∧ vp_in x13 (S.ln p42) ∧ S.K p41 = 20 ∧ vp_in (S.A p42 x13.toNatClampNeg) (S.ln p41) ∧ ∀ v47 : Int32, v47 = (S.A p41 (S.A p42 x13.toNatClampNeg).toNatClampNeg) → k_72 S a0 x2 x3 j4 j6 j14 j16 v47 (x13 + 1)
def wq_X10_jump_72 (N : Nat) (K : Int64 → PS → Prop) : Nat → PS → Nat → Int32 → Int32 → Int64 → Int64 → Int64 → Int64 → Int32 → Int32 → Prop
  | 0, _, _, _, _, _, _, _, _, _, _ => False
  | n + 1, S, a0, x2, x3, j4, j6, j8, j10, x12, x13 => if x3 ≤ x13 then (if x2 = 0 then (K x12.toInt64 S) else (wp_X10_fraction N S j8 j10 (x2 - 1) (fun r24 S23 => K r24 S23))) else (S.K a0 = 11 ∧ ∃ p26 : Nat, S.R 704 a0 = some p26 ∧ S.K p26 = 10 ∧ ∃ p28 : Nat, S.R 651 p26 = some p28 ∧ ∃ p29 : Nat, S.R 715 a0 = some p29 ∧ S.K p29 = 20 ∧ vp_in (x13 - 1) (S.ln p29) ∧ S.K p28 = 20 ∧ vp_in (S.A p29 (x13 - 1).toNatClampNeg) (S.ln p28) ∧ ∀ v34 : Int64, v34 = (j6 + (S.A p28 (S.A p29 (x13 - 1).toNatClampNeg).toNatClampNeg).toInt64) → ∀ v35 : Int64, v35 = ((x13.toInt64 * j4) - (x3.toInt64 * v34)) → ∀ v36 : Int64, v36 = (x13.toInt64 * (x3 - x13).toInt64) → if x13 = 1 then (wq_X10_jump_152 N K (fun S a0 x2 x3 j4 j6 j8 j10 x12 x13 => wq_X10_jump_72 N K n S a0 x2 x3 j4 j6 j8 j10 x12 x13) S a0 x2 x3 j4 v34 x13 v35 v36) else (if (lg_cmp ((if 0 < v35 then v35 else -v35) * j10) ((if 0 < j8 then j8 else -j8) * v36)) ≤ 0 then (wq_X10_jump_72 N K n S a0 x2 x3 j4 v34 j8 j10 x12 (x13 + 1)) else (wq_X10_jump_152 N K (fun S a0 x2 x3 j4 j6 j8 j10 x12 x13 => wq_X10_jump_72 N K n S a0 x2 x3 j4 j6 j8 j10 x12 x13) S a0 x2 x3 j4 v34 x13 v35 v36)))
def wp_X10_jump (N : Nat) (S : PS) (a0 : Nat) (x1 : Int32) (x2 : Int32) (K : Int64 → PS → Prop) : Prop := wp_X10_isWay N S x1 (fun r2 S1 => if r2 = 0 then (K (-2147483648 : Int64) S1) else (wp_X10_within N S1 x2 0 2 (fun r6 S5 => if r6 = 0 then (K (-2147483648 : Int64) S5) else (S5.K a0 = 11 ∧ ∃ p10 : Nat, S5.R 704 a0 = some p10 ∧ ∃ p11 : Nat, S5.R 715 a0 = some p11 ∧ S5.K p10 = 10 ∧ wp_X9_orderRuns N S5 p10 x1 p11 (fun r14 S13 => if 2 ≤ r14 then (S13.K a0 = 11 ∧ ∃ p17 : Nat, S13.R 704 a0 = some p17 ∧ S13.K p17 = 10 ∧ wp_X9_sumRuns N S13 p17 x1 0 999 (fun r20 S19 => wq_X10_jump_72 N K N S19 a0 x2 r14 r20.toInt64 (0 : Int64) (0 : Int64) (1 : Int64) 0 1)) else (K (-2147483648 : Int64) S13))))))
set_option maxHeartbeats 4000000 in
set_option maxRecDepth 100000 in
theorem tq_X10_jump_152 {p : Program} {l : Launch} {e : Env} {s : State} {m : MethodId} {args : Array Value} {below : List Frame} {meth : Method} {c : Code} {D : DX} {cA : Nat → ClassId} {z0 N : Nat} {K : Int64 → PS → Prop} {k_72 : PS → Nat → Int32 → Int32 → Int64 → Int64 → Int64 → Int64 → Int32 → Int32 → Prop} (C : CX p s m args meth c cX10_jump 18 RX10 (some .long) D cA z0) (H_72 : ∀ (S : PS) (a0 : Nat) (x2 : Int32) (x3 : Int32) (j4 : Int64) (j6 : Int64) (j8 : Int64) (j10 : Int64) (x12 : Int32) (x13 : Int32) (H : Heap) (locs : List Loc) (ls : Array Slot), k_72 S a0 x2 x3 j4 j6 j8 j10 x12 x13 → XV D cA z0 s S H locs → lv_has ls 18 [(0, .ref a0), (2, .int x2), (3, .int x3), (4, .long j4), (6, .long j6), (8, .long j8), (10, .long j10), (12, .int x12), (13, .int x13)] → W p l e (rmd 2 0 0) s m args below meth c H locs 0 0 (MQ below (va_Ql K (XK D cA z0) (zA z0)) args s 0 0 (zA z0)) (F0 m 72 ls [])) : ∀ (S : PS) (a0 : Nat) (x2 : Int32) (x3 : Int32) (j4 : Int64) (j6 : Int64) (x13 : Int32) (j14 : Int64) (j16 : Int64) (H : Heap) (locs : List Loc) (ls : Array Slot), wq_X10_jump_152 N K k_72 S a0 x2 x3 j4 j6 x13 j14 j16 → XV D cA z0 s S H locs → lv_has ls 18 [(0, .ref a0), (2, .int x2), (3, .int x3), (4, .long j4), (6, .long j6), (13, .int x13), (14, .long j14), (16, .long j16)] → W p l e (rmd 2 0 0) s m args below meth c H locs 0 0 (MQ below (va_Ql K (XK D cA z0) (zA z0)) args s 0 0 (zA z0)) (F0 m 152 ls []) := by
  obtain ⟨hx, hb, hml, hown, hts, hK, hz, hlk, hr⟩ := id C
  intro S a0 x2 x3 j4 j6 x13 j14 j16 H locs ls hM hV hl
  unfold wq_X10_jump_152 at hM
  refine lv_lload hx hb dX10_jump_152 (lv_at hl 6 rfl) ?_
  refine lv_lstore (lv' := [(8, .long j14), (0, .ref a0), (2, .int x2), (3, .int x3), (4, .long j4), (6, .long j6), (13, .int x13), (14, .long j14), (16, .long j16)]) hx hb dX10_jump_154 hl (by decide) rfl (fun ls hl => ?_)
  refine lv_lload hx hb dX10_jump_156 (lv_at hl 8 rfl) ?_
  refine lv_lstore (lv' := [(10, .long j16), (8, .long j14), (0, .ref a0), (2, .int x2), (3, .int x3), (4, .long j4), (6, .long j6), (13, .int x13), (14, .long j14), (16, .long j16)]) hx hb dX10_jump_158 hl (by decide) rfl (fun ls hl => ?_)
  refine lv_aload_n hx hb dX10_jump_160 rfl (lv_at hl 2 rfl) ?_
  have hk38 := hM.1
  have hM := hM.2
  obtain ⟨p39, hp39, hM⟩ := hM
  refine x_getR C hV wf_X10_10 hk38 hp39 dX10_jump_161 ?_
  have hk40 := hM.1
  have hM := hM.2
  obtain ⟨p41, hp41, hM⟩ := hM
  refine x_getR C hV wf_X10_179 hk40 hp41 dX10_jump_164 ?_
  refine lv_aload_n hx hb dX10_jump_167 rfl (lv_at hl 2 rfl) ?_
  obtain ⟨p42, hp42, hM⟩ := hM
  refine x_getR C hV wf_X10_64 hk38 hp42 dX10_jump_168 ?_
  refine lv_iload hx hb dX10_jump_171 (lv_at hl 7 rfl) ?_
  have hk43 := hM.1
  have hM := hM.2
  have hi44 := hM.1
  have hM := hM.2
  refine x_iald C hV hk43 hi44 dX10_jump_173 ?_
  have hk45 := hM.1
  have hM := hM.2
  have hi46 := hM.1
  have hM := hM.2
  refine x_iald C hV hk45 hi46 dX10_jump_174 ?_
  refine lv_topi (fun v47 ev47 => ?_)
  have hM := hM v47 ev47
  refine lv_istore (lv' := [(12, .int v47), (10, .long j16), (8, .long j14), (0, .ref a0), (2, .int x2), (3, .int x3), (4, .long j4), (6, .long j6), (13, .int x13), (14, .long j14), (16, .long j16)]) hx hb dX10_jump_175 hl (by decide) rfl (fun ls hl => ?_)
  refine lv_iinc (v := (x13 + 1)) (lv' := [(13, .int (x13 + 1)), (12, .int v47), (10, .long j16), (8, .long j14), (0, .ref a0), (2, .int x2), (3, .int x3), (4, .long j4), (6, .long j6), (14, .long j14), (16, .long j16)]) hx hb dX10_jump_177 hl (k := 8) rfl rfl (by decide) rfl (fun ls hl => ?_)
  refine lv_goto (tgt := 72) hx hb dX10_jump_180 (by decide) ?_
  exact H_72 _ _ _ _ _ _ _ _ _ _ _ _ _ hM hV (lv_sub hl [4, 5, 6, 7, 8, 3, 2, 1, 0] rfl)
set_option maxHeartbeats 4000000 in
set_option maxRecDepth 100000 in
theorem tq_X10_jump_72 {p : Program} {l : Launch} {e : Env} {s : State} {m : MethodId} {args : Array Value} {below : List Frame} {meth : Method} {c : Code} {D : DX} {cA : Nat → ClassId} {z0 N : Nat} {K : Int64 → PS → Prop} (C : CX p s m args meth c cX10_jump 18 RX10 (some .long) D cA z0) : ∀ (n : Nat) (S : PS) (a0 : Nat) (x2 : Int32) (x3 : Int32) (j4 : Int64) (j6 : Int64) (j8 : Int64) (j10 : Int64) (x12 : Int32) (x13 : Int32) (H : Heap) (locs : List Loc) (ls : Array Slot), wq_X10_jump_72 N K n S a0 x2 x3 j4 j6 j8 j10 x12 x13 → XV D cA z0 s S H locs → lv_has ls 18 [(0, .ref a0), (2, .int x2), (3, .int x3), (4, .long j4), (6, .long j6), (8, .long j8), (10, .long j10), (12, .int x12), (13, .int x13)] → W p l e (rmd 2 0 0) s m args below meth c H locs 0 0 (MQ below (va_Ql K (XK D cA z0) (zA z0)) args s 0 0 (zA z0)) (F0 m 72 ls []) := by
  obtain ⟨hx, hb, hml, hown, hts, hK, hz, hlk, hr⟩ := id C
  intro n
  induction n with
  | zero => intro S a0 x2 x3 j4 j6 j8 j10 x12 x13 H locs ls hM; exact absurd hM id
  | succ n ih =>
    intro S a0 x2 x3 j4 j6 j8 j10 x12 x13 H locs ls hM hV hl
    rw [wq_X10_jump_72.eq_2] at hM
    refine lv_iload hx hb dX10_jump_72 (lv_at hl 8 rfl) ?_
    refine lv_iload_n hx hb dX10_jump_74 rfl (lv_at hl 2 rfl) ?_
    refine lv_icmp_ge (tgt := 183) hx hb dX10_jump_75 (by decide) (fun c21 => ?_) (fun c21 => ?_)
    · have hM := ite_t c21 hM
      refine lv_iload_n hx hb dX10_jump_183 rfl (lv_at hl 1 rfl) ?_
      refine lv_if_ne (tgt := 193) hx hb dX10_jump_184 (by decide) (fun c22 => ?_) (fun c22 => ?_)
      · have hM := ite_f c22 hM
        refine lv_lload hx hb dX10_jump_193 (lv_at hl 5 rfl) ?_
        refine lv_lload hx hb dX10_jump_195 (lv_at hl 6 rfl) ?_
        refine lv_iload_n hx hb dX10_jump_197 rfl (lv_at hl 1 rfl) ?_
        refine lv_iconst (v := 1) hx hb dX10_jump_198 (by decide) ?_
        refine lv_isub hx hb dX10_jump_199 ?_
        refine x_cl hV (x_runS (As := [.long j8, .long j10, .int (x2 - 1)]) (rest := []) C hV ms_X10_fraction wl_X10_238 (c_X10_fraction hM) ⟨by decide, by decide⟩ rfl hl.1 (Nat.le_of_ble_eq_true rfl) dX10_jump_200 ⟨Nat.zero_le _, Nat.zero_le _⟩) (fun r24 S23 H locs hV hM => ?_)
        exact x_lret C hV hM dX10_jump_203
      have hM := ite_t c22 hM
      refine lv_iload hx hb dX10_jump_187 (lv_at hl 7 rfl) ?_
      refine lv_i2l hx hb dX10_jump_189 rfl ?_
      refine lv_goto (tgt := 203) hx hb dX10_jump_190 (by decide) ?_
      exact x_lret C hV hM dX10_jump_203
    have hM := ite_f c21 hM
    refine lv_lload hx hb dX10_jump_78 (lv_at hl 4 rfl) ?_
    refine lv_aload_n hx hb dX10_jump_80 rfl (lv_at hl 0 rfl) ?_
    have hk25 := hM.1
    have hM := hM.2
    obtain ⟨p26, hp26, hM⟩ := hM
    refine x_getR C hV wf_X10_10 hk25 hp26 dX10_jump_81 ?_
    have hk27 := hM.1
    have hM := hM.2
    obtain ⟨p28, hp28, hM⟩ := hM
    refine x_getR C hV wf_X10_185 hk27 hp28 dX10_jump_84 ?_
    refine lv_aload_n hx hb dX10_jump_87 rfl (lv_at hl 0 rfl) ?_
    obtain ⟨p29, hp29, hM⟩ := hM
    refine x_getR C hV wf_X10_64 hk25 hp29 dX10_jump_88 ?_
    refine lv_iload hx hb dX10_jump_91 (lv_at hl 8 rfl) ?_
    refine lv_iconst (v := 1) hx hb dX10_jump_93 (by decide) ?_
    refine lv_isub hx hb dX10_jump_94 ?_
    have hk30 := hM.1
    have hM := hM.2
    have hi31 := hM.1
    have hM := hM.2
    refine x_iald C hV hk30 hi31 dX10_jump_95 ?_
    have hk32 := hM.1
    have hM := hM.2
    have hi33 := hM.1
    have hM := hM.2
    refine x_iald C hV hk32 hi33 dX10_jump_96 ?_
    refine lv_i2l hx hb dX10_jump_97 rfl ?_
    refine lv_ladd hx hb dX10_jump_98 ?_
    refine lv_topl (fun v34 ev34 => ?_)
    have hM := hM v34 ev34
    refine lv_lstore (lv' := [(6, .long v34), (0, .ref a0), (2, .int x2), (3, .int x3), (4, .long j4), (8, .long j8), (10, .long j10), (12, .int x12), (13, .int x13)]) hx hb dX10_jump_99 hl (by decide) rfl (fun ls hl => ?_)
    refine lv_iload hx hb dX10_jump_101 (lv_at hl 8 rfl) ?_
    refine lv_i2l hx hb dX10_jump_103 rfl ?_
    refine lv_lload hx hb dX10_jump_104 (lv_at hl 4 rfl) ?_
    refine lv_lmul hx hb dX10_jump_106 ?_
    refine lv_iload_n hx hb dX10_jump_107 rfl (lv_at hl 3 rfl) ?_
    refine lv_i2l hx hb dX10_jump_108 rfl ?_
    refine lv_lload hx hb dX10_jump_109 (lv_at hl 0 rfl) ?_
    refine lv_lmul hx hb dX10_jump_111 ?_
    refine lv_lsub hx hb dX10_jump_112 ?_
    refine lv_topl (fun v35 ev35 => ?_)
    have hM := hM v35 ev35
    refine lv_lstore (lv' := [(14, .long v35), (6, .long v34), (0, .ref a0), (2, .int x2), (3, .int x3), (4, .long j4), (8, .long j8), (10, .long j10), (12, .int x12), (13, .int x13)]) hx hb dX10_jump_113 hl (by decide) rfl (fun ls hl => ?_)
    refine lv_iload hx hb dX10_jump_115 (lv_at hl 9 rfl) ?_
    refine lv_i2l hx hb dX10_jump_117 rfl ?_
    refine lv_iload_n hx hb dX10_jump_118 rfl (lv_at hl 4 rfl) ?_
    refine lv_iload hx hb dX10_jump_119 (lv_at hl 9 rfl) ?_
    refine lv_isub hx hb dX10_jump_121 ?_
    refine lv_i2l hx hb dX10_jump_122 rfl ?_
    refine lv_lmul hx hb dX10_jump_123 ?_
    refine lv_topl (fun v36 ev36 => ?_)
    have hM := hM v36 ev36
    refine lv_lstore (lv' := [(16, .long v36), (14, .long v35), (6, .long v34), (0, .ref a0), (2, .int x2), (3, .int x3), (4, .long j4), (8, .long j8), (10, .long j10), (12, .int x12), (13, .int x13)]) hx hb dX10_jump_124 hl (by decide) rfl (fun ls hl => ?_)
    refine lv_iload hx hb dX10_jump_126 (lv_at hl 10 rfl) ?_
    refine lv_iconst (v := 1) hx hb dX10_jump_128 (by decide) ?_
    refine lv_icmp_eq (tgt := 152) hx hb dX10_jump_129 (by decide) (fun c37 => ?_) (fun c37 => ?_)
    · have hM := ite_t c37 hM
      exact tq_X10_jump_152 C ih _ _ _ _ _ _ _ _ _ _ _ _ hM hV (lv_sub hl [3, 4, 5, 6, 2, 10, 1, 0] rfl)
    have hM := ite_f c37 hM
    refine lv_lload hx hb dX10_jump_132 (lv_at hl 1 rfl) ?_
    refine x_mabsl C hl.1 wl_X10_284 (by decide) (by decide) (Nat.zero_le _) (Nat.zero_le _) (Nat.le_of_ble_eq_true rfl) dX10_jump_134 ?_
    refine lv_lload hx hb dX10_jump_137 (lv_at hl 8 rfl) ?_
    refine lv_lmul hx hb dX10_jump_139 ?_
    refine lv_lload hx hb dX10_jump_140 (lv_at hl 7 rfl) ?_
    refine x_mabsl C hl.1 wl_X10_284 (by decide) (by decide) (Nat.zero_le _) (Nat.zero_le _) (Nat.le_of_ble_eq_true rfl) dX10_jump_142 ?_
    refine lv_lload hx hb dX10_jump_145 (lv_at hl 0 rfl) ?_
    refine lv_lmul hx hb dX10_jump_147 ?_
    refine W.lcmp hx hb dX10_jump_148 ?_
    refine lv_if_le (tgt := 177) hx hb dX10_jump_149 (by decide) (fun c48 => ?_) (fun c48 => ?_)
    · have hM := ite_t c48 hM
      refine lv_iinc (v := (x13 + 1)) (lv' := [(13, .int (x13 + 1)), (16, .long v36), (14, .long v35), (6, .long v34), (0, .ref a0), (2, .int x2), (3, .int x3), (4, .long j4), (8, .long j8), (10, .long j10), (12, .int x12)]) hx hb dX10_jump_177 hl (k := 10) rfl rfl (by decide) rfl (fun ls hl => ?_)
      refine lv_goto (tgt := 72) hx hb dX10_jump_180 (by decide) ?_
      exact ih _ _ _ _ _ _ _ _ _ _ _ _ _ hM hV (lv_sub hl [4, 5, 6, 7, 3, 8, 9, 10, 0] rfl)
    have hM := ite_f c48 hM
    exact tq_X10_jump_152 C ih _ _ _ _ _ _ _ _ _ _ _ _ hM hV (lv_sub hl [3, 4, 5, 6, 2, 10, 1, 0] rfl)
set_option maxHeartbeats 4000000 in
set_option maxRecDepth 100000 in
theorem c_X10_jump {l : Launch} {D : DX} {cA : Nat → ClassId} {z0 N : Nat} {S : PS} {a0 : Nat} {x1 : Int32} {x2 : Int32} {K : Int64 → PS → Prop} (hM : wp_X10_jump N S a0 x1 x2 K) : MetL l yX10_jump cX10_jump 18 (some .long) 2 0 0 D cA z0 [.ref a0, .int x1, .int x2] S K := by
  refine x_met RX10 (by decide) rfl ?_
  intro p e s m below meth c C hin hV
  have hl := lv_entry ([.ref a0, .int x1, .int x2]) (n := 18) (Nat.le_of_ble_eq_true rfl)
  rw [lg_entry_eq]
  generalize (lg_sl ([.ref a0, .int x1, .int x2]) ++ List.replicate (18 - (lg_sl ([.ref a0, .int x1, .int x2])).length) Slot.unset).toArray = ls at hl ⊢
  have hl : lv_has ls 18 [(0, .ref a0), (1, .int x1), (2, .int x2)] := hl
  obtain ⟨hx, hb, hml, hown, hts, hK, hz, hlk, hr⟩ := id C
  unfold wp_X10_jump at hM
  refine lv_iload_n hx hb dX10_jump_0 rfl (lv_at hl 1 rfl) ?_
  refine x_ci hV (x_runS (As := [.int x1]) (rest := []) C hV ms_X10_isWay wl_X10_159 (c_X10_isWay hM) ⟨by decide, by decide⟩ rfl hl.1 (Nat.le_of_ble_eq_true rfl) dX10_jump_1 ⟨Nat.zero_le _, Nat.zero_le _⟩) (fun r2 S1 H locs hV hM => ?_)
  have hz3 := hM.1
  have hM := hM.2
  refine lv_if_eq (tgt := 16) hx hb dX10_jump_4 (by decide) (fun c4 => ?_) (fun c4 => ?_)
  · have hM := ite_t c4 hM
    refine lv_ldc2 hx hb hown (hts _ wc_X10_278) dX10_jump_16 ?_
    exact x_lret C hV hM dX10_jump_19
  have hM := ite_f c4 hM
  refine lv_iload_n hx hb dX10_jump_7 rfl (lv_at hl 2 rfl) ?_
  refine lv_iconst (v := 0) hx hb dX10_jump_8 (by decide) ?_
  refine lv_iconst (v := 2) hx hb dX10_jump_9 (by decide) ?_
  refine x_ci hV (x_runS (As := [.int x2, .int 0, .int 2]) (rest := []) C hV ms_X10_within wl_X10_94 (c_X10_within hM) ⟨by decide, by decide⟩ rfl hl.1 (Nat.le_of_ble_eq_true rfl) dX10_jump_10 ⟨Nat.zero_le _, Nat.zero_le _⟩) (fun r6 S5 H locs hV hM => ?_)
  have hz7 := hM.1
  have hM := hM.2
  refine lv_if_ne (tgt := 20) hx hb dX10_jump_13 (by decide) (fun c8 => ?_) (fun c8 => ?_)
  · have hM := ite_f c8 hM
    refine lv_aload_n hx hb dX10_jump_20 rfl (lv_at hl 0 rfl) ?_
    have hk9 := hM.1
    have hM := hM.2
    obtain ⟨p10, hp10, hM⟩ := hM
    refine x_getR C hV wf_X10_10 hk9 hp10 dX10_jump_21 ?_
    refine lv_iload_n hx hb dX10_jump_24 rfl (lv_at hl 1 rfl) ?_
    refine lv_aload_n hx hb dX10_jump_25 rfl (lv_at hl 0 rfl) ?_
    obtain ⟨p11, hp11, hM⟩ := hM
    refine x_getR C hV wf_X10_64 hk9 hp11 dX10_jump_26 ?_
    have hk12 := hM.1
    have hM := hM.2
    refine x_ci hV (x_runV (As := [.int x1, .ref p11]) (rest := []) C hV mi_X9_orderRuns wl_X10_280 hk12 (c_X9_orderRuns hM) ⟨by decide, by decide⟩ rfl hl.1 (Nat.le_of_ble_eq_true rfl) dX10_jump_29 ⟨Nat.zero_le _, Nat.zero_le _⟩) (fun r14 S13 H locs hV hM => ?_)
    refine lv_istore_n (lv' := [(3, .int r14), (0, .ref a0), (1, .int x1), (2, .int x2)]) hx hb dX10_jump_32 rfl hl (by decide) rfl (fun ls hl => ?_)
    refine lv_iload_n hx hb dX10_jump_33 rfl (lv_at hl 0 rfl) ?_
    refine lv_iconst (v := 2) hx hb dX10_jump_34 (by decide) ?_
    refine lv_icmp_ge (tgt := 42) hx hb dX10_jump_35 (by decide) (fun c15 => ?_) (fun c15 => ?_)
    · have hM := ite_t c15 hM
      refine lv_aload_n hx hb dX10_jump_42 rfl (lv_at hl 1 rfl) ?_
      have hk16 := hM.1
      have hM := hM.2
      obtain ⟨p17, hp17, hM⟩ := hM
      refine x_getR C hV wf_X10_10 hk16 hp17 dX10_jump_43 ?_
      refine lv_iload_n hx hb dX10_jump_46 rfl (lv_at hl 2 rfl) ?_
      refine lv_iconst (v := 0) hx hb dX10_jump_47 (by decide) ?_
      refine lv_sipush (v := 999) hx hb dX10_jump_48 (by decide) ?_
      have hk18 := hM.1
      have hM := hM.2
      refine x_ci hV (x_runV (As := [.int x1, .int 0, .int 999]) (rest := []) C hV mi_X9_sumRuns wl_X10_267 hk18 (c_X9_sumRuns hM) ⟨by decide, by decide⟩ rfl hl.1 (Nat.le_of_ble_eq_true rfl) dX10_jump_51 ⟨Nat.zero_le _, Nat.zero_le _⟩) (fun r20 S19 H locs hV hM => ?_)
      refine lv_i2l hx hb dX10_jump_54 rfl ?_
      refine lv_lstore (lv' := [(4, .long r20.toInt64), (3, .int r14), (0, .ref a0), (1, .int x1), (2, .int x2)]) hx hb dX10_jump_55 hl (by decide) rfl (fun ls hl => ?_)
      refine lv_lconst (v := 0) hx hb dX10_jump_57 (by decide) ?_
      refine lv_lstore (lv' := [(6, .long (0 : Int64)), (4, .long r20.toInt64), (3, .int r14), (0, .ref a0), (1, .int x1), (2, .int x2)]) hx hb dX10_jump_58 hl (by decide) rfl (fun ls hl => ?_)
      refine lv_lconst (v := 0) hx hb dX10_jump_60 (by decide) ?_
      refine lv_lstore (lv' := [(8, .long (0 : Int64)), (6, .long (0 : Int64)), (4, .long r20.toInt64), (3, .int r14), (0, .ref a0), (1, .int x1), (2, .int x2)]) hx hb dX10_jump_61 hl (by decide) rfl (fun ls hl => ?_)
      refine lv_lconst (v := 1) hx hb dX10_jump_63 (by decide) ?_
      refine lv_lstore (lv' := [(10, .long (1 : Int64)), (8, .long (0 : Int64)), (6, .long (0 : Int64)), (4, .long r20.toInt64), (3, .int r14), (0, .ref a0), (1, .int x1), (2, .int x2)]) hx hb dX10_jump_64 hl (by decide) rfl (fun ls hl => ?_)
      refine lv_iconst (v := 0) hx hb dX10_jump_66 (by decide) ?_
      refine lv_istore (lv' := [(12, .int 0), (10, .long (1 : Int64)), (8, .long (0 : Int64)), (6, .long (0 : Int64)), (4, .long r20.toInt64), (3, .int r14), (0, .ref a0), (1, .int x1), (2, .int x2)]) hx hb dX10_jump_67 hl (by decide) rfl (fun ls hl => ?_)
      refine lv_iconst (v := 1) hx hb dX10_jump_69 (by decide) ?_
      refine lv_istore (lv' := [(13, .int 1), (12, .int 0), (10, .long (1 : Int64)), (8, .long (0 : Int64)), (6, .long (0 : Int64)), (4, .long r20.toInt64), (3, .int r14), (0, .ref a0), (1, .int x1), (2, .int x2)]) hx hb dX10_jump_70 hl (by decide) rfl (fun ls hl => ?_)
      exact tq_X10_jump_72 C N _ _ _ _ _ _ _ _ _ _ _ _ _ hM hV (lv_sub hl [7, 9, 6, 5, 4, 3, 2, 1, 0] rfl)
    have hM := ite_f c15 hM
    refine lv_ldc2 hx hb hown (hts _ wc_X10_278) dX10_jump_38 ?_
    exact x_lret C hV hM dX10_jump_41
  have hM := ite_t c8 hM
  refine lv_ldc2 hx hb hown (hts _ wc_X10_278) dX10_jump_16 ?_
  exact x_lret C hV hM dX10_jump_19

def wp_X10_keep (N : Nat) (S : PS) (a0 : Nat) (K : Int32 → PS → Prop) : Prop := S.K a0 = 11 ∧ ∃ p2 : Nat, S.R 705 a0 = some p2 ∧ ∃ p3 : Nat, S.R 704 a0 = some p3 ∧ S.K p2 = 10 ∧ wp_X9_become N S p2 p3 (fun S5 => S5.K a0 = 11 ∧ ∀ S8 : PS, S8 = S5.setI 706 a0 1 → K 1 S8)
set_option maxHeartbeats 4000000 in
set_option maxRecDepth 100000 in
theorem c_X10_keep {l : Launch} {D : DX} {cA : Nat → ClassId} {z0 N : Nat} {S : PS} {a0 : Nat} {K : Int32 → PS → Prop} (hM : wp_X10_keep N S a0 K) : MetI l yX10_keep cX10_keep 1 (some .int) 2 0 0 D cA z0 [.ref a0] S K := by
  refine x_met RX10 (by decide) rfl ?_
  intro p e s m below meth c C hin hV
  have hl := lv_entry ([.ref a0]) (n := 1) (Nat.le_of_ble_eq_true rfl)
  rw [lg_entry_eq]
  generalize (lg_sl ([.ref a0]) ++ List.replicate (1 - (lg_sl ([.ref a0])).length) Slot.unset).toArray = ls at hl ⊢
  have hl : lv_has ls 1 [(0, .ref a0)] := hl
  obtain ⟨hx, hb, hml, hown, hts, hK, hz, hlk, hr⟩ := id C
  unfold wp_X10_keep at hM
  refine lv_aload_n hx hb dX10_keep_0 rfl (lv_at hl 0 rfl) ?_
  have hk1 := hM.1
  have hM := hM.2
  obtain ⟨p2, hp2, hM⟩ := hM
  refine x_getR C hV wf_X10_16 hk1 hp2 dX10_keep_1 ?_
  refine lv_aload_n hx hb dX10_keep_4 rfl (lv_at hl 0 rfl) ?_
  obtain ⟨p3, hp3, hM⟩ := hM
  refine x_getR C hV wf_X10_10 hk1 hp3 dX10_keep_5 ?_
  have hk4 := hM.1
  have hM := hM.2
  refine x_cv hV (x_runV (As := [.ref p3]) (rest := []) C hV mi_X9_become wl_X10_395 hk4 (c_X9_become hM) ⟨by decide, by decide⟩ rfl hl.1 (Nat.le_of_ble_eq_true rfl) dX10_keep_8 ⟨Nat.zero_le _, Nat.zero_le _⟩) (fun S5 H locs hV hM => ?_)
  refine lv_aload_n hx hb dX10_keep_11 rfl (lv_at hl 0 rfl) ?_
  refine lv_iconst (v := 1) hx hb dX10_keep_12 (by decide) ?_
  have hk7 := hM.1
  have hM := hM.2
  obtain ⟨S8, eS8⟩ : ∃ z : PS, z = S5.setI 706 a0 1 := ⟨_, rfl⟩
  have hM := hM S8 eS8
  refine x_putI C hV wp_X10_19 hk7 (nz_b (by decide)) eS8 dX10_keep_13 (fun H locs hV => ?_)
  refine lv_iconst (v := 1) hx hb dX10_keep_16 (by decide) ?_
  exact x_iret C hV hM dX10_keep_17

def wp_X10_later (N : Nat) (S : PS) (a0 : Nat) (x1 : Int32) (K : Int32 → PS → Prop) : Prop := wp_X10_within N S x1 1 99 (fun r2 S1 => if r2 = 0 then (K (-1) S1) else (S1.K a0 = 11 ∧ ∃ p6 : Nat, S1.R 704 a0 = some p6 ∧ S1.K p6 = 10 ∧ if ((S1.I 640 p6) + x1) ≤ 999 then (∃ p9 : Nat, S1.R 704 a0 = some p9 ∧ S1.K p9 = 10 ∧ ∀ S11 : PS, S11 = S1.setI 640 p9 ((S1.I 640 p9) + x1) → ∃ p13 : Nat, S11.R 704 a0 = some p13 ∧ S11.K p13 = 10 ∧ K (S11.I 640 p13) S11) else (K (-2) S1)))
set_option maxHeartbeats 4000000 in
set_option maxRecDepth 100000 in
theorem c_X10_later {l : Launch} {D : DX} {cA : Nat → ClassId} {z0 N : Nat} {S : PS} {a0 : Nat} {x1 : Int32} {K : Int32 → PS → Prop} (hM : wp_X10_later N S a0 x1 K) : MetI l yX10_later cX10_later 2 (some .int) 1 0 0 D cA z0 [.ref a0, .int x1] S K := by
  refine x_met RX10 (by decide) rfl ?_
  intro p e s m below meth c C hin hV
  have hl := lv_entry ([.ref a0, .int x1]) (n := 2) (Nat.le_of_ble_eq_true rfl)
  rw [lg_entry_eq]
  generalize (lg_sl ([.ref a0, .int x1]) ++ List.replicate (2 - (lg_sl ([.ref a0, .int x1])).length) Slot.unset).toArray = ls at hl ⊢
  have hl : lv_has ls 2 [(0, .ref a0), (1, .int x1)] := hl
  obtain ⟨hx, hb, hml, hown, hts, hK, hz, hlk, hr⟩ := id C
  unfold wp_X10_later at hM
  refine lv_iload_n hx hb dX10_later_0 rfl (lv_at hl 1 rfl) ?_
  refine lv_iconst (v := 1) hx hb dX10_later_1 (by decide) ?_
  refine lv_bipush (v := 99) hx hb dX10_later_2 (by decide) ?_
  refine x_ci hV (x_runS (As := [.int x1, .int 1, .int 99]) (rest := []) C hV ms_X10_within wl_X10_94 (c_X10_within hM) ⟨by decide, by decide⟩ rfl hl.1 (Nat.le_of_ble_eq_true rfl) dX10_later_4 ⟨Nat.zero_le _, Nat.zero_le _⟩) (fun r2 S1 H locs hV hM => ?_)
  have hz3 := hM.1
  have hM := hM.2
  refine lv_if_ne (tgt := 12) hx hb dX10_later_7 (by decide) (fun c4 => ?_) (fun c4 => ?_)
  · have hM := ite_f c4 hM
    refine lv_aload_n hx hb dX10_later_12 rfl (lv_at hl 0 rfl) ?_
    have hk5 := hM.1
    have hM := hM.2
    obtain ⟨p6, hp6, hM⟩ := hM
    refine x_getR C hV wf_X10_10 hk5 hp6 dX10_later_13 ?_
    have hk7 := hM.1
    have hM := hM.2
    refine x_getI C hV wf_X10_146 hk7 dX10_later_16 ?_
    refine lv_iload_n hx hb dX10_later_19 rfl (lv_at hl 1 rfl) ?_
    refine lv_iadd hx hb dX10_later_20 ?_
    refine lv_sipush (v := 999) hx hb dX10_later_21 (by decide) ?_
    refine lv_icmp_le (tgt := 30) hx hb dX10_later_24 (by decide) (fun c8 => ?_) (fun c8 => ?_)
    · have hM := ite_t c8 hM
      refine lv_aload_n hx hb dX10_later_30 rfl (lv_at hl 0 rfl) ?_
      obtain ⟨p9, hp9, hM⟩ := hM
      refine x_getR C hV wf_X10_10 hk5 hp9 dX10_later_31 ?_
      refine lv_dup hx hb dX10_later_34 rfl ?_
      have hk10 := hM.1
      have hM := hM.2
      refine x_getI C hV wf_X10_146 hk10 dX10_later_35 ?_
      refine lv_iload_n hx hb dX10_later_38 rfl (lv_at hl 1 rfl) ?_
      refine lv_iadd hx hb dX10_later_39 ?_
      obtain ⟨S11, eS11⟩ : ∃ z : PS, z = S1.setI 640 p9 ((S1.I 640 p9) + x1) := ⟨_, rfl⟩
      have hM := hM S11 eS11
      refine x_putI C hV wp_X10_146 hk10 ⟨rfl, rfl⟩ eS11 dX10_later_40 (fun H locs hV => ?_)
      refine lv_aload_n hx hb dX10_later_43 rfl (lv_at hl 0 rfl) ?_
      have hk12 := kp_I eS11 hk5
      obtain ⟨p13, hp13, hM⟩ := hM
      refine x_getR C hV wf_X10_10 hk12 hp13 dX10_later_44 ?_
      have hk14 := hM.1
      have hM := hM.2
      refine x_getI C hV wf_X10_146 hk14 dX10_later_47 ?_
      exact x_iret C hV hM dX10_later_50
    have hM := ite_f c8 hM
    refine lv_bipush (v := (-2)) hx hb dX10_later_27 (by decide) ?_
    exact x_iret C hV hM dX10_later_29
  have hM := ite_t c4 hM
  refine lv_iconst (v := (-1)) hx hb dX10_later_10 (by decide) ?_
  exact x_iret C hV hM dX10_later_11

def wq_X10_partsAll_2 (N : Nat) (K : Int32 → PS → Prop) : Nat → PS → Nat → Int32 → Int32 → Int32 → Prop
  | 0, _, _, _, _, _ => False
  | n + 1, S, a0, x1, x2, x3 => if x1 ≤ x3 then (K 1 S) else (S.K a0 = 11 ∧ ∃ p3 : Nat, S.R 714 a0 = some p3 ∧ S.K p3 = 20 ∧ vp_in x3 (S.ln p3) ∧ if (S.A p3 x3.toNatClampNeg) = 0 then (wq_X10_partsAll_2 N K n S a0 x1 x2 (x3 + 1)) else (∃ p7 : Nat, S.R 714 a0 = some p7 ∧ S.K p7 = 20 ∧ vp_in x3 (S.ln p7) ∧ if ((S.A p7 x3.toNatClampNeg) &&& x2) = 0 then (K 0 S) else (wq_X10_partsAll_2 N K n S a0 x1 x2 (x3 + 1))))
def wp_X10_partsAll (N : Nat) (S : PS) (a0 : Nat) (x1 : Int32) (x2 : Int32) (K : Int32 → PS → Prop) : Prop := wq_X10_partsAll_2 N K N S a0 x1 x2 0
set_option maxHeartbeats 4000000 in
set_option maxRecDepth 100000 in
theorem tq_X10_partsAll_2 {p : Program} {l : Launch} {e : Env} {s : State} {m : MethodId} {args : Array Value} {below : List Frame} {meth : Method} {c : Code} {D : DX} {cA : Nat → ClassId} {z0 N : Nat} {K : Int32 → PS → Prop} (C : CX p s m args meth c cX10_partsAll 4 RX10 (some .boolean) D cA z0) : ∀ (n : Nat) (S : PS) (a0 : Nat) (x1 : Int32) (x2 : Int32) (x3 : Int32) (H : Heap) (locs : List Loc) (ls : Array Slot), wq_X10_partsAll_2 N K n S a0 x1 x2 x3 → XV D cA z0 s S H locs → lv_has ls 4 [(0, .ref a0), (1, .int x1), (2, .int x2), (3, .int x3)] → W p l e (rmd 0 0 0) s m args below meth c H locs 0 0 (MQ below (va_Qi (fun r S => (r = 0 ∨ r = 1) ∧ K r S) (XK D cA z0) (zA z0)) args s 0 0 (zA z0)) (F0 m 2 ls []) := by
  obtain ⟨hx, hb, hml, hown, hts, hK, hz, hlk, hr⟩ := id C
  intro n
  induction n with
  | zero => intro S a0 x1 x2 x3 H locs ls hM; exact absurd hM id
  | succ n ih =>
    intro S a0 x1 x2 x3 H locs ls hM hV hl
    rw [wq_X10_partsAll_2.eq_2] at hM
    refine lv_iload_n hx hb dX10_partsAll_2 rfl (lv_at hl 3 rfl) ?_
    refine lv_iload_n hx hb dX10_partsAll_3 rfl (lv_at hl 1 rfl) ?_
    refine lv_icmp_ge (tgt := 35) hx hb dX10_partsAll_4 (by decide) (fun c1 => ?_) (fun c1 => ?_)
    · have hM := ite_t c1 hM
      refine lv_iconst (v := 1) hx hb dX10_partsAll_35 (by decide) ?_
      exact x_zret C hV (by decide) hM dX10_partsAll_36
    have hM := ite_f c1 hM
    refine lv_aload_n hx hb dX10_partsAll_7 rfl (lv_at hl 0 rfl) ?_
    have hk2 := hM.1
    have hM := hM.2
    obtain ⟨p3, hp3, hM⟩ := hM
    refine x_getR C hV wf_X10_61 hk2 hp3 dX10_partsAll_8 ?_
    refine lv_iload_n hx hb dX10_partsAll_11 rfl (lv_at hl 3 rfl) ?_
    have hk4 := hM.1
    have hM := hM.2
    have hi5 := hM.1
    have hM := hM.2
    refine x_iald C hV hk4 hi5 dX10_partsAll_12 ?_
    refine lv_if_eq (tgt := 29) hx hb dX10_partsAll_13 (by decide) (fun c6 => ?_) (fun c6 => ?_)
    · have hM := ite_t c6 hM
      refine lv_iinc (v := (x3 + 1)) (lv' := [(3, .int (x3 + 1)), (0, .ref a0), (1, .int x1), (2, .int x2)]) hx hb dX10_partsAll_29 hl (k := 3) rfl rfl (by decide) rfl (fun ls hl => ?_)
      refine lv_goto (tgt := 2) hx hb dX10_partsAll_32 (by decide) ?_
      exact ih _ _ _ _ _ _ _ _ hM hV (lv_sub hl [1, 2, 3, 0] rfl)
    have hM := ite_f c6 hM
    refine lv_aload_n hx hb dX10_partsAll_16 rfl (lv_at hl 0 rfl) ?_
    obtain ⟨p7, hp7, hM⟩ := hM
    refine x_getR C hV wf_X10_61 hk2 hp7 dX10_partsAll_17 ?_
    refine lv_iload_n hx hb dX10_partsAll_20 rfl (lv_at hl 3 rfl) ?_
    have hk8 := hM.1
    have hM := hM.2
    have hi9 := hM.1
    have hM := hM.2
    refine x_iald C hV hk8 hi9 dX10_partsAll_21 ?_
    refine lv_iload_n hx hb dX10_partsAll_22 rfl (lv_at hl 2 rfl) ?_
    refine lv_iand hx hb dX10_partsAll_23 ?_
    refine lv_if_ne (tgt := 29) hx hb dX10_partsAll_24 (by decide) (fun c10 => ?_) (fun c10 => ?_)
    · have hM := ite_f c10 hM
      refine lv_iinc (v := (x3 + 1)) (lv' := [(3, .int (x3 + 1)), (0, .ref a0), (1, .int x1), (2, .int x2)]) hx hb dX10_partsAll_29 hl (k := 3) rfl rfl (by decide) rfl (fun ls hl => ?_)
      refine lv_goto (tgt := 2) hx hb dX10_partsAll_32 (by decide) ?_
      exact ih _ _ _ _ _ _ _ _ hM hV (lv_sub hl [1, 2, 3, 0] rfl)
    have hM := ite_t c10 hM
    refine lv_iconst (v := 0) hx hb dX10_partsAll_27 (by decide) ?_
    exact x_zret C hV (by decide) hM dX10_partsAll_28
set_option maxHeartbeats 4000000 in
set_option maxRecDepth 100000 in
theorem c_X10_partsAll {l : Launch} {D : DX} {cA : Nat → ClassId} {z0 N : Nat} {S : PS} {a0 : Nat} {x1 : Int32} {x2 : Int32} {K : Int32 → PS → Prop} (hM : wp_X10_partsAll N S a0 x1 x2 K) : MetI l yX10_partsAll cX10_partsAll 4 (some .boolean) 0 0 0 D cA z0 [.ref a0, .int x1, .int x2] S (fun r S => (r = 0 ∨ r = 1) ∧ K r S) := by
  refine x_met RX10 (by decide) rfl ?_
  intro p e s m below meth c C hin hV
  have hl := lv_entry ([.ref a0, .int x1, .int x2]) (n := 4) (Nat.le_of_ble_eq_true rfl)
  rw [lg_entry_eq]
  generalize (lg_sl ([.ref a0, .int x1, .int x2]) ++ List.replicate (4 - (lg_sl ([.ref a0, .int x1, .int x2])).length) Slot.unset).toArray = ls at hl ⊢
  have hl : lv_has ls 4 [(0, .ref a0), (1, .int x1), (2, .int x2)] := hl
  obtain ⟨hx, hb, hml, hown, hts, hK, hz, hlk, hr⟩ := id C
  unfold wp_X10_partsAll at hM
  refine lv_iconst (v := 0) hx hb dX10_partsAll_0 (by decide) ?_
  refine lv_istore_n (lv' := [(3, .int 0), (0, .ref a0), (1, .int x1), (2, .int x2)]) hx hb dX10_partsAll_1 rfl hl (by decide) rfl (fun ls hl => ?_)
  exact tq_X10_partsAll_2 C N _ _ _ _ _ _ _ _ hM hV (lv_sub hl [1, 2, 3, 0] rfl)

def wq_X10_least_77 (N : Nat) (K : Int32 → PS → Prop) : Nat → PS → Nat → Int32 → Int32 → Int32 → Int32 → Int32 → Int32 → Prop
  | 0, _, _, _, _, _, _, _, _ => False
  | n + 1, S, a0, x2, x3, x4, x5, x6, x7 => if x7 ≤ 0 then (if x2 = 0 then (K x5 S) else (K x6 S)) else (∀ v23 : Int32, v23 = ((x7 - 1) &&& x4) → S.K a0 = 11 ∧ ∃ p25 : Nat, S.R 704 a0 = some p25 ∧ S.K p25 = 10 ∧ wp_X9_hoursOf N S p25 v23 (fun r28 S27 => if x6 < r28 then (wq_X10_least_77 N K n S27 a0 x2 x3 x4 x5 x6 v23) else (S27.K a0 = 11 ∧ wp_X10_partsAll N S27 a0 x3 v23 (fun r32 S31 => if r32 = 0 then (wq_X10_least_77 N K n S31 a0 x2 x3 x4 x5 x6 v23) else (wq_X10_least_77 N K n S31 a0 x2 x3 x4 v23 r28 v23)))))
def wq_X10_least_34 (N : Nat) (K : Int32 → PS → Prop) : Nat → PS → Nat → Int32 → Int32 → Int32 → Int32 → Prop
  | 0, _, _, _, _, _, _ => False
  | n + 1, S, a0, x2, x3, x4, x5 => if x3 ≤ x5 then (S.K a0 = 11 ∧ ∃ p17 : Nat, S.R 704 a0 = some p17 ∧ S.K p17 = 10 ∧ wp_X9_hoursOf N S p17 x4 (fun r20 S19 => wq_X10_least_77 N K N S19 a0 x2 x3 x4 x4 r20 x4)) else (S.K a0 = 11 ∧ ∃ p36 : Nat, S.R 714 a0 = some p36 ∧ S.K p36 = 20 ∧ vp_in x5 (S.ln p36) ∧ ∀ v39 : Int32, v39 = (x4 ||| (S.A p36 x5.toNatClampNeg)) → wq_X10_least_34 N K n S a0 x2 x3 v39 (x5 + 1))
def wp_X10_least (N : Nat) (S : PS) (a0 : Nat) (x1 : Int32) (x2 : Int32) (K : Int32 → PS → Prop) : Prop := S.K a0 = 11 ∧ ∃ p2 : Nat, S.R 704 a0 = some p2 ∧ S.K p2 = 10 ∧ wp_X9_areStories N S p2 x1 (fun r5 S4 => if r5 = 0 then (K (-1) S4) else (wp_X10_within N S4 x2 0 1 (fun r9 S8 => if r9 = 0 then (K (-1) S8) else (S8.K a0 = 11 ∧ wp_X10_gatherTwos N S8 a0 x1 (fun r14 S13 => wq_X10_least_34 N K N S13 a0 x2 r14 0 0)))))
set_option maxHeartbeats 4000000 in
set_option maxRecDepth 100000 in
theorem tq_X10_least_77 {p : Program} {l : Launch} {e : Env} {s : State} {m : MethodId} {args : Array Value} {below : List Frame} {meth : Method} {c : Code} {D : DX} {cA : Nat → ClassId} {z0 N : Nat} {K : Int32 → PS → Prop} (C : CX p s m args meth c cX10_least 9 RX10 (some .int) D cA z0) : ∀ (n : Nat) (S : PS) (a0 : Nat) (x2 : Int32) (x3 : Int32) (x4 : Int32) (x5 : Int32) (x6 : Int32) (x7 : Int32) (H : Heap) (locs : List Loc) (ls : Array Slot), wq_X10_least_77 N K n S a0 x2 x3 x4 x5 x6 x7 → XV D cA z0 s S H locs → lv_has ls 9 [(0, .ref a0), (2, .int x2), (3, .int x3), (4, .int x4), (5, .int x5), (6, .int x6), (7, .int x7)] → W p l e (rmd 4 0 0) s m args below meth c H locs 0 0 (MQ below (va_Qi K (XK D cA z0) (zA z0)) args s 0 0 (zA z0)) (F0 m 77 ls []) := by
  obtain ⟨hx, hb, hml, hown, hts, hK, hz, hlk, hr⟩ := id C
  intro n
  induction n with
  | zero => intro S a0 x2 x3 x4 x5 x6 x7 H locs ls hM; exact absurd hM id
  | succ n ih =>
    intro S a0 x2 x3 x4 x5 x6 x7 H locs ls hM hV hl
    rw [wq_X10_least_77.eq_2] at hM
    refine lv_iload hx hb dX10_least_77 (lv_at hl 6 rfl) ?_
    refine lv_if_le (tgt := 130) hx hb dX10_least_79 (by decide) (fun c21 => ?_) (fun c21 => ?_)
    · have hM := ite_t c21 hM
      refine lv_iload_n hx hb dX10_least_130 rfl (lv_at hl 1 rfl) ?_
      refine lv_if_ne (tgt := 139) hx hb dX10_least_131 (by decide) (fun c22 => ?_) (fun c22 => ?_)
      · have hM := ite_f c22 hM
        refine lv_iload hx hb dX10_least_139 (lv_at hl 5 rfl) ?_
        exact x_iret C hV hM dX10_least_141
      have hM := ite_t c22 hM
      refine lv_iload hx hb dX10_least_134 (lv_at hl 4 rfl) ?_
      refine lv_goto (tgt := 141) hx hb dX10_least_136 (by decide) ?_
      exact x_iret C hV hM dX10_least_141
    have hM := ite_f c21 hM
    refine lv_iload hx hb dX10_least_82 (lv_at hl 6 rfl) ?_
    refine lv_iconst (v := 1) hx hb dX10_least_84 (by decide) ?_
    refine lv_isub hx hb dX10_least_85 ?_
    refine lv_iload hx hb dX10_least_86 (lv_at hl 3 rfl) ?_
    refine lv_iand hx hb dX10_least_88 ?_
    refine lv_topi (fun v23 ev23 => ?_)
    have hM := hM v23 ev23
    refine lv_istore (lv' := [(7, .int v23), (0, .ref a0), (2, .int x2), (3, .int x3), (4, .int x4), (5, .int x5), (6, .int x6)]) hx hb dX10_least_89 hl (by decide) rfl (fun ls hl => ?_)
    refine lv_aload_n hx hb dX10_least_91 rfl (lv_at hl 1 rfl) ?_
    have hk24 := hM.1
    have hM := hM.2
    obtain ⟨p25, hp25, hM⟩ := hM
    refine x_getR C hV wf_X10_10 hk24 hp25 dX10_least_92 ?_
    refine lv_iload hx hb dX10_least_95 (lv_at hl 0 rfl) ?_
    have hk26 := hM.1
    have hM := hM.2
    refine x_ci hV (x_runV (As := [.int v23]) (rest := []) C hV mi_X9_hoursOf wl_X10_251 hk26 (c_X9_hoursOf hM) ⟨by decide, by decide⟩ rfl hl.1 (Nat.le_of_ble_eq_true rfl) dX10_least_97 ⟨Nat.zero_le _, Nat.zero_le _⟩) (fun r28 S27 H locs hV hM => ?_)
    refine lv_istore (lv' := [(8, .int r28), (7, .int v23), (0, .ref a0), (2, .int x2), (3, .int x3), (4, .int x4), (5, .int x5), (6, .int x6)]) hx hb dX10_least_100 hl (by decide) rfl (fun ls hl => ?_)
    refine lv_iload hx hb dX10_least_102 (lv_at hl 0 rfl) ?_
    refine lv_iload hx hb dX10_least_104 (lv_at hl 7 rfl) ?_
    refine lv_icmp_gt (tgt := 127) hx hb dX10_least_106 (by decide) (fun c29 => ?_) (fun c29 => ?_)
    · have hM := ite_t c29 hM
      refine lv_goto (tgt := 77) hx hb dX10_least_127 (by decide) ?_
      exact ih _ _ _ _ _ _ _ _ _ _ _ hM hV (lv_sub hl [2, 3, 4, 5, 6, 7, 1] rfl)
    have hM := ite_f c29 hM
    refine lv_aload_n hx hb dX10_least_109 rfl (lv_at hl 2 rfl) ?_
    refine lv_iload_n hx hb dX10_least_110 rfl (lv_at hl 4 rfl) ?_
    refine lv_iload hx hb dX10_least_111 (lv_at hl 1 rfl) ?_
    have hk30 := hM.1
    have hM := hM.2
    refine x_ci hV (x_runV (As := [.int x3, .int v23]) (rest := []) C hV mi_X10_partsAll wl_X10_254 hk30 (c_X10_partsAll hM) ⟨by decide, by decide⟩ rfl hl.1 (Nat.le_of_ble_eq_true rfl) dX10_least_113 ⟨Nat.zero_le _, Nat.zero_le _⟩) (fun r32 S31 H locs hV hM => ?_)
    have hz33 := hM.1
    have hM := hM.2
    refine lv_if_eq (tgt := 127) hx hb dX10_least_116 (by decide) (fun c34 => ?_) (fun c34 => ?_)
    · have hM := ite_t c34 hM
      refine lv_goto (tgt := 77) hx hb dX10_least_127 (by decide) ?_
      exact ih _ _ _ _ _ _ _ _ _ _ _ hM hV (lv_sub hl [2, 3, 4, 5, 6, 7, 1] rfl)
    have hM := ite_f c34 hM
    refine lv_iload hx hb dX10_least_119 (lv_at hl 1 rfl) ?_
    refine lv_istore (lv' := [(5, .int v23), (8, .int r28), (7, .int v23), (0, .ref a0), (2, .int x2), (3, .int x3), (4, .int x4), (6, .int x6)]) hx hb dX10_least_121 hl (by decide) rfl (fun ls hl => ?_)
    refine lv_iload hx hb dX10_least_123 (lv_at hl 1 rfl) ?_
    refine lv_istore (lv' := [(6, .int r28), (5, .int v23), (8, .int r28), (7, .int v23), (0, .ref a0), (2, .int x2), (3, .int x3), (4, .int x4)]) hx hb dX10_least_125 hl (by decide) rfl (fun ls hl => ?_)
    refine lv_goto (tgt := 77) hx hb dX10_least_127 (by decide) ?_
    exact ih _ _ _ _ _ _ _ _ _ _ _ hM hV (lv_sub hl [4, 5, 6, 7, 1, 0, 3] rfl)
set_option maxHeartbeats 4000000 in
set_option maxRecDepth 100000 in
theorem tq_X10_least_34 {p : Program} {l : Launch} {e : Env} {s : State} {m : MethodId} {args : Array Value} {below : List Frame} {meth : Method} {c : Code} {D : DX} {cA : Nat → ClassId} {z0 N : Nat} {K : Int32 → PS → Prop} (C : CX p s m args meth c cX10_least 9 RX10 (some .int) D cA z0) : ∀ (n : Nat) (S : PS) (a0 : Nat) (x2 : Int32) (x3 : Int32) (x4 : Int32) (x5 : Int32) (H : Heap) (locs : List Loc) (ls : Array Slot), wq_X10_least_34 N K n S a0 x2 x3 x4 x5 → XV D cA z0 s S H locs → lv_has ls 9 [(0, .ref a0), (2, .int x2), (3, .int x3), (4, .int x4), (5, .int x5)] → W p l e (rmd 4 0 0) s m args below meth c H locs 0 0 (MQ below (va_Qi K (XK D cA z0) (zA z0)) args s 0 0 (zA z0)) (F0 m 34 ls []) := by
  obtain ⟨hx, hb, hml, hown, hts, hK, hz, hlk, hr⟩ := id C
  intro n
  induction n with
  | zero => intro S a0 x2 x3 x4 x5 H locs ls hM; exact absurd hM id
  | succ n ih =>
    intro S a0 x2 x3 x4 x5 H locs ls hM hV hl
    rw [wq_X10_least_34.eq_2] at hM
    refine lv_iload hx hb dX10_least_34 (lv_at hl 4 rfl) ?_
    refine lv_iload_n hx hb dX10_least_36 rfl (lv_at hl 2 rfl) ?_
    refine lv_icmp_ge (tgt := 58) hx hb dX10_least_37 (by decide) (fun c15 => ?_) (fun c15 => ?_)
    · have hM := ite_t c15 hM
      refine lv_iload hx hb dX10_least_58 (lv_at hl 3 rfl) ?_
      refine lv_istore (lv' := [(5, .int x4), (0, .ref a0), (2, .int x2), (3, .int x3), (4, .int x4)]) hx hb dX10_least_60 hl (by decide) rfl (fun ls hl => ?_)
      refine lv_aload_n hx hb dX10_least_62 rfl (lv_at hl 1 rfl) ?_
      have hk16 := hM.1
      have hM := hM.2
      obtain ⟨p17, hp17, hM⟩ := hM
      refine x_getR C hV wf_X10_10 hk16 hp17 dX10_least_63 ?_
      refine lv_iload hx hb dX10_least_66 (lv_at hl 4 rfl) ?_
      have hk18 := hM.1
      have hM := hM.2
      refine x_ci hV (x_runV (As := [.int x4]) (rest := []) C hV mi_X9_hoursOf wl_X10_251 hk18 (c_X9_hoursOf hM) ⟨by decide, by decide⟩ rfl hl.1 (Nat.le_of_ble_eq_true rfl) dX10_least_68 ⟨Nat.zero_le _, Nat.zero_le _⟩) (fun r20 S19 H locs hV hM => ?_)
      refine lv_istore (lv' := [(6, .int r20), (5, .int x4), (0, .ref a0), (2, .int x2), (3, .int x3), (4, .int x4)]) hx hb dX10_least_71 hl (by decide) rfl (fun ls hl => ?_)
      refine lv_iload hx hb dX10_least_73 (lv_at hl 5 rfl) ?_
      refine lv_istore (lv' := [(7, .int x4), (6, .int r20), (5, .int x4), (0, .ref a0), (2, .int x2), (3, .int x3), (4, .int x4)]) hx hb dX10_least_75 hl (by decide) rfl (fun ls hl => ?_)
      exact tq_X10_least_77 C N _ _ _ _ _ _ _ _ _ _ _ hM hV (lv_sub hl [3, 4, 5, 6, 2, 1, 0] rfl)
    have hM := ite_f c15 hM
    refine lv_iload hx hb dX10_least_40 (lv_at hl 3 rfl) ?_
    refine lv_aload_n hx hb dX10_least_42 rfl (lv_at hl 0 rfl) ?_
    have hk35 := hM.1
    have hM := hM.2
    obtain ⟨p36, hp36, hM⟩ := hM
    refine x_getR C hV wf_X10_61 hk35 hp36 dX10_least_43 ?_
    refine lv_iload hx hb dX10_least_46 (lv_at hl 4 rfl) ?_
    have hk37 := hM.1
    have hM := hM.2
    have hi38 := hM.1
    have hM := hM.2
    refine x_iald C hV hk37 hi38 dX10_least_48 ?_
    refine lv_ior hx hb dX10_least_49 ?_
    refine lv_topi (fun v39 ev39 => ?_)
    have hM := hM v39 ev39
    refine lv_istore (lv' := [(4, .int v39), (0, .ref a0), (2, .int x2), (3, .int x3), (5, .int x5)]) hx hb dX10_least_50 hl (by decide) rfl (fun ls hl => ?_)
    refine lv_iinc (v := (x5 + 1)) (lv' := [(5, .int (x5 + 1)), (4, .int v39), (0, .ref a0), (2, .int x2), (3, .int x3)]) hx hb dX10_least_52 hl (k := 4) rfl rfl (by decide) rfl (fun ls hl => ?_)
    refine lv_goto (tgt := 34) hx hb dX10_least_55 (by decide) ?_
    exact ih _ _ _ _ _ _ _ _ _ hM hV (lv_sub hl [2, 3, 4, 1, 0] rfl)
set_option maxHeartbeats 4000000 in
set_option maxRecDepth 100000 in
theorem c_X10_least {l : Launch} {D : DX} {cA : Nat → ClassId} {z0 N : Nat} {S : PS} {a0 : Nat} {x1 : Int32} {x2 : Int32} {K : Int32 → PS → Prop} (hM : wp_X10_least N S a0 x1 x2 K) : MetI l yX10_least cX10_least 9 (some .int) 4 0 0 D cA z0 [.ref a0, .int x1, .int x2] S K := by
  refine x_met RX10 (by decide) rfl ?_
  intro p e s m below meth c C hin hV
  have hl := lv_entry ([.ref a0, .int x1, .int x2]) (n := 9) (Nat.le_of_ble_eq_true rfl)
  rw [lg_entry_eq]
  generalize (lg_sl ([.ref a0, .int x1, .int x2]) ++ List.replicate (9 - (lg_sl ([.ref a0, .int x1, .int x2])).length) Slot.unset).toArray = ls at hl ⊢
  have hl : lv_has ls 9 [(0, .ref a0), (1, .int x1), (2, .int x2)] := hl
  obtain ⟨hx, hb, hml, hown, hts, hK, hz, hlk, hr⟩ := id C
  unfold wp_X10_least at hM
  refine lv_aload_n hx hb dX10_least_0 rfl (lv_at hl 0 rfl) ?_
  have hk1 := hM.1
  have hM := hM.2
  obtain ⟨p2, hp2, hM⟩ := hM
  refine x_getR C hV wf_X10_10 hk1 hp2 dX10_least_1 ?_
  refine lv_iload_n hx hb dX10_least_4 rfl (lv_at hl 1 rfl) ?_
  have hk3 := hM.1
  have hM := hM.2
  refine x_ci hV (x_runV (As := [.int x1]) (rest := []) C hV mi_X9_areStories wl_X10_242 hk3 (c_X9_areStories hM) ⟨by decide, by decide⟩ rfl hl.1 (Nat.le_of_ble_eq_true rfl) dX10_least_5 ⟨Nat.zero_le _, Nat.zero_le _⟩) (fun r5 S4 H locs hV hM => ?_)
  have hz6 := hM.1
  have hM := hM.2
  refine lv_if_eq (tgt := 20) hx hb dX10_least_8 (by decide) (fun c7 => ?_) (fun c7 => ?_)
  · have hM := ite_t c7 hM
    refine lv_iconst (v := (-1)) hx hb dX10_least_20 (by decide) ?_
    exact x_iret C hV hM dX10_least_21
  have hM := ite_f c7 hM
  refine lv_iload_n hx hb dX10_least_11 rfl (lv_at hl 2 rfl) ?_
  refine lv_iconst (v := 0) hx hb dX10_least_12 (by decide) ?_
  refine lv_iconst (v := 1) hx hb dX10_least_13 (by decide) ?_
  refine x_ci hV (x_runS (As := [.int x2, .int 0, .int 1]) (rest := []) C hV ms_X10_within wl_X10_94 (c_X10_within hM) ⟨by decide, by decide⟩ rfl hl.1 (Nat.le_of_ble_eq_true rfl) dX10_least_14 ⟨Nat.zero_le _, Nat.zero_le _⟩) (fun r9 S8 H locs hV hM => ?_)
  have hz10 := hM.1
  have hM := hM.2
  refine lv_if_ne (tgt := 22) hx hb dX10_least_17 (by decide) (fun c11 => ?_) (fun c11 => ?_)
  · have hM := ite_f c11 hM
    refine lv_aload_n hx hb dX10_least_22 rfl (lv_at hl 0 rfl) ?_
    refine lv_iload_n hx hb dX10_least_23 rfl (lv_at hl 1 rfl) ?_
    have hk12 := hM.1
    have hM := hM.2
    refine x_ci hV (x_runV (As := [.int x1]) (rest := []) C hV mi_X10_gatherTwos wl_X10_245 hk12 (c_X10_gatherTwos hM) ⟨by decide, by decide⟩ rfl hl.1 (Nat.le_of_ble_eq_true rfl) dX10_least_24 ⟨Nat.zero_le _, Nat.zero_le _⟩) (fun r14 S13 H locs hV hM => ?_)
    refine lv_istore_n (lv' := [(3, .int r14), (0, .ref a0), (1, .int x1), (2, .int x2)]) hx hb dX10_least_27 rfl hl (by decide) rfl (fun ls hl => ?_)
    refine lv_iconst (v := 0) hx hb dX10_least_28 (by decide) ?_
    refine lv_istore (lv' := [(4, .int 0), (3, .int r14), (0, .ref a0), (1, .int x1), (2, .int x2)]) hx hb dX10_least_29 hl (by decide) rfl (fun ls hl => ?_)
    refine lv_iconst (v := 0) hx hb dX10_least_31 (by decide) ?_
    refine lv_istore (lv' := [(5, .int 0), (4, .int 0), (3, .int r14), (0, .ref a0), (1, .int x1), (2, .int x2)]) hx hb dX10_least_32 hl (by decide) rfl (fun ls hl => ?_)
    exact tq_X10_least_34 C N _ _ _ _ _ _ _ _ _ hM hV (lv_sub hl [3, 5, 2, 1, 0] rfl)
  have hM := ite_t c11 hM
  refine lv_iconst (v := (-1)) hx hb dX10_least_20 (by decide) ?_
  exact x_iret C hV hM dX10_least_21

def wp_X10_likely (N : Nat) (S : PS) (a0 : Nat) (K : Int32 → PS → Prop) : Prop := S.K a0 = 11 ∧ ∃ p2 : Nat, S.R 704 a0 = some p2 ∧ S.K p2 = 10 ∧ if (S.I 646 p2) = 0 then (K (-3) S) else (∃ p5 : Nat, S.R 704 a0 = some p5 ∧ S.K p5 = 10 ∧ wp_X9_leastMissed N S p5 (fun r8 S7 => K r8 S7))
set_option maxHeartbeats 4000000 in
set_option maxRecDepth 100000 in
theorem c_X10_likely {l : Launch} {D : DX} {cA : Nat → ClassId} {z0 N : Nat} {S : PS} {a0 : Nat} {K : Int32 → PS → Prop} (hM : wp_X10_likely N S a0 K) : MetI l yX10_likely cX10_likely 1 (some .int) 5 0 0 D cA z0 [.ref a0] S K := by
  refine x_met RX10 (by decide) rfl ?_
  intro p e s m below meth c C hin hV
  have hl := lv_entry ([.ref a0]) (n := 1) (Nat.le_of_ble_eq_true rfl)
  rw [lg_entry_eq]
  generalize (lg_sl ([.ref a0]) ++ List.replicate (1 - (lg_sl ([.ref a0])).length) Slot.unset).toArray = ls at hl ⊢
  have hl : lv_has ls 1 [(0, .ref a0)] := hl
  obtain ⟨hx, hb, hml, hown, hts, hK, hz, hlk, hr⟩ := id C
  unfold wp_X10_likely at hM
  refine lv_aload_n hx hb dX10_likely_0 rfl (lv_at hl 0 rfl) ?_
  have hk1 := hM.1
  have hM := hM.2
  obtain ⟨p2, hp2, hM⟩ := hM
  refine x_getR C hV wf_X10_10 hk1 hp2 dX10_likely_1 ?_
  have hk3 := hM.1
  have hM := hM.2
  refine x_getI C hV wf_X10_193 hk3 dX10_likely_4 ?_
  refine lv_if_ne (tgt := 15) hx hb dX10_likely_7 (by decide) (fun c4 => ?_) (fun c4 => ?_)
  · have hM := ite_f c4 hM
    refine lv_aload_n hx hb dX10_likely_15 rfl (lv_at hl 0 rfl) ?_
    obtain ⟨p5, hp5, hM⟩ := hM
    refine x_getR C hV wf_X10_10 hk1 hp5 dX10_likely_16 ?_
    have hk6 := hM.1
    have hM := hM.2
    refine x_ci hV (x_runV (As := []) (rest := []) C hV mi_X9_leastMissed wl_X10_229 hk6 (c_X9_leastMissed hM) ⟨by decide, by decide⟩ rfl hl.1 (Nat.le_of_ble_eq_true rfl) dX10_likely_19 ⟨Nat.zero_le _, Nat.zero_le _⟩) (fun r8 S7 H locs hV hM => ?_)
    exact x_iret C hV hM dX10_likely_22
  have hM := ite_t c4 hM
  refine lv_bipush (v := (-3)) hx hb dX10_likely_10 (by decide) ?_
  refine lv_goto (tgt := 22) hx hb dX10_likely_12 (by decide) ?_
  exact x_iret C hV hM dX10_likely_22

def wp_X10_lots (N : Nat) (S : PS) (a0 : Nat) (x1 : Int32) (K : Int32 → PS → Prop) : Prop := S.K a0 = 11 ∧ ∃ p2 : Nat, S.R 704 a0 = some p2 ∧ S.K p2 = 10 ∧ ∀ S4 : PS, S4 = S.setI 642 p2 x1 → K 1 S4
set_option maxHeartbeats 4000000 in
set_option maxRecDepth 100000 in
theorem c_X10_lots {l : Launch} {D : DX} {cA : Nat → ClassId} {z0 N : Nat} {S : PS} {a0 : Nat} {x1 : Int32} {K : Int32 → PS → Prop} (hM : wp_X10_lots N S a0 x1 K) : MetI l yX10_lots cX10_lots 2 (some .int) 0 0 0 D cA z0 [.ref a0, .int x1] S K := by
  refine x_met RX10 (by decide) rfl ?_
  intro p e s m below meth c C hin hV
  have hl := lv_entry ([.ref a0, .int x1]) (n := 2) (Nat.le_of_ble_eq_true rfl)
  rw [lg_entry_eq]
  generalize (lg_sl ([.ref a0, .int x1]) ++ List.replicate (2 - (lg_sl ([.ref a0, .int x1])).length) Slot.unset).toArray = ls at hl ⊢
  have hl : lv_has ls 2 [(0, .ref a0), (1, .int x1)] := hl
  obtain ⟨hx, hb, hml, hown, hts, hK, hz, hlk, hr⟩ := id C
  unfold wp_X10_lots at hM
  refine lv_aload_n hx hb dX10_lots_0 rfl (lv_at hl 0 rfl) ?_
  have hk1 := hM.1
  have hM := hM.2
  obtain ⟨p2, hp2, hM⟩ := hM
  refine x_getR C hV wf_X10_10 hk1 hp2 dX10_lots_1 ?_
  refine lv_iload_n hx hb dX10_lots_4 rfl (lv_at hl 1 rfl) ?_
  have hk3 := hM.1
  have hM := hM.2
  obtain ⟨S4, eS4⟩ : ∃ z : PS, z = S.setI 642 p2 x1 := ⟨_, rfl⟩
  have hM := hM S4 eS4
  refine x_putI C hV wp_X10_156 hk3 ⟨rfl, rfl⟩ eS4 dX10_lots_5 (fun H locs hV => ?_)
  refine lv_iconst (v := 1) hx hb dX10_lots_8 (by decide) ?_
  exact x_iret C hV hM dX10_lots_9

def wp_X10_many (N : Nat) (S : PS) (a0 : Nat) (x1 : Int32) (K : Int32 → PS → Prop) : Prop := if x1 = 0 then (S.K a0 = 11 ∧ ∃ p3 : Nat, S.R 704 a0 = some p3 ∧ S.K p3 = 10 ∧ K (S.I 644 p3) S) else if x1 = 1 then (S.K a0 = 11 ∧ ∃ p7 : Nat, S.R 704 a0 = some p7 ∧ S.K p7 = 10 ∧ K (S.I 645 p7) S) else if x1 = 2 then (S.K a0 = 11 ∧ ∃ p11 : Nat, S.R 704 a0 = some p11 ∧ S.K p11 = 10 ∧ K (S.I 646 p11) S) else if x1 = 3 then (S.K a0 = 11 ∧ ∃ p15 : Nat, S.R 704 a0 = some p15 ∧ S.K p15 = 10 ∧ K (S.I 647 p15) S) else if x1 = 4 then (S.K a0 = 11 ∧ K (S.I 717 a0) S) else if x1 = 5 then (S.K a0 = 11 ∧ K (S.I 708 a0) S) else if x1 = 6 then (S.K a0 = 11 ∧ ∃ p23 : Nat, S.R 720 a0 = some p23 ∧ S.K p23 = 1 ∧ K (S.I 65 p23) S) else if x1 = 7 then (S.K a0 = 11 ∧ ∃ p27 : Nat, S.R 704 a0 = some p27 ∧ S.K p27 = 10 ∧ K (S.I 640 p27) S) else K (-1) S
set_option maxHeartbeats 4000000 in
set_option maxRecDepth 100000 in
theorem c_X10_many {l : Launch} {D : DX} {cA : Nat → ClassId} {z0 N : Nat} {S : PS} {a0 : Nat} {x1 : Int32} {K : Int32 → PS → Prop} (hM : wp_X10_many N S a0 x1 K) : MetI l yX10_many cX10_many 2 (some .int) 0 0 0 D cA z0 [.ref a0, .int x1] S K := by
  refine x_met RX10 (by decide) rfl ?_
  intro p e s m below meth c C hin hV
  have hl := lv_entry ([.ref a0, .int x1]) (n := 2) (Nat.le_of_ble_eq_true rfl)
  rw [lg_entry_eq]
  generalize (lg_sl ([.ref a0, .int x1]) ++ List.replicate (2 - (lg_sl ([.ref a0, .int x1])).length) Slot.unset).toArray = ls at hl ⊢
  have hl : lv_has ls 2 [(0, .ref a0), (1, .int x1)] := hl
  obtain ⟨hx, hb, hml, hown, hts, hK, hz, hlk, hr⟩ := id C
  unfold wp_X10_many at hM
  refine lv_iload_n hx hb dX10_many_0 rfl (lv_at hl 1 rfl) ?_
  by_cases c1 : x1 = 0
  · have hM := ite_t c1 hM
    refine lv_tableIn (tgt := 48) (off := 47) hx hb dX10_many_1 (by rw [c1]; decide) (by rw [c1]; decide) (by rw [c1]; decide) (by decide) ?_
    refine lv_aload_n hx hb dX10_many_48 rfl (lv_at hl 0 rfl) ?_
    have hk2 := hM.1
    have hM := hM.2
    obtain ⟨p3, hp3, hM⟩ := hM
    refine x_getR C hV wf_X10_10 hk2 hp3 dX10_many_49 ?_
    have hk4 := hM.1
    have hM := hM.2
    refine x_getI C hV wf_X10_98 hk4 dX10_many_52 ?_
    exact x_iret C hV hM dX10_many_55
  have hM := ite_f c1 hM
  by_cases c5 : x1 = 1
  · have hM := ite_t c5 hM
    refine lv_tableIn (tgt := 56) (off := 55) hx hb dX10_many_1 (by rw [c5]; decide) (by rw [c5]; decide) (by rw [c5]; decide) (by decide) ?_
    refine lv_aload_n hx hb dX10_many_56 rfl (lv_at hl 0 rfl) ?_
    have hk6 := hM.1
    have hM := hM.2
    obtain ⟨p7, hp7, hM⟩ := hM
    refine x_getR C hV wf_X10_10 hk6 hp7 dX10_many_57 ?_
    have hk8 := hM.1
    have hM := hM.2
    refine x_getI C hV wf_X10_162 hk8 dX10_many_60 ?_
    exact x_iret C hV hM dX10_many_63
  have hM := ite_f c5 hM
  by_cases c9 : x1 = 2
  · have hM := ite_t c9 hM
    refine lv_tableIn (tgt := 64) (off := 63) hx hb dX10_many_1 (by rw [c9]; decide) (by rw [c9]; decide) (by rw [c9]; decide) (by decide) ?_
    refine lv_aload_n hx hb dX10_many_64 rfl (lv_at hl 0 rfl) ?_
    have hk10 := hM.1
    have hM := hM.2
    obtain ⟨p11, hp11, hM⟩ := hM
    refine x_getR C hV wf_X10_10 hk10 hp11 dX10_many_65 ?_
    have hk12 := hM.1
    have hM := hM.2
    refine x_getI C hV wf_X10_193 hk12 dX10_many_68 ?_
    exact x_iret C hV hM dX10_many_71
  have hM := ite_f c9 hM
  by_cases c13 : x1 = 3
  · have hM := ite_t c13 hM
    refine lv_tableIn (tgt := 72) (off := 71) hx hb dX10_many_1 (by rw [c13]; decide) (by rw [c13]; decide) (by rw [c13]; decide) (by decide) ?_
    refine lv_aload_n hx hb dX10_many_72 rfl (lv_at hl 0 rfl) ?_
    have hk14 := hM.1
    have hM := hM.2
    obtain ⟨p15, hp15, hM⟩ := hM
    refine x_getR C hV wf_X10_10 hk14 hp15 dX10_many_73 ?_
    have hk16 := hM.1
    have hM := hM.2
    refine x_getI C hV wf_X10_287 hk16 dX10_many_76 ?_
    exact x_iret C hV hM dX10_many_79
  have hM := ite_f c13 hM
  by_cases c17 : x1 = 4
  · have hM := ite_t c17 hM
    refine lv_tableIn (tgt := 80) (off := 79) hx hb dX10_many_1 (by rw [c17]; decide) (by rw [c17]; decide) (by rw [c17]; decide) (by decide) ?_
    refine lv_aload_n hx hb dX10_many_80 rfl (lv_at hl 0 rfl) ?_
    have hk18 := hM.1
    have hM := hM.2
    refine x_getI C hV wf_X10_70 hk18 dX10_many_81 ?_
    exact x_iret C hV hM dX10_many_84
  have hM := ite_f c17 hM
  by_cases c19 : x1 = 5
  · have hM := ite_t c19 hM
    refine lv_tableIn (tgt := 85) (off := 84) hx hb dX10_many_1 (by rw [c19]; decide) (by rw [c19]; decide) (by rw [c19]; decide) (by decide) ?_
    refine lv_aload_n hx hb dX10_many_85 rfl (lv_at hl 0 rfl) ?_
    have hk20 := hM.1
    have hM := hM.2
    refine x_getI C hV wf_X10_27 hk20 dX10_many_86 ?_
    exact x_iret C hV hM dX10_many_89
  have hM := ite_f c19 hM
  by_cases c21 : x1 = 6
  · have hM := ite_t c21 hM
    refine lv_tableIn (tgt := 90) (off := 89) hx hb dX10_many_1 (by rw [c21]; decide) (by rw [c21]; decide) (by rw [c21]; decide) (by decide) ?_
    refine lv_aload_n hx hb dX10_many_90 rfl (lv_at hl 0 rfl) ?_
    have hk22 := hM.1
    have hM := hM.2
    obtain ⟨p23, hp23, hM⟩ := hM
    refine x_getR C hV wf_X10_88 hk22 hp23 dX10_many_91 ?_
    have hk24 := hM.1
    have hM := hM.2
    refine x_getI C hV wf_X10_389 hk24 dX10_many_94 ?_
    exact x_iret C hV hM dX10_many_97
  have hM := ite_f c21 hM
  by_cases c25 : x1 = 7
  · have hM := ite_t c25 hM
    refine lv_tableIn (tgt := 98) (off := 97) hx hb dX10_many_1 (by rw [c25]; decide) (by rw [c25]; decide) (by rw [c25]; decide) (by decide) ?_
    refine lv_aload_n hx hb dX10_many_98 rfl (lv_at hl 0 rfl) ?_
    have hk26 := hM.1
    have hM := hM.2
    obtain ⟨p27, hp27, hM⟩ := hM
    refine x_getR C hV wf_X10_10 hk26 hp27 dX10_many_99 ?_
    have hk28 := hM.1
    have hM := hM.2
    refine x_getI C hV wf_X10_146 hk28 dX10_many_102 ?_
    exact x_iret C hV hM dX10_many_105
  have hM := ite_f c25 hM
  refine lv_tableOut (tgt := 106) hx hb dX10_many_1 (by have q0 := lv_neT c1 (a := 0) (by decide); have q1 := lv_neT c5 (a := 1) (by decide); have q2 := lv_neT c9 (a := 2) (by decide); have q3 := lv_neT c13 (a := 3) (by decide); have q4 := lv_neT c17 (a := 4) (by decide); have q5 := lv_neT c19 (a := 5) (by decide); have q6 := lv_neT c21 (a := 6) (by decide); have q7 := lv_neT c25 (a := 7) (by decide); omega) (by decide) ?_
  refine lv_iconst (v := (-1)) hx hb dX10_many_106 (by decide) ?_
  exact x_iret C hV hM dX10_many_107

def wp_X10_miss (N : Nat) (S : PS) (a0 : Nat) (x1 : Int32) (K : Int32 → PS → Prop) : Prop := S.K a0 = 11 ∧ ∃ p2 : Nat, S.R 704 a0 = some p2 ∧ S.K p2 = 10 ∧ wp_X9_hasStory N S p2 x1 (fun r5 S4 => if r5 = 0 then (K (-1) S4) else (S4.K a0 = 11 ∧ ∃ p9 : Nat, S4.R 704 a0 = some p9 ∧ S4.K p9 = 10 ∧ wp_X9_missed N S4 p9 x1 (fun r12 S11 => K r12 S11)))
set_option maxHeartbeats 4000000 in
set_option maxRecDepth 100000 in
theorem c_X10_miss {l : Launch} {D : DX} {cA : Nat → ClassId} {z0 N : Nat} {S : PS} {a0 : Nat} {x1 : Int32} {K : Int32 → PS → Prop} (hM : wp_X10_miss N S a0 x1 K) : MetI l yX10_miss cX10_miss 2 (some .int) 4 0 0 D cA z0 [.ref a0, .int x1] S K := by
  refine x_met RX10 (by decide) rfl ?_
  intro p e s m below meth c C hin hV
  have hl := lv_entry ([.ref a0, .int x1]) (n := 2) (Nat.le_of_ble_eq_true rfl)
  rw [lg_entry_eq]
  generalize (lg_sl ([.ref a0, .int x1]) ++ List.replicate (2 - (lg_sl ([.ref a0, .int x1])).length) Slot.unset).toArray = ls at hl ⊢
  have hl : lv_has ls 2 [(0, .ref a0), (1, .int x1)] := hl
  obtain ⟨hx, hb, hml, hown, hts, hK, hz, hlk, hr⟩ := id C
  unfold wp_X10_miss at hM
  refine lv_aload_n hx hb dX10_miss_0 rfl (lv_at hl 0 rfl) ?_
  have hk1 := hM.1
  have hM := hM.2
  obtain ⟨p2, hp2, hM⟩ := hM
  refine x_getR C hV wf_X10_10 hk1 hp2 dX10_miss_1 ?_
  refine lv_iload_n hx hb dX10_miss_4 rfl (lv_at hl 1 rfl) ?_
  have hk3 := hM.1
  have hM := hM.2
  refine x_ci hV (x_runV (As := [.int x1]) (rest := []) C hV mi_X9_hasStory wl_X10_214 hk3 (c_X9_hasStory hM) ⟨by decide, by decide⟩ rfl hl.1 (Nat.le_of_ble_eq_true rfl) dX10_miss_5 ⟨Nat.zero_le _, Nat.zero_le _⟩) (fun r5 S4 H locs hV hM => ?_)
  have hz6 := hM.1
  have hM := hM.2
  refine lv_if_eq (tgt := 22) hx hb dX10_miss_8 (by decide) (fun c7 => ?_) (fun c7 => ?_)
  · have hM := ite_t c7 hM
    refine lv_iconst (v := (-1)) hx hb dX10_miss_22 (by decide) ?_
    exact x_iret C hV hM dX10_miss_23
  have hM := ite_f c7 hM
  refine lv_aload_n hx hb dX10_miss_11 rfl (lv_at hl 0 rfl) ?_
  have hk8 := hM.1
  have hM := hM.2
  obtain ⟨p9, hp9, hM⟩ := hM
  refine x_getR C hV wf_X10_10 hk8 hp9 dX10_miss_12 ?_
  refine lv_iload_n hx hb dX10_miss_15 rfl (lv_at hl 1 rfl) ?_
  have hk10 := hM.1
  have hM := hM.2
  refine x_ci hV (x_runV (As := [.int x1]) (rest := []) C hV mi_X9_missed wl_X10_226 hk10 (c_X9_missed hM) ⟨by decide, by decide⟩ rfl hl.1 (Nat.le_of_ble_eq_true rfl) dX10_miss_16 ⟨Nat.zero_le _, Nat.zero_le _⟩) (fun r12 S11 H locs hV hM => ?_)
  refine lv_goto (tgt := 23) hx hb dX10_miss_19 (by decide) ?_
  exact x_iret C hV hM dX10_miss_23

def wp_X10_month (N : Nat) (S : PS) (a0 : Nat) (x1 : Int32) (x2 : Int32) (x3 : Int32) (K : Int64 → PS → Prop) : Prop := wp_X10_within N S x1 0 33 (fun r2 S1 => if r2 = 0 then (K (-2147483648 : Int64) S1) else (wp_X10_isWay N S1 x2 (fun r6 S5 => if r6 = 0 then (K (-2147483648 : Int64) S5) else (wp_X10_within N S5 x3 0 1 (fun r10 S9 => if r10 = 0 then (K (-2147483648 : Int64) S9) else (∀ v13 : Int32, v13 = (30 * x1) → S9.K a0 = 11 ∧ ∃ p15 : Nat, S9.R 704 a0 = some p15 ∧ S9.K p15 = 10 ∧ wp_X9_countRuns N S9 p15 x2 v13 (v13 + 29) (fun r18 S17 => if r18 = 0 then (K (-2147483648 : Int64) S17) else (S17.K a0 = 11 ∧ ∃ p21 : Nat, S17.R 704 a0 = some p21 ∧ S17.K p21 = 10 ∧ wp_X9_sumRuns N S17 p21 x2 v13 (v13 + 29) (fun r24 S23 => wp_X10_fraction N S23 r24.toInt64 r18.toInt64 x3 (fun r26 S25 => K r26 S25))))))))))
set_option maxHeartbeats 4000000 in
set_option maxRecDepth 100000 in
theorem c_X10_month {l : Launch} {D : DX} {cA : Nat → ClassId} {z0 N : Nat} {S : PS} {a0 : Nat} {x1 : Int32} {x2 : Int32} {x3 : Int32} {K : Int64 → PS → Prop} (hM : wp_X10_month N S a0 x1 x2 x3 K) : MetL l yX10_month cX10_month 6 (some .long) 2 0 0 D cA z0 [.ref a0, .int x1, .int x2, .int x3] S K := by
  refine x_met RX10 (by decide) rfl ?_
  intro p e s m below meth c C hin hV
  have hl := lv_entry ([.ref a0, .int x1, .int x2, .int x3]) (n := 6) (Nat.le_of_ble_eq_true rfl)
  rw [lg_entry_eq]
  generalize (lg_sl ([.ref a0, .int x1, .int x2, .int x3]) ++ List.replicate (6 - (lg_sl ([.ref a0, .int x1, .int x2, .int x3])).length) Slot.unset).toArray = ls at hl ⊢
  have hl : lv_has ls 6 [(0, .ref a0), (1, .int x1), (2, .int x2), (3, .int x3)] := hl
  obtain ⟨hx, hb, hml, hown, hts, hK, hz, hlk, hr⟩ := id C
  unfold wp_X10_month at hM
  refine lv_iload_n hx hb dX10_month_0 rfl (lv_at hl 1 rfl) ?_
  refine lv_iconst (v := 0) hx hb dX10_month_1 (by decide) ?_
  refine lv_bipush (v := 33) hx hb dX10_month_2 (by decide) ?_
  refine x_ci hV (x_runS (As := [.int x1, .int 0, .int 33]) (rest := []) C hV ms_X10_within wl_X10_94 (c_X10_within hM) ⟨by decide, by decide⟩ rfl hl.1 (Nat.le_of_ble_eq_true rfl) dX10_month_4 ⟨Nat.zero_le _, Nat.zero_le _⟩) (fun r2 S1 H locs hV hM => ?_)
  have hz3 := hM.1
  have hM := hM.2
  refine lv_if_eq (tgt := 26) hx hb dX10_month_7 (by decide) (fun c4 => ?_) (fun c4 => ?_)
  · have hM := ite_t c4 hM
    refine lv_ldc2 hx hb hown (hts _ wc_X10_278) dX10_month_26 ?_
    exact x_lret C hV hM dX10_month_29
  have hM := ite_f c4 hM
  refine lv_iload_n hx hb dX10_month_10 rfl (lv_at hl 2 rfl) ?_
  refine x_ci hV (x_runS (As := [.int x2]) (rest := []) C hV ms_X10_isWay wl_X10_159 (c_X10_isWay hM) ⟨by decide, by decide⟩ rfl hl.1 (Nat.le_of_ble_eq_true rfl) dX10_month_11 ⟨Nat.zero_le _, Nat.zero_le _⟩) (fun r6 S5 H locs hV hM => ?_)
  have hz7 := hM.1
  have hM := hM.2
  refine lv_if_eq (tgt := 26) hx hb dX10_month_14 (by decide) (fun c8 => ?_) (fun c8 => ?_)
  · have hM := ite_t c8 hM
    refine lv_ldc2 hx hb hown (hts _ wc_X10_278) dX10_month_26 ?_
    exact x_lret C hV hM dX10_month_29
  have hM := ite_f c8 hM
  refine lv_iload_n hx hb dX10_month_17 rfl (lv_at hl 3 rfl) ?_
  refine lv_iconst (v := 0) hx hb dX10_month_18 (by decide) ?_
  refine lv_iconst (v := 1) hx hb dX10_month_19 (by decide) ?_
  refine x_ci hV (x_runS (As := [.int x3, .int 0, .int 1]) (rest := []) C hV ms_X10_within wl_X10_94 (c_X10_within hM) ⟨by decide, by decide⟩ rfl hl.1 (Nat.le_of_ble_eq_true rfl) dX10_month_20 ⟨Nat.zero_le _, Nat.zero_le _⟩) (fun r10 S9 H locs hV hM => ?_)
  have hz11 := hM.1
  have hM := hM.2
  refine lv_if_ne (tgt := 30) hx hb dX10_month_23 (by decide) (fun c12 => ?_) (fun c12 => ?_)
  · have hM := ite_f c12 hM
    refine lv_bipush (v := 30) hx hb dX10_month_30 (by decide) ?_
    refine lv_iload_n hx hb dX10_month_32 rfl (lv_at hl 1 rfl) ?_
    refine lv_imul hx hb dX10_month_33 ?_
    refine lv_topi (fun v13 ev13 => ?_)
    have hM := hM v13 ev13
    refine lv_istore (lv' := [(4, .int v13), (0, .ref a0), (1, .int x1), (2, .int x2), (3, .int x3)]) hx hb dX10_month_34 hl (by decide) rfl (fun ls hl => ?_)
    refine lv_aload_n hx hb dX10_month_36 rfl (lv_at hl 1 rfl) ?_
    have hk14 := hM.1
    have hM := hM.2
    obtain ⟨p15, hp15, hM⟩ := hM
    refine x_getR C hV wf_X10_10 hk14 hp15 dX10_month_37 ?_
    refine lv_iload_n hx hb dX10_month_40 rfl (lv_at hl 3 rfl) ?_
    refine lv_iload hx hb dX10_month_41 (lv_at hl 0 rfl) ?_
    refine lv_iload hx hb dX10_month_43 (lv_at hl 0 rfl) ?_
    refine lv_bipush (v := 29) hx hb dX10_month_45 (by decide) ?_
    refine lv_iadd hx hb dX10_month_47 ?_
    have hk16 := hM.1
    have hM := hM.2
    refine x_ci hV (x_runV (As := [.int x2, .int v13, .int (v13 + 29)]) (rest := []) C hV mi_X9_countRuns wl_X10_264 hk16 (c_X9_countRuns hM) ⟨by decide, by decide⟩ rfl hl.1 (Nat.le_of_ble_eq_true rfl) dX10_month_48 ⟨Nat.zero_le _, Nat.zero_le _⟩) (fun r18 S17 H locs hV hM => ?_)
    refine lv_istore (lv' := [(5, .int r18), (4, .int v13), (0, .ref a0), (1, .int x1), (2, .int x2), (3, .int x3)]) hx hb dX10_month_51 hl (by decide) rfl (fun ls hl => ?_)
    refine lv_iload hx hb dX10_month_53 (lv_at hl 0 rfl) ?_
    refine lv_if_ne (tgt := 62) hx hb dX10_month_55 (by decide) (fun c19 => ?_) (fun c19 => ?_)
    · have hM := ite_f c19 hM
      refine lv_aload_n hx hb dX10_month_62 rfl (lv_at hl 2 rfl) ?_
      have hk20 := hM.1
      have hM := hM.2
      obtain ⟨p21, hp21, hM⟩ := hM
      refine x_getR C hV wf_X10_10 hk20 hp21 dX10_month_63 ?_
      refine lv_iload_n hx hb dX10_month_66 rfl (lv_at hl 4 rfl) ?_
      refine lv_iload hx hb dX10_month_67 (lv_at hl 1 rfl) ?_
      refine lv_iload hx hb dX10_month_69 (lv_at hl 1 rfl) ?_
      refine lv_bipush (v := 29) hx hb dX10_month_71 (by decide) ?_
      refine lv_iadd hx hb dX10_month_73 ?_
      have hk22 := hM.1
      have hM := hM.2
      refine x_ci hV (x_runV (As := [.int x2, .int v13, .int (v13 + 29)]) (rest := []) C hV mi_X9_sumRuns wl_X10_267 hk22 (c_X9_sumRuns hM) ⟨by decide, by decide⟩ rfl hl.1 (Nat.le_of_ble_eq_true rfl) dX10_month_74 ⟨Nat.zero_le _, Nat.zero_le _⟩) (fun r24 S23 H locs hV hM => ?_)
      refine lv_i2l hx hb dX10_month_77 rfl ?_
      refine lv_iload hx hb dX10_month_78 (lv_at hl 0 rfl) ?_
      refine lv_i2l hx hb dX10_month_80 rfl ?_
      refine lv_iload_n hx hb dX10_month_81 rfl (lv_at hl 5 rfl) ?_
      refine x_cl hV (x_runS (As := [.long r24.toInt64, .long r18.toInt64, .int x3]) (rest := []) C hV ms_X10_fraction wl_X10_238 (c_X10_fraction hM) ⟨by decide, by decide⟩ rfl hl.1 (Nat.le_of_ble_eq_true rfl) dX10_month_82 ⟨Nat.zero_le _, Nat.zero_le _⟩) (fun r26 S25 H locs hV hM => ?_)
      exact x_lret C hV hM dX10_month_85
    have hM := ite_t c19 hM
    refine lv_ldc2 hx hb hown (hts _ wc_X10_278) dX10_month_58 ?_
    exact x_lret C hV hM dX10_month_61
  have hM := ite_t c12 hM
  refine lv_ldc2 hx hb hown (hts _ wc_X10_278) dX10_month_26 ?_
  exact x_lret C hV hM dX10_month_29

def wq_X10_twosParted_5 (N : Nat) (K : Int32 → PS → Prop) : Nat → PS → Nat → Int32 → Int32 → Int32 → Int32 → Prop
  | 0, _, _, _, _, _, _ => False
  | n + 1, S, a0, x1, x2, x3, x4 => if x1 ≤ x4 then (K x3 S) else (S.K a0 = 11 ∧ ∃ p3 : Nat, S.R 714 a0 = some p3 ∧ S.K p3 = 20 ∧ vp_in x4 (S.ln p3) ∧ ∀ v6 : Int32, v6 = (x3 + (((S.A p3 x4.toNatClampNeg) >>> (x2 &&& 31)) &&& 1)) → wq_X10_twosParted_5 N K n S a0 x1 x2 v6 (x4 + 1))
def wp_X10_twosParted (N : Nat) (S : PS) (a0 : Nat) (x1 : Int32) (x2 : Int32) (K : Int32 → PS → Prop) : Prop := wq_X10_twosParted_5 N K N S a0 x1 x2 0 0
set_option maxHeartbeats 4000000 in
set_option maxRecDepth 100000 in
theorem tq_X10_twosParted_5 {p : Program} {l : Launch} {e : Env} {s : State} {m : MethodId} {args : Array Value} {below : List Frame} {meth : Method} {c : Code} {D : DX} {cA : Nat → ClassId} {z0 N : Nat} {K : Int32 → PS → Prop} (C : CX p s m args meth c cX10_twosParted 5 RX10 (some .int) D cA z0) : ∀ (n : Nat) (S : PS) (a0 : Nat) (x1 : Int32) (x2 : Int32) (x3 : Int32) (x4 : Int32) (H : Heap) (locs : List Loc) (ls : Array Slot), wq_X10_twosParted_5 N K n S a0 x1 x2 x3 x4 → XV D cA z0 s S H locs → lv_has ls 5 [(0, .ref a0), (1, .int x1), (2, .int x2), (3, .int x3), (4, .int x4)] → W p l e (rmd 0 0 0) s m args below meth c H locs 0 0 (MQ below (va_Qi K (XK D cA z0) (zA z0)) args s 0 0 (zA z0)) (F0 m 5 ls []) := by
  obtain ⟨hx, hb, hml, hown, hts, hK, hz, hlk, hr⟩ := id C
  intro n
  induction n with
  | zero => intro S a0 x1 x2 x3 x4 H locs ls hM; exact absurd hM id
  | succ n ih =>
    intro S a0 x1 x2 x3 x4 H locs ls hM hV hl
    rw [wq_X10_twosParted_5.eq_2] at hM
    refine lv_iload hx hb dX10_twosParted_5 (lv_at hl 4 rfl) ?_
    refine lv_iload_n hx hb dX10_twosParted_7 rfl (lv_at hl 1 rfl) ?_
    refine lv_icmp_ge (tgt := 31) hx hb dX10_twosParted_8 (by decide) (fun c1 => ?_) (fun c1 => ?_)
    · have hM := ite_t c1 hM
      refine lv_iload_n hx hb dX10_twosParted_31 rfl (lv_at hl 3 rfl) ?_
      exact x_iret C hV hM dX10_twosParted_32
    have hM := ite_f c1 hM
    refine lv_iload_n hx hb dX10_twosParted_11 rfl (lv_at hl 3 rfl) ?_
    refine lv_aload_n hx hb dX10_twosParted_12 rfl (lv_at hl 0 rfl) ?_
    have hk2 := hM.1
    have hM := hM.2
    obtain ⟨p3, hp3, hM⟩ := hM
    refine x_getR C hV wf_X10_61 hk2 hp3 dX10_twosParted_13 ?_
    refine lv_iload hx hb dX10_twosParted_16 (lv_at hl 4 rfl) ?_
    have hk4 := hM.1
    have hM := hM.2
    have hi5 := hM.1
    have hM := hM.2
    refine x_iald C hV hk4 hi5 dX10_twosParted_18 ?_
    refine lv_iload_n hx hb dX10_twosParted_19 rfl (lv_at hl 2 rfl) ?_
    refine lv_ishr hx hb dX10_twosParted_20 ?_
    refine lv_iconst (v := 1) hx hb dX10_twosParted_21 (by decide) ?_
    refine lv_iand hx hb dX10_twosParted_22 ?_
    refine lv_iadd hx hb dX10_twosParted_23 ?_
    refine lv_topi (fun v6 ev6 => ?_)
    have hM := hM v6 ev6
    refine lv_istore_n (lv' := [(3, .int v6), (0, .ref a0), (1, .int x1), (2, .int x2), (4, .int x4)]) hx hb dX10_twosParted_24 rfl hl (by decide) rfl (fun ls hl => ?_)
    refine lv_iinc (v := (x4 + 1)) (lv' := [(4, .int (x4 + 1)), (3, .int v6), (0, .ref a0), (1, .int x1), (2, .int x2)]) hx hb dX10_twosParted_25 hl (k := 4) rfl rfl (by decide) rfl (fun ls hl => ?_)
    refine lv_goto (tgt := 5) hx hb dX10_twosParted_28 (by decide) ?_
    exact ih _ _ _ _ _ _ _ _ _ hM hV (lv_sub hl [2, 3, 4, 1, 0] rfl)
set_option maxHeartbeats 4000000 in
set_option maxRecDepth 100000 in
theorem c_X10_twosParted {l : Launch} {D : DX} {cA : Nat → ClassId} {z0 N : Nat} {S : PS} {a0 : Nat} {x1 : Int32} {x2 : Int32} {K : Int32 → PS → Prop} (hM : wp_X10_twosParted N S a0 x1 x2 K) : MetI l yX10_twosParted cX10_twosParted 5 (some .int) 0 0 0 D cA z0 [.ref a0, .int x1, .int x2] S K := by
  refine x_met RX10 (by decide) rfl ?_
  intro p e s m below meth c C hin hV
  have hl := lv_entry ([.ref a0, .int x1, .int x2]) (n := 5) (Nat.le_of_ble_eq_true rfl)
  rw [lg_entry_eq]
  generalize (lg_sl ([.ref a0, .int x1, .int x2]) ++ List.replicate (5 - (lg_sl ([.ref a0, .int x1, .int x2])).length) Slot.unset).toArray = ls at hl ⊢
  have hl : lv_has ls 5 [(0, .ref a0), (1, .int x1), (2, .int x2)] := hl
  obtain ⟨hx, hb, hml, hown, hts, hK, hz, hlk, hr⟩ := id C
  unfold wp_X10_twosParted at hM
  refine lv_iconst (v := 0) hx hb dX10_twosParted_0 (by decide) ?_
  refine lv_istore_n (lv' := [(3, .int 0), (0, .ref a0), (1, .int x1), (2, .int x2)]) hx hb dX10_twosParted_1 rfl hl (by decide) rfl (fun ls hl => ?_)
  refine lv_iconst (v := 0) hx hb dX10_twosParted_2 (by decide) ?_
  refine lv_istore (lv' := [(4, .int 0), (3, .int 0), (0, .ref a0), (1, .int x1), (2, .int x2)]) hx hb dX10_twosParted_3 hl (by decide) rfl (fun ls hl => ?_)
  exact tq_X10_twosParted_5 C N _ _ _ _ _ _ _ _ _ hM hV (lv_sub hl [2, 3, 4, 1, 0] rfl)

def wq_X10_next_99 (N : Nat) (K : Int32 → PS → Prop) (k_41 : PS → Nat → Int32 → Int32 → Int32 → Int32 → Int32 → Int32 → Prop) (S : PS) (a0 : Nat) (x2 : Int32) (x3 : Int32) (x7 : Int32) (x8 : Int32) : Prop := S.K a0 = 11 ∧ ∃ p25 : Nat, S.R 704 a0 = some p25 ∧ S.K p25 = 10 ∧ ∃ p27 : Nat, S.R 648 p25 = some p27 ∧ S.K p27 = 23 ∧ vp_in x7 (S.ln p27) ∧ ∃ p30 : Nat, S.Q p27 x7.toNatClampNeg = some p30 ∧ S.K p30 = 2 ∧ ∀ v32 : Int32, v32 = (S.I 132 p30) → k_41 S a0 x2 x3 x7 x8 v32 (x7 + 1)
def wq_X10_next_41 (N : Nat) (K : Int32 → PS → Prop) : Nat → PS → Nat → Int32 → Int32 → Int32 → Int32 → Int32 → Int32 → Prop
  | 0, _, _, _, _, _, _, _, _ => False
  | n + 1, S, a0, x2, x3, x4, x5, x6, x7 => S.K a0 = 11 ∧ ∃ p16 : Nat, S.R 704 a0 = some p16 ∧ S.K p16 = 10 ∧ if (S.I 644 p16) ≤ x7 then (if x2 = 0 then (K x4 S) else (if x4 = (-3) then (K x4 S) else (K x5 S))) else (wp_X10_twosParted N S a0 x3 x7 (fun r22 S21 => if x5 < r22 then (wq_X10_next_99 N K (fun S a0 x2 x3 x4 x5 x6 x7 => wq_X10_next_41 N K n S a0 x2 x3 x4 x5 x6 x7) S21 a0 x2 x3 x7 r22) else (if r22 ≤ 0 then (wq_X10_next_41 N K n S21 a0 x2 x3 x4 x5 x6 (x7 + 1)) else (if r22 = x5 then (S21.K a0 = 11 ∧ ∃ p36 : Nat, S21.R 704 a0 = some p36 ∧ S21.K p36 = 10 ∧ ∃ p38 : Nat, S21.R 648 p36 = some p38 ∧ S21.K p38 = 23 ∧ vp_in x7 (S21.ln p38) ∧ ∃ p41 : Nat, S21.Q p38 x7.toNatClampNeg = some p41 ∧ S21.K p41 = 2 ∧ if x6 ≤ (S21.I 132 p41) then (wq_X10_next_41 N K n S21 a0 x2 x3 x4 x5 x6 (x7 + 1)) else (wq_X10_next_99 N K (fun S a0 x2 x3 x4 x5 x6 x7 => wq_X10_next_41 N K n S a0 x2 x3 x4 x5 x6 x7) S21 a0 x2 x3 x7 r22)) else (wq_X10_next_41 N K n S21 a0 x2 x3 x4 x5 x6 (x7 + 1))))))
def wp_X10_next (N : Nat) (S : PS) (a0 : Nat) (x1 : Int32) (x2 : Int32) (K : Int32 → PS → Prop) : Prop := S.K a0 = 11 ∧ ∃ p2 : Nat, S.R 704 a0 = some p2 ∧ S.K p2 = 10 ∧ wp_X9_areStories N S p2 x1 (fun r5 S4 => if r5 = 0 then (K (-1) S4) else (wp_X10_within N S4 x2 0 1 (fun r9 S8 => if r9 = 0 then (K (-1) S8) else (S8.K a0 = 11 ∧ wp_X10_gatherTwos N S8 a0 x1 (fun r14 S13 => wq_X10_next_41 N K N S13 a0 x2 r14 (-3) 0 0 0)))))
set_option maxHeartbeats 4000000 in
set_option maxRecDepth 100000 in
theorem tq_X10_next_99 {p : Program} {l : Launch} {e : Env} {s : State} {m : MethodId} {args : Array Value} {below : List Frame} {meth : Method} {c : Code} {D : DX} {cA : Nat → ClassId} {z0 N : Nat} {K : Int32 → PS → Prop} {k_41 : PS → Nat → Int32 → Int32 → Int32 → Int32 → Int32 → Int32 → Prop} (C : CX p s m args meth c cX10_next 9 RX10 (some .int) D cA z0) (H_41 : ∀ (S : PS) (a0 : Nat) (x2 : Int32) (x3 : Int32) (x4 : Int32) (x5 : Int32) (x6 : Int32) (x7 : Int32) (H : Heap) (locs : List Loc) (ls : Array Slot), k_41 S a0 x2 x3 x4 x5 x6 x7 → XV D cA z0 s S H locs → lv_has ls 9 [(0, .ref a0), (2, .int x2), (3, .int x3), (4, .int x4), (5, .int x5), (6, .int x6), (7, .int x7)] → W p l e (rmd 4 0 0) s m args below meth c H locs 0 0 (MQ below (va_Qi K (XK D cA z0) (zA z0)) args s 0 0 (zA z0)) (F0 m 41 ls [])) : ∀ (S : PS) (a0 : Nat) (x2 : Int32) (x3 : Int32) (x7 : Int32) (x8 : Int32) (H : Heap) (locs : List Loc) (ls : Array Slot), wq_X10_next_99 N K k_41 S a0 x2 x3 x7 x8 → XV D cA z0 s S H locs → lv_has ls 9 [(0, .ref a0), (2, .int x2), (3, .int x3), (7, .int x7), (8, .int x8)] → W p l e (rmd 4 0 0) s m args below meth c H locs 0 0 (MQ below (va_Qi K (XK D cA z0) (zA z0)) args s 0 0 (zA z0)) (F0 m 99 ls []) := by
  obtain ⟨hx, hb, hml, hown, hts, hK, hz, hlk, hr⟩ := id C
  intro S a0 x2 x3 x7 x8 H locs ls hM hV hl
  unfold wq_X10_next_99 at hM
  refine lv_iload hx hb dX10_next_99 (lv_at hl 3 rfl) ?_
  refine lv_istore (lv' := [(4, .int x7), (0, .ref a0), (2, .int x2), (3, .int x3), (7, .int x7), (8, .int x8)]) hx hb dX10_next_101 hl (by decide) rfl (fun ls hl => ?_)
  refine lv_iload hx hb dX10_next_103 (lv_at hl 5 rfl) ?_
  refine lv_istore (lv' := [(5, .int x8), (4, .int x7), (0, .ref a0), (2, .int x2), (3, .int x3), (7, .int x7), (8, .int x8)]) hx hb dX10_next_105 hl (by decide) rfl (fun ls hl => ?_)
  refine lv_aload_n hx hb dX10_next_107 rfl (lv_at hl 2 rfl) ?_
  have hk24 := hM.1
  have hM := hM.2
  obtain ⟨p25, hp25, hM⟩ := hM
  refine x_getR C hV wf_X10_10 hk24 hp25 dX10_next_108 ?_
  have hk26 := hM.1
  have hM := hM.2
  obtain ⟨p27, hp27, hM⟩ := hM
  refine x_getR C hV wf_X10_101 hk26 hp27 dX10_next_111 ?_
  refine lv_iload hx hb dX10_next_114 (lv_at hl 5 rfl) ?_
  have hk28 := hM.1
  have hM := hM.2
  have hi29 := hM.1
  have hM := hM.2
  obtain ⟨p30, hp30, hM⟩ := hM
  refine x_aald C hV hk28 (by decide) rfl hi29 hp30 dX10_next_116 ?_
  have hk31 := hM.1
  have hM := hM.2
  refine x_getI C hV wf_X10_128 hk31 dX10_next_117 ?_
  refine lv_topi (fun v32 ev32 => ?_)
  have hM := hM v32 ev32
  refine lv_istore (lv' := [(6, .int v32), (5, .int x8), (4, .int x7), (0, .ref a0), (2, .int x2), (3, .int x3), (7, .int x7), (8, .int x8)]) hx hb dX10_next_120 hl (by decide) rfl (fun ls hl => ?_)
  refine lv_iinc (v := (x7 + 1)) (lv' := [(7, .int (x7 + 1)), (6, .int v32), (5, .int x8), (4, .int x7), (0, .ref a0), (2, .int x2), (3, .int x3), (8, .int x8)]) hx hb dX10_next_122 hl (k := 6) rfl rfl (by decide) rfl (fun ls hl => ?_)
  refine lv_goto (tgt := 41) hx hb dX10_next_125 (by decide) ?_
  exact H_41 _ _ _ _ _ _ _ _ _ _ _ hM hV (lv_sub hl [4, 5, 6, 3, 2, 1, 0] rfl)
set_option maxHeartbeats 4000000 in
set_option maxRecDepth 100000 in
theorem tq_X10_next_41 {p : Program} {l : Launch} {e : Env} {s : State} {m : MethodId} {args : Array Value} {below : List Frame} {meth : Method} {c : Code} {D : DX} {cA : Nat → ClassId} {z0 N : Nat} {K : Int32 → PS → Prop} (C : CX p s m args meth c cX10_next 9 RX10 (some .int) D cA z0) : ∀ (n : Nat) (S : PS) (a0 : Nat) (x2 : Int32) (x3 : Int32) (x4 : Int32) (x5 : Int32) (x6 : Int32) (x7 : Int32) (H : Heap) (locs : List Loc) (ls : Array Slot), wq_X10_next_41 N K n S a0 x2 x3 x4 x5 x6 x7 → XV D cA z0 s S H locs → lv_has ls 9 [(0, .ref a0), (2, .int x2), (3, .int x3), (4, .int x4), (5, .int x5), (6, .int x6), (7, .int x7)] → W p l e (rmd 4 0 0) s m args below meth c H locs 0 0 (MQ below (va_Qi K (XK D cA z0) (zA z0)) args s 0 0 (zA z0)) (F0 m 41 ls []) := by
  obtain ⟨hx, hb, hml, hown, hts, hK, hz, hlk, hr⟩ := id C
  intro n
  induction n with
  | zero => intro S a0 x2 x3 x4 x5 x6 x7 H locs ls hM; exact absurd hM id
  | succ n ih =>
    intro S a0 x2 x3 x4 x5 x6 x7 H locs ls hM hV hl
    rw [wq_X10_next_41.eq_2] at hM
    refine lv_iload hx hb dX10_next_41 (lv_at hl 6 rfl) ?_
    refine lv_aload_n hx hb dX10_next_43 rfl (lv_at hl 0 rfl) ?_
    have hk15 := hM.1
    have hM := hM.2
    obtain ⟨p16, hp16, hM⟩ := hM
    refine x_getR C hV wf_X10_10 hk15 hp16 dX10_next_44 ?_
    have hk17 := hM.1
    have hM := hM.2
    refine x_getI C hV wf_X10_98 hk17 dX10_next_47 ?_
    refine lv_icmp_ge (tgt := 128) hx hb dX10_next_50 (by decide) (fun c18 => ?_) (fun c18 => ?_)
    · have hM := ite_t c18 hM
      refine lv_iload_n hx hb dX10_next_128 rfl (lv_at hl 1 rfl) ?_
      refine lv_if_eq (tgt := 139) hx hb dX10_next_129 (by decide) (fun c19 => ?_) (fun c19 => ?_)
      · have hM := ite_t c19 hM
        refine lv_iload hx hb dX10_next_139 (lv_at hl 3 rfl) ?_
        refine lv_goto (tgt := 146) hx hb dX10_next_141 (by decide) ?_
        exact x_iret C hV hM dX10_next_146
      have hM := ite_f c19 hM
      refine lv_iload hx hb dX10_next_132 (lv_at hl 3 rfl) ?_
      refine lv_bipush (v := (-3)) hx hb dX10_next_134 (by decide) ?_
      refine lv_icmp_ne (tgt := 144) hx hb dX10_next_136 (by decide) (fun c20 => ?_) (fun c20 => ?_)
      · have hM := ite_f c20 hM
        refine lv_iload hx hb dX10_next_144 (lv_at hl 4 rfl) ?_
        exact x_iret C hV hM dX10_next_146
      have hM := ite_t c20 hM
      refine lv_iload hx hb dX10_next_139 (lv_at hl 3 rfl) ?_
      refine lv_goto (tgt := 146) hx hb dX10_next_141 (by decide) ?_
      exact x_iret C hV hM dX10_next_146
    have hM := ite_f c18 hM
    refine lv_aload_n hx hb dX10_next_53 rfl (lv_at hl 0 rfl) ?_
    refine lv_iload_n hx hb dX10_next_54 rfl (lv_at hl 2 rfl) ?_
    refine lv_iload hx hb dX10_next_55 (lv_at hl 6 rfl) ?_
    refine x_ci hV (x_runV (As := [.int x3, .int x7]) (rest := []) C hV mi_X10_twosParted wl_X10_248 hk15 (c_X10_twosParted hM) ⟨by decide, by decide⟩ rfl hl.1 (Nat.le_of_ble_eq_true rfl) dX10_next_57 ⟨Nat.zero_le _, Nat.zero_le _⟩) (fun r22 S21 H locs hV hM => ?_)
    refine lv_istore (lv' := [(8, .int r22), (0, .ref a0), (2, .int x2), (3, .int x3), (4, .int x4), (5, .int x5), (6, .int x6), (7, .int x7)]) hx hb dX10_next_60 hl (by decide) rfl (fun ls hl => ?_)
    refine lv_iload hx hb dX10_next_62 (lv_at hl 0 rfl) ?_
    refine lv_iload hx hb dX10_next_64 (lv_at hl 5 rfl) ?_
    refine lv_icmp_gt (tgt := 99) hx hb dX10_next_66 (by decide) (fun c23 => ?_) (fun c23 => ?_)
    · have hM := ite_t c23 hM
      exact tq_X10_next_99 C ih _ _ _ _ _ _ _ _ _ hM hV (lv_sub hl [1, 2, 3, 7, 0] rfl)
    have hM := ite_f c23 hM
    refine lv_iload hx hb dX10_next_69 (lv_at hl 0 rfl) ?_
    refine lv_if_le (tgt := 122) hx hb dX10_next_71 (by decide) (fun c33 => ?_) (fun c33 => ?_)
    · have hM := ite_t c33 hM
      refine lv_iinc (v := (x7 + 1)) (lv' := [(7, .int (x7 + 1)), (8, .int r22), (0, .ref a0), (2, .int x2), (3, .int x3), (4, .int x4), (5, .int x5), (6, .int x6)]) hx hb dX10_next_122 hl (k := 7) rfl rfl (by decide) rfl (fun ls hl => ?_)
      refine lv_goto (tgt := 41) hx hb dX10_next_125 (by decide) ?_
      exact ih _ _ _ _ _ _ _ _ _ _ _ hM hV (lv_sub hl [2, 3, 4, 5, 6, 7, 0] rfl)
    have hM := ite_f c33 hM
    refine lv_iload hx hb dX10_next_74 (lv_at hl 0 rfl) ?_
    refine lv_iload hx hb dX10_next_76 (lv_at hl 5 rfl) ?_
    refine lv_icmp_ne (tgt := 122) hx hb dX10_next_78 (by decide) (fun c34 => ?_) (fun c34 => ?_)
    · have hM := ite_f c34 hM
      refine lv_iinc (v := (x7 + 1)) (lv' := [(7, .int (x7 + 1)), (8, .int r22), (0, .ref a0), (2, .int x2), (3, .int x3), (4, .int x4), (5, .int x5), (6, .int x6)]) hx hb dX10_next_122 hl (k := 7) rfl rfl (by decide) rfl (fun ls hl => ?_)
      refine lv_goto (tgt := 41) hx hb dX10_next_125 (by decide) ?_
      exact ih _ _ _ _ _ _ _ _ _ _ _ hM hV (lv_sub hl [2, 3, 4, 5, 6, 7, 0] rfl)
    have hM := ite_t c34 hM
    refine lv_aload_n hx hb dX10_next_81 rfl (lv_at hl 1 rfl) ?_
    have hk35 := hM.1
    have hM := hM.2
    obtain ⟨p36, hp36, hM⟩ := hM
    refine x_getR C hV wf_X10_10 hk35 hp36 dX10_next_82 ?_
    have hk37 := hM.1
    have hM := hM.2
    obtain ⟨p38, hp38, hM⟩ := hM
    refine x_getR C hV wf_X10_101 hk37 hp38 dX10_next_85 ?_
    refine lv_iload hx hb dX10_next_88 (lv_at hl 7 rfl) ?_
    have hk39 := hM.1
    have hM := hM.2
    have hi40 := hM.1
    have hM := hM.2
    obtain ⟨p41, hp41, hM⟩ := hM
    refine x_aald C hV hk39 (by decide) rfl hi40 hp41 dX10_next_90 ?_
    have hk42 := hM.1
    have hM := hM.2
    refine x_getI C hV wf_X10_128 hk42 dX10_next_91 ?_
    refine lv_iload hx hb dX10_next_94 (lv_at hl 6 rfl) ?_
    refine lv_icmp_ge (tgt := 122) hx hb dX10_next_96 (by decide) (fun c43 => ?_) (fun c43 => ?_)
    · have hM := ite_t c43 hM
      refine lv_iinc (v := (x7 + 1)) (lv' := [(7, .int (x7 + 1)), (8, .int r22), (0, .ref a0), (2, .int x2), (3, .int x3), (4, .int x4), (5, .int x5), (6, .int x6)]) hx hb dX10_next_122 hl (k := 7) rfl rfl (by decide) rfl (fun ls hl => ?_)
      refine lv_goto (tgt := 41) hx hb dX10_next_125 (by decide) ?_
      exact ih _ _ _ _ _ _ _ _ _ _ _ hM hV (lv_sub hl [2, 3, 4, 5, 6, 7, 0] rfl)
    have hM := ite_f c43 hM
    exact tq_X10_next_99 C ih _ _ _ _ _ _ _ _ _ hM hV (lv_sub hl [1, 2, 3, 7, 0] rfl)
set_option maxHeartbeats 4000000 in
set_option maxRecDepth 100000 in
theorem c_X10_next {l : Launch} {D : DX} {cA : Nat → ClassId} {z0 N : Nat} {S : PS} {a0 : Nat} {x1 : Int32} {x2 : Int32} {K : Int32 → PS → Prop} (hM : wp_X10_next N S a0 x1 x2 K) : MetI l yX10_next cX10_next 9 (some .int) 4 0 0 D cA z0 [.ref a0, .int x1, .int x2] S K := by
  refine x_met RX10 (by decide) rfl ?_
  intro p e s m below meth c C hin hV
  have hl := lv_entry ([.ref a0, .int x1, .int x2]) (n := 9) (Nat.le_of_ble_eq_true rfl)
  rw [lg_entry_eq]
  generalize (lg_sl ([.ref a0, .int x1, .int x2]) ++ List.replicate (9 - (lg_sl ([.ref a0, .int x1, .int x2])).length) Slot.unset).toArray = ls at hl ⊢
  have hl : lv_has ls 9 [(0, .ref a0), (1, .int x1), (2, .int x2)] := hl
  obtain ⟨hx, hb, hml, hown, hts, hK, hz, hlk, hr⟩ := id C
  unfold wp_X10_next at hM
  refine lv_aload_n hx hb dX10_next_0 rfl (lv_at hl 0 rfl) ?_
  have hk1 := hM.1
  have hM := hM.2
  obtain ⟨p2, hp2, hM⟩ := hM
  refine x_getR C hV wf_X10_10 hk1 hp2 dX10_next_1 ?_
  refine lv_iload_n hx hb dX10_next_4 rfl (lv_at hl 1 rfl) ?_
  have hk3 := hM.1
  have hM := hM.2
  refine x_ci hV (x_runV (As := [.int x1]) (rest := []) C hV mi_X9_areStories wl_X10_242 hk3 (c_X9_areStories hM) ⟨by decide, by decide⟩ rfl hl.1 (Nat.le_of_ble_eq_true rfl) dX10_next_5 ⟨Nat.zero_le _, Nat.zero_le _⟩) (fun r5 S4 H locs hV hM => ?_)
  have hz6 := hM.1
  have hM := hM.2
  refine lv_if_eq (tgt := 20) hx hb dX10_next_8 (by decide) (fun c7 => ?_) (fun c7 => ?_)
  · have hM := ite_t c7 hM
    refine lv_iconst (v := (-1)) hx hb dX10_next_20 (by decide) ?_
    exact x_iret C hV hM dX10_next_21
  have hM := ite_f c7 hM
  refine lv_iload_n hx hb dX10_next_11 rfl (lv_at hl 2 rfl) ?_
  refine lv_iconst (v := 0) hx hb dX10_next_12 (by decide) ?_
  refine lv_iconst (v := 1) hx hb dX10_next_13 (by decide) ?_
  refine x_ci hV (x_runS (As := [.int x2, .int 0, .int 1]) (rest := []) C hV ms_X10_within wl_X10_94 (c_X10_within hM) ⟨by decide, by decide⟩ rfl hl.1 (Nat.le_of_ble_eq_true rfl) dX10_next_14 ⟨Nat.zero_le _, Nat.zero_le _⟩) (fun r9 S8 H locs hV hM => ?_)
  have hz10 := hM.1
  have hM := hM.2
  refine lv_if_ne (tgt := 22) hx hb dX10_next_17 (by decide) (fun c11 => ?_) (fun c11 => ?_)
  · have hM := ite_f c11 hM
    refine lv_aload_n hx hb dX10_next_22 rfl (lv_at hl 0 rfl) ?_
    refine lv_iload_n hx hb dX10_next_23 rfl (lv_at hl 1 rfl) ?_
    have hk12 := hM.1
    have hM := hM.2
    refine x_ci hV (x_runV (As := [.int x1]) (rest := []) C hV mi_X10_gatherTwos wl_X10_245 hk12 (c_X10_gatherTwos hM) ⟨by decide, by decide⟩ rfl hl.1 (Nat.le_of_ble_eq_true rfl) dX10_next_24 ⟨Nat.zero_le _, Nat.zero_le _⟩) (fun r14 S13 H locs hV hM => ?_)
    refine lv_istore_n (lv' := [(3, .int r14), (0, .ref a0), (1, .int x1), (2, .int x2)]) hx hb dX10_next_27 rfl hl (by decide) rfl (fun ls hl => ?_)
    refine lv_bipush (v := (-3)) hx hb dX10_next_28 (by decide) ?_
    refine lv_istore (lv' := [(4, .int (-3)), (3, .int r14), (0, .ref a0), (1, .int x1), (2, .int x2)]) hx hb dX10_next_30 hl (by decide) rfl (fun ls hl => ?_)
    refine lv_iconst (v := 0) hx hb dX10_next_32 (by decide) ?_
    refine lv_istore (lv' := [(5, .int 0), (4, .int (-3)), (3, .int r14), (0, .ref a0), (1, .int x1), (2, .int x2)]) hx hb dX10_next_33 hl (by decide) rfl (fun ls hl => ?_)
    refine lv_iconst (v := 0) hx hb dX10_next_35 (by decide) ?_
    refine lv_istore (lv' := [(6, .int 0), (5, .int 0), (4, .int (-3)), (3, .int r14), (0, .ref a0), (1, .int x1), (2, .int x2)]) hx hb dX10_next_36 hl (by decide) rfl (fun ls hl => ?_)
    refine lv_iconst (v := 0) hx hb dX10_next_38 (by decide) ?_
    refine lv_istore (lv' := [(7, .int 0), (6, .int 0), (5, .int 0), (4, .int (-3)), (3, .int r14), (0, .ref a0), (1, .int x1), (2, .int x2)]) hx hb dX10_next_39 hl (by decide) rfl (fun ls hl => ?_)
    exact tq_X10_next_41 C N _ _ _ _ _ _ _ _ _ _ _ hM hV (lv_sub hl [5, 7, 4, 3, 2, 1, 0] rfl)
  have hM := ite_t c11 hM
  refine lv_iconst (v := (-1)) hx hb dX10_next_20 (by decide) ?_
  exact x_iret C hV hM dX10_next_21

def wp_X10_noise (N : Nat) (S : PS) (a0 : Nat) (x1 : Int32) (K : Int32 → PS → Prop) : Prop := wp_X10_within N S x1 0 20 (fun r2 S1 => if r2 = 0 then (K (-1) S1) else (S1.K a0 = 11 ∧ ∃ p6 : Nat, S1.R 704 a0 = some p6 ∧ S1.K p6 = 10 ∧ ∀ v8 : Int32, v8 = (S1.I 641 p6) → ∃ p9 : Nat, S1.R 704 a0 = some p9 ∧ S1.K p9 = 10 ∧ ∀ S11 : PS, S11 = S1.setI 641 p9 x1 → K v8 S11))
set_option maxHeartbeats 4000000 in
set_option maxRecDepth 100000 in
theorem c_X10_noise {l : Launch} {D : DX} {cA : Nat → ClassId} {z0 N : Nat} {S : PS} {a0 : Nat} {x1 : Int32} {K : Int32 → PS → Prop} (hM : wp_X10_noise N S a0 x1 K) : MetI l yX10_noise cX10_noise 3 (some .int) 1 0 0 D cA z0 [.ref a0, .int x1] S K := by
  refine x_met RX10 (by decide) rfl ?_
  intro p e s m below meth c C hin hV
  have hl := lv_entry ([.ref a0, .int x1]) (n := 3) (Nat.le_of_ble_eq_true rfl)
  rw [lg_entry_eq]
  generalize (lg_sl ([.ref a0, .int x1]) ++ List.replicate (3 - (lg_sl ([.ref a0, .int x1])).length) Slot.unset).toArray = ls at hl ⊢
  have hl : lv_has ls 3 [(0, .ref a0), (1, .int x1)] := hl
  obtain ⟨hx, hb, hml, hown, hts, hK, hz, hlk, hr⟩ := id C
  unfold wp_X10_noise at hM
  refine lv_iload_n hx hb dX10_noise_0 rfl (lv_at hl 1 rfl) ?_
  refine lv_iconst (v := 0) hx hb dX10_noise_1 (by decide) ?_
  refine lv_bipush (v := 20) hx hb dX10_noise_2 (by decide) ?_
  refine x_ci hV (x_runS (As := [.int x1, .int 0, .int 20]) (rest := []) C hV ms_X10_within wl_X10_94 (c_X10_within hM) ⟨by decide, by decide⟩ rfl hl.1 (Nat.le_of_ble_eq_true rfl) dX10_noise_4 ⟨Nat.zero_le _, Nat.zero_le _⟩) (fun r2 S1 H locs hV hM => ?_)
  have hz3 := hM.1
  have hM := hM.2
  refine lv_if_ne (tgt := 12) hx hb dX10_noise_7 (by decide) (fun c4 => ?_) (fun c4 => ?_)
  · have hM := ite_f c4 hM
    refine lv_aload_n hx hb dX10_noise_12 rfl (lv_at hl 0 rfl) ?_
    have hk5 := hM.1
    have hM := hM.2
    obtain ⟨p6, hp6, hM⟩ := hM
    refine x_getR C hV wf_X10_10 hk5 hp6 dX10_noise_13 ?_
    have hk7 := hM.1
    have hM := hM.2
    refine x_getI C hV wf_X10_153 hk7 dX10_noise_16 ?_
    refine lv_topi (fun v8 ev8 => ?_)
    have hM := hM v8 ev8
    refine lv_istore_n (lv' := [(2, .int v8), (0, .ref a0), (1, .int x1)]) hx hb dX10_noise_19 rfl hl (by decide) rfl (fun ls hl => ?_)
    refine lv_aload_n hx hb dX10_noise_20 rfl (lv_at hl 1 rfl) ?_
    obtain ⟨p9, hp9, hM⟩ := hM
    refine x_getR C hV wf_X10_10 hk5 hp9 dX10_noise_21 ?_
    refine lv_iload_n hx hb dX10_noise_24 rfl (lv_at hl 2 rfl) ?_
    have hk10 := hM.1
    have hM := hM.2
    obtain ⟨S11, eS11⟩ : ∃ z : PS, z = S1.setI 641 p9 x1 := ⟨_, rfl⟩
    have hM := hM S11 eS11
    refine x_putI C hV wp_X10_153 hk10 ⟨rfl, rfl⟩ eS11 dX10_noise_25 (fun H locs hV => ?_)
    refine lv_iload_n hx hb dX10_noise_28 rfl (lv_at hl 0 rfl) ?_
    exact x_iret C hV hM dX10_noise_29
  have hM := ite_t c4 hM
  refine lv_iconst (v := (-1)) hx hb dX10_noise_10 (by decide) ?_
  exact x_iret C hV hM dX10_noise_11

def wq_X10_odds_29 (N : Nat) (K : Int64 → PS → Prop) : Nat → PS → Nat → Int32 → Int32 → Int64 → Int32 → Prop
  | 0, _, _, _, _, _, _ => False
  | n + 1, S, a0, x1, x2, j3, x5 => S.K a0 = 11 ∧ ∃ p13 : Nat, S.R 704 a0 = some p13 ∧ S.K p13 = 10 ∧ if (S.I 646 p13) ≤ x5 then (∃ p16 : Nat, S.R 704 a0 = some p16 ∧ S.K p16 = 10 ∧ wp_X9_weighed N S p16 x1 (fun r19 S18 => wp_X10_fraction N S18 r19 j3 x2 (fun r21 S20 => K r21 S20))) else (∃ p22 : Nat, S.R 704 a0 = some p22 ∧ S.K p22 = 10 ∧ wp_X9_weighed N S p22 x5 (fun r25 S24 => ∀ v26 : Int64, v26 = (j3 + r25) → wq_X10_odds_29 N K n S24 a0 x1 x2 v26 (x5 + 1)))
def wp_X10_odds (N : Nat) (S : PS) (a0 : Nat) (x1 : Int32) (x2 : Int32) (K : Int64 → PS → Prop) : Prop := S.K a0 = 11 ∧ ∃ p2 : Nat, S.R 704 a0 = some p2 ∧ S.K p2 = 10 ∧ wp_X9_hasStory N S p2 x1 (fun r5 S4 => if r5 = 0 then (K (-1 : Int64) S4) else (wp_X10_within N S4 x2 0 1 (fun r9 S8 => if r9 = 0 then (K (-1 : Int64) S8) else (wq_X10_odds_29 N K N S8 a0 x1 x2 (0 : Int64) 0))))
set_option maxHeartbeats 4000000 in
set_option maxRecDepth 100000 in
theorem tq_X10_odds_29 {p : Program} {l : Launch} {e : Env} {s : State} {m : MethodId} {args : Array Value} {below : List Frame} {meth : Method} {c : Code} {D : DX} {cA : Nat → ClassId} {z0 N : Nat} {K : Int64 → PS → Prop} (C : CX p s m args meth c cX10_odds 6 RX10 (some .long) D cA z0) : ∀ (n : Nat) (S : PS) (a0 : Nat) (x1 : Int32) (x2 : Int32) (j3 : Int64) (x5 : Int32) (H : Heap) (locs : List Loc) (ls : Array Slot), wq_X10_odds_29 N K n S a0 x1 x2 j3 x5 → XV D cA z0 s S H locs → lv_has ls 6 [(0, .ref a0), (1, .int x1), (2, .int x2), (3, .long j3), (5, .int x5)] → W p l e (rmd 4 0 0) s m args below meth c H locs 0 0 (MQ below (va_Ql K (XK D cA z0) (zA z0)) args s 0 0 (zA z0)) (F0 m 29 ls []) := by
  obtain ⟨hx, hb, hml, hown, hts, hK, hz, hlk, hr⟩ := id C
  intro n
  induction n with
  | zero => intro S a0 x1 x2 j3 x5 H locs ls hM; exact absurd hM id
  | succ n ih =>
    intro S a0 x1 x2 j3 x5 H locs ls hM hV hl
    rw [wq_X10_odds_29.eq_2] at hM
    refine lv_iload hx hb dX10_odds_29 (lv_at hl 4 rfl) ?_
    refine lv_aload_n hx hb dX10_odds_31 rfl (lv_at hl 0 rfl) ?_
    have hk12 := hM.1
    have hM := hM.2
    obtain ⟨p13, hp13, hM⟩ := hM
    refine x_getR C hV wf_X10_10 hk12 hp13 dX10_odds_32 ?_
    have hk14 := hM.1
    have hM := hM.2
    refine x_getI C hV wf_X10_193 hk14 dX10_odds_35 ?_
    refine lv_icmp_ge (tgt := 59) hx hb dX10_odds_38 (by decide) (fun c15 => ?_) (fun c15 => ?_)
    · have hM := ite_t c15 hM
      refine lv_aload_n hx hb dX10_odds_59 rfl (lv_at hl 0 rfl) ?_
      obtain ⟨p16, hp16, hM⟩ := hM
      refine x_getR C hV wf_X10_10 hk12 hp16 dX10_odds_60 ?_
      refine lv_iload_n hx hb dX10_odds_63 rfl (lv_at hl 1 rfl) ?_
      have hk17 := hM.1
      have hM := hM.2
      refine x_cl hV (x_runV (As := [.int x1]) (rest := []) C hV mi_X9_weighed wl_X10_234 hk17 (c_X9_weighed hM) ⟨by decide, by decide⟩ rfl hl.1 (Nat.le_of_ble_eq_true rfl) dX10_odds_64 ⟨Nat.zero_le _, Nat.zero_le _⟩) (fun r19 S18 H locs hV hM => ?_)
      refine lv_lload_n hx hb dX10_odds_67 rfl (lv_at hl 3 rfl) ?_
      refine lv_iload_n hx hb dX10_odds_68 rfl (lv_at hl 2 rfl) ?_
      refine x_cl hV (x_runS (As := [.long r19, .long j3, .int x2]) (rest := []) C hV ms_X10_fraction wl_X10_238 (c_X10_fraction hM) ⟨by decide, by decide⟩ rfl hl.1 (Nat.le_of_ble_eq_true rfl) dX10_odds_69 ⟨Nat.zero_le _, Nat.zero_le _⟩) (fun r21 S20 H locs hV hM => ?_)
      exact x_lret C hV hM dX10_odds_72
    have hM := ite_f c15 hM
    refine lv_lload_n hx hb dX10_odds_41 rfl (lv_at hl 3 rfl) ?_
    refine lv_aload_n hx hb dX10_odds_42 rfl (lv_at hl 0 rfl) ?_
    obtain ⟨p22, hp22, hM⟩ := hM
    refine x_getR C hV wf_X10_10 hk12 hp22 dX10_odds_43 ?_
    refine lv_iload hx hb dX10_odds_46 (lv_at hl 4 rfl) ?_
    have hk23 := hM.1
    have hM := hM.2
    refine x_cl hV (x_runV (As := [.int x5]) (rest := [.long j3]) C hV mi_X9_weighed wl_X10_234 hk23 (c_X9_weighed hM) ⟨by decide, by decide⟩ rfl hl.1 (Nat.le_of_ble_eq_true rfl) dX10_odds_48 ⟨Nat.zero_le _, Nat.zero_le _⟩) (fun r25 S24 H locs hV hM => ?_)
    refine lv_ladd hx hb dX10_odds_51 ?_
    refine lv_topl (fun v26 ev26 => ?_)
    have hM := hM v26 ev26
    refine lv_lstore_n (lv' := [(3, .long v26), (0, .ref a0), (1, .int x1), (2, .int x2), (5, .int x5)]) hx hb dX10_odds_52 rfl hl (by decide) rfl (fun ls hl => ?_)
    refine lv_iinc (v := (x5 + 1)) (lv' := [(5, .int (x5 + 1)), (3, .long v26), (0, .ref a0), (1, .int x1), (2, .int x2)]) hx hb dX10_odds_53 hl (k := 4) rfl rfl (by decide) rfl (fun ls hl => ?_)
    refine lv_goto (tgt := 29) hx hb dX10_odds_56 (by decide) ?_
    exact ih _ _ _ _ _ _ _ _ _ hM hV (lv_sub hl [2, 3, 4, 1, 0] rfl)
set_option maxHeartbeats 4000000 in
set_option maxRecDepth 100000 in
theorem c_X10_odds {l : Launch} {D : DX} {cA : Nat → ClassId} {z0 N : Nat} {S : PS} {a0 : Nat} {x1 : Int32} {x2 : Int32} {K : Int64 → PS → Prop} (hM : wp_X10_odds N S a0 x1 x2 K) : MetL l yX10_odds cX10_odds 6 (some .long) 4 0 0 D cA z0 [.ref a0, .int x1, .int x2] S K := by
  refine x_met RX10 (by decide) rfl ?_
  intro p e s m below meth c C hin hV
  have hl := lv_entry ([.ref a0, .int x1, .int x2]) (n := 6) (Nat.le_of_ble_eq_true rfl)
  rw [lg_entry_eq]
  generalize (lg_sl ([.ref a0, .int x1, .int x2]) ++ List.replicate (6 - (lg_sl ([.ref a0, .int x1, .int x2])).length) Slot.unset).toArray = ls at hl ⊢
  have hl : lv_has ls 6 [(0, .ref a0), (1, .int x1), (2, .int x2)] := hl
  obtain ⟨hx, hb, hml, hown, hts, hK, hz, hlk, hr⟩ := id C
  unfold wp_X10_odds at hM
  refine lv_aload_n hx hb dX10_odds_0 rfl (lv_at hl 0 rfl) ?_
  have hk1 := hM.1
  have hM := hM.2
  obtain ⟨p2, hp2, hM⟩ := hM
  refine x_getR C hV wf_X10_10 hk1 hp2 dX10_odds_1 ?_
  refine lv_iload_n hx hb dX10_odds_4 rfl (lv_at hl 1 rfl) ?_
  have hk3 := hM.1
  have hM := hM.2
  refine x_ci hV (x_runV (As := [.int x1]) (rest := []) C hV mi_X9_hasStory wl_X10_214 hk3 (c_X9_hasStory hM) ⟨by decide, by decide⟩ rfl hl.1 (Nat.le_of_ble_eq_true rfl) dX10_odds_5 ⟨Nat.zero_le _, Nat.zero_le _⟩) (fun r5 S4 H locs hV hM => ?_)
  have hz6 := hM.1
  have hM := hM.2
  refine lv_if_eq (tgt := 20) hx hb dX10_odds_8 (by decide) (fun c7 => ?_) (fun c7 => ?_)
  · have hM := ite_t c7 hM
    refine lv_ldc2 hx hb hown (hts _ wc_X10_232) dX10_odds_20 ?_
    exact x_lret C hV hM dX10_odds_23
  have hM := ite_f c7 hM
  refine lv_iload_n hx hb dX10_odds_11 rfl (lv_at hl 2 rfl) ?_
  refine lv_iconst (v := 0) hx hb dX10_odds_12 (by decide) ?_
  refine lv_iconst (v := 1) hx hb dX10_odds_13 (by decide) ?_
  refine x_ci hV (x_runS (As := [.int x2, .int 0, .int 1]) (rest := []) C hV ms_X10_within wl_X10_94 (c_X10_within hM) ⟨by decide, by decide⟩ rfl hl.1 (Nat.le_of_ble_eq_true rfl) dX10_odds_14 ⟨Nat.zero_le _, Nat.zero_le _⟩) (fun r9 S8 H locs hV hM => ?_)
  have hz10 := hM.1
  have hM := hM.2
  refine lv_if_ne (tgt := 24) hx hb dX10_odds_17 (by decide) (fun c11 => ?_) (fun c11 => ?_)
  · have hM := ite_f c11 hM
    refine lv_lconst (v := 0) hx hb dX10_odds_24 (by decide) ?_
    refine lv_lstore_n (lv' := [(3, .long (0 : Int64)), (0, .ref a0), (1, .int x1), (2, .int x2)]) hx hb dX10_odds_25 rfl hl (by decide) rfl (fun ls hl => ?_)
    refine lv_iconst (v := 0) hx hb dX10_odds_26 (by decide) ?_
    refine lv_istore (lv' := [(5, .int 0), (3, .long (0 : Int64)), (0, .ref a0), (1, .int x1), (2, .int x2)]) hx hb dX10_odds_27 hl (by decide) rfl (fun ls hl => ?_)
    exact tq_X10_odds_29 C N _ _ _ _ _ _ _ _ _ hM hV (lv_sub hl [2, 3, 4, 1, 0] rfl)
  have hM := ite_t c11 hM
  refine lv_ldc2 hx hb hown (hts _ wc_X10_232) dX10_odds_20 ?_
  exact x_lret C hV hM dX10_odds_23

def wp_X10_of (N : Nat) (S : PS) (a0 : Nat) (x1 : Int32) (x2 : Int32) (K : Int32 → PS → Prop) : Prop := S.K a0 = 11 ∧ ∃ p2 : Nat, S.R 704 a0 = some p2 ∧ S.K p2 = 10 ∧ wp_X9_hasPart N S p2 x1 (fun r5 S4 => if r5 = 0 then (K (-2147483648) S4) else (S4.K a0 = 11 ∧ ∃ p9 : Nat, S4.R 704 a0 = some p9 ∧ S4.K p9 = 10 ∧ ∃ p11 : Nat, S4.R 648 p9 = some p11 ∧ S4.K p11 = 23 ∧ vp_in x1 (S4.ln p11) ∧ ∃ p14 : Nat, S4.Q p11 x1.toNatClampNeg = some p14 ∧ if x2 = 0 then (S4.K p14 = 2 ∧ K (S4.I 128 p14) S4) else if x2 = 1 then (S4.K p14 = 2 ∧ K (S4.I 129 p14) S4) else if x2 = 2 then (S4.K p14 = 2 ∧ K (S4.I 130 p14) S4) else if x2 = 3 then (S4.K p14 = 2 ∧ K (S4.I 131 p14) S4) else if x2 = 4 then (S4.K p14 = 2 ∧ K (S4.I 132 p14) S4) else if x2 = 5 then (S4.K p14 = 2 ∧ K (S4.I 133 p14) S4) else if x2 = 6 then (S4.K p14 = 2 ∧ if (S4.I 134 p14) = 0 then (K 0 S4) else (K 1 S4)) else K (-2147483648) S4))
set_option maxHeartbeats 4000000 in
set_option maxRecDepth 100000 in
theorem c_X10_of {l : Launch} {D : DX} {cA : Nat → ClassId} {z0 N : Nat} {S : PS} {a0 : Nat} {x1 : Int32} {x2 : Int32} {K : Int32 → PS → Prop} (hM : wp_X10_of N S a0 x1 x2 K) : MetI l yX10_of cX10_of 4 (some .int) 1 0 0 D cA z0 [.ref a0, .int x1, .int x2] S K := by
  refine x_met RX10 (by decide) rfl ?_
  intro p e s m below meth c C hin hV
  have hl := lv_entry ([.ref a0, .int x1, .int x2]) (n := 4) (Nat.le_of_ble_eq_true rfl)
  rw [lg_entry_eq]
  generalize (lg_sl ([.ref a0, .int x1, .int x2]) ++ List.replicate (4 - (lg_sl ([.ref a0, .int x1, .int x2])).length) Slot.unset).toArray = ls at hl ⊢
  have hl : lv_has ls 4 [(0, .ref a0), (1, .int x1), (2, .int x2)] := hl
  obtain ⟨hx, hb, hml, hown, hts, hK, hz, hlk, hr⟩ := id C
  unfold wp_X10_of at hM
  refine lv_aload_n hx hb dX10_of_0 rfl (lv_at hl 0 rfl) ?_
  have hk1 := hM.1
  have hM := hM.2
  obtain ⟨p2, hp2, hM⟩ := hM
  refine x_getR C hV wf_X10_10 hk1 hp2 dX10_of_1 ?_
  refine lv_iload_n hx hb dX10_of_4 rfl (lv_at hl 1 rfl) ?_
  have hk3 := hM.1
  have hM := hM.2
  refine x_ci hV (x_runV (As := [.int x1]) (rest := []) C hV mi_X9_hasPart wl_X10_111 hk3 (c_X9_hasPart hM) ⟨by decide, by decide⟩ rfl hl.1 (Nat.le_of_ble_eq_true rfl) dX10_of_5 ⟨Nat.zero_le _, Nat.zero_le _⟩) (fun r5 S4 H locs hV hM => ?_)
  have hz6 := hM.1
  have hM := hM.2
  refine lv_if_ne (tgt := 14) hx hb dX10_of_8 (by decide) (fun c7 => ?_) (fun c7 => ?_)
  · have hM := ite_f c7 hM
    refine lv_aload_n hx hb dX10_of_14 rfl (lv_at hl 0 rfl) ?_
    have hk8 := hM.1
    have hM := hM.2
    obtain ⟨p9, hp9, hM⟩ := hM
    refine x_getR C hV wf_X10_10 hk8 hp9 dX10_of_15 ?_
    have hk10 := hM.1
    have hM := hM.2
    obtain ⟨p11, hp11, hM⟩ := hM
    refine x_getR C hV wf_X10_101 hk10 hp11 dX10_of_18 ?_
    refine lv_iload_n hx hb dX10_of_21 rfl (lv_at hl 1 rfl) ?_
    have hk12 := hM.1
    have hM := hM.2
    have hi13 := hM.1
    have hM := hM.2
    obtain ⟨p14, hp14, hM⟩ := hM
    refine x_aald C hV hk12 (by decide) rfl hi13 hp14 dX10_of_22 ?_
    refine lv_astore_n (lv' := [(3, .ref p14), (0, .ref a0), (1, .int x1), (2, .int x2)]) hx hb dX10_of_23 rfl hl (by decide) rfl (fun ls hl => ?_)
    refine lv_iload_n hx hb dX10_of_24 rfl (lv_at hl 3 rfl) ?_
    by_cases c15 : x2 = 0
    · have hM := ite_t c15 hM
      refine lv_tableIn (tgt := 68) (off := 43) hx hb dX10_of_25 (by rw [c15]; decide) (by rw [c15]; decide) (by rw [c15]; decide) (by decide) ?_
      refine lv_aload_n hx hb dX10_of_68 rfl (lv_at hl 0 rfl) ?_
      have hk16 := hM.1
      have hM := hM.2
      refine x_getI C hV wf_X10_116 hk16 dX10_of_69 ?_
      exact x_iret C hV hM dX10_of_72
    have hM := ite_f c15 hM
    by_cases c17 : x2 = 1
    · have hM := ite_t c17 hM
      refine lv_tableIn (tgt := 73) (off := 48) hx hb dX10_of_25 (by rw [c17]; decide) (by rw [c17]; decide) (by rw [c17]; decide) (by decide) ?_
      refine lv_aload_n hx hb dX10_of_73 rfl (lv_at hl 0 rfl) ?_
      have hk18 := hM.1
      have hM := hM.2
      refine x_getI C hV wf_X10_119 hk18 dX10_of_74 ?_
      exact x_iret C hV hM dX10_of_77
    have hM := ite_f c17 hM
    by_cases c19 : x2 = 2
    · have hM := ite_t c19 hM
      refine lv_tableIn (tgt := 78) (off := 53) hx hb dX10_of_25 (by rw [c19]; decide) (by rw [c19]; decide) (by rw [c19]; decide) (by decide) ?_
      refine lv_aload_n hx hb dX10_of_78 rfl (lv_at hl 0 rfl) ?_
      have hk20 := hM.1
      have hM := hM.2
      refine x_getI C hV wf_X10_122 hk20 dX10_of_79 ?_
      exact x_iret C hV hM dX10_of_82
    have hM := ite_f c19 hM
    by_cases c21 : x2 = 3
    · have hM := ite_t c21 hM
      refine lv_tableIn (tgt := 83) (off := 58) hx hb dX10_of_25 (by rw [c21]; decide) (by rw [c21]; decide) (by rw [c21]; decide) (by decide) ?_
      refine lv_aload_n hx hb dX10_of_83 rfl (lv_at hl 0 rfl) ?_
      have hk22 := hM.1
      have hM := hM.2
      refine x_getI C hV wf_X10_125 hk22 dX10_of_84 ?_
      exact x_iret C hV hM dX10_of_87
    have hM := ite_f c21 hM
    by_cases c23 : x2 = 4
    · have hM := ite_t c23 hM
      refine lv_tableIn (tgt := 88) (off := 63) hx hb dX10_of_25 (by rw [c23]; decide) (by rw [c23]; decide) (by rw [c23]; decide) (by decide) ?_
      refine lv_aload_n hx hb dX10_of_88 rfl (lv_at hl 0 rfl) ?_
      have hk24 := hM.1
      have hM := hM.2
      refine x_getI C hV wf_X10_128 hk24 dX10_of_89 ?_
      exact x_iret C hV hM dX10_of_92
    have hM := ite_f c23 hM
    by_cases c25 : x2 = 5
    · have hM := ite_t c25 hM
      refine lv_tableIn (tgt := 93) (off := 68) hx hb dX10_of_25 (by rw [c25]; decide) (by rw [c25]; decide) (by rw [c25]; decide) (by decide) ?_
      refine lv_aload_n hx hb dX10_of_93 rfl (lv_at hl 0 rfl) ?_
      have hk26 := hM.1
      have hM := hM.2
      refine x_getI C hV wf_X10_131 hk26 dX10_of_94 ?_
      exact x_iret C hV hM dX10_of_97
    have hM := ite_f c25 hM
    by_cases c27 : x2 = 6
    · have hM := ite_t c27 hM
      refine lv_tableIn (tgt := 98) (off := 73) hx hb dX10_of_25 (by rw [c27]; decide) (by rw [c27]; decide) (by rw [c27]; decide) (by decide) ?_
      refine lv_aload_n hx hb dX10_of_98 rfl (lv_at hl 0 rfl) ?_
      have hk28 := hM.1
      have hM := hM.2
      refine x_getI C hV wf_X10_134 hk28 dX10_of_99 ?_
      refine lv_if_eq (tgt := 109) hx hb dX10_of_102 (by decide) (fun c29 => ?_) (fun c29 => ?_)
      · have hM := ite_t c29 hM
        refine lv_iconst (v := 0) hx hb dX10_of_109 (by decide) ?_
        exact x_iret C hV hM dX10_of_110
      have hM := ite_f c29 hM
      refine lv_iconst (v := 1) hx hb dX10_of_105 (by decide) ?_
      refine lv_goto (tgt := 110) hx hb dX10_of_106 (by decide) ?_
      exact x_iret C hV hM dX10_of_110
    have hM := ite_f c27 hM
    refine lv_tableOut (tgt := 111) hx hb dX10_of_25 (by have q0 := lv_neT c15 (a := 0) (by decide); have q1 := lv_neT c17 (a := 1) (by decide); have q2 := lv_neT c19 (a := 2) (by decide); have q3 := lv_neT c21 (a := 3) (by decide); have q4 := lv_neT c23 (a := 4) (by decide); have q5 := lv_neT c25 (a := 5) (by decide); have q6 := lv_neT c27 (a := 6) (by decide); omega) (by decide) ?_
    refine lv_ldc hx hb hown (hts _ wc_X10_115) dX10_of_111 ?_
    exact x_iret C hV hM dX10_of_113
  have hM := ite_t c7 hM
  refine lv_ldc hx hb hown (hts _ wc_X10_115) dX10_of_11 ?_
  exact x_iret C hV hM dX10_of_13

def wp_X10_older (N : Nat) (S : PS) (a0 : Nat) (x1 : Int32) (x2 : Int32) (x3 : Int32) (K : Int32 → PS → Prop) : Prop := S.K a0 = 11 ∧ ∃ p2 : Nat, S.R 704 a0 = some p2 ∧ S.K p2 = 10 ∧ wp_X10_within N S x1 0 (S.I 640 p2) (fun r5 S4 => if r5 = 0 then (K (-1) S4) else (wp_X10_isWay N S4 x2 (fun r9 S8 => if r9 = 0 then (K (-1) S8) else (wp_X10_within N S8 x3 (-9999) 9999 (fun r13 S12 => if r13 = 0 then (K (-1) S12) else (S12.K a0 = 11 ∧ ∃ p17 : Nat, S12.R 704 a0 = some p17 ∧ S12.K p17 = 10 ∧ if (S12.I 645 p17) < 40 then (∃ p20 : Nat, S12.R 704 a0 = some p20 ∧ S12.K p20 = 10 ∧ wp_X9_addRun N S12 p20 x1 x2 x3 (fun r23 S22 => K r23 S22)) else (K (-2) S12)))))))
set_option maxHeartbeats 4000000 in
set_option maxRecDepth 100000 in
theorem c_X10_older {l : Launch} {D : DX} {cA : Nat → ClassId} {z0 N : Nat} {S : PS} {a0 : Nat} {x1 : Int32} {x2 : Int32} {x3 : Int32} {K : Int32 → PS → Prop} (hM : wp_X10_older N S a0 x1 x2 x3 K) : MetI l yX10_older cX10_older 4 (some .int) 2 0 0 D cA z0 [.ref a0, .int x1, .int x2, .int x3] S K := by
  refine x_met RX10 (by decide) rfl ?_
  intro p e s m below meth c C hin hV
  have hl := lv_entry ([.ref a0, .int x1, .int x2, .int x3]) (n := 4) (Nat.le_of_ble_eq_true rfl)
  rw [lg_entry_eq]
  generalize (lg_sl ([.ref a0, .int x1, .int x2, .int x3]) ++ List.replicate (4 - (lg_sl ([.ref a0, .int x1, .int x2, .int x3])).length) Slot.unset).toArray = ls at hl ⊢
  have hl : lv_has ls 4 [(0, .ref a0), (1, .int x1), (2, .int x2), (3, .int x3)] := hl
  obtain ⟨hx, hb, hml, hown, hts, hK, hz, hlk, hr⟩ := id C
  unfold wp_X10_older at hM
  refine lv_iload_n hx hb dX10_older_0 rfl (lv_at hl 1 rfl) ?_
  refine lv_iconst (v := 0) hx hb dX10_older_1 (by decide) ?_
  refine lv_aload_n hx hb dX10_older_2 rfl (lv_at hl 0 rfl) ?_
  have hk1 := hM.1
  have hM := hM.2
  obtain ⟨p2, hp2, hM⟩ := hM
  refine x_getR C hV wf_X10_10 hk1 hp2 dX10_older_3 ?_
  have hk3 := hM.1
  have hM := hM.2
  refine x_getI C hV wf_X10_146 hk3 dX10_older_6 ?_
  refine x_ci hV (x_runS (As := [.int x1, .int 0, .int (S.I 640 p2)]) (rest := []) C hV ms_X10_within wl_X10_94 (c_X10_within hM) ⟨by decide, by decide⟩ rfl hl.1 (Nat.le_of_ble_eq_true rfl) dX10_older_9 ⟨Nat.zero_le _, Nat.zero_le _⟩) (fun r5 S4 H locs hV hM => ?_)
  have hz6 := hM.1
  have hM := hM.2
  refine lv_if_eq (tgt := 35) hx hb dX10_older_12 (by decide) (fun c7 => ?_) (fun c7 => ?_)
  · have hM := ite_t c7 hM
    refine lv_iconst (v := (-1)) hx hb dX10_older_35 (by decide) ?_
    exact x_iret C hV hM dX10_older_36
  have hM := ite_f c7 hM
  refine lv_iload_n hx hb dX10_older_15 rfl (lv_at hl 2 rfl) ?_
  refine x_ci hV (x_runS (As := [.int x2]) (rest := []) C hV ms_X10_isWay wl_X10_159 (c_X10_isWay hM) ⟨by decide, by decide⟩ rfl hl.1 (Nat.le_of_ble_eq_true rfl) dX10_older_16 ⟨Nat.zero_le _, Nat.zero_le _⟩) (fun r9 S8 H locs hV hM => ?_)
  have hz10 := hM.1
  have hM := hM.2
  refine lv_if_eq (tgt := 35) hx hb dX10_older_19 (by decide) (fun c11 => ?_) (fun c11 => ?_)
  · have hM := ite_t c11 hM
    refine lv_iconst (v := (-1)) hx hb dX10_older_35 (by decide) ?_
    exact x_iret C hV hM dX10_older_36
  have hM := ite_f c11 hM
  refine lv_iload_n hx hb dX10_older_22 rfl (lv_at hl 3 rfl) ?_
  refine lv_sipush (v := (-9999)) hx hb dX10_older_23 (by decide) ?_
  refine lv_sipush (v := 9999) hx hb dX10_older_26 (by decide) ?_
  refine x_ci hV (x_runS (As := [.int x3, .int (-9999), .int 9999]) (rest := []) C hV ms_X10_within wl_X10_94 (c_X10_within hM) ⟨by decide, by decide⟩ rfl hl.1 (Nat.le_of_ble_eq_true rfl) dX10_older_29 ⟨Nat.zero_le _, Nat.zero_le _⟩) (fun r13 S12 H locs hV hM => ?_)
  have hz14 := hM.1
  have hM := hM.2
  refine lv_if_ne (tgt := 37) hx hb dX10_older_32 (by decide) (fun c15 => ?_) (fun c15 => ?_)
  · have hM := ite_f c15 hM
    refine lv_aload_n hx hb dX10_older_37 rfl (lv_at hl 0 rfl) ?_
    have hk16 := hM.1
    have hM := hM.2
    obtain ⟨p17, hp17, hM⟩ := hM
    refine x_getR C hV wf_X10_10 hk16 hp17 dX10_older_38 ?_
    have hk18 := hM.1
    have hM := hM.2
    refine x_getI C hV wf_X10_162 hk18 dX10_older_41 ?_
    refine lv_bipush (v := 40) hx hb dX10_older_44 (by decide) ?_
    refine lv_icmp_lt (tgt := 52) hx hb dX10_older_46 (by decide) (fun c19 => ?_) (fun c19 => ?_)
    · have hM := ite_t c19 hM
      refine lv_aload_n hx hb dX10_older_52 rfl (lv_at hl 0 rfl) ?_
      obtain ⟨p20, hp20, hM⟩ := hM
      refine x_getR C hV wf_X10_10 hk16 hp20 dX10_older_53 ?_
      refine lv_iload_n hx hb dX10_older_56 rfl (lv_at hl 1 rfl) ?_
      refine lv_iload_n hx hb dX10_older_57 rfl (lv_at hl 2 rfl) ?_
      refine lv_iload_n hx hb dX10_older_58 rfl (lv_at hl 3 rfl) ?_
      have hk21 := hM.1
      have hM := hM.2
      refine x_ci hV (x_runV (As := [.int x1, .int x2, .int x3]) (rest := []) C hV mi_X9_addRun wl_X10_175 hk21 (c_X9_addRun hM) ⟨by decide, by decide⟩ rfl hl.1 (Nat.le_of_ble_eq_true rfl) dX10_older_59 ⟨Nat.zero_le _, Nat.zero_le _⟩) (fun r23 S22 H locs hV hM => ?_)
      exact x_iret C hV hM dX10_older_62
    have hM := ite_f c19 hM
    refine lv_bipush (v := (-2)) hx hb dX10_older_49 (by decide) ?_
    exact x_iret C hV hM dX10_older_51
  have hM := ite_t c15 hM
  refine lv_iconst (v := (-1)) hx hb dX10_older_35 (by decide) ?_
  exact x_iret C hV hM dX10_older_36

def wq_X10_part_57 (N : Nat) (K : Int32 → PS → Prop) (S : PS) (a0 : Nat) (x1 : Int32) (x2 : Int32) (x3 : Int32) (x4 : Int32) (x5 : Int32) (t0 : Int32) : Prop := if t0 = 0 then (K (-1) S) else (S.K a0 = 11 ∧ ∃ p7 : Nat, S.R 704 a0 = some p7 ∧ S.K p7 = 10 ∧ if (S.I 644 p7) < 10 then (∃ p10 : Nat, S.R 704 a0 = some p10 ∧ S.K p10 = 10 ∧ ∃ p12 : Nat, S.R 648 p10 = some p12 ∧ ∃ p13 : Nat, S.R 704 a0 = some p13 ∧ S.K p13 = 10 ∧ S.K p12 = 23 ∧ vp_in (S.I 644 p13) (S.ln p12) ∧ ∃ p17 : Nat, S.Q p12 (S.I 644 p13).toNatClampNeg = some p17 ∧ S.K p17 = 2 ∧ wp_X1_begin N S p17 x1 x2 x3 x4 x5 (fun S19 => S19.K a0 = 11 ∧ ∃ p22 : Nat, S19.R 704 a0 = some p22 ∧ S19.K p22 = 10 ∧ ∀ S24 : PS, S24 = S19.setI 644 p22 ((S19.I 644 p22) + 1) → ∃ p26 : Nat, S24.R 704 a0 = some p26 ∧ S24.K p26 = 10 ∧ K ((S24.I 644 p26) - 1) S24)) else (K (-2) S))
def wq_X10_part_56 (N : Nat) (K : Int32 → PS → Prop) (S : PS) (a0 : Nat) (x1 : Int32) (x2 : Int32) (x3 : Int32) (x4 : Int32) (x5 : Int32) : Prop := wq_X10_part_57 N K S a0 x1 x2 x3 x4 x5 0
def wp_X10_part (N : Nat) (S : PS) (a0 : Nat) (x1 : Int32) (x2 : Int32) (x3 : Int32) (x4 : Int32) (x5 : Int32) (K : Int32 → PS → Prop) : Prop := wp_X10_within N S x1 0 6 (fun r2 S1 => if r2 = 0 then (wq_X10_part_56 N K S1 a0 x1 x2 x3 x4 x5) else (wp_X10_within N S1 x2 1 3 (fun r29 S28 => if r29 = 0 then (wq_X10_part_56 N K S28 a0 x1 x2 x3 x4 x5) else (wp_X10_within N S28 x3 0 9999 (fun r33 S32 => if r33 = 0 then (wq_X10_part_56 N K S32 a0 x1 x2 x3 x4 x5) else (wp_X10_within N S32 x4 0 99 (fun r37 S36 => if r37 = 0 then (wq_X10_part_56 N K S36 a0 x1 x2 x3 x4 x5) else (wp_X10_within N S36 x5 1 60 (fun r41 S40 => if r41 = 0 then (wq_X10_part_56 N K S40 a0 x1 x2 x3 x4 x5) else (wq_X10_part_57 N K S40 a0 x1 x2 x3 x4 x5 1))))))))))
set_option maxHeartbeats 4000000 in
set_option maxRecDepth 100000 in
theorem tq_X10_part_57 {p : Program} {l : Launch} {e : Env} {s : State} {m : MethodId} {args : Array Value} {below : List Frame} {meth : Method} {c : Code} {D : DX} {cA : Nat → ClassId} {z0 N : Nat} {K : Int32 → PS → Prop} (C : CX p s m args meth c cX10_part 7 RX10 (some .int) D cA z0) : ∀ (S : PS) (a0 : Nat) (x1 : Int32) (x2 : Int32) (x3 : Int32) (x4 : Int32) (x5 : Int32) (t0 : Int32) (H : Heap) (locs : List Loc) (ls : Array Slot), wq_X10_part_57 N K S a0 x1 x2 x3 x4 x5 t0 → XV D cA z0 s S H locs → lv_has ls 7 [(0, .ref a0), (1, .int x1), (2, .int x2), (3, .int x3), (4, .int x4), (5, .int x5)] → W p l e (rmd 1 0 0) s m args below meth c H locs 0 0 (MQ below (va_Qi K (XK D cA z0) (zA z0)) args s 0 0 (zA z0)) (F0 m 57 ls [.int t0]) := by
  obtain ⟨hx, hb, hml, hown, hts, hK, hz, hlk, hr⟩ := id C
  intro S a0 x1 x2 x3 x4 x5 t0 H locs ls hM hV hl
  unfold wq_X10_part_57 at hM
  refine lv_istore (lv' := [(6, .int t0), (0, .ref a0), (1, .int x1), (2, .int x2), (3, .int x3), (4, .int x4), (5, .int x5)]) hx hb dX10_part_57 hl (by decide) rfl (fun ls hl => ?_)
  refine lv_iload hx hb dX10_part_59 (lv_at hl 0 rfl) ?_
  refine lv_if_ne (tgt := 66) hx hb dX10_part_61 (by decide) (fun c5 => ?_) (fun c5 => ?_)
  · have hM := ite_f c5 hM
    refine lv_aload_n hx hb dX10_part_66 rfl (lv_at hl 1 rfl) ?_
    have hk6 := hM.1
    have hM := hM.2
    obtain ⟨p7, hp7, hM⟩ := hM
    refine x_getR C hV wf_X10_10 hk6 hp7 dX10_part_67 ?_
    have hk8 := hM.1
    have hM := hM.2
    refine x_getI C hV wf_X10_98 hk8 dX10_part_70 ?_
    refine lv_bipush (v := 10) hx hb dX10_part_73 (by decide) ?_
    refine lv_icmp_lt (tgt := 81) hx hb dX10_part_75 (by decide) (fun c9 => ?_) (fun c9 => ?_)
    · have hM := ite_t c9 hM
      refine lv_aload_n hx hb dX10_part_81 rfl (lv_at hl 1 rfl) ?_
      obtain ⟨p10, hp10, hM⟩ := hM
      refine x_getR C hV wf_X10_10 hk6 hp10 dX10_part_82 ?_
      have hk11 := hM.1
      have hM := hM.2
      obtain ⟨p12, hp12, hM⟩ := hM
      refine x_getR C hV wf_X10_101 hk11 hp12 dX10_part_85 ?_
      refine lv_aload_n hx hb dX10_part_88 rfl (lv_at hl 1 rfl) ?_
      obtain ⟨p13, hp13, hM⟩ := hM
      refine x_getR C hV wf_X10_10 hk6 hp13 dX10_part_89 ?_
      have hk14 := hM.1
      have hM := hM.2
      refine x_getI C hV wf_X10_98 hk14 dX10_part_92 ?_
      have hk15 := hM.1
      have hM := hM.2
      have hi16 := hM.1
      have hM := hM.2
      obtain ⟨p17, hp17, hM⟩ := hM
      refine x_aald C hV hk15 (by decide) rfl hi16 hp17 dX10_part_95 ?_
      refine lv_iload_n hx hb dX10_part_96 rfl (lv_at hl 2 rfl) ?_
      refine lv_iload_n hx hb dX10_part_97 rfl (lv_at hl 3 rfl) ?_
      refine lv_iload_n hx hb dX10_part_98 rfl (lv_at hl 4 rfl) ?_
      refine lv_iload hx hb dX10_part_99 (lv_at hl 5 rfl) ?_
      refine lv_iload hx hb dX10_part_101 (lv_at hl 6 rfl) ?_
      have hk18 := hM.1
      have hM := hM.2
      refine x_cv hV (x_runV (As := [.int x1, .int x2, .int x3, .int x4, .int x5]) (rest := []) C hV mi_X1_begin wl_X10_105 hk18 (c_X1_begin hM) ⟨by decide, by decide⟩ rfl hl.1 (Nat.le_of_ble_eq_true rfl) dX10_part_103 ⟨Nat.zero_le _, Nat.zero_le _⟩) (fun S19 H locs hV hM => ?_)
      refine lv_aload_n hx hb dX10_part_106 rfl (lv_at hl 1 rfl) ?_
      have hk21 := hM.1
      have hM := hM.2
      obtain ⟨p22, hp22, hM⟩ := hM
      refine x_getR C hV wf_X10_10 hk21 hp22 dX10_part_107 ?_
      refine lv_dup hx hb dX10_part_110 rfl ?_
      have hk23 := hM.1
      have hM := hM.2
      refine x_getI C hV wf_X10_98 hk23 dX10_part_111 ?_
      refine lv_iconst (v := 1) hx hb dX10_part_114 (by decide) ?_
      refine lv_iadd hx hb dX10_part_115 ?_
      obtain ⟨S24, eS24⟩ : ∃ z : PS, z = S19.setI 644 p22 ((S19.I 644 p22) + 1) := ⟨_, rfl⟩
      have hM := hM S24 eS24
      refine x_putI C hV wp_X10_98 hk23 ⟨rfl, rfl⟩ eS24 dX10_part_116 (fun H locs hV => ?_)
      refine lv_aload_n hx hb dX10_part_119 rfl (lv_at hl 1 rfl) ?_
      have hk25 := kp_I eS24 hk21
      obtain ⟨p26, hp26, hM⟩ := hM
      refine x_getR C hV wf_X10_10 hk25 hp26 dX10_part_120 ?_
      have hk27 := hM.1
      have hM := hM.2
      refine x_getI C hV wf_X10_98 hk27 dX10_part_123 ?_
      refine lv_iconst (v := 1) hx hb dX10_part_126 (by decide) ?_
      refine lv_isub hx hb dX10_part_127 ?_
      exact x_iret C hV hM dX10_part_128
    have hM := ite_f c9 hM
    refine lv_bipush (v := (-2)) hx hb dX10_part_78 (by decide) ?_
    exact x_iret C hV hM dX10_part_80
  have hM := ite_t c5 hM
  refine lv_iconst (v := (-1)) hx hb dX10_part_64 (by decide) ?_
  exact x_iret C hV hM dX10_part_65
set_option maxHeartbeats 4000000 in
set_option maxRecDepth 100000 in
theorem tq_X10_part_56 {p : Program} {l : Launch} {e : Env} {s : State} {m : MethodId} {args : Array Value} {below : List Frame} {meth : Method} {c : Code} {D : DX} {cA : Nat → ClassId} {z0 N : Nat} {K : Int32 → PS → Prop} (C : CX p s m args meth c cX10_part 7 RX10 (some .int) D cA z0) : ∀ (S : PS) (a0 : Nat) (x1 : Int32) (x2 : Int32) (x3 : Int32) (x4 : Int32) (x5 : Int32) (H : Heap) (locs : List Loc) (ls : Array Slot), wq_X10_part_56 N K S a0 x1 x2 x3 x4 x5 → XV D cA z0 s S H locs → lv_has ls 7 [(0, .ref a0), (1, .int x1), (2, .int x2), (3, .int x3), (4, .int x4), (5, .int x5)] → W p l e (rmd 1 0 0) s m args below meth c H locs 0 0 (MQ below (va_Qi K (XK D cA z0) (zA z0)) args s 0 0 (zA z0)) (F0 m 56 ls []) := by
  obtain ⟨hx, hb, hml, hown, hts, hK, hz, hlk, hr⟩ := id C
  intro S a0 x1 x2 x3 x4 x5 H locs ls hM hV hl
  unfold wq_X10_part_56 at hM
  refine lv_iconst (v := 0) hx hb dX10_part_56 (by decide) ?_
  exact tq_X10_part_57 C _ _ _ _ _ _ _ _ _ _ _ hM hV (lv_sub hl [0, 1, 2, 3, 4, 5] rfl)
set_option maxHeartbeats 4000000 in
set_option maxRecDepth 100000 in
theorem c_X10_part {l : Launch} {D : DX} {cA : Nat → ClassId} {z0 N : Nat} {S : PS} {a0 : Nat} {x1 : Int32} {x2 : Int32} {x3 : Int32} {x4 : Int32} {x5 : Int32} {K : Int32 → PS → Prop} (hM : wp_X10_part N S a0 x1 x2 x3 x4 x5 K) : MetI l yX10_part cX10_part 7 (some .int) 1 0 0 D cA z0 [.ref a0, .int x1, .int x2, .int x3, .int x4, .int x5] S K := by
  refine x_met RX10 (by decide) rfl ?_
  intro p e s m below meth c C hin hV
  have hl := lv_entry ([.ref a0, .int x1, .int x2, .int x3, .int x4, .int x5]) (n := 7) (Nat.le_of_ble_eq_true rfl)
  rw [lg_entry_eq]
  generalize (lg_sl ([.ref a0, .int x1, .int x2, .int x3, .int x4, .int x5]) ++ List.replicate (7 - (lg_sl ([.ref a0, .int x1, .int x2, .int x3, .int x4, .int x5])).length) Slot.unset).toArray = ls at hl ⊢
  have hl : lv_has ls 7 [(0, .ref a0), (1, .int x1), (2, .int x2), (3, .int x3), (4, .int x4), (5, .int x5)] := hl
  obtain ⟨hx, hb, hml, hown, hts, hK, hz, hlk, hr⟩ := id C
  unfold wp_X10_part at hM
  refine lv_iload_n hx hb dX10_part_0 rfl (lv_at hl 1 rfl) ?_
  refine lv_iconst (v := 0) hx hb dX10_part_1 (by decide) ?_
  refine lv_bipush (v := 6) hx hb dX10_part_2 (by decide) ?_
  refine x_ci hV (x_runS (As := [.int x1, .int 0, .int 6]) (rest := []) C hV ms_X10_within wl_X10_94 (c_X10_within hM) ⟨by decide, by decide⟩ rfl hl.1 (Nat.le_of_ble_eq_true rfl) dX10_part_4 ⟨Nat.zero_le _, Nat.zero_le _⟩) (fun r2 S1 H locs hV hM => ?_)
  have hz3 := hM.1
  have hM := hM.2
  refine lv_if_eq (tgt := 56) hx hb dX10_part_7 (by decide) (fun c4 => ?_) (fun c4 => ?_)
  · have hM := ite_t c4 hM
    exact tq_X10_part_56 C _ _ _ _ _ _ _ _ _ _ hM hV (lv_sub hl [0, 1, 2, 3, 4, 5] rfl)
  have hM := ite_f c4 hM
  refine lv_iload_n hx hb dX10_part_10 rfl (lv_at hl 2 rfl) ?_
  refine lv_iconst (v := 1) hx hb dX10_part_11 (by decide) ?_
  refine lv_iconst (v := 3) hx hb dX10_part_12 (by decide) ?_
  refine x_ci hV (x_runS (As := [.int x2, .int 1, .int 3]) (rest := []) C hV ms_X10_within wl_X10_94 (c_X10_within hM) ⟨by decide, by decide⟩ rfl hl.1 (Nat.le_of_ble_eq_true rfl) dX10_part_13 ⟨Nat.zero_le _, Nat.zero_le _⟩) (fun r29 S28 H locs hV hM => ?_)
  have hz30 := hM.1
  have hM := hM.2
  refine lv_if_eq (tgt := 56) hx hb dX10_part_16 (by decide) (fun c31 => ?_) (fun c31 => ?_)
  · have hM := ite_t c31 hM
    exact tq_X10_part_56 C _ _ _ _ _ _ _ _ _ _ hM hV (lv_sub hl [0, 1, 2, 3, 4, 5] rfl)
  have hM := ite_f c31 hM
  refine lv_iload_n hx hb dX10_part_19 rfl (lv_at hl 3 rfl) ?_
  refine lv_iconst (v := 0) hx hb dX10_part_20 (by decide) ?_
  refine lv_sipush (v := 9999) hx hb dX10_part_21 (by decide) ?_
  refine x_ci hV (x_runS (As := [.int x3, .int 0, .int 9999]) (rest := []) C hV ms_X10_within wl_X10_94 (c_X10_within hM) ⟨by decide, by decide⟩ rfl hl.1 (Nat.le_of_ble_eq_true rfl) dX10_part_24 ⟨Nat.zero_le _, Nat.zero_le _⟩) (fun r33 S32 H locs hV hM => ?_)
  have hz34 := hM.1
  have hM := hM.2
  refine lv_if_eq (tgt := 56) hx hb dX10_part_27 (by decide) (fun c35 => ?_) (fun c35 => ?_)
  · have hM := ite_t c35 hM
    exact tq_X10_part_56 C _ _ _ _ _ _ _ _ _ _ hM hV (lv_sub hl [0, 1, 2, 3, 4, 5] rfl)
  have hM := ite_f c35 hM
  refine lv_iload hx hb dX10_part_30 (lv_at hl 4 rfl) ?_
  refine lv_iconst (v := 0) hx hb dX10_part_32 (by decide) ?_
  refine lv_bipush (v := 99) hx hb dX10_part_33 (by decide) ?_
  refine x_ci hV (x_runS (As := [.int x4, .int 0, .int 99]) (rest := []) C hV ms_X10_within wl_X10_94 (c_X10_within hM) ⟨by decide, by decide⟩ rfl hl.1 (Nat.le_of_ble_eq_true rfl) dX10_part_35 ⟨Nat.zero_le _, Nat.zero_le _⟩) (fun r37 S36 H locs hV hM => ?_)
  have hz38 := hM.1
  have hM := hM.2
  refine lv_if_eq (tgt := 56) hx hb dX10_part_38 (by decide) (fun c39 => ?_) (fun c39 => ?_)
  · have hM := ite_t c39 hM
    exact tq_X10_part_56 C _ _ _ _ _ _ _ _ _ _ hM hV (lv_sub hl [0, 1, 2, 3, 4, 5] rfl)
  have hM := ite_f c39 hM
  refine lv_iload hx hb dX10_part_41 (lv_at hl 5 rfl) ?_
  refine lv_iconst (v := 1) hx hb dX10_part_43 (by decide) ?_
  refine lv_bipush (v := 60) hx hb dX10_part_44 (by decide) ?_
  refine x_ci hV (x_runS (As := [.int x5, .int 1, .int 60]) (rest := []) C hV ms_X10_within wl_X10_94 (c_X10_within hM) ⟨by decide, by decide⟩ rfl hl.1 (Nat.le_of_ble_eq_true rfl) dX10_part_46 ⟨Nat.zero_le _, Nat.zero_le _⟩) (fun r41 S40 H locs hV hM => ?_)
  have hz42 := hM.1
  have hM := hM.2
  refine lv_if_eq (tgt := 56) hx hb dX10_part_49 (by decide) (fun c43 => ?_) (fun c43 => ?_)
  · have hM := ite_t c43 hM
    exact tq_X10_part_56 C _ _ _ _ _ _ _ _ _ _ hM hV (lv_sub hl [0, 1, 2, 3, 4, 5] rfl)
  have hM := ite_f c43 hM
  refine lv_iconst (v := 1) hx hb dX10_part_52 (by decide) ?_
  refine lv_goto (tgt := 57) hx hb dX10_part_53 (by decide) ?_
  exact tq_X10_part_57 C _ _ _ _ _ _ _ _ _ _ _ hM hV (lv_sub hl [0, 1, 2, 3, 4, 5] rfl)

def wq_X10_prove_18 (N : Nat) (K : Int32 → PS → Prop) : Nat → PS → Nat → Int32 → Int32 → Int32 → Prop
  | 0, _, _, _, _, _ => False
  | n + 1, S, a0, x1, x2, x3 => S.K a0 = 11 ∧ ∃ p8 : Nat, S.R 704 a0 = some p8 ∧ S.K p8 = 10 ∧ if (S.I 644 p8) ≤ x3 then (K (S.I 717 a0) S) else (∃ p11 : Nat, S.R 704 a0 = some p11 ∧ S.K p11 = 10 ∧ ∃ p13 : Nat, S.R 648 p11 = some p13 ∧ S.K p13 = 23 ∧ vp_in x3 (S.ln p13) ∧ ∃ p16 : Nat, S.Q p13 x3.toNatClampNeg = some p16 ∧ S.K p16 = 2 ∧ wp_X1_isIn N S p16 x1 (fun r19 S18 => if r19 = 0 then (wq_X10_prove_18 N K n S18 a0 x1 x2 (x3 + 1)) else (S18.K a0 = 11 ∧ ∃ p23 : Nat, S18.R 704 a0 = some p23 ∧ S18.K p23 = 10 ∧ ∃ p25 : Nat, S18.R 648 p23 = some p25 ∧ S18.K p25 = 23 ∧ vp_in x3 (S18.ln p25) ∧ ∃ p28 : Nat, S18.Q p25 x3.toNatClampNeg = some p28 ∧ ∃ p29 : Nat, S18.R 704 a0 = some p29 ∧ S18.K p29 = 10 ∧ S18.K p28 = 2 ∧ wp_X1_lateOn N S18 p28 (S18.I 640 p29) (fun r33 S32 => ∀ v34 : Int32, v34 = (x2 + r33) → S32.K a0 = 11 ∧ ∀ v36 : Int32, v36 = ((S32.I 717 a0) * 3) → ∃ p37 : Nat, S32.R 716 a0 = some p37 ∧ S32.K p37 = 20 ∧ vp_in v36 (S32.ln p37) ∧ ∀ S40 : PS, S40 = S32.setA p37 v36.toNatClampNeg x3 → ∃ p42 : Nat, S40.R 716 a0 = some p42 ∧ S40.K p42 = 20 ∧ vp_in (v36 + 1) (S40.ln p42) ∧ ∀ S45 : PS, S45 = S40.setA p42 (v36 + 1).toNatClampNeg r33 → ∃ p47 : Nat, S45.R 716 a0 = some p47 ∧ S45.K p47 = 20 ∧ vp_in (v36 + 2) (S45.ln p47) ∧ ∀ S50 : PS, S50 = S45.setA p47 (v36 + 2).toNatClampNeg v34 → ∀ S52 : PS, S52 = S50.setI 717 a0 ((S50.I 717 a0) + 1) → wq_X10_prove_18 N K n S52 a0 x1 v34 (x3 + 1)))))
def wp_X10_prove (N : Nat) (S : PS) (a0 : Nat) (x1 : Int32) (K : Int32 → PS → Prop) : Prop := wp_X10_isWay N S x1 (fun r2 S1 => if r2 = 0 then (K (-1) S1) else (S1.K a0 = 11 ∧ ∀ S6 : PS, S6 = S1.setI 717 a0 0 → wq_X10_prove_18 N K N S6 a0 x1 0 0))
set_option maxHeartbeats 4000000 in
set_option maxRecDepth 100000 in
theorem tq_X10_prove_18 {p : Program} {l : Launch} {e : Env} {s : State} {m : MethodId} {args : Array Value} {below : List Frame} {meth : Method} {c : Code} {D : DX} {cA : Nat → ClassId} {z0 N : Nat} {K : Int32 → PS → Prop} (C : CX p s m args meth c cX10_prove 6 RX10 (some .int) D cA z0) : ∀ (n : Nat) (S : PS) (a0 : Nat) (x1 : Int32) (x2 : Int32) (x3 : Int32) (H : Heap) (locs : List Loc) (ls : Array Slot), wq_X10_prove_18 N K n S a0 x1 x2 x3 → XV D cA z0 s S H locs → lv_has ls 6 [(0, .ref a0), (1, .int x1), (2, .int x2), (3, .int x3)] → W p l e (rmd 2 0 0) s m args below meth c H locs 0 0 (MQ below (va_Qi K (XK D cA z0) (zA z0)) args s 0 0 (zA z0)) (F0 m 18 ls []) := by
  obtain ⟨hx, hb, hml, hown, hts, hK, hz, hlk, hr⟩ := id C
  intro n
  induction n with
  | zero => intro S a0 x1 x2 x3 H locs ls hM; exact absurd hM id
  | succ n ih =>
    intro S a0 x1 x2 x3 H locs ls hM hV hl
    rw [wq_X10_prove_18.eq_2] at hM
    refine lv_iload_n hx hb dX10_prove_18 rfl (lv_at hl 3 rfl) ?_
    refine lv_aload_n hx hb dX10_prove_19 rfl (lv_at hl 0 rfl) ?_
    have hk7 := hM.1
    have hM := hM.2
    obtain ⟨p8, hp8, hM⟩ := hM
    refine x_getR C hV wf_X10_10 hk7 hp8 dX10_prove_20 ?_
    have hk9 := hM.1
    have hM := hM.2
    refine x_getI C hV wf_X10_98 hk9 dX10_prove_23 ?_
    refine lv_icmp_ge (tgt := 124) hx hb dX10_prove_26 (by decide) (fun c10 => ?_) (fun c10 => ?_)
    · have hM := ite_t c10 hM
      refine lv_aload_n hx hb dX10_prove_124 rfl (lv_at hl 0 rfl) ?_
      refine x_getI C hV wf_X10_70 hk7 dX10_prove_125 ?_
      exact x_iret C hV hM dX10_prove_128
    have hM := ite_f c10 hM
    refine lv_aload_n hx hb dX10_prove_29 rfl (lv_at hl 0 rfl) ?_
    obtain ⟨p11, hp11, hM⟩ := hM
    refine x_getR C hV wf_X10_10 hk7 hp11 dX10_prove_30 ?_
    have hk12 := hM.1
    have hM := hM.2
    obtain ⟨p13, hp13, hM⟩ := hM
    refine x_getR C hV wf_X10_101 hk12 hp13 dX10_prove_33 ?_
    refine lv_iload_n hx hb dX10_prove_36 rfl (lv_at hl 3 rfl) ?_
    have hk14 := hM.1
    have hM := hM.2
    have hi15 := hM.1
    have hM := hM.2
    obtain ⟨p16, hp16, hM⟩ := hM
    refine x_aald C hV hk14 (by decide) rfl hi15 hp16 dX10_prove_37 ?_
    refine lv_iload_n hx hb dX10_prove_38 rfl (lv_at hl 1 rfl) ?_
    have hk17 := hM.1
    have hM := hM.2
    refine x_ci hV (x_runV (As := [.int x1]) (rest := []) C hV mi_X1_isIn wl_X10_165 hk17 (c_X1_isIn hM) ⟨by decide, by decide⟩ rfl hl.1 (Nat.le_of_ble_eq_true rfl) dX10_prove_39 ⟨Nat.zero_le _, Nat.zero_le _⟩) (fun r19 S18 H locs hV hM => ?_)
    have hz20 := hM.1
    have hM := hM.2
    refine lv_if_eq (tgt := 118) hx hb dX10_prove_42 (by decide) (fun c21 => ?_) (fun c21 => ?_)
    · have hM := ite_t c21 hM
      refine lv_iinc (v := (x3 + 1)) (lv' := [(3, .int (x3 + 1)), (0, .ref a0), (1, .int x1), (2, .int x2)]) hx hb dX10_prove_118 hl (k := 3) rfl rfl (by decide) rfl (fun ls hl => ?_)
      refine lv_goto (tgt := 18) hx hb dX10_prove_121 (by decide) ?_
      exact ih _ _ _ _ _ _ _ _ hM hV (lv_sub hl [1, 2, 3, 0] rfl)
    have hM := ite_f c21 hM
    refine lv_aload_n hx hb dX10_prove_45 rfl (lv_at hl 0 rfl) ?_
    have hk22 := hM.1
    have hM := hM.2
    obtain ⟨p23, hp23, hM⟩ := hM
    refine x_getR C hV wf_X10_10 hk22 hp23 dX10_prove_46 ?_
    have hk24 := hM.1
    have hM := hM.2
    obtain ⟨p25, hp25, hM⟩ := hM
    refine x_getR C hV wf_X10_101 hk24 hp25 dX10_prove_49 ?_
    refine lv_iload_n hx hb dX10_prove_52 rfl (lv_at hl 3 rfl) ?_
    have hk26 := hM.1
    have hM := hM.2
    have hi27 := hM.1
    have hM := hM.2
    obtain ⟨p28, hp28, hM⟩ := hM
    refine x_aald C hV hk26 (by decide) rfl hi27 hp28 dX10_prove_53 ?_
    refine lv_aload_n hx hb dX10_prove_54 rfl (lv_at hl 0 rfl) ?_
    obtain ⟨p29, hp29, hM⟩ := hM
    refine x_getR C hV wf_X10_10 hk22 hp29 dX10_prove_55 ?_
    have hk30 := hM.1
    have hM := hM.2
    refine x_getI C hV wf_X10_146 hk30 dX10_prove_58 ?_
    have hk31 := hM.1
    have hM := hM.2
    refine x_ci hV (x_runV (As := [.int (S18.I 640 p29)]) (rest := []) C hV mi_X1_lateOn wl_X10_168 hk31 (c_X1_lateOn hM) ⟨by decide, by decide⟩ rfl hl.1 (Nat.le_of_ble_eq_true rfl) dX10_prove_61 ⟨Nat.zero_le _, Nat.zero_le _⟩) (fun r33 S32 H locs hV hM => ?_)
    refine lv_istore (lv' := [(4, .int r33), (0, .ref a0), (1, .int x1), (2, .int x2), (3, .int x3)]) hx hb dX10_prove_64 hl (by decide) rfl (fun ls hl => ?_)
    refine lv_iload_n hx hb dX10_prove_66 rfl (lv_at hl 3 rfl) ?_
    refine lv_iload hx hb dX10_prove_67 (lv_at hl 0 rfl) ?_
    refine lv_iadd hx hb dX10_prove_69 ?_
    refine lv_topi (fun v34 ev34 => ?_)
    have hM := hM v34 ev34
    refine lv_istore_n (lv' := [(2, .int v34), (4, .int r33), (0, .ref a0), (1, .int x1), (3, .int x3)]) hx hb dX10_prove_70 rfl hl (by decide) rfl (fun ls hl => ?_)
    refine lv_aload_n hx hb dX10_prove_71 rfl (lv_at hl 2 rfl) ?_
    have hk35 := hM.1
    have hM := hM.2
    refine x_getI C hV wf_X10_70 hk35 dX10_prove_72 ?_
    refine lv_iconst (v := 3) hx hb dX10_prove_75 (by decide) ?_
    refine lv_imul hx hb dX10_prove_76 ?_
    refine lv_topi (fun v36 ev36 => ?_)
    have hM := hM v36 ev36
    refine lv_istore (lv' := [(5, .int v36), (2, .int v34), (4, .int r33), (0, .ref a0), (1, .int x1), (3, .int x3)]) hx hb dX10_prove_77 hl (by decide) rfl (fun ls hl => ?_)
    refine lv_aload_n hx hb dX10_prove_79 rfl (lv_at hl 3 rfl) ?_
    obtain ⟨p37, hp37, hM⟩ := hM
    refine x_getR C hV wf_X10_67 hk35 hp37 dX10_prove_80 ?_
    refine lv_iload hx hb dX10_prove_83 (lv_at hl 0 rfl) ?_
    refine lv_iload_n hx hb dX10_prove_85 rfl (lv_at hl 5 rfl) ?_
    have hk38 := hM.1
    have hM := hM.2
    have hi39 := hM.1
    have hM := hM.2
    obtain ⟨S40, eS40⟩ : ∃ z : PS, z = S32.setA p37 v36.toNatClampNeg x3 := ⟨_, rfl⟩
    have hM := hM S40 eS40
    refine x_iast C hV hk38 hi39 eS40 dX10_prove_86 (fun H locs hV => ?_)
    refine lv_aload_n hx hb dX10_prove_87 rfl (lv_at hl 3 rfl) ?_
    have hk41 := kp_A eS40 hk35
    obtain ⟨p42, hp42, hM⟩ := hM
    refine x_getR C hV wf_X10_67 hk41 hp42 dX10_prove_88 ?_
    refine lv_iload hx hb dX10_prove_91 (lv_at hl 0 rfl) ?_
    refine lv_iconst (v := 1) hx hb dX10_prove_93 (by decide) ?_
    refine lv_iadd hx hb dX10_prove_94 ?_
    refine lv_iload hx hb dX10_prove_95 (lv_at hl 2 rfl) ?_
    have hk43 := hM.1
    have hM := hM.2
    have hi44 := hM.1
    have hM := hM.2
    obtain ⟨S45, eS45⟩ : ∃ z : PS, z = S40.setA p42 (v36 + 1).toNatClampNeg r33 := ⟨_, rfl⟩
    have hM := hM S45 eS45
    refine x_iast C hV hk43 hi44 eS45 dX10_prove_97 (fun H locs hV => ?_)
    refine lv_aload_n hx hb dX10_prove_98 rfl (lv_at hl 3 rfl) ?_
    have hk46 := kp_A eS45 hk41
    obtain ⟨p47, hp47, hM⟩ := hM
    refine x_getR C hV wf_X10_67 hk46 hp47 dX10_prove_99 ?_
    refine lv_iload hx hb dX10_prove_102 (lv_at hl 0 rfl) ?_
    refine lv_iconst (v := 2) hx hb dX10_prove_104 (by decide) ?_
    refine lv_iadd hx hb dX10_prove_105 ?_
    refine lv_iload_n hx hb dX10_prove_106 rfl (lv_at hl 1 rfl) ?_
    have hk48 := hM.1
    have hM := hM.2
    have hi49 := hM.1
    have hM := hM.2
    obtain ⟨S50, eS50⟩ : ∃ z : PS, z = S45.setA p47 (v36 + 2).toNatClampNeg v34 := ⟨_, rfl⟩
    have hM := hM S50 eS50
    refine x_iast C hV hk48 hi49 eS50 dX10_prove_107 (fun H locs hV => ?_)
    refine lv_aload_n hx hb dX10_prove_108 rfl (lv_at hl 3 rfl) ?_
    refine lv_dup hx hb dX10_prove_109 rfl ?_
    have hk51 := kp_A eS50 hk46
    refine x_getI C hV wf_X10_70 hk51 dX10_prove_110 ?_
    refine lv_iconst (v := 1) hx hb dX10_prove_113 (by decide) ?_
    refine lv_iadd hx hb dX10_prove_114 ?_
    obtain ⟨S52, eS52⟩ : ∃ z : PS, z = S50.setI 717 a0 ((S50.I 717 a0) + 1) := ⟨_, rfl⟩
    have hM := hM S52 eS52
    refine x_putI C hV wp_X10_70 hk51 ⟨rfl, rfl⟩ eS52 dX10_prove_115 (fun H locs hV => ?_)
    refine lv_iinc (v := (x3 + 1)) (lv' := [(3, .int (x3 + 1)), (5, .int v36), (2, .int v34), (4, .int r33), (0, .ref a0), (1, .int x1)]) hx hb dX10_prove_118 hl (k := 5) rfl rfl (by decide) rfl (fun ls hl => ?_)
    refine lv_goto (tgt := 18) hx hb dX10_prove_121 (by decide) ?_
    exact ih _ _ _ _ _ _ _ _ hM hV (lv_sub hl [4, 5, 2, 0] rfl)
set_option maxHeartbeats 4000000 in
set_option maxRecDepth 100000 in
theorem c_X10_prove {l : Launch} {D : DX} {cA : Nat → ClassId} {z0 N : Nat} {S : PS} {a0 : Nat} {x1 : Int32} {K : Int32 → PS → Prop} (hM : wp_X10_prove N S a0 x1 K) : MetI l yX10_prove cX10_prove 6 (some .int) 2 0 0 D cA z0 [.ref a0, .int x1] S K := by
  refine x_met RX10 (by decide) rfl ?_
  intro p e s m below meth c C hin hV
  have hl := lv_entry ([.ref a0, .int x1]) (n := 6) (Nat.le_of_ble_eq_true rfl)
  rw [lg_entry_eq]
  generalize (lg_sl ([.ref a0, .int x1]) ++ List.replicate (6 - (lg_sl ([.ref a0, .int x1])).length) Slot.unset).toArray = ls at hl ⊢
  have hl : lv_has ls 6 [(0, .ref a0), (1, .int x1)] := hl
  obtain ⟨hx, hb, hml, hown, hts, hK, hz, hlk, hr⟩ := id C
  unfold wp_X10_prove at hM
  refine lv_iload_n hx hb dX10_prove_0 rfl (lv_at hl 1 rfl) ?_
  refine x_ci hV (x_runS (As := [.int x1]) (rest := []) C hV ms_X10_isWay wl_X10_159 (c_X10_isWay hM) ⟨by decide, by decide⟩ rfl hl.1 (Nat.le_of_ble_eq_true rfl) dX10_prove_1 ⟨Nat.zero_le _, Nat.zero_le _⟩) (fun r2 S1 H locs hV hM => ?_)
  have hz3 := hM.1
  have hM := hM.2
  refine lv_if_ne (tgt := 9) hx hb dX10_prove_4 (by decide) (fun c4 => ?_) (fun c4 => ?_)
  · have hM := ite_f c4 hM
    refine lv_aload_n hx hb dX10_prove_9 rfl (lv_at hl 0 rfl) ?_
    refine lv_iconst (v := 0) hx hb dX10_prove_10 (by decide) ?_
    have hk5 := hM.1
    have hM := hM.2
    obtain ⟨S6, eS6⟩ : ∃ z : PS, z = S1.setI 717 a0 0 := ⟨_, rfl⟩
    have hM := hM S6 eS6
    refine x_putI C hV wp_X10_70 hk5 ⟨rfl, rfl⟩ eS6 dX10_prove_11 (fun H locs hV => ?_)
    refine lv_iconst (v := 0) hx hb dX10_prove_14 (by decide) ?_
    refine lv_istore_n (lv' := [(2, .int 0), (0, .ref a0), (1, .int x1)]) hx hb dX10_prove_15 rfl hl (by decide) rfl (fun ls hl => ?_)
    refine lv_iconst (v := 0) hx hb dX10_prove_16 (by decide) ?_
    refine lv_istore_n (lv' := [(3, .int 0), (2, .int 0), (0, .ref a0), (1, .int x1)]) hx hb dX10_prove_17 rfl hl (by decide) rfl (fun ls hl => ?_)
    exact tq_X10_prove_18 C N _ _ _ _ _ _ _ _ hM hV (lv_sub hl [2, 3, 1, 0] rfl)
  have hM := ite_t c4 hM
  refine lv_iconst (v := (-1)) hx hb dX10_prove_7 (by decide) ?_
  exact x_iret C hV hM dX10_prove_8

def wp_X10_put (N : Nat) (S : PS) (a0 : Nat) (x1 : Int32) (x2 : Int32) (x3 : Int32) (K : Int32 → PS → Prop) : Prop := wp_X10_isSheet N S x1 (fun r2 S1 => if r2 = 0 then (K (-1) S1) else (S1.K a0 = 11 ∧ ∃ p6 : Nat, S1.R 718 a0 = some p6 ∧ S1.K p6 = 25 ∧ vp_in x1 (S1.ln p6) ∧ ∃ p9 : Nat, S1.Q p6 x1.toNatClampNeg = some p9 ∧ S1.K p9 = 5 ∧ if (S1.I 320 p9) = (-1) then (K (-11) S1) else (∃ p12 : Nat, S1.R 718 a0 = some p12 ∧ S1.K p12 = 25 ∧ vp_in x1 (S1.ln p12) ∧ ∃ p15 : Nat, S1.Q p12 x1.toNatClampNeg = some p15 ∧ S1.K p15 = 5 ∧ wp_X4_hasItem N S1 p15 x2 (fun r18 S17 => if r18 = 0 then (K (-12) S17) else (S17.K a0 = 11 ∧ ∃ p22 : Nat, S17.R 718 a0 = some p22 ∧ S17.K p22 = 25 ∧ vp_in x1 (S17.ln p22) ∧ ∃ p25 : Nat, S17.Q p22 x1.toNatClampNeg = some p25 ∧ S17.K p25 = 5 ∧ wp_X4_write N S17 p25 x2 x3 (fun S27 => K 1 S27))))))
set_option maxHeartbeats 4000000 in
set_option maxRecDepth 100000 in
theorem c_X10_put {l : Launch} {D : DX} {cA : Nat → ClassId} {z0 N : Nat} {S : PS} {a0 : Nat} {x1 : Int32} {x2 : Int32} {x3 : Int32} {K : Int32 → PS → Prop} (hM : wp_X10_put N S a0 x1 x2 x3 K) : MetI l yX10_put cX10_put 4 (some .int) 2 0 0 D cA z0 [.ref a0, .int x1, .int x2, .int x3] S K := by
  refine x_met RX10 (by decide) rfl ?_
  intro p e s m below meth c C hin hV
  have hl := lv_entry ([.ref a0, .int x1, .int x2, .int x3]) (n := 4) (Nat.le_of_ble_eq_true rfl)
  rw [lg_entry_eq]
  generalize (lg_sl ([.ref a0, .int x1, .int x2, .int x3]) ++ List.replicate (4 - (lg_sl ([.ref a0, .int x1, .int x2, .int x3])).length) Slot.unset).toArray = ls at hl ⊢
  have hl : lv_has ls 4 [(0, .ref a0), (1, .int x1), (2, .int x2), (3, .int x3)] := hl
  obtain ⟨hx, hb, hml, hown, hts, hK, hz, hlk, hr⟩ := id C
  unfold wp_X10_put at hM
  refine lv_iload_n hx hb dX10_put_0 rfl (lv_at hl 1 rfl) ?_
  refine x_ci hV (x_runS (As := [.int x1]) (rest := []) C hV ms_X10_isSheet wl_X10_318 (c_X10_isSheet hM) ⟨by decide, by decide⟩ rfl hl.1 (Nat.le_of_ble_eq_true rfl) dX10_put_1 ⟨Nat.zero_le _, Nat.zero_le _⟩) (fun r2 S1 H locs hV hM => ?_)
  have hz3 := hM.1
  have hM := hM.2
  refine lv_if_ne (tgt := 9) hx hb dX10_put_4 (by decide) (fun c4 => ?_) (fun c4 => ?_)
  · have hM := ite_f c4 hM
    refine lv_aload_n hx hb dX10_put_9 rfl (lv_at hl 0 rfl) ?_
    have hk5 := hM.1
    have hM := hM.2
    obtain ⟨p6, hp6, hM⟩ := hM
    refine x_getR C hV wf_X10_75 hk5 hp6 dX10_put_10 ?_
    refine lv_iload_n hx hb dX10_put_13 rfl (lv_at hl 1 rfl) ?_
    have hk7 := hM.1
    have hM := hM.2
    have hi8 := hM.1
    have hM := hM.2
    obtain ⟨p9, hp9, hM⟩ := hM
    refine x_aald C hV hk7 (by decide) rfl hi8 hp9 dX10_put_14 ?_
    have hk10 := hM.1
    have hM := hM.2
    refine x_getI C hV wf_X10_324 hk10 dX10_put_15 ?_
    refine lv_iconst (v := (-1)) hx hb dX10_put_18 (by decide) ?_
    refine lv_icmp_ne (tgt := 25) hx hb dX10_put_19 (by decide) (fun c11 => ?_) (fun c11 => ?_)
    · have hM := ite_f c11 hM
      refine lv_aload_n hx hb dX10_put_25 rfl (lv_at hl 0 rfl) ?_
      obtain ⟨p12, hp12, hM⟩ := hM
      refine x_getR C hV wf_X10_75 hk5 hp12 dX10_put_26 ?_
      refine lv_iload_n hx hb dX10_put_29 rfl (lv_at hl 1 rfl) ?_
      have hk13 := hM.1
      have hM := hM.2
      have hi14 := hM.1
      have hM := hM.2
      obtain ⟨p15, hp15, hM⟩ := hM
      refine x_aald C hV hk13 (by decide) rfl hi14 hp15 dX10_put_30 ?_
      refine lv_iload_n hx hb dX10_put_31 rfl (lv_at hl 2 rfl) ?_
      have hk16 := hM.1
      have hM := hM.2
      refine x_ci hV (x_runV (As := [.int x2]) (rest := []) C hV mi_X4_hasItem wl_X10_327 hk16 (c_X4_hasItem hM) ⟨by decide, by decide⟩ rfl hl.1 (Nat.le_of_ble_eq_true rfl) dX10_put_32 ⟨Nat.zero_le _, Nat.zero_le _⟩) (fun r18 S17 H locs hV hM => ?_)
      have hz19 := hM.1
      have hM := hM.2
      refine lv_if_ne (tgt := 41) hx hb dX10_put_35 (by decide) (fun c20 => ?_) (fun c20 => ?_)
      · have hM := ite_f c20 hM
        refine lv_aload_n hx hb dX10_put_41 rfl (lv_at hl 0 rfl) ?_
        have hk21 := hM.1
        have hM := hM.2
        obtain ⟨p22, hp22, hM⟩ := hM
        refine x_getR C hV wf_X10_75 hk21 hp22 dX10_put_42 ?_
        refine lv_iload_n hx hb dX10_put_45 rfl (lv_at hl 1 rfl) ?_
        have hk23 := hM.1
        have hM := hM.2
        have hi24 := hM.1
        have hM := hM.2
        obtain ⟨p25, hp25, hM⟩ := hM
        refine x_aald C hV hk23 (by decide) rfl hi24 hp25 dX10_put_46 ?_
        refine lv_iload_n hx hb dX10_put_47 rfl (lv_at hl 2 rfl) ?_
        refine lv_iload_n hx hb dX10_put_48 rfl (lv_at hl 3 rfl) ?_
        have hk26 := hM.1
        have hM := hM.2
        refine x_cv hV (x_runV (As := [.int x2, .int x3]) (rest := []) C hV mi_X4_write wl_X10_330 hk26 (c_X4_write hM) ⟨by decide, by decide⟩ rfl hl.1 (Nat.le_of_ble_eq_true rfl) dX10_put_49 ⟨Nat.zero_le _, Nat.zero_le _⟩) (fun S27 H locs hV hM => ?_)
        refine lv_iconst (v := 1) hx hb dX10_put_52 (by decide) ?_
        exact x_iret C hV hM dX10_put_53
      have hM := ite_t c20 hM
      refine lv_bipush (v := (-12)) hx hb dX10_put_38 (by decide) ?_
      exact x_iret C hV hM dX10_put_40
    have hM := ite_t c11 hM
    refine lv_bipush (v := (-11)) hx hb dX10_put_22 (by decide) ?_
    exact x_iret C hV hM dX10_put_24
  have hM := ite_t c4 hM
  refine lv_iconst (v := (-1)) hx hb dX10_put_7 (by decide) ?_
  exact x_iret C hV hM dX10_put_8

def wp_X10_ran (N : Nat) (S : PS) (a0 : Nat) (x1 : Int32) (x2 : Int32) (K : Int32 → PS → Prop) : Prop := S.K a0 = 11 ∧ ∃ p2 : Nat, S.R 704 a0 = some p2 ∧ S.K p2 = 10 ∧ wp_X10_within N S x1 0 ((S.I 645 p2) - 1) (fun r5 S4 => if r5 = 0 then (K (-2147483648) S4) else (if x2 = 0 then (S4.K a0 = 11 ∧ ∃ p10 : Nat, S4.R 704 a0 = some p10 ∧ S4.K p10 = 10 ∧ ∃ p12 : Nat, S4.R 649 p10 = some p12 ∧ S4.K p12 = 20 ∧ vp_in x1 (S4.ln p12) ∧ K (S4.A p12 x1.toNatClampNeg) S4) else if x2 = 1 then (S4.K a0 = 11 ∧ ∃ p17 : Nat, S4.R 704 a0 = some p17 ∧ S4.K p17 = 10 ∧ ∃ p19 : Nat, S4.R 650 p17 = some p19 ∧ S4.K p19 = 20 ∧ vp_in x1 (S4.ln p19) ∧ K (S4.A p19 x1.toNatClampNeg) S4) else if x2 = 2 then (S4.K a0 = 11 ∧ ∃ p24 : Nat, S4.R 704 a0 = some p24 ∧ S4.K p24 = 10 ∧ ∃ p26 : Nat, S4.R 651 p24 = some p26 ∧ S4.K p26 = 20 ∧ vp_in x1 (S4.ln p26) ∧ K (S4.A p26 x1.toNatClampNeg) S4) else K (-2147483648) S4))
set_option maxHeartbeats 4000000 in
set_option maxRecDepth 100000 in
theorem c_X10_ran {l : Launch} {D : DX} {cA : Nat → ClassId} {z0 N : Nat} {S : PS} {a0 : Nat} {x1 : Int32} {x2 : Int32} {K : Int32 → PS → Prop} (hM : wp_X10_ran N S a0 x1 x2 K) : MetI l yX10_ran cX10_ran 3 (some .int) 1 0 0 D cA z0 [.ref a0, .int x1, .int x2] S K := by
  refine x_met RX10 (by decide) rfl ?_
  intro p e s m below meth c C hin hV
  have hl := lv_entry ([.ref a0, .int x1, .int x2]) (n := 3) (Nat.le_of_ble_eq_true rfl)
  rw [lg_entry_eq]
  generalize (lg_sl ([.ref a0, .int x1, .int x2]) ++ List.replicate (3 - (lg_sl ([.ref a0, .int x1, .int x2])).length) Slot.unset).toArray = ls at hl ⊢
  have hl : lv_has ls 3 [(0, .ref a0), (1, .int x1), (2, .int x2)] := hl
  obtain ⟨hx, hb, hml, hown, hts, hK, hz, hlk, hr⟩ := id C
  unfold wp_X10_ran at hM
  refine lv_iload_n hx hb dX10_ran_0 rfl (lv_at hl 1 rfl) ?_
  refine lv_iconst (v := 0) hx hb dX10_ran_1 (by decide) ?_
  refine lv_aload_n hx hb dX10_ran_2 rfl (lv_at hl 0 rfl) ?_
  have hk1 := hM.1
  have hM := hM.2
  obtain ⟨p2, hp2, hM⟩ := hM
  refine x_getR C hV wf_X10_10 hk1 hp2 dX10_ran_3 ?_
  have hk3 := hM.1
  have hM := hM.2
  refine x_getI C hV wf_X10_162 hk3 dX10_ran_6 ?_
  refine lv_iconst (v := 1) hx hb dX10_ran_9 (by decide) ?_
  refine lv_isub hx hb dX10_ran_10 ?_
  refine x_ci hV (x_runS (As := [.int x1, .int 0, .int ((S.I 645 p2) - 1)]) (rest := []) C hV ms_X10_within wl_X10_94 (c_X10_within hM) ⟨by decide, by decide⟩ rfl hl.1 (Nat.le_of_ble_eq_true rfl) dX10_ran_11 ⟨Nat.zero_le _, Nat.zero_le _⟩) (fun r5 S4 H locs hV hM => ?_)
  have hz6 := hM.1
  have hM := hM.2
  refine lv_if_ne (tgt := 20) hx hb dX10_ran_14 (by decide) (fun c7 => ?_) (fun c7 => ?_)
  · have hM := ite_f c7 hM
    refine lv_iload_n hx hb dX10_ran_20 rfl (lv_at hl 2 rfl) ?_
    by_cases c8 : x2 = 0
    · have hM := ite_t c8 hM
      refine lv_tableIn (tgt := 48) (off := 27) hx hb dX10_ran_21 (by rw [c8]; decide) (by rw [c8]; decide) (by rw [c8]; decide) (by decide) ?_
      refine lv_aload_n hx hb dX10_ran_48 rfl (lv_at hl 0 rfl) ?_
      have hk9 := hM.1
      have hM := hM.2
      obtain ⟨p10, hp10, hM⟩ := hM
      refine x_getR C hV wf_X10_10 hk9 hp10 dX10_ran_49 ?_
      have hk11 := hM.1
      have hM := hM.2
      obtain ⟨p12, hp12, hM⟩ := hM
      refine x_getR C hV wf_X10_179 hk11 hp12 dX10_ran_52 ?_
      refine lv_iload_n hx hb dX10_ran_55 rfl (lv_at hl 1 rfl) ?_
      have hk13 := hM.1
      have hM := hM.2
      have hi14 := hM.1
      have hM := hM.2
      refine x_iald C hV hk13 hi14 dX10_ran_56 ?_
      exact x_iret C hV hM dX10_ran_57
    have hM := ite_f c8 hM
    by_cases c15 : x2 = 1
    · have hM := ite_t c15 hM
      refine lv_tableIn (tgt := 58) (off := 37) hx hb dX10_ran_21 (by rw [c15]; decide) (by rw [c15]; decide) (by rw [c15]; decide) (by decide) ?_
      refine lv_aload_n hx hb dX10_ran_58 rfl (lv_at hl 0 rfl) ?_
      have hk16 := hM.1
      have hM := hM.2
      obtain ⟨p17, hp17, hM⟩ := hM
      refine x_getR C hV wf_X10_10 hk16 hp17 dX10_ran_59 ?_
      have hk18 := hM.1
      have hM := hM.2
      obtain ⟨p19, hp19, hM⟩ := hM
      refine x_getR C hV wf_X10_182 hk18 hp19 dX10_ran_62 ?_
      refine lv_iload_n hx hb dX10_ran_65 rfl (lv_at hl 1 rfl) ?_
      have hk20 := hM.1
      have hM := hM.2
      have hi21 := hM.1
      have hM := hM.2
      refine x_iald C hV hk20 hi21 dX10_ran_66 ?_
      exact x_iret C hV hM dX10_ran_67
    have hM := ite_f c15 hM
    by_cases c22 : x2 = 2
    · have hM := ite_t c22 hM
      refine lv_tableIn (tgt := 68) (off := 47) hx hb dX10_ran_21 (by rw [c22]; decide) (by rw [c22]; decide) (by rw [c22]; decide) (by decide) ?_
      refine lv_aload_n hx hb dX10_ran_68 rfl (lv_at hl 0 rfl) ?_
      have hk23 := hM.1
      have hM := hM.2
      obtain ⟨p24, hp24, hM⟩ := hM
      refine x_getR C hV wf_X10_10 hk23 hp24 dX10_ran_69 ?_
      have hk25 := hM.1
      have hM := hM.2
      obtain ⟨p26, hp26, hM⟩ := hM
      refine x_getR C hV wf_X10_185 hk25 hp26 dX10_ran_72 ?_
      refine lv_iload_n hx hb dX10_ran_75 rfl (lv_at hl 1 rfl) ?_
      have hk27 := hM.1
      have hM := hM.2
      have hi28 := hM.1
      have hM := hM.2
      refine x_iald C hV hk27 hi28 dX10_ran_76 ?_
      exact x_iret C hV hM dX10_ran_77
    have hM := ite_f c22 hM
    refine lv_tableOut (tgt := 78) hx hb dX10_ran_21 (by have q0 := lv_neT c8 (a := 0) (by decide); have q1 := lv_neT c15 (a := 1) (by decide); have q2 := lv_neT c22 (a := 2) (by decide); omega) (by decide) ?_
    refine lv_ldc hx hb hown (hts _ wc_X10_115) dX10_ran_78 ?_
    exact x_iret C hV hM dX10_ran_80
  have hM := ite_t c7 hM
  refine lv_ldc hx hb hown (hts _ wc_X10_115) dX10_ran_17 ?_
  exact x_iret C hV hM dX10_ran_19

def wp_X10_row (N : Nat) (S : PS) (a0 : Nat) (x1 : Int32) (x2 : Int32) (K : Int32 → PS → Prop) : Prop := S.K a0 = 11 ∧ wp_X10_isInRows N S a0 x1 x2 (fun r3 S2 => if r3 = 0 then (K (-2147483648) S2) else (S2.K a0 = 11 ∧ ∃ p7 : Nat, S2.R 716 a0 = some p7 ∧ S2.K p7 = 20 ∧ vp_in ((x1 * 3) + x2) (S2.ln p7) ∧ K (S2.A p7 ((x1 * 3) + x2).toNatClampNeg) S2))
set_option maxHeartbeats 4000000 in
set_option maxRecDepth 100000 in
theorem c_X10_row {l : Launch} {D : DX} {cA : Nat → ClassId} {z0 N : Nat} {S : PS} {a0 : Nat} {x1 : Int32} {x2 : Int32} {K : Int32 → PS → Prop} (hM : wp_X10_row N S a0 x1 x2 K) : MetI l yX10_row cX10_row 3 (some .int) 2 0 0 D cA z0 [.ref a0, .int x1, .int x2] S K := by
  refine x_met RX10 (by decide) rfl ?_
  intro p e s m below meth c C hin hV
  have hl := lv_entry ([.ref a0, .int x1, .int x2]) (n := 3) (Nat.le_of_ble_eq_true rfl)
  rw [lg_entry_eq]
  generalize (lg_sl ([.ref a0, .int x1, .int x2]) ++ List.replicate (3 - (lg_sl ([.ref a0, .int x1, .int x2])).length) Slot.unset).toArray = ls at hl ⊢
  have hl : lv_has ls 3 [(0, .ref a0), (1, .int x1), (2, .int x2)] := hl
  obtain ⟨hx, hb, hml, hown, hts, hK, hz, hlk, hr⟩ := id C
  unfold wp_X10_row at hM
  refine lv_aload_n hx hb dX10_row_0 rfl (lv_at hl 0 rfl) ?_
  refine lv_iload_n hx hb dX10_row_1 rfl (lv_at hl 1 rfl) ?_
  refine lv_iload_n hx hb dX10_row_2 rfl (lv_at hl 2 rfl) ?_
  have hk1 := hM.1
  have hM := hM.2
  refine x_ci hV (x_runV (As := [.int x1, .int x2]) (rest := []) C hV mi_X10_isInRows wl_X10_315 hk1 (c_X10_isInRows hM) ⟨by decide, by decide⟩ rfl hl.1 (Nat.le_of_ble_eq_true rfl) dX10_row_3 ⟨Nat.zero_le _, Nat.zero_le _⟩) (fun r3 S2 H locs hV hM => ?_)
  have hz4 := hM.1
  have hM := hM.2
  refine lv_if_eq (tgt := 22) hx hb dX10_row_6 (by decide) (fun c5 => ?_) (fun c5 => ?_)
  · have hM := ite_t c5 hM
    refine lv_ldc hx hb hown (hts _ wc_X10_115) dX10_row_22 ?_
    exact x_iret C hV hM dX10_row_24
  have hM := ite_f c5 hM
  refine lv_aload_n hx hb dX10_row_9 rfl (lv_at hl 0 rfl) ?_
  have hk6 := hM.1
  have hM := hM.2
  obtain ⟨p7, hp7, hM⟩ := hM
  refine x_getR C hV wf_X10_67 hk6 hp7 dX10_row_10 ?_
  refine lv_iload_n hx hb dX10_row_13 rfl (lv_at hl 1 rfl) ?_
  refine lv_iconst (v := 3) hx hb dX10_row_14 (by decide) ?_
  refine lv_imul hx hb dX10_row_15 ?_
  refine lv_iload_n hx hb dX10_row_16 rfl (lv_at hl 2 rfl) ?_
  refine lv_iadd hx hb dX10_row_17 ?_
  have hk8 := hM.1
  have hM := hM.2
  have hi9 := hM.1
  have hM := hM.2
  refine x_iald C hV hk8 hi9 dX10_row_18 ?_
  refine lv_goto (tgt := 24) hx hb dX10_row_19 (by decide) ?_
  exact x_iret C hV hM dX10_row_24

def wq_X10_run_28 (N : Nat) (K : Int32 → PS → Prop) : Nat → PS → Nat → Int32 → Int32 → Int32 → Prop
  | 0, _, _, _, _, _ => False
  | n + 1, S, a0, x1, x2, x3 => S.K a0 = 11 ∧ ∃ p10 : Nat, S.R 704 a0 = some p10 ∧ S.K p10 = 10 ∧ if (S.I 644 p10) ≤ x3 then (∃ p13 : Nat, S.R 704 a0 = some p13 ∧ ∃ p14 : Nat, S.R 704 a0 = some p14 ∧ S.K p14 = 10 ∧ ∃ p16 : Nat, S.R 704 a0 = some p16 ∧ S.K p16 = 10 ∧ wp_X9_draw N S p16 (fun r19 S18 => S18.K p13 = 10 ∧ wp_X9_addRun N S18 p13 (S.I 640 p14) x1 (x2 + r19) (fun r22 S21 => K r22 S21))) else (∃ p23 : Nat, S.R 704 a0 = some p23 ∧ S.K p23 = 10 ∧ ∃ p25 : Nat, S.R 648 p23 = some p25 ∧ S.K p25 = 23 ∧ vp_in x3 (S.ln p25) ∧ ∃ p28 : Nat, S.Q p25 x3.toNatClampNeg = some p28 ∧ S.K p28 = 2 ∧ wp_X1_isIn N S p28 x1 (fun r31 S30 => if r31 = 0 then (wq_X10_run_28 N K n S30 a0 x1 x2 (x3 + 1)) else (S30.K a0 = 11 ∧ ∃ p35 : Nat, S30.R 704 a0 = some p35 ∧ S30.K p35 = 10 ∧ ∃ p37 : Nat, S30.R 648 p35 = some p37 ∧ S30.K p37 = 23 ∧ vp_in x3 (S30.ln p37) ∧ ∃ p40 : Nat, S30.Q p37 x3.toNatClampNeg = some p40 ∧ ∃ p41 : Nat, S30.R 704 a0 = some p41 ∧ S30.K p41 = 10 ∧ S30.K p40 = 2 ∧ wp_X1_lateOn N S30 p40 (S30.I 640 p41) (fun r45 S44 => ∀ v46 : Int32, v46 = (x2 + r45) → wq_X10_run_28 N K n S44 a0 x1 v46 (x3 + 1)))))
def wp_X10_run (N : Nat) (S : PS) (a0 : Nat) (x1 : Int32) (K : Int32 → PS → Prop) : Prop := wp_X10_isWay N S x1 (fun r2 S1 => if r2 = 0 then (K (-1) S1) else (S1.K a0 = 11 ∧ ∃ p6 : Nat, S1.R 704 a0 = some p6 ∧ S1.K p6 = 10 ∧ if (S1.I 645 p6) < 40 then (wq_X10_run_28 N K N S1 a0 x1 0 0) else (K (-2) S1)))
set_option maxHeartbeats 4000000 in
set_option maxRecDepth 100000 in
theorem tq_X10_run_28 {p : Program} {l : Launch} {e : Env} {s : State} {m : MethodId} {args : Array Value} {below : List Frame} {meth : Method} {c : Code} {D : DX} {cA : Nat → ClassId} {z0 N : Nat} {K : Int32 → PS → Prop} (C : CX p s m args meth c cX10_run 4 RX10 (some .int) D cA z0) : ∀ (n : Nat) (S : PS) (a0 : Nat) (x1 : Int32) (x2 : Int32) (x3 : Int32) (H : Heap) (locs : List Loc) (ls : Array Slot), wq_X10_run_28 N K n S a0 x1 x2 x3 → XV D cA z0 s S H locs → lv_has ls 4 [(0, .ref a0), (1, .int x1), (2, .int x2), (3, .int x3)] → W p l e (rmd 2 0 0) s m args below meth c H locs 0 0 (MQ below (va_Qi K (XK D cA z0) (zA z0)) args s 0 0 (zA z0)) (F0 m 28 ls []) := by
  obtain ⟨hx, hb, hml, hown, hts, hK, hz, hlk, hr⟩ := id C
  intro n
  induction n with
  | zero => intro S a0 x1 x2 x3 H locs ls hM; exact absurd hM id
  | succ n ih =>
    intro S a0 x1 x2 x3 H locs ls hM hV hl
    rw [wq_X10_run_28.eq_2] at hM
    refine lv_iload_n hx hb dX10_run_28 rfl (lv_at hl 3 rfl) ?_
    refine lv_aload_n hx hb dX10_run_29 rfl (lv_at hl 0 rfl) ?_
    have hk9 := hM.1
    have hM := hM.2
    obtain ⟨p10, hp10, hM⟩ := hM
    refine x_getR C hV wf_X10_10 hk9 hp10 dX10_run_30 ?_
    have hk11 := hM.1
    have hM := hM.2
    refine x_getI C hV wf_X10_98 hk11 dX10_run_33 ?_
    refine lv_icmp_ge (tgt := 83) hx hb dX10_run_36 (by decide) (fun c12 => ?_) (fun c12 => ?_)
    · have hM := ite_t c12 hM
      refine lv_aload_n hx hb dX10_run_83 rfl (lv_at hl 0 rfl) ?_
      obtain ⟨p13, hp13, hM⟩ := hM
      refine x_getR C hV wf_X10_10 hk9 hp13 dX10_run_84 ?_
      refine lv_aload_n hx hb dX10_run_87 rfl (lv_at hl 0 rfl) ?_
      obtain ⟨p14, hp14, hM⟩ := hM
      refine x_getR C hV wf_X10_10 hk9 hp14 dX10_run_88 ?_
      have hk15 := hM.1
      have hM := hM.2
      refine x_getI C hV wf_X10_146 hk15 dX10_run_91 ?_
      refine lv_iload_n hx hb dX10_run_94 rfl (lv_at hl 1 rfl) ?_
      refine lv_iload_n hx hb dX10_run_95 rfl (lv_at hl 2 rfl) ?_
      refine lv_aload_n hx hb dX10_run_96 rfl (lv_at hl 0 rfl) ?_
      obtain ⟨p16, hp16, hM⟩ := hM
      refine x_getR C hV wf_X10_10 hk9 hp16 dX10_run_97 ?_
      have hk17 := hM.1
      have hM := hM.2
      refine x_ci hV (x_runV (As := []) (rest := [.int x2, .int x1, .int (S.I 640 p14), .ref p13]) C hV mi_X9_draw wl_X10_171 hk17 (c_X9_draw hM) ⟨by decide, by decide⟩ rfl hl.1 (Nat.le_of_ble_eq_true rfl) dX10_run_100 ⟨Nat.zero_le _, Nat.zero_le _⟩) (fun r19 S18 H locs hV hM => ?_)
      refine lv_iadd hx hb dX10_run_103 ?_
      have hk20 := hM.1
      have hM := hM.2
      refine x_ci hV (x_runV (As := [.int (S.I 640 p14), .int x1, .int (x2 + r19)]) (rest := []) C hV mi_X9_addRun wl_X10_175 hk20 (c_X9_addRun hM) ⟨by decide, by decide⟩ rfl hl.1 (Nat.le_of_ble_eq_true rfl) dX10_run_104 ⟨Nat.zero_le _, Nat.zero_le _⟩) (fun r22 S21 H locs hV hM => ?_)
      exact x_iret C hV hM dX10_run_107
    have hM := ite_f c12 hM
    refine lv_aload_n hx hb dX10_run_39 rfl (lv_at hl 0 rfl) ?_
    obtain ⟨p23, hp23, hM⟩ := hM
    refine x_getR C hV wf_X10_10 hk9 hp23 dX10_run_40 ?_
    have hk24 := hM.1
    have hM := hM.2
    obtain ⟨p25, hp25, hM⟩ := hM
    refine x_getR C hV wf_X10_101 hk24 hp25 dX10_run_43 ?_
    refine lv_iload_n hx hb dX10_run_46 rfl (lv_at hl 3 rfl) ?_
    have hk26 := hM.1
    have hM := hM.2
    have hi27 := hM.1
    have hM := hM.2
    obtain ⟨p28, hp28, hM⟩ := hM
    refine x_aald C hV hk26 (by decide) rfl hi27 hp28 dX10_run_47 ?_
    refine lv_iload_n hx hb dX10_run_48 rfl (lv_at hl 1 rfl) ?_
    have hk29 := hM.1
    have hM := hM.2
    refine x_ci hV (x_runV (As := [.int x1]) (rest := []) C hV mi_X1_isIn wl_X10_165 hk29 (c_X1_isIn hM) ⟨by decide, by decide⟩ rfl hl.1 (Nat.le_of_ble_eq_true rfl) dX10_run_49 ⟨Nat.zero_le _, Nat.zero_le _⟩) (fun r31 S30 H locs hV hM => ?_)
    have hz32 := hM.1
    have hM := hM.2
    refine lv_if_eq (tgt := 77) hx hb dX10_run_52 (by decide) (fun c33 => ?_) (fun c33 => ?_)
    · have hM := ite_t c33 hM
      refine lv_iinc (v := (x3 + 1)) (lv' := [(3, .int (x3 + 1)), (0, .ref a0), (1, .int x1), (2, .int x2)]) hx hb dX10_run_77 hl (k := 3) rfl rfl (by decide) rfl (fun ls hl => ?_)
      refine lv_goto (tgt := 28) hx hb dX10_run_80 (by decide) ?_
      exact ih _ _ _ _ _ _ _ _ hM hV (lv_sub hl [1, 2, 3, 0] rfl)
    have hM := ite_f c33 hM
    refine lv_iload_n hx hb dX10_run_55 rfl (lv_at hl 2 rfl) ?_
    refine lv_aload_n hx hb dX10_run_56 rfl (lv_at hl 0 rfl) ?_
    have hk34 := hM.1
    have hM := hM.2
    obtain ⟨p35, hp35, hM⟩ := hM
    refine x_getR C hV wf_X10_10 hk34 hp35 dX10_run_57 ?_
    have hk36 := hM.1
    have hM := hM.2
    obtain ⟨p37, hp37, hM⟩ := hM
    refine x_getR C hV wf_X10_101 hk36 hp37 dX10_run_60 ?_
    refine lv_iload_n hx hb dX10_run_63 rfl (lv_at hl 3 rfl) ?_
    have hk38 := hM.1
    have hM := hM.2
    have hi39 := hM.1
    have hM := hM.2
    obtain ⟨p40, hp40, hM⟩ := hM
    refine x_aald C hV hk38 (by decide) rfl hi39 hp40 dX10_run_64 ?_
    refine lv_aload_n hx hb dX10_run_65 rfl (lv_at hl 0 rfl) ?_
    obtain ⟨p41, hp41, hM⟩ := hM
    refine x_getR C hV wf_X10_10 hk34 hp41 dX10_run_66 ?_
    have hk42 := hM.1
    have hM := hM.2
    refine x_getI C hV wf_X10_146 hk42 dX10_run_69 ?_
    have hk43 := hM.1
    have hM := hM.2
    refine x_ci hV (x_runV (As := [.int (S30.I 640 p41)]) (rest := [.int x2]) C hV mi_X1_lateOn wl_X10_168 hk43 (c_X1_lateOn hM) ⟨by decide, by decide⟩ rfl hl.1 (Nat.le_of_ble_eq_true rfl) dX10_run_72 ⟨Nat.zero_le _, Nat.zero_le _⟩) (fun r45 S44 H locs hV hM => ?_)
    refine lv_iadd hx hb dX10_run_75 ?_
    refine lv_topi (fun v46 ev46 => ?_)
    have hM := hM v46 ev46
    refine lv_istore_n (lv' := [(2, .int v46), (0, .ref a0), (1, .int x1), (3, .int x3)]) hx hb dX10_run_76 rfl hl (by decide) rfl (fun ls hl => ?_)
    refine lv_iinc (v := (x3 + 1)) (lv' := [(3, .int (x3 + 1)), (2, .int v46), (0, .ref a0), (1, .int x1)]) hx hb dX10_run_77 hl (k := 3) rfl rfl (by decide) rfl (fun ls hl => ?_)
    refine lv_goto (tgt := 28) hx hb dX10_run_80 (by decide) ?_
    exact ih _ _ _ _ _ _ _ _ hM hV (lv_sub hl [2, 3, 1, 0] rfl)
set_option maxHeartbeats 4000000 in
set_option maxRecDepth 100000 in
theorem c_X10_run {l : Launch} {D : DX} {cA : Nat → ClassId} {z0 N : Nat} {S : PS} {a0 : Nat} {x1 : Int32} {K : Int32 → PS → Prop} (hM : wp_X10_run N S a0 x1 K) : MetI l yX10_run cX10_run 4 (some .int) 2 0 0 D cA z0 [.ref a0, .int x1] S K := by
  refine x_met RX10 (by decide) rfl ?_
  intro p e s m below meth c C hin hV
  have hl := lv_entry ([.ref a0, .int x1]) (n := 4) (Nat.le_of_ble_eq_true rfl)
  rw [lg_entry_eq]
  generalize (lg_sl ([.ref a0, .int x1]) ++ List.replicate (4 - (lg_sl ([.ref a0, .int x1])).length) Slot.unset).toArray = ls at hl ⊢
  have hl : lv_has ls 4 [(0, .ref a0), (1, .int x1)] := hl
  obtain ⟨hx, hb, hml, hown, hts, hK, hz, hlk, hr⟩ := id C
  unfold wp_X10_run at hM
  refine lv_iload_n hx hb dX10_run_0 rfl (lv_at hl 1 rfl) ?_
  refine x_ci hV (x_runS (As := [.int x1]) (rest := []) C hV ms_X10_isWay wl_X10_159 (c_X10_isWay hM) ⟨by decide, by decide⟩ rfl hl.1 (Nat.le_of_ble_eq_true rfl) dX10_run_1 ⟨Nat.zero_le _, Nat.zero_le _⟩) (fun r2 S1 H locs hV hM => ?_)
  have hz3 := hM.1
  have hM := hM.2
  refine lv_if_ne (tgt := 9) hx hb dX10_run_4 (by decide) (fun c4 => ?_) (fun c4 => ?_)
  · have hM := ite_f c4 hM
    refine lv_aload_n hx hb dX10_run_9 rfl (lv_at hl 0 rfl) ?_
    have hk5 := hM.1
    have hM := hM.2
    obtain ⟨p6, hp6, hM⟩ := hM
    refine x_getR C hV wf_X10_10 hk5 hp6 dX10_run_10 ?_
    have hk7 := hM.1
    have hM := hM.2
    refine x_getI C hV wf_X10_162 hk7 dX10_run_13 ?_
    refine lv_bipush (v := 40) hx hb dX10_run_16 (by decide) ?_
    refine lv_icmp_lt (tgt := 24) hx hb dX10_run_18 (by decide) (fun c8 => ?_) (fun c8 => ?_)
    · have hM := ite_t c8 hM
      refine lv_iconst (v := 0) hx hb dX10_run_24 (by decide) ?_
      refine lv_istore_n (lv' := [(2, .int 0), (0, .ref a0), (1, .int x1)]) hx hb dX10_run_25 rfl hl (by decide) rfl (fun ls hl => ?_)
      refine lv_iconst (v := 0) hx hb dX10_run_26 (by decide) ?_
      refine lv_istore_n (lv' := [(3, .int 0), (2, .int 0), (0, .ref a0), (1, .int x1)]) hx hb dX10_run_27 rfl hl (by decide) rfl (fun ls hl => ?_)
      exact tq_X10_run_28 C N _ _ _ _ _ _ _ _ hM hV (lv_sub hl [2, 3, 1, 0] rfl)
    have hM := ite_f c8 hM
    refine lv_bipush (v := (-2)) hx hb dX10_run_21 (by decide) ?_
    exact x_iret C hV hM dX10_run_23
  have hM := ite_t c4 hM
  refine lv_iconst (v := (-1)) hx hb dX10_run_7 (by decide) ?_
  exact x_iret C hV hM dX10_run_8

def wq_X10_same_37 (N : Nat) (K : Int32 → PS → Prop) : Nat → PS → Nat → Int32 → Int32 → Int32 → Int32 → Int32 → Prop
  | 0, _, _, _, _, _, _, _ => False
  | n + 1, S, a0, x1, x2, x3, x4, x5 => if 2 ≤ x5 then (K x4 S) else (S.K a0 = 11 ∧ ∃ p21 : Nat, S.R 704 a0 = some p21 ∧ S.K p21 = 10 ∧ wp_X9_given N S p21 x1 x5 x3 (fun r24 S23 => S23.K a0 = 11 ∧ ∃ p26 : Nat, S23.R 704 a0 = some p26 ∧ S23.K p26 = 10 ∧ wp_X9_given N S23 p26 x2 x5 x3 (fun r29 S28 => if r24 = r29 then (∀ v31 : Int32, v31 = (x4 ||| ((1 : Int32) <<< (x5 &&& 31))) → wq_X10_same_37 N K n S28 a0 x1 x2 x3 v31 (x5 + 1)) else (wq_X10_same_37 N K n S28 a0 x1 x2 x3 x4 (x5 + 1)))))
def wp_X10_same (N : Nat) (S : PS) (a0 : Nat) (x1 : Int32) (x2 : Int32) (x3 : Int32) (K : Int32 → PS → Prop) : Prop := S.K a0 = 11 ∧ ∃ p2 : Nat, S.R 704 a0 = some p2 ∧ S.K p2 = 10 ∧ wp_X9_hasStory N S p2 x1 (fun r5 S4 => if r5 = 0 then (K (-1) S4) else (S4.K a0 = 11 ∧ ∃ p9 : Nat, S4.R 704 a0 = some p9 ∧ S4.K p9 = 10 ∧ wp_X9_hasStory N S4 p9 x2 (fun r12 S11 => if r12 = 0 then (K (-1) S11) else (wp_X10_isDay N S11 x3 (fun r16 S15 => if r16 = 0 then (K (-1) S15) else (wq_X10_same_37 N K N S15 a0 x1 x2 x3 0 0))))))
set_option maxHeartbeats 4000000 in
set_option maxRecDepth 100000 in
theorem tq_X10_same_37 {p : Program} {l : Launch} {e : Env} {s : State} {m : MethodId} {args : Array Value} {below : List Frame} {meth : Method} {c : Code} {D : DX} {cA : Nat → ClassId} {z0 N : Nat} {K : Int32 → PS → Prop} (C : CX p s m args meth c cX10_same 6 RX10 (some .int) D cA z0) : ∀ (n : Nat) (S : PS) (a0 : Nat) (x1 : Int32) (x2 : Int32) (x3 : Int32) (x4 : Int32) (x5 : Int32) (H : Heap) (locs : List Loc) (ls : Array Slot), wq_X10_same_37 N K n S a0 x1 x2 x3 x4 x5 → XV D cA z0 s S H locs → lv_has ls 6 [(0, .ref a0), (1, .int x1), (2, .int x2), (3, .int x3), (4, .int x4), (5, .int x5)] → W p l e (rmd 2 0 0) s m args below meth c H locs 0 0 (MQ below (va_Qi K (XK D cA z0) (zA z0)) args s 0 0 (zA z0)) (F0 m 37 ls []) := by
  obtain ⟨hx, hb, hml, hown, hts, hK, hz, hlk, hr⟩ := id C
  intro n
  induction n with
  | zero => intro S a0 x1 x2 x3 x4 x5 H locs ls hM; exact absurd hM id
  | succ n ih =>
    intro S a0 x1 x2 x3 x4 x5 H locs ls hM hV hl
    rw [wq_X10_same_37.eq_2] at hM
    refine lv_iload hx hb dX10_same_37 (lv_at hl 5 rfl) ?_
    refine lv_iconst (v := 2) hx hb dX10_same_39 (by decide) ?_
    refine lv_icmp_ge (tgt := 83) hx hb dX10_same_40 (by decide) (fun c19 => ?_) (fun c19 => ?_)
    · have hM := ite_t c19 hM
      refine lv_iload hx hb dX10_same_83 (lv_at hl 4 rfl) ?_
      exact x_iret C hV hM dX10_same_85
    have hM := ite_f c19 hM
    refine lv_aload_n hx hb dX10_same_43 rfl (lv_at hl 0 rfl) ?_
    have hk20 := hM.1
    have hM := hM.2
    obtain ⟨p21, hp21, hM⟩ := hM
    refine x_getR C hV wf_X10_10 hk20 hp21 dX10_same_44 ?_
    refine lv_iload_n hx hb dX10_same_47 rfl (lv_at hl 1 rfl) ?_
    refine lv_iload hx hb dX10_same_48 (lv_at hl 5 rfl) ?_
    refine lv_iload_n hx hb dX10_same_50 rfl (lv_at hl 3 rfl) ?_
    have hk22 := hM.1
    have hM := hM.2
    refine x_ci hV (x_runV (As := [.int x1, .int x5, .int x3]) (rest := []) C hV mi_X9_given wl_X10_217 hk22 (c_X9_given hM) ⟨by decide, by decide⟩ rfl hl.1 (Nat.le_of_ble_eq_true rfl) dX10_same_51 ⟨Nat.zero_le _, Nat.zero_le _⟩) (fun r24 S23 H locs hV hM => ?_)
    refine lv_aload_n hx hb dX10_same_54 rfl (lv_at hl 0 rfl) ?_
    have hk25 := hM.1
    have hM := hM.2
    obtain ⟨p26, hp26, hM⟩ := hM
    refine x_getR C hV wf_X10_10 hk25 hp26 dX10_same_55 ?_
    refine lv_iload_n hx hb dX10_same_58 rfl (lv_at hl 2 rfl) ?_
    refine lv_iload hx hb dX10_same_59 (lv_at hl 5 rfl) ?_
    refine lv_iload_n hx hb dX10_same_61 rfl (lv_at hl 3 rfl) ?_
    have hk27 := hM.1
    have hM := hM.2
    refine x_ci hV (x_runV (As := [.int x2, .int x5, .int x3]) (rest := [.int r24]) C hV mi_X9_given wl_X10_217 hk27 (c_X9_given hM) ⟨by decide, by decide⟩ rfl hl.1 (Nat.le_of_ble_eq_true rfl) dX10_same_62 ⟨Nat.zero_le _, Nat.zero_le _⟩) (fun r29 S28 H locs hV hM => ?_)
    refine lv_icmp_ne (tgt := 77) hx hb dX10_same_65 (by decide) (fun c30 => ?_) (fun c30 => ?_)
    · have hM := ite_f c30 hM
      refine lv_iinc (v := (x5 + 1)) (lv' := [(5, .int (x5 + 1)), (0, .ref a0), (1, .int x1), (2, .int x2), (3, .int x3), (4, .int x4)]) hx hb dX10_same_77 hl (k := 5) rfl rfl (by decide) rfl (fun ls hl => ?_)
      refine lv_goto (tgt := 37) hx hb dX10_same_80 (by decide) ?_
      exact ih _ _ _ _ _ _ _ _ _ _ hM hV (lv_sub hl [1, 2, 3, 4, 5, 0] rfl)
    have hM := ite_t c30 hM
    refine lv_iload hx hb dX10_same_68 (lv_at hl 4 rfl) ?_
    refine lv_iconst (v := 1) hx hb dX10_same_70 (by decide) ?_
    refine lv_iload hx hb dX10_same_71 (lv_at hl 5 rfl) ?_
    refine lv_ishl hx hb dX10_same_73 ?_
    refine lv_ior hx hb dX10_same_74 ?_
    refine lv_topi (fun v31 ev31 => ?_)
    have hM := hM v31 ev31
    refine lv_istore (lv' := [(4, .int v31), (0, .ref a0), (1, .int x1), (2, .int x2), (3, .int x3), (5, .int x5)]) hx hb dX10_same_75 hl (by decide) rfl (fun ls hl => ?_)
    refine lv_iinc (v := (x5 + 1)) (lv' := [(5, .int (x5 + 1)), (4, .int v31), (0, .ref a0), (1, .int x1), (2, .int x2), (3, .int x3)]) hx hb dX10_same_77 hl (k := 5) rfl rfl (by decide) rfl (fun ls hl => ?_)
    refine lv_goto (tgt := 37) hx hb dX10_same_80 (by decide) ?_
    exact ih _ _ _ _ _ _ _ _ _ _ hM hV (lv_sub hl [2, 3, 4, 5, 1, 0] rfl)
set_option maxHeartbeats 4000000 in
set_option maxRecDepth 100000 in
theorem c_X10_same {l : Launch} {D : DX} {cA : Nat → ClassId} {z0 N : Nat} {S : PS} {a0 : Nat} {x1 : Int32} {x2 : Int32} {x3 : Int32} {K : Int32 → PS → Prop} (hM : wp_X10_same N S a0 x1 x2 x3 K) : MetI l yX10_same cX10_same 6 (some .int) 2 0 0 D cA z0 [.ref a0, .int x1, .int x2, .int x3] S K := by
  refine x_met RX10 (by decide) rfl ?_
  intro p e s m below meth c C hin hV
  have hl := lv_entry ([.ref a0, .int x1, .int x2, .int x3]) (n := 6) (Nat.le_of_ble_eq_true rfl)
  rw [lg_entry_eq]
  generalize (lg_sl ([.ref a0, .int x1, .int x2, .int x3]) ++ List.replicate (6 - (lg_sl ([.ref a0, .int x1, .int x2, .int x3])).length) Slot.unset).toArray = ls at hl ⊢
  have hl : lv_has ls 6 [(0, .ref a0), (1, .int x1), (2, .int x2), (3, .int x3)] := hl
  obtain ⟨hx, hb, hml, hown, hts, hK, hz, hlk, hr⟩ := id C
  unfold wp_X10_same at hM
  refine lv_aload_n hx hb dX10_same_0 rfl (lv_at hl 0 rfl) ?_
  have hk1 := hM.1
  have hM := hM.2
  obtain ⟨p2, hp2, hM⟩ := hM
  refine x_getR C hV wf_X10_10 hk1 hp2 dX10_same_1 ?_
  refine lv_iload_n hx hb dX10_same_4 rfl (lv_at hl 1 rfl) ?_
  have hk3 := hM.1
  have hM := hM.2
  refine x_ci hV (x_runV (As := [.int x1]) (rest := []) C hV mi_X9_hasStory wl_X10_214 hk3 (c_X9_hasStory hM) ⟨by decide, by decide⟩ rfl hl.1 (Nat.le_of_ble_eq_true rfl) dX10_same_5 ⟨Nat.zero_le _, Nat.zero_le _⟩) (fun r5 S4 H locs hV hM => ?_)
  have hz6 := hM.1
  have hM := hM.2
  refine lv_if_eq (tgt := 29) hx hb dX10_same_8 (by decide) (fun c7 => ?_) (fun c7 => ?_)
  · have hM := ite_t c7 hM
    refine lv_iconst (v := (-1)) hx hb dX10_same_29 (by decide) ?_
    exact x_iret C hV hM dX10_same_30
  have hM := ite_f c7 hM
  refine lv_aload_n hx hb dX10_same_11 rfl (lv_at hl 0 rfl) ?_
  have hk8 := hM.1
  have hM := hM.2
  obtain ⟨p9, hp9, hM⟩ := hM
  refine x_getR C hV wf_X10_10 hk8 hp9 dX10_same_12 ?_
  refine lv_iload_n hx hb dX10_same_15 rfl (lv_at hl 2 rfl) ?_
  have hk10 := hM.1
  have hM := hM.2
  refine x_ci hV (x_runV (As := [.int x2]) (rest := []) C hV mi_X9_hasStory wl_X10_214 hk10 (c_X9_hasStory hM) ⟨by decide, by decide⟩ rfl hl.1 (Nat.le_of_ble_eq_true rfl) dX10_same_16 ⟨Nat.zero_le _, Nat.zero_le _⟩) (fun r12 S11 H locs hV hM => ?_)
  have hz13 := hM.1
  have hM := hM.2
  refine lv_if_eq (tgt := 29) hx hb dX10_same_19 (by decide) (fun c14 => ?_) (fun c14 => ?_)
  · have hM := ite_t c14 hM
    refine lv_iconst (v := (-1)) hx hb dX10_same_29 (by decide) ?_
    exact x_iret C hV hM dX10_same_30
  have hM := ite_f c14 hM
  refine lv_iload_n hx hb dX10_same_22 rfl (lv_at hl 3 rfl) ?_
  refine x_ci hV (x_runS (As := [.int x3]) (rest := []) C hV ms_X10_isDay wl_X10_137 (c_X10_isDay hM) ⟨by decide, by decide⟩ rfl hl.1 (Nat.le_of_ble_eq_true rfl) dX10_same_23 ⟨Nat.zero_le _, Nat.zero_le _⟩) (fun r16 S15 H locs hV hM => ?_)
  have hz17 := hM.1
  have hM := hM.2
  refine lv_if_ne (tgt := 31) hx hb dX10_same_26 (by decide) (fun c18 => ?_) (fun c18 => ?_)
  · have hM := ite_f c18 hM
    refine lv_iconst (v := 0) hx hb dX10_same_31 (by decide) ?_
    refine lv_istore (lv' := [(4, .int 0), (0, .ref a0), (1, .int x1), (2, .int x2), (3, .int x3)]) hx hb dX10_same_32 hl (by decide) rfl (fun ls hl => ?_)
    refine lv_iconst (v := 0) hx hb dX10_same_34 (by decide) ?_
    refine lv_istore (lv' := [(5, .int 0), (4, .int 0), (0, .ref a0), (1, .int x1), (2, .int x2), (3, .int x3)]) hx hb dX10_same_35 hl (by decide) rfl (fun ls hl => ?_)
    exact tq_X10_same_37 C N _ _ _ _ _ _ _ _ _ _ hM hV (lv_sub hl [2, 3, 4, 5, 1, 0] rfl)
  have hM := ite_t c18 hM
  refine lv_iconst (v := (-1)) hx hb dX10_same_29 (by decide) ?_
  exact x_iret C hV hM dX10_same_30

def wq_X10_shelf_112 (N : Nat) (K : Int32 → PS → Prop) (S : PS) (a0 : Nat) (x1 : Int32) : Prop := S.K a0 = 11 ∧ ∃ p14 : Nat, S.R 719 a0 = some p14 ∧ S.K p14 = 26 ∧ vp_in x1 (S.ln p14) ∧ ∃ p17 : Nat, S.Q p14 x1.toNatClampNeg = some p17 ∧ S.K p17 = 6 ∧ wp_X5_holdNothing N S p17 (fun S19 => K 1 S19)
def wq_X10_shelf_47 (N : Nat) (K : Int32 → PS → Prop) (S : PS) (a0 : Nat) (x1 : Int32) (x2 : Int32) (x3 : Int32) : Prop := if x2 = 0 then (S.K a0 = 11 ∧ ∃ p46 : Nat, S.R 719 a0 = some p46 ∧ S.K p46 = 26 ∧ vp_in x1 (S.ln p46) ∧ ∃ p49 : Nat, S.Q p46 x1.toNatClampNeg = some p49 ∧ S.K p49 = 6 ∧ wp_X5_holdPart N S p49 x3 (fun S51 => K 1 S51)) else (if x2 = 1 then (S.K a0 = 11 ∧ ∃ p22 : Nat, S.R 718 a0 = some p22 ∧ S.K p22 = 25 ∧ vp_in x3 (S.ln p22) ∧ ∃ p25 : Nat, S.Q p22 x3.toNatClampNeg = some p25 ∧ S.K p25 = 5 ∧ if (S.I 320 p25) = (-1) then (wq_X10_shelf_112 N K S a0 x1) else (∃ p28 : Nat, S.R 719 a0 = some p28 ∧ S.K p28 = 26 ∧ vp_in x1 (S.ln p28) ∧ ∃ p31 : Nat, S.Q p28 x1.toNatClampNeg = some p31 ∧ ∃ p32 : Nat, S.R 718 a0 = some p32 ∧ S.K p32 = 25 ∧ vp_in x3 (S.ln p32) ∧ ∃ p35 : Nat, S.Q p32 x3.toNatClampNeg = some p35 ∧ S.K p35 = 5 ∧ ∃ p37 : Nat, S.R 718 a0 = some p37 ∧ S.K p37 = 25 ∧ vp_in x3 (S.ln p37) ∧ ∃ p40 : Nat, S.Q p37 x3.toNatClampNeg = some p40 ∧ S.K p40 = 5 ∧ S.K p31 = 6 ∧ wp_X5_holdRow N S p31 (S.I 320 p35) (S.I 321 p40) (fun S43 => K 1 S43))) else (wq_X10_shelf_112 N K S a0 x1))
def wq_X10_shelf_33 (N : Nat) (K : Int32 → PS → Prop) (S : PS) (a0 : Nat) (x1 : Int32) (x2 : Int32) (x3 : Int32) : Prop := if x2 = 1 then (wp_X10_isSheet N S x3 (fun r54 S53 => if r54 = 0 then (K (-1) S53) else (wq_X10_shelf_47 N K S53 a0 x1 x2 x3))) else (wq_X10_shelf_47 N K S a0 x1 x2 x3)
def wp_X10_shelf (N : Nat) (S : PS) (a0 : Nat) (x1 : Int32) (x2 : Int32) (x3 : Int32) (K : Int32 → PS → Prop) : Prop := wp_X10_isShelf N S x1 (fun r2 S1 => if r2 = 0 then (K (-1) S1) else (wp_X10_within N S1 x2 0 2 (fun r6 S5 => if r6 = 0 then (K (-1) S5) else (if x2 = 0 then (S5.K a0 = 11 ∧ ∃ p58 : Nat, S5.R 704 a0 = some p58 ∧ S5.K p58 = 10 ∧ wp_X9_hasPart N S5 p58 x3 (fun r61 S60 => if r61 = 0 then (K (-1) S60) else (wq_X10_shelf_33 N K S60 a0 x1 x2 x3))) else (wq_X10_shelf_33 N K S5 a0 x1 x2 x3)))))
set_option maxHeartbeats 4000000 in
set_option maxRecDepth 100000 in
theorem tq_X10_shelf_112 {p : Program} {l : Launch} {e : Env} {s : State} {m : MethodId} {args : Array Value} {below : List Frame} {meth : Method} {c : Code} {D : DX} {cA : Nat → ClassId} {z0 N : Nat} {K : Int32 → PS → Prop} (C : CX p s m args meth c cX10_shelf 4 RX10 (some .int) D cA z0) : ∀ (S : PS) (a0 : Nat) (x1 : Int32) (H : Heap) (locs : List Loc) (ls : Array Slot), wq_X10_shelf_112 N K S a0 x1 → XV D cA z0 s S H locs → lv_has ls 4 [(0, .ref a0), (1, .int x1)] → W p l e (rmd 2 0 0) s m args below meth c H locs 0 0 (MQ below (va_Qi K (XK D cA z0) (zA z0)) args s 0 0 (zA z0)) (F0 m 112 ls []) := by
  obtain ⟨hx, hb, hml, hown, hts, hK, hz, hlk, hr⟩ := id C
  intro S a0 x1 H locs ls hM hV hl
  unfold wq_X10_shelf_112 at hM
  refine lv_aload_n hx hb dX10_shelf_112 rfl (lv_at hl 0 rfl) ?_
  have hk13 := hM.1
  have hM := hM.2
  obtain ⟨p14, hp14, hM⟩ := hM
  refine x_getR C hV wf_X10_81 hk13 hp14 dX10_shelf_113 ?_
  refine lv_iload_n hx hb dX10_shelf_116 rfl (lv_at hl 1 rfl) ?_
  have hk15 := hM.1
  have hM := hM.2
  have hi16 := hM.1
  have hM := hM.2
  obtain ⟨p17, hp17, hM⟩ := hM
  refine x_aald C hV hk15 (by decide) rfl hi16 hp17 dX10_shelf_117 ?_
  have hk18 := hM.1
  have hM := hM.2
  refine x_cv hV (x_runV (As := []) (rest := []) C hV mi_X5_holdNothing wl_X10_349 hk18 (c_X5_holdNothing hM) ⟨by decide, by decide⟩ rfl hl.1 (Nat.le_of_ble_eq_true rfl) dX10_shelf_118 ⟨Nat.zero_le _, Nat.zero_le _⟩) (fun S19 H locs hV hM => ?_)
  refine lv_iconst (v := 1) hx hb dX10_shelf_121 (by decide) ?_
  exact x_iret C hV hM dX10_shelf_122
set_option maxHeartbeats 4000000 in
set_option maxRecDepth 100000 in
theorem tq_X10_shelf_47 {p : Program} {l : Launch} {e : Env} {s : State} {m : MethodId} {args : Array Value} {below : List Frame} {meth : Method} {c : Code} {D : DX} {cA : Nat → ClassId} {z0 N : Nat} {K : Int32 → PS → Prop} (C : CX p s m args meth c cX10_shelf 4 RX10 (some .int) D cA z0) : ∀ (S : PS) (a0 : Nat) (x1 : Int32) (x2 : Int32) (x3 : Int32) (H : Heap) (locs : List Loc) (ls : Array Slot), wq_X10_shelf_47 N K S a0 x1 x2 x3 → XV D cA z0 s S H locs → lv_has ls 4 [(0, .ref a0), (1, .int x1), (2, .int x2), (3, .int x3)] → W p l e (rmd 2 0 0) s m args below meth c H locs 0 0 (MQ below (va_Qi K (XK D cA z0) (zA z0)) args s 0 0 (zA z0)) (F0 m 47 ls []) := by
  obtain ⟨hx, hb, hml, hown, hts, hK, hz, hlk, hr⟩ := id C
  intro S a0 x1 x2 x3 H locs ls hM hV hl
  unfold wq_X10_shelf_47 at hM
  refine lv_iload_n hx hb dX10_shelf_47 rfl (lv_at hl 2 rfl) ?_
  refine lv_if_ne (tgt := 64) hx hb dX10_shelf_48 (by decide) (fun c11 => ?_) (fun c11 => ?_)
  · have hM := ite_f c11 hM
    refine lv_iload_n hx hb dX10_shelf_64 rfl (lv_at hl 2 rfl) ?_
    refine lv_iconst (v := 1) hx hb dX10_shelf_65 (by decide) ?_
    refine lv_icmp_ne (tgt := 112) hx hb dX10_shelf_66 (by decide) (fun c12 => ?_) (fun c12 => ?_)
    · have hM := ite_f c12 hM
      exact tq_X10_shelf_112 C _ _ _ _ _ _ hM hV (lv_sub hl [0, 1] rfl)
    have hM := ite_t c12 hM
    refine lv_aload_n hx hb dX10_shelf_69 rfl (lv_at hl 0 rfl) ?_
    have hk21 := hM.1
    have hM := hM.2
    obtain ⟨p22, hp22, hM⟩ := hM
    refine x_getR C hV wf_X10_75 hk21 hp22 dX10_shelf_70 ?_
    refine lv_iload_n hx hb dX10_shelf_73 rfl (lv_at hl 3 rfl) ?_
    have hk23 := hM.1
    have hM := hM.2
    have hi24 := hM.1
    have hM := hM.2
    obtain ⟨p25, hp25, hM⟩ := hM
    refine x_aald C hV hk23 (by decide) rfl hi24 hp25 dX10_shelf_74 ?_
    have hk26 := hM.1
    have hM := hM.2
    refine x_getI C hV wf_X10_324 hk26 dX10_shelf_75 ?_
    refine lv_iconst (v := (-1)) hx hb dX10_shelf_78 (by decide) ?_
    refine lv_icmp_eq (tgt := 112) hx hb dX10_shelf_79 (by decide) (fun c27 => ?_) (fun c27 => ?_)
    · have hM := ite_t c27 hM
      exact tq_X10_shelf_112 C _ _ _ _ _ _ hM hV (lv_sub hl [0, 1] rfl)
    have hM := ite_f c27 hM
    refine lv_aload_n hx hb dX10_shelf_82 rfl (lv_at hl 0 rfl) ?_
    obtain ⟨p28, hp28, hM⟩ := hM
    refine x_getR C hV wf_X10_81 hk21 hp28 dX10_shelf_83 ?_
    refine lv_iload_n hx hb dX10_shelf_86 rfl (lv_at hl 1 rfl) ?_
    have hk29 := hM.1
    have hM := hM.2
    have hi30 := hM.1
    have hM := hM.2
    obtain ⟨p31, hp31, hM⟩ := hM
    refine x_aald C hV hk29 (by decide) rfl hi30 hp31 dX10_shelf_87 ?_
    refine lv_aload_n hx hb dX10_shelf_88 rfl (lv_at hl 0 rfl) ?_
    obtain ⟨p32, hp32, hM⟩ := hM
    refine x_getR C hV wf_X10_75 hk21 hp32 dX10_shelf_89 ?_
    refine lv_iload_n hx hb dX10_shelf_92 rfl (lv_at hl 3 rfl) ?_
    have hk33 := hM.1
    have hM := hM.2
    have hi34 := hM.1
    have hM := hM.2
    obtain ⟨p35, hp35, hM⟩ := hM
    refine x_aald C hV hk33 (by decide) rfl hi34 hp35 dX10_shelf_93 ?_
    have hk36 := hM.1
    have hM := hM.2
    refine x_getI C hV wf_X10_324 hk36 dX10_shelf_94 ?_
    refine lv_aload_n hx hb dX10_shelf_97 rfl (lv_at hl 0 rfl) ?_
    obtain ⟨p37, hp37, hM⟩ := hM
    refine x_getR C hV wf_X10_75 hk21 hp37 dX10_shelf_98 ?_
    refine lv_iload_n hx hb dX10_shelf_101 rfl (lv_at hl 3 rfl) ?_
    have hk38 := hM.1
    have hM := hM.2
    have hi39 := hM.1
    have hM := hM.2
    obtain ⟨p40, hp40, hM⟩ := hM
    refine x_aald C hV hk38 (by decide) rfl hi39 hp40 dX10_shelf_102 ?_
    have hk41 := hM.1
    have hM := hM.2
    refine x_getI C hV wf_X10_343 hk41 dX10_shelf_103 ?_
    have hk42 := hM.1
    have hM := hM.2
    refine x_cv hV (x_runV (As := [.int (S.I 320 p35), .int (S.I 321 p40)]) (rest := []) C hV mi_X5_holdRow wl_X10_346 hk42 (c_X5_holdRow hM) ⟨by decide, by decide⟩ rfl hl.1 (Nat.le_of_ble_eq_true rfl) dX10_shelf_106 ⟨Nat.zero_le _, Nat.zero_le _⟩) (fun S43 H locs hV hM => ?_)
    refine lv_goto (tgt := 121) hx hb dX10_shelf_109 (by decide) ?_
    refine lv_iconst (v := 1) hx hb dX10_shelf_121 (by decide) ?_
    exact x_iret C hV hM dX10_shelf_122
  have hM := ite_t c11 hM
  refine lv_aload_n hx hb dX10_shelf_51 rfl (lv_at hl 0 rfl) ?_
  have hk45 := hM.1
  have hM := hM.2
  obtain ⟨p46, hp46, hM⟩ := hM
  refine x_getR C hV wf_X10_81 hk45 hp46 dX10_shelf_52 ?_
  refine lv_iload_n hx hb dX10_shelf_55 rfl (lv_at hl 1 rfl) ?_
  have hk47 := hM.1
  have hM := hM.2
  have hi48 := hM.1
  have hM := hM.2
  obtain ⟨p49, hp49, hM⟩ := hM
  refine x_aald C hV hk47 (by decide) rfl hi48 hp49 dX10_shelf_56 ?_
  refine lv_iload_n hx hb dX10_shelf_57 rfl (lv_at hl 3 rfl) ?_
  have hk50 := hM.1
  have hM := hM.2
  refine x_cv hV (x_runV (As := [.int x3]) (rest := []) C hV mi_X5_holdPart wl_X10_339 hk50 (c_X5_holdPart hM) ⟨by decide, by decide⟩ rfl hl.1 (Nat.le_of_ble_eq_true rfl) dX10_shelf_58 ⟨Nat.zero_le _, Nat.zero_le _⟩) (fun S51 H locs hV hM => ?_)
  refine lv_goto (tgt := 121) hx hb dX10_shelf_61 (by decide) ?_
  refine lv_iconst (v := 1) hx hb dX10_shelf_121 (by decide) ?_
  exact x_iret C hV hM dX10_shelf_122
set_option maxHeartbeats 4000000 in
set_option maxRecDepth 100000 in
theorem tq_X10_shelf_33 {p : Program} {l : Launch} {e : Env} {s : State} {m : MethodId} {args : Array Value} {below : List Frame} {meth : Method} {c : Code} {D : DX} {cA : Nat → ClassId} {z0 N : Nat} {K : Int32 → PS → Prop} (C : CX p s m args meth c cX10_shelf 4 RX10 (some .int) D cA z0) : ∀ (S : PS) (a0 : Nat) (x1 : Int32) (x2 : Int32) (x3 : Int32) (H : Heap) (locs : List Loc) (ls : Array Slot), wq_X10_shelf_33 N K S a0 x1 x2 x3 → XV D cA z0 s S H locs → lv_has ls 4 [(0, .ref a0), (1, .int x1), (2, .int x2), (3, .int x3)] → W p l e (rmd 2 0 0) s m args below meth c H locs 0 0 (MQ below (va_Qi K (XK D cA z0) (zA z0)) args s 0 0 (zA z0)) (F0 m 33 ls []) := by
  obtain ⟨hx, hb, hml, hown, hts, hK, hz, hlk, hr⟩ := id C
  intro S a0 x1 x2 x3 H locs ls hM hV hl
  unfold wq_X10_shelf_33 at hM
  refine lv_iload_n hx hb dX10_shelf_33 rfl (lv_at hl 2 rfl) ?_
  refine lv_iconst (v := 1) hx hb dX10_shelf_34 (by decide) ?_
  refine lv_icmp_ne (tgt := 47) hx hb dX10_shelf_35 (by decide) (fun c10 => ?_) (fun c10 => ?_)
  · have hM := ite_f c10 hM
    exact tq_X10_shelf_47 C _ _ _ _ _ _ _ _ hM hV (lv_sub hl [0, 1, 2, 3] rfl)
  have hM := ite_t c10 hM
  refine lv_iload_n hx hb dX10_shelf_38 rfl (lv_at hl 3 rfl) ?_
  refine x_ci hV (x_runS (As := [.int x3]) (rest := []) C hV ms_X10_isSheet wl_X10_318 (c_X10_isSheet hM) ⟨by decide, by decide⟩ rfl hl.1 (Nat.le_of_ble_eq_true rfl) dX10_shelf_39 ⟨Nat.zero_le _, Nat.zero_le _⟩) (fun r54 S53 H locs hV hM => ?_)
  have hz55 := hM.1
  have hM := hM.2
  refine lv_if_ne (tgt := 47) hx hb dX10_shelf_42 (by decide) (fun c56 => ?_) (fun c56 => ?_)
  · have hM := ite_f c56 hM
    exact tq_X10_shelf_47 C _ _ _ _ _ _ _ _ hM hV (lv_sub hl [0, 1, 2, 3] rfl)
  have hM := ite_t c56 hM
  refine lv_iconst (v := (-1)) hx hb dX10_shelf_45 (by decide) ?_
  exact x_iret C hV hM dX10_shelf_46
set_option maxHeartbeats 4000000 in
set_option maxRecDepth 100000 in
theorem c_X10_shelf {l : Launch} {D : DX} {cA : Nat → ClassId} {z0 N : Nat} {S : PS} {a0 : Nat} {x1 : Int32} {x2 : Int32} {x3 : Int32} {K : Int32 → PS → Prop} (hM : wp_X10_shelf N S a0 x1 x2 x3 K) : MetI l yX10_shelf cX10_shelf 4 (some .int) 2 0 0 D cA z0 [.ref a0, .int x1, .int x2, .int x3] S K := by
  refine x_met RX10 (by decide) rfl ?_
  intro p e s m below meth c C hin hV
  have hl := lv_entry ([.ref a0, .int x1, .int x2, .int x3]) (n := 4) (Nat.le_of_ble_eq_true rfl)
  rw [lg_entry_eq]
  generalize (lg_sl ([.ref a0, .int x1, .int x2, .int x3]) ++ List.replicate (4 - (lg_sl ([.ref a0, .int x1, .int x2, .int x3])).length) Slot.unset).toArray = ls at hl ⊢
  have hl : lv_has ls 4 [(0, .ref a0), (1, .int x1), (2, .int x2), (3, .int x3)] := hl
  obtain ⟨hx, hb, hml, hown, hts, hK, hz, hlk, hr⟩ := id C
  unfold wp_X10_shelf at hM
  refine lv_iload_n hx hb dX10_shelf_0 rfl (lv_at hl 1 rfl) ?_
  refine x_ci hV (x_runS (As := [.int x1]) (rest := []) C hV ms_X10_isShelf wl_X10_336 (c_X10_isShelf hM) ⟨by decide, by decide⟩ rfl hl.1 (Nat.le_of_ble_eq_true rfl) dX10_shelf_1 ⟨Nat.zero_le _, Nat.zero_le _⟩) (fun r2 S1 H locs hV hM => ?_)
  have hz3 := hM.1
  have hM := hM.2
  refine lv_if_eq (tgt := 16) hx hb dX10_shelf_4 (by decide) (fun c4 => ?_) (fun c4 => ?_)
  · have hM := ite_t c4 hM
    refine lv_iconst (v := (-1)) hx hb dX10_shelf_16 (by decide) ?_
    exact x_iret C hV hM dX10_shelf_17
  have hM := ite_f c4 hM
  refine lv_iload_n hx hb dX10_shelf_7 rfl (lv_at hl 2 rfl) ?_
  refine lv_iconst (v := 0) hx hb dX10_shelf_8 (by decide) ?_
  refine lv_iconst (v := 2) hx hb dX10_shelf_9 (by decide) ?_
  refine x_ci hV (x_runS (As := [.int x2, .int 0, .int 2]) (rest := []) C hV ms_X10_within wl_X10_94 (c_X10_within hM) ⟨by decide, by decide⟩ rfl hl.1 (Nat.le_of_ble_eq_true rfl) dX10_shelf_10 ⟨Nat.zero_le _, Nat.zero_le _⟩) (fun r6 S5 H locs hV hM => ?_)
  have hz7 := hM.1
  have hM := hM.2
  refine lv_if_ne (tgt := 18) hx hb dX10_shelf_13 (by decide) (fun c8 => ?_) (fun c8 => ?_)
  · have hM := ite_f c8 hM
    refine lv_iload_n hx hb dX10_shelf_18 rfl (lv_at hl 2 rfl) ?_
    refine lv_if_ne (tgt := 33) hx hb dX10_shelf_19 (by decide) (fun c9 => ?_) (fun c9 => ?_)
    · have hM := ite_f c9 hM
      exact tq_X10_shelf_33 C _ _ _ _ _ _ _ _ hM hV (lv_sub hl [0, 1, 2, 3] rfl)
    have hM := ite_t c9 hM
    refine lv_aload_n hx hb dX10_shelf_22 rfl (lv_at hl 0 rfl) ?_
    have hk57 := hM.1
    have hM := hM.2
    obtain ⟨p58, hp58, hM⟩ := hM
    refine x_getR C hV wf_X10_10 hk57 hp58 dX10_shelf_23 ?_
    refine lv_iload_n hx hb dX10_shelf_26 rfl (lv_at hl 3 rfl) ?_
    have hk59 := hM.1
    have hM := hM.2
    refine x_ci hV (x_runV (As := [.int x3]) (rest := []) C hV mi_X9_hasPart wl_X10_111 hk59 (c_X9_hasPart hM) ⟨by decide, by decide⟩ rfl hl.1 (Nat.le_of_ble_eq_true rfl) dX10_shelf_27 ⟨Nat.zero_le _, Nat.zero_le _⟩) (fun r61 S60 H locs hV hM => ?_)
    have hz62 := hM.1
    have hM := hM.2
    refine lv_if_eq (tgt := 45) hx hb dX10_shelf_30 (by decide) (fun c63 => ?_) (fun c63 => ?_)
    · have hM := ite_t c63 hM
      refine lv_iconst (v := (-1)) hx hb dX10_shelf_45 (by decide) ?_
      exact x_iret C hV hM dX10_shelf_46
    have hM := ite_f c63 hM
    exact tq_X10_shelf_33 C _ _ _ _ _ _ _ _ hM hV (lv_sub hl [0, 1, 2, 3] rfl)
  have hM := ite_t c8 hM
  refine lv_iconst (v := (-1)) hx hb dX10_shelf_16 (by decide) ?_
  exact x_iret C hV hM dX10_shelf_17

def wq_X10_sign_52 (N : Nat) (K : Int32 → PS → Prop) (k_15 : PS → Nat → Int32 → Int32 → Prop) (k_26 : PS → Nat → Int32 → Int32 → Int32 → Int32 → Prop) (S : PS) (a0 : Nat) (x1 : Int32) (x2 : Int32) (x3 : Int32) (x4 : Int32) (t0 : Int32) : Prop := if t0 = 0 then (k_26 S a0 x1 x2 x3 (x4 + 1)) else (S.K a0 = 11 ∧ ∃ p16 : Nat, S.R 704 a0 = some p16 ∧ S.K p16 = 10 ∧ ∃ p18 : Nat, S.R 653 p16 = some p18 ∧ S.K p18 = 24 ∧ vp_in x4 (S.ln p18) ∧ ∃ p21 : Nat, S.Q p18 x4.toNatClampNeg = some p21 ∧ ∃ p22 : Nat, S.R 712 a0 = some p22 ∧ ∃ p23 : Nat, S.R 713 a0 = some p23 ∧ S.K p21 = 3 ∧ wp_X2_isMet N S p21 p22 p23 (fun r26 S25 => if r26 = 0 then (k_26 S25 a0 x1 x2 x3 (x4 + 1)) else (∀ v29 : Int32, v29 = (x1 ||| ((1 : Int32) <<< (x4 &&& 31))) → S25.K a0 = 11 ∧ ∃ p31 : Nat, S25.R 712 a0 = some p31 ∧ S25.K p31 = 20 ∧ vp_in 6 (S25.ln p31) ∧ vp_in 6 (S25.ln p31) ∧ ∀ S35 : PS, S35 = S25.setA p31 (6 : Int32).toNatClampNeg ((S25.A p31 (6 : Int32).toNatClampNeg) + 1) → k_26 S35 a0 v29 x2 x3 (x4 + 1))))
def wq_X10_sign_26 (N : Nat) (K : Int32 → PS → Prop) (k_15 : PS → Nat → Int32 → Int32 → Prop) : Nat → PS → Nat → Int32 → Int32 → Int32 → Int32 → Prop
  | 0, _, _, _, _, _, _ => False
  | n + 1, S, a0, x1, x2, x3, x4 => S.K a0 = 11 ∧ ∃ p9 : Nat, S.R 704 a0 = some p9 ∧ S.K p9 = 10 ∧ if (S.I 647 p9) ≤ x4 then (if x1 = x3 then (K x1 S) else (k_15 S a0 x1 (x2 + 1))) else (if ((x1 >>> (x4 &&& 31)) &&& 1) = 0 then (wq_X10_sign_52 N K k_15 (fun S a0 x1 x2 x3 x4 => wq_X10_sign_26 N K k_15 n S a0 x1 x2 x3 x4) S a0 x1 x2 x3 x4 1) else (wq_X10_sign_52 N K k_15 (fun S a0 x1 x2 x3 x4 => wq_X10_sign_26 N K k_15 n S a0 x1 x2 x3 x4) S a0 x1 x2 x3 x4 0))
def wq_X10_sign_15 (N : Nat) (K : Int32 → PS → Prop) : Nat → PS → Nat → Int32 → Int32 → Prop
  | 0, _, _, _, _ => False
  | n + 1, S, a0, x1, x2 => if 8 < x2 then (K x1 S) else (wq_X10_sign_26 N K (fun S a0 x1 x2 => wq_X10_sign_15 N K n S a0 x1 x2) N S a0 x1 x2 x1 0)
def wp_X10_sign (N : Nat) (S : PS) (a0 : Nat) (K : Int32 → PS → Prop) : Prop := S.K a0 = 11 ∧ ∃ p2 : Nat, S.R 704 a0 = some p2 ∧ ∃ p3 : Nat, S.R 712 a0 = some p3 ∧ S.K p2 = 10 ∧ wp_X9_tellFacts N S p2 p3 (fun S5 => wq_X10_sign_15 N K N S5 a0 0 0)
set_option maxHeartbeats 4000000 in
set_option maxRecDepth 100000 in
theorem tq_X10_sign_52 {p : Program} {l : Launch} {e : Env} {s : State} {m : MethodId} {args : Array Value} {below : List Frame} {meth : Method} {c : Code} {D : DX} {cA : Nat → ClassId} {z0 N : Nat} {K : Int32 → PS → Prop} {k_15 : PS → Nat → Int32 → Int32 → Prop} {k_26 : PS → Nat → Int32 → Int32 → Int32 → Int32 → Prop} (C : CX p s m args meth c cX10_sign 6 RX10 (some .int) D cA z0) (H_15 : ∀ (S : PS) (a0 : Nat) (x1 : Int32) (x2 : Int32) (H : Heap) (locs : List Loc) (ls : Array Slot), k_15 S a0 x1 x2 → XV D cA z0 s S H locs → lv_has ls 6 [(0, .ref a0), (1, .int x1), (2, .int x2)] → W p l e (rmd 6 0 0) s m args below meth c H locs 0 0 (MQ below (va_Qi K (XK D cA z0) (zA z0)) args s 0 0 (zA z0)) (F0 m 15 ls [])) (H_26 : ∀ (S : PS) (a0 : Nat) (x1 : Int32) (x2 : Int32) (x3 : Int32) (x4 : Int32) (H : Heap) (locs : List Loc) (ls : Array Slot), k_26 S a0 x1 x2 x3 x4 → XV D cA z0 s S H locs → lv_has ls 6 [(0, .ref a0), (1, .int x1), (2, .int x2), (3, .int x3), (4, .int x4)] → W p l e (rmd 6 0 0) s m args below meth c H locs 0 0 (MQ below (va_Qi K (XK D cA z0) (zA z0)) args s 0 0 (zA z0)) (F0 m 26 ls [])) : ∀ (S : PS) (a0 : Nat) (x1 : Int32) (x2 : Int32) (x3 : Int32) (x4 : Int32) (t0 : Int32) (H : Heap) (locs : List Loc) (ls : Array Slot), wq_X10_sign_52 N K k_15 k_26 S a0 x1 x2 x3 x4 t0 → XV D cA z0 s S H locs → lv_has ls 6 [(0, .ref a0), (1, .int x1), (2, .int x2), (3, .int x3), (4, .int x4)] → W p l e (rmd 6 0 0) s m args below meth c H locs 0 0 (MQ below (va_Qi K (XK D cA z0) (zA z0)) args s 0 0 (zA z0)) (F0 m 52 ls [.int t0]) := by
  obtain ⟨hx, hb, hml, hown, hts, hK, hz, hlk, hr⟩ := id C
  intro S a0 x1 x2 x3 x4 t0 H locs ls hM hV hl
  unfold wq_X10_sign_52 at hM
  refine lv_istore (lv' := [(5, .int t0), (0, .ref a0), (1, .int x1), (2, .int x2), (3, .int x3), (4, .int x4)]) hx hb dX10_sign_52 hl (by decide) rfl (fun ls hl => ?_)
  refine lv_iload hx hb dX10_sign_54 (lv_at hl 0 rfl) ?_
  refine lv_if_eq (tgt := 101) hx hb dX10_sign_56 (by decide) (fun c14 => ?_) (fun c14 => ?_)
  · have hM := ite_t c14 hM
    refine lv_iinc (v := (x4 + 1)) (lv' := [(4, .int (x4 + 1)), (5, .int t0), (0, .ref a0), (1, .int x1), (2, .int x2), (3, .int x3)]) hx hb dX10_sign_101 hl (k := 5) rfl rfl (by decide) rfl (fun ls hl => ?_)
    refine lv_goto (tgt := 26) hx hb dX10_sign_104 (by decide) ?_
    exact H_26 _ _ _ _ _ _ _ _ _ hM hV (lv_sub hl [2, 3, 4, 5, 0] rfl)
  have hM := ite_f c14 hM
  refine lv_aload_n hx hb dX10_sign_59 rfl (lv_at hl 1 rfl) ?_
  have hk15 := hM.1
  have hM := hM.2
  obtain ⟨p16, hp16, hM⟩ := hM
  refine x_getR C hV wf_X10_10 hk15 hp16 dX10_sign_60 ?_
  have hk17 := hM.1
  have hM := hM.2
  obtain ⟨p18, hp18, hM⟩ := hM
  refine x_getR C hV wf_X10_298 hk17 hp18 dX10_sign_63 ?_
  refine lv_iload hx hb dX10_sign_66 (lv_at hl 5 rfl) ?_
  have hk19 := hM.1
  have hM := hM.2
  have hi20 := hM.1
  have hM := hM.2
  obtain ⟨p21, hp21, hM⟩ := hM
  refine x_aald C hV hk19 (by decide) rfl hi20 hp21 dX10_sign_68 ?_
  refine lv_aload_n hx hb dX10_sign_69 rfl (lv_at hl 1 rfl) ?_
  obtain ⟨p22, hp22, hM⟩ := hM
  refine x_getR C hV wf_X10_54 hk15 hp22 dX10_sign_70 ?_
  refine lv_aload_n hx hb dX10_sign_73 rfl (lv_at hl 1 rfl) ?_
  obtain ⟨p23, hp23, hM⟩ := hM
  refine x_getR C hV wf_X10_58 hk15 hp23 dX10_sign_74 ?_
  have hk24 := hM.1
  have hM := hM.2
  refine x_ci hV (x_runV (As := [.ref p22, .ref p23]) (rest := []) C hV mi_X2_isMet wl_X10_309 hk24 (c_X2_isMet hM) ⟨by decide, by decide⟩ rfl hl.1 (Nat.le_of_ble_eq_true rfl) dX10_sign_77 ⟨Nat.zero_le _, Nat.zero_le _⟩) (fun r26 S25 H locs hV hM => ?_)
  have hz27 := hM.1
  have hM := hM.2
  refine lv_if_eq (tgt := 101) hx hb dX10_sign_80 (by decide) (fun c28 => ?_) (fun c28 => ?_)
  · have hM := ite_t c28 hM
    refine lv_iinc (v := (x4 + 1)) (lv' := [(4, .int (x4 + 1)), (5, .int t0), (0, .ref a0), (1, .int x1), (2, .int x2), (3, .int x3)]) hx hb dX10_sign_101 hl (k := 5) rfl rfl (by decide) rfl (fun ls hl => ?_)
    refine lv_goto (tgt := 26) hx hb dX10_sign_104 (by decide) ?_
    exact H_26 _ _ _ _ _ _ _ _ _ hM hV (lv_sub hl [2, 3, 4, 5, 0] rfl)
  have hM := ite_f c28 hM
  refine lv_iload_n hx hb dX10_sign_83 rfl (lv_at hl 2 rfl) ?_
  refine lv_iconst (v := 1) hx hb dX10_sign_84 (by decide) ?_
  refine lv_iload hx hb dX10_sign_85 (lv_at hl 5 rfl) ?_
  refine lv_ishl hx hb dX10_sign_87 ?_
  refine lv_ior hx hb dX10_sign_88 ?_
  refine lv_topi (fun v29 ev29 => ?_)
  have hM := hM v29 ev29
  refine lv_istore_n (lv' := [(1, .int v29), (5, .int t0), (0, .ref a0), (2, .int x2), (3, .int x3), (4, .int x4)]) hx hb dX10_sign_89 rfl hl (by decide) rfl (fun ls hl => ?_)
  refine lv_aload_n hx hb dX10_sign_90 rfl (lv_at hl 2 rfl) ?_
  have hk30 := hM.1
  have hM := hM.2
  obtain ⟨p31, hp31, hM⟩ := hM
  refine x_getR C hV wf_X10_54 hk30 hp31 dX10_sign_91 ?_
  refine lv_bipush (v := 6) hx hb dX10_sign_94 (by decide) ?_
  refine lv_dup2_11 hx hb dX10_sign_96 rfl rfl ?_
  have hk32 := hM.1
  have hM := hM.2
  have hi33 := hM.1
  have hM := hM.2
  refine x_iald C hV hk32 hi33 dX10_sign_97 ?_
  refine lv_iconst (v := 1) hx hb dX10_sign_98 (by decide) ?_
  refine lv_iadd hx hb dX10_sign_99 ?_
  have hi34 := hM.1
  have hM := hM.2
  obtain ⟨S35, eS35⟩ : ∃ z : PS, z = S25.setA p31 (6 : Int32).toNatClampNeg ((S25.A p31 (6 : Int32).toNatClampNeg) + 1) := ⟨_, rfl⟩
  have hM := hM S35 eS35
  refine x_iast C hV hk32 hi34 eS35 dX10_sign_100 (fun H locs hV => ?_)
  refine lv_iinc (v := (x4 + 1)) (lv' := [(4, .int (x4 + 1)), (1, .int v29), (5, .int t0), (0, .ref a0), (2, .int x2), (3, .int x3)]) hx hb dX10_sign_101 hl (k := 5) rfl rfl (by decide) rfl (fun ls hl => ?_)
  refine lv_goto (tgt := 26) hx hb dX10_sign_104 (by decide) ?_
  exact H_26 _ _ _ _ _ _ _ _ _ hM hV (lv_sub hl [3, 1, 4, 5, 0] rfl)
set_option maxHeartbeats 4000000 in
set_option maxRecDepth 100000 in
theorem tq_X10_sign_26 {p : Program} {l : Launch} {e : Env} {s : State} {m : MethodId} {args : Array Value} {below : List Frame} {meth : Method} {c : Code} {D : DX} {cA : Nat → ClassId} {z0 N : Nat} {K : Int32 → PS → Prop} {k_15 : PS → Nat → Int32 → Int32 → Prop} (C : CX p s m args meth c cX10_sign 6 RX10 (some .int) D cA z0) (H_15 : ∀ (S : PS) (a0 : Nat) (x1 : Int32) (x2 : Int32) (H : Heap) (locs : List Loc) (ls : Array Slot), k_15 S a0 x1 x2 → XV D cA z0 s S H locs → lv_has ls 6 [(0, .ref a0), (1, .int x1), (2, .int x2)] → W p l e (rmd 6 0 0) s m args below meth c H locs 0 0 (MQ below (va_Qi K (XK D cA z0) (zA z0)) args s 0 0 (zA z0)) (F0 m 15 ls [])) : ∀ (n : Nat) (S : PS) (a0 : Nat) (x1 : Int32) (x2 : Int32) (x3 : Int32) (x4 : Int32) (H : Heap) (locs : List Loc) (ls : Array Slot), wq_X10_sign_26 N K k_15 n S a0 x1 x2 x3 x4 → XV D cA z0 s S H locs → lv_has ls 6 [(0, .ref a0), (1, .int x1), (2, .int x2), (3, .int x3), (4, .int x4)] → W p l e (rmd 6 0 0) s m args below meth c H locs 0 0 (MQ below (va_Qi K (XK D cA z0) (zA z0)) args s 0 0 (zA z0)) (F0 m 26 ls []) := by
  obtain ⟨hx, hb, hml, hown, hts, hK, hz, hlk, hr⟩ := id C
  intro n
  induction n with
  | zero => intro S a0 x1 x2 x3 x4 H locs ls hM; exact absurd hM id
  | succ n ih =>
    intro S a0 x1 x2 x3 x4 H locs ls hM hV hl
    rw [wq_X10_sign_26.eq_2] at hM
    refine lv_iload hx hb dX10_sign_26 (lv_at hl 4 rfl) ?_
    refine lv_aload_n hx hb dX10_sign_28 rfl (lv_at hl 0 rfl) ?_
    have hk8 := hM.1
    have hM := hM.2
    obtain ⟨p9, hp9, hM⟩ := hM
    refine x_getR C hV wf_X10_10 hk8 hp9 dX10_sign_29 ?_
    have hk10 := hM.1
    have hM := hM.2
    refine x_getI C hV wf_X10_287 hk10 dX10_sign_32 ?_
    refine lv_icmp_ge (tgt := 107) hx hb dX10_sign_35 (by decide) (fun c11 => ?_) (fun c11 => ?_)
    · have hM := ite_t c11 hM
      refine lv_iload_n hx hb dX10_sign_107 rfl (lv_at hl 1 rfl) ?_
      refine lv_iload_n hx hb dX10_sign_108 rfl (lv_at hl 3 rfl) ?_
      refine lv_icmp_ne (tgt := 115) hx hb dX10_sign_109 (by decide) (fun c12 => ?_) (fun c12 => ?_)
      · have hM := ite_f c12 hM
        refine lv_iinc (v := (x2 + 1)) (lv' := [(2, .int (x2 + 1)), (0, .ref a0), (1, .int x1), (3, .int x3), (4, .int x4)]) hx hb dX10_sign_115 hl (k := 2) rfl rfl (by decide) rfl (fun ls hl => ?_)
        refine lv_goto (tgt := 15) hx hb dX10_sign_118 (by decide) ?_
        exact H_15 _ _ _ _ _ _ _ hM hV (lv_sub hl [1, 2, 0] rfl)
      have hM := ite_t c12 hM
      refine lv_goto (tgt := 121) hx hb dX10_sign_112 (by decide) ?_
      refine lv_iload_n hx hb dX10_sign_121 rfl (lv_at hl 1 rfl) ?_
      exact x_iret C hV hM dX10_sign_122
    have hM := ite_f c11 hM
    refine lv_iload_n hx hb dX10_sign_38 rfl (lv_at hl 1 rfl) ?_
    refine lv_iload hx hb dX10_sign_39 (lv_at hl 4 rfl) ?_
    refine lv_ishr hx hb dX10_sign_41 ?_
    refine lv_iconst (v := 1) hx hb dX10_sign_42 (by decide) ?_
    refine lv_iand hx hb dX10_sign_43 ?_
    refine lv_if_ne (tgt := 51) hx hb dX10_sign_44 (by decide) (fun c13 => ?_) (fun c13 => ?_)
    · have hM := ite_f c13 hM
      refine lv_iconst (v := 0) hx hb dX10_sign_51 (by decide) ?_
      exact tq_X10_sign_52 C H_15 ih _ _ _ _ _ _ _ _ _ _ hM hV (lv_sub hl [0, 1, 2, 3, 4] rfl)
    have hM := ite_t c13 hM
    refine lv_iconst (v := 1) hx hb dX10_sign_47 (by decide) ?_
    refine lv_goto (tgt := 52) hx hb dX10_sign_48 (by decide) ?_
    exact tq_X10_sign_52 C H_15 ih _ _ _ _ _ _ _ _ _ _ hM hV (lv_sub hl [0, 1, 2, 3, 4] rfl)
set_option maxHeartbeats 4000000 in
set_option maxRecDepth 100000 in
theorem tq_X10_sign_15 {p : Program} {l : Launch} {e : Env} {s : State} {m : MethodId} {args : Array Value} {below : List Frame} {meth : Method} {c : Code} {D : DX} {cA : Nat → ClassId} {z0 N : Nat} {K : Int32 → PS → Prop} (C : CX p s m args meth c cX10_sign 6 RX10 (some .int) D cA z0) : ∀ (n : Nat) (S : PS) (a0 : Nat) (x1 : Int32) (x2 : Int32) (H : Heap) (locs : List Loc) (ls : Array Slot), wq_X10_sign_15 N K n S a0 x1 x2 → XV D cA z0 s S H locs → lv_has ls 6 [(0, .ref a0), (1, .int x1), (2, .int x2)] → W p l e (rmd 6 0 0) s m args below meth c H locs 0 0 (MQ below (va_Qi K (XK D cA z0) (zA z0)) args s 0 0 (zA z0)) (F0 m 15 ls []) := by
  obtain ⟨hx, hb, hml, hown, hts, hK, hz, hlk, hr⟩ := id C
  intro n
  induction n with
  | zero => intro S a0 x1 x2 H locs ls hM; exact absurd hM id
  | succ n ih =>
    intro S a0 x1 x2 H locs ls hM hV hl
    rw [wq_X10_sign_15.eq_2] at hM
    refine lv_iload_n hx hb dX10_sign_15 rfl (lv_at hl 2 rfl) ?_
    refine lv_bipush (v := 8) hx hb dX10_sign_16 (by decide) ?_
    refine lv_icmp_gt (tgt := 121) hx hb dX10_sign_18 (by decide) (fun c7 => ?_) (fun c7 => ?_)
    · have hM := ite_t c7 hM
      refine lv_iload_n hx hb dX10_sign_121 rfl (lv_at hl 1 rfl) ?_
      exact x_iret C hV hM dX10_sign_122
    have hM := ite_f c7 hM
    refine lv_iload_n hx hb dX10_sign_21 rfl (lv_at hl 1 rfl) ?_
    refine lv_istore_n (lv' := [(3, .int x1), (0, .ref a0), (1, .int x1), (2, .int x2)]) hx hb dX10_sign_22 rfl hl (by decide) rfl (fun ls hl => ?_)
    refine lv_iconst (v := 0) hx hb dX10_sign_23 (by decide) ?_
    refine lv_istore (lv' := [(4, .int 0), (3, .int x1), (0, .ref a0), (1, .int x1), (2, .int x2)]) hx hb dX10_sign_24 hl (by decide) rfl (fun ls hl => ?_)
    exact tq_X10_sign_26 C ih N _ _ _ _ _ _ _ _ _ hM hV (lv_sub hl [2, 3, 4, 1, 0] rfl)
set_option maxHeartbeats 4000000 in
set_option maxRecDepth 100000 in
theorem c_X10_sign {l : Launch} {D : DX} {cA : Nat → ClassId} {z0 N : Nat} {S : PS} {a0 : Nat} {K : Int32 → PS → Prop} (hM : wp_X10_sign N S a0 K) : MetI l yX10_sign cX10_sign 6 (some .int) 6 0 0 D cA z0 [.ref a0] S K := by
  refine x_met RX10 (by decide) rfl ?_
  intro p e s m below meth c C hin hV
  have hl := lv_entry ([.ref a0]) (n := 6) (Nat.le_of_ble_eq_true rfl)
  rw [lg_entry_eq]
  generalize (lg_sl ([.ref a0]) ++ List.replicate (6 - (lg_sl ([.ref a0])).length) Slot.unset).toArray = ls at hl ⊢
  have hl : lv_has ls 6 [(0, .ref a0)] := hl
  obtain ⟨hx, hb, hml, hown, hts, hK, hz, hlk, hr⟩ := id C
  unfold wp_X10_sign at hM
  refine lv_aload_n hx hb dX10_sign_0 rfl (lv_at hl 0 rfl) ?_
  have hk1 := hM.1
  have hM := hM.2
  obtain ⟨p2, hp2, hM⟩ := hM
  refine x_getR C hV wf_X10_10 hk1 hp2 dX10_sign_1 ?_
  refine lv_aload_n hx hb dX10_sign_4 rfl (lv_at hl 0 rfl) ?_
  obtain ⟨p3, hp3, hM⟩ := hM
  refine x_getR C hV wf_X10_54 hk1 hp3 dX10_sign_5 ?_
  have hk4 := hM.1
  have hM := hM.2
  refine x_cv hV (x_runV (As := [.ref p3]) (rest := []) C hV mi_X9_tellFacts wl_X10_305 hk4 (c_X9_tellFacts hM) ⟨by decide, by decide⟩ rfl hl.1 (Nat.le_of_ble_eq_true rfl) dX10_sign_8 ⟨Nat.zero_le _, Nat.zero_le _⟩) (fun S5 H locs hV hM => ?_)
  refine lv_iconst (v := 0) hx hb dX10_sign_11 (by decide) ?_
  refine lv_istore_n (lv' := [(1, .int 0), (0, .ref a0)]) hx hb dX10_sign_12 rfl hl (by decide) rfl (fun ls hl => ?_)
  refine lv_iconst (v := 0) hx hb dX10_sign_13 (by decide) ?_
  refine lv_istore_n (lv' := [(2, .int 0), (1, .int 0), (0, .ref a0)]) hx hb dX10_sign_14 rfl hl (by decide) rfl (fun ls hl => ?_)
  exact tq_X10_sign_15 C N _ _ _ _ _ _ _ hM hV (lv_sub hl [2, 1, 0] rfl)

def wp_X10_span (N : Nat) (S : PS) (a0 : Nat) (x1 : Int32) (x2 : Int32) (K : Int32 → PS → Prop) : Prop := wp_X10_isWay N S x1 (fun r2 S1 => if r2 = 0 then (K (-1) S1) else (wp_X10_within N S1 x2 0 1 (fun r6 S5 => if r6 = 0 then (K (-1) S5) else (if x2 = 0 then (S5.K a0 = 11 ∧ ∃ p16 : Nat, S5.R 704 a0 = some p16 ∧ S5.K p16 = 10 ∧ wp_X9_spanSum N S5 p16 x1 (fun r19 S18 => K r19 S18)) else (S5.K a0 = 11 ∧ ∃ p11 : Nat, S5.R 704 a0 = some p11 ∧ S5.K p11 = 10 ∧ wp_X9_spanRoot N S5 p11 x1 (fun r14 S13 => K r14 S13))))))
set_option maxHeartbeats 4000000 in
set_option maxRecDepth 100000 in
theorem c_X10_span {l : Launch} {D : DX} {cA : Nat → ClassId} {z0 N : Nat} {S : PS} {a0 : Nat} {x1 : Int32} {x2 : Int32} {K : Int32 → PS → Prop} (hM : wp_X10_span N S a0 x1 x2 K) : MetI l yX10_span cX10_span 3 (some .int) 2 0 0 D cA z0 [.ref a0, .int x1, .int x2] S K := by
  refine x_met RX10 (by decide) rfl ?_
  intro p e s m below meth c C hin hV
  have hl := lv_entry ([.ref a0, .int x1, .int x2]) (n := 3) (Nat.le_of_ble_eq_true rfl)
  rw [lg_entry_eq]
  generalize (lg_sl ([.ref a0, .int x1, .int x2]) ++ List.replicate (3 - (lg_sl ([.ref a0, .int x1, .int x2])).length) Slot.unset).toArray = ls at hl ⊢
  have hl : lv_has ls 3 [(0, .ref a0), (1, .int x1), (2, .int x2)] := hl
  obtain ⟨hx, hb, hml, hown, hts, hK, hz, hlk, hr⟩ := id C
  unfold wp_X10_span at hM
  refine lv_iload_n hx hb dX10_span_0 rfl (lv_at hl 1 rfl) ?_
  refine x_ci hV (x_runS (As := [.int x1]) (rest := []) C hV ms_X10_isWay wl_X10_159 (c_X10_isWay hM) ⟨by decide, by decide⟩ rfl hl.1 (Nat.le_of_ble_eq_true rfl) dX10_span_1 ⟨Nat.zero_le _, Nat.zero_le _⟩) (fun r2 S1 H locs hV hM => ?_)
  have hz3 := hM.1
  have hM := hM.2
  refine lv_if_eq (tgt := 16) hx hb dX10_span_4 (by decide) (fun c4 => ?_) (fun c4 => ?_)
  · have hM := ite_t c4 hM
    refine lv_iconst (v := (-1)) hx hb dX10_span_16 (by decide) ?_
    exact x_iret C hV hM dX10_span_17
  have hM := ite_f c4 hM
  refine lv_iload_n hx hb dX10_span_7 rfl (lv_at hl 2 rfl) ?_
  refine lv_iconst (v := 0) hx hb dX10_span_8 (by decide) ?_
  refine lv_iconst (v := 1) hx hb dX10_span_9 (by decide) ?_
  refine x_ci hV (x_runS (As := [.int x2, .int 0, .int 1]) (rest := []) C hV ms_X10_within wl_X10_94 (c_X10_within hM) ⟨by decide, by decide⟩ rfl hl.1 (Nat.le_of_ble_eq_true rfl) dX10_span_10 ⟨Nat.zero_le _, Nat.zero_le _⟩) (fun r6 S5 H locs hV hM => ?_)
  have hz7 := hM.1
  have hM := hM.2
  refine lv_if_ne (tgt := 18) hx hb dX10_span_13 (by decide) (fun c8 => ?_) (fun c8 => ?_)
  · have hM := ite_f c8 hM
    refine lv_iload_n hx hb dX10_span_18 rfl (lv_at hl 2 rfl) ?_
    refine lv_if_ne (tgt := 33) hx hb dX10_span_19 (by decide) (fun c9 => ?_) (fun c9 => ?_)
    · have hM := ite_f c9 hM
      refine lv_aload_n hx hb dX10_span_33 rfl (lv_at hl 0 rfl) ?_
      have hk10 := hM.1
      have hM := hM.2
      obtain ⟨p11, hp11, hM⟩ := hM
      refine x_getR C hV wf_X10_10 hk10 hp11 dX10_span_34 ?_
      refine lv_iload_n hx hb dX10_span_37 rfl (lv_at hl 1 rfl) ?_
      have hk12 := hM.1
      have hM := hM.2
      refine x_ci hV (x_runV (As := [.int x1]) (rest := []) C hV mi_X9_spanRoot wl_X10_261 hk12 (c_X9_spanRoot hM) ⟨by decide, by decide⟩ rfl hl.1 (Nat.le_of_ble_eq_true rfl) dX10_span_38 ⟨Nat.zero_le _, Nat.zero_le _⟩) (fun r14 S13 H locs hV hM => ?_)
      exact x_iret C hV hM dX10_span_41
    have hM := ite_t c9 hM
    refine lv_aload_n hx hb dX10_span_22 rfl (lv_at hl 0 rfl) ?_
    have hk15 := hM.1
    have hM := hM.2
    obtain ⟨p16, hp16, hM⟩ := hM
    refine x_getR C hV wf_X10_10 hk15 hp16 dX10_span_23 ?_
    refine lv_iload_n hx hb dX10_span_26 rfl (lv_at hl 1 rfl) ?_
    have hk17 := hM.1
    have hM := hM.2
    refine x_ci hV (x_runV (As := [.int x1]) (rest := []) C hV mi_X9_spanSum wl_X10_258 hk17 (c_X9_spanSum hM) ⟨by decide, by decide⟩ rfl hl.1 (Nat.le_of_ble_eq_true rfl) dX10_span_27 ⟨Nat.zero_le _, Nat.zero_le _⟩) (fun r19 S18 H locs hV hM => ?_)
    refine lv_goto (tgt := 41) hx hb dX10_span_30 (by decide) ?_
    exact x_iret C hV hM dX10_span_41
  have hM := ite_t c8 hM
  refine lv_iconst (v := (-1)) hx hb dX10_span_16 (by decide) ?_
  exact x_iret C hV hM dX10_span_17

def wp_X10_sure (N : Nat) (S : PS) (a0 : Nat) (x1 : Int32) (K : Int32 → PS → Prop) : Prop := wp_X10_isWay N S x1 (fun r2 S1 => if r2 = 0 then (K (-1) S1) else (S1.K a0 = 11 ∧ ∃ p6 : Nat, S1.R 704 a0 = some p6 ∧ S1.K p6 = 10 ∧ wp_X9_countRuns N S1 p6 x1 0 999 (fun r9 S8 => if r9 = 0 then (K (-3) S8) else (S8.K a0 = 11 ∧ ∃ p12 : Nat, S8.R 704 a0 = some p12 ∧ S8.K p12 = 10 ∧ wp_X9_spanRoot N S8 p12 x1 (fun r15 S14 => ∀ v16 : Int32, v16 = (r9 * r15) → if v16 = 0 then (K (-15) S14) else (S14.K a0 = 11 ∧ ∃ p19 : Nat, S14.R 704 a0 = some p19 ∧ S14.K p19 = 10 ∧ wp_X9_sumRuns N S14 p19 x1 0 999 (fun r22 S21 => (¬ v16 = 0) ∧ K ((if 0 ≤ r22 then r22 else 0 - r22) / v16) S21)))))))
set_option maxHeartbeats 4000000 in
set_option maxRecDepth 100000 in
theorem c_X10_sure {l : Launch} {D : DX} {cA : Nat → ClassId} {z0 N : Nat} {S : PS} {a0 : Nat} {x1 : Int32} {K : Int32 → PS → Prop} (hM : wp_X10_sure N S a0 x1 K) : MetI l yX10_sure cX10_sure 4 (some .int) 2 0 0 D cA z0 [.ref a0, .int x1] S K := by
  refine x_met RX10 (by decide) rfl ?_
  intro p e s m below meth c C hin hV
  have hl := lv_entry ([.ref a0, .int x1]) (n := 4) (Nat.le_of_ble_eq_true rfl)
  rw [lg_entry_eq]
  generalize (lg_sl ([.ref a0, .int x1]) ++ List.replicate (4 - (lg_sl ([.ref a0, .int x1])).length) Slot.unset).toArray = ls at hl ⊢
  have hl : lv_has ls 4 [(0, .ref a0), (1, .int x1)] := hl
  obtain ⟨hx, hb, hml, hown, hts, hK, hz, hlk, hr⟩ := id C
  unfold wp_X10_sure at hM
  refine lv_iload_n hx hb dX10_sure_0 rfl (lv_at hl 1 rfl) ?_
  refine x_ci hV (x_runS (As := [.int x1]) (rest := []) C hV ms_X10_isWay wl_X10_159 (c_X10_isWay hM) ⟨by decide, by decide⟩ rfl hl.1 (Nat.le_of_ble_eq_true rfl) dX10_sure_1 ⟨Nat.zero_le _, Nat.zero_le _⟩) (fun r2 S1 H locs hV hM => ?_)
  have hz3 := hM.1
  have hM := hM.2
  refine lv_if_ne (tgt := 9) hx hb dX10_sure_4 (by decide) (fun c4 => ?_) (fun c4 => ?_)
  · have hM := ite_f c4 hM
    refine lv_aload_n hx hb dX10_sure_9 rfl (lv_at hl 0 rfl) ?_
    have hk5 := hM.1
    have hM := hM.2
    obtain ⟨p6, hp6, hM⟩ := hM
    refine x_getR C hV wf_X10_10 hk5 hp6 dX10_sure_10 ?_
    refine lv_iload_n hx hb dX10_sure_13 rfl (lv_at hl 1 rfl) ?_
    refine lv_iconst (v := 0) hx hb dX10_sure_14 (by decide) ?_
    refine lv_sipush (v := 999) hx hb dX10_sure_15 (by decide) ?_
    have hk7 := hM.1
    have hM := hM.2
    refine x_ci hV (x_runV (As := [.int x1, .int 0, .int 999]) (rest := []) C hV mi_X9_countRuns wl_X10_264 hk7 (c_X9_countRuns hM) ⟨by decide, by decide⟩ rfl hl.1 (Nat.le_of_ble_eq_true rfl) dX10_sure_18 ⟨Nat.zero_le _, Nat.zero_le _⟩) (fun r9 S8 H locs hV hM => ?_)
    refine lv_istore_n (lv' := [(2, .int r9), (0, .ref a0), (1, .int x1)]) hx hb dX10_sure_21 rfl hl (by decide) rfl (fun ls hl => ?_)
    refine lv_iload_n hx hb dX10_sure_22 rfl (lv_at hl 0 rfl) ?_
    refine lv_if_ne (tgt := 29) hx hb dX10_sure_23 (by decide) (fun c10 => ?_) (fun c10 => ?_)
    · have hM := ite_f c10 hM
      refine lv_iload_n hx hb dX10_sure_29 rfl (lv_at hl 0 rfl) ?_
      refine lv_aload_n hx hb dX10_sure_30 rfl (lv_at hl 1 rfl) ?_
      have hk11 := hM.1
      have hM := hM.2
      obtain ⟨p12, hp12, hM⟩ := hM
      refine x_getR C hV wf_X10_10 hk11 hp12 dX10_sure_31 ?_
      refine lv_iload_n hx hb dX10_sure_34 rfl (lv_at hl 2 rfl) ?_
      have hk13 := hM.1
      have hM := hM.2
      refine x_ci hV (x_runV (As := [.int x1]) (rest := [.int r9]) C hV mi_X9_spanRoot wl_X10_261 hk13 (c_X9_spanRoot hM) ⟨by decide, by decide⟩ rfl hl.1 (Nat.le_of_ble_eq_true rfl) dX10_sure_35 ⟨Nat.zero_le _, Nat.zero_le _⟩) (fun r15 S14 H locs hV hM => ?_)
      refine lv_imul hx hb dX10_sure_38 ?_
      refine lv_topi (fun v16 ev16 => ?_)
      have hM := hM v16 ev16
      refine lv_istore_n (lv' := [(3, .int v16), (2, .int r9), (0, .ref a0), (1, .int x1)]) hx hb dX10_sure_39 rfl hl (by decide) rfl (fun ls hl => ?_)
      refine lv_iload_n hx hb dX10_sure_40 rfl (lv_at hl 0 rfl) ?_
      refine lv_if_ne (tgt := 47) hx hb dX10_sure_41 (by decide) (fun c17 => ?_) (fun c17 => ?_)
      · have hM := ite_f c17 hM
        refine lv_aload_n hx hb dX10_sure_47 rfl (lv_at hl 2 rfl) ?_
        have hk18 := hM.1
        have hM := hM.2
        obtain ⟨p19, hp19, hM⟩ := hM
        refine x_getR C hV wf_X10_10 hk18 hp19 dX10_sure_48 ?_
        refine lv_iload_n hx hb dX10_sure_51 rfl (lv_at hl 3 rfl) ?_
        refine lv_iconst (v := 0) hx hb dX10_sure_52 (by decide) ?_
        refine lv_sipush (v := 999) hx hb dX10_sure_53 (by decide) ?_
        have hk20 := hM.1
        have hM := hM.2
        refine x_ci hV (x_runV (As := [.int x1, .int 0, .int 999]) (rest := []) C hV mi_X9_sumRuns wl_X10_267 hk20 (c_X9_sumRuns hM) ⟨by decide, by decide⟩ rfl hl.1 (Nat.le_of_ble_eq_true rfl) dX10_sure_56 ⟨Nat.zero_le _, Nat.zero_le _⟩) (fun r22 S21 H locs hV hM => ?_)
        refine x_mabs C hl.1 wl_X10_270 (by decide) (by decide) (Nat.zero_le _) (Nat.zero_le _) (Nat.le_of_ble_eq_true rfl) dX10_sure_59 ?_
        refine lv_iload_n hx hb dX10_sure_62 rfl (lv_at hl 0 rfl) ?_
        have hne23 := hM.1
        have hM := hM.2
        refine lv_idiv hx hb dX10_sure_63 hne23 ?_
        exact x_iret C hV hM dX10_sure_64
      have hM := ite_t c17 hM
      refine lv_bipush (v := (-15)) hx hb dX10_sure_44 (by decide) ?_
      exact x_iret C hV hM dX10_sure_46
    have hM := ite_t c10 hM
    refine lv_bipush (v := (-3)) hx hb dX10_sure_26 (by decide) ?_
    exact x_iret C hV hM dX10_sure_28
  have hM := ite_t c4 hM
  refine lv_iconst (v := (-1)) hx hb dX10_sure_7 (by decide) ?_
  exact x_iret C hV hM dX10_sure_8

def wq_X10_taken_85 (N : Nat) (K : Int32 → PS → Prop) (S : PS) (a5 : Nat) (t0 : Int32) : Prop := if t0 = 0 then (K (-13) S) else (S.K a5 = 6 ∧ K (S.I 385 a5) S)
def wq_X10_taken_84 (N : Nat) (K : Int32 → PS → Prop) (S : PS) (a5 : Nat) : Prop := wq_X10_taken_85 N K S a5 0
def wq_X10_taken_36 (N : Nat) (K : Int32 → PS → Prop) (S : PS) (a0 : Nat) (x1 : Int32) (x2 : Int32) (x3 : Int32) (x4 : Int32) : Prop := S.K a0 = 11 ∧ ∃ p13 : Nat, S.R 719 a0 = some p13 ∧ S.K p13 = 26 ∧ vp_in x1 (S.ln p13) ∧ ∃ p16 : Nat, S.Q p13 x1.toNatClampNeg = some p16 ∧ wp_X10_holdsPart N S a0 p16 (fun r18 S17 => if r18 = 0 then (S17.K p16 = 6 ∧ if (S17.I 384 p16) = 1 then (if x4 = 0 then (K (-13) S17) else (if (S17.I 386 p16) = (x2 - 10) then (K (S17.I 387 p16) S17) else (K (-13) S17))) else (K (-11) S17)) else (if x3 = 0 then (wq_X10_taken_84 N K S17 p16) else (S17.K a0 = 11 ∧ ∃ p29 : Nat, S17.R 704 a0 = some p29 ∧ S17.K p29 = 10 ∧ ∃ p31 : Nat, S17.R 648 p29 = some p31 ∧ S17.K p16 = 6 ∧ S17.K p31 = 23 ∧ vp_in (S17.I 385 p16) (S17.ln p31) ∧ ∃ p35 : Nat, S17.Q p31 (S17.I 385 p16).toNatClampNeg = some p35 ∧ S17.K p35 = 2 ∧ wp_X10_isUnder N S17 (S17.I 128 p35) x2 (fun r38 S37 => if r38 = 0 then (wq_X10_taken_84 N K S37 p16) else (wq_X10_taken_85 N K S37 p16 1)))))
def wp_X10_taken (N : Nat) (S : PS) (a0 : Nat) (x1 : Int32) (x2 : Int32) (K : Int32 → PS → Prop) : Prop := wp_X10_within N S x2 0 6 (fun r2 S1 => wp_X10_within N S1 x2 10 13 (fun r5 S4 => wp_X10_isShelf N S4 x1 (fun r8 S7 => if r8 = 0 then (K (-1) S7) else (if r2 = 0 then (if r5 = 0 then (K (-1) S7) else (wq_X10_taken_36 N K S7 a0 x1 x2 r2 r5)) else (wq_X10_taken_36 N K S7 a0 x1 x2 r2 r5)))))
set_option maxHeartbeats 4000000 in
set_option maxRecDepth 100000 in
theorem tq_X10_taken_85 {p : Program} {l : Launch} {e : Env} {s : State} {m : MethodId} {args : Array Value} {below : List Frame} {meth : Method} {c : Code} {D : DX} {cA : Nat → ClassId} {z0 N : Nat} {K : Int32 → PS → Prop} (C : CX p s m args meth c cX10_taken 7 RX10 (some .int) D cA z0) : ∀ (S : PS) (a5 : Nat) (t0 : Int32) (H : Heap) (locs : List Loc) (ls : Array Slot), wq_X10_taken_85 N K S a5 t0 → XV D cA z0 s S H locs → lv_has ls 7 [(5, .ref a5)] → W p l e (rmd 2 0 0) s m args below meth c H locs 0 0 (MQ below (va_Qi K (XK D cA z0) (zA z0)) args s 0 0 (zA z0)) (F0 m 85 ls [.int t0]) := by
  obtain ⟨hx, hb, hml, hown, hts, hK, hz, hlk, hr⟩ := id C
  intro S a5 t0 H locs ls hM hV hl
  unfold wq_X10_taken_85 at hM
  refine lv_istore (lv' := [(6, .int t0), (5, .ref a5)]) hx hb dX10_taken_85 hl (by decide) rfl (fun ls hl => ?_)
  refine lv_iload hx hb dX10_taken_87 (lv_at hl 0 rfl) ?_
  refine lv_if_eq (tgt := 100) hx hb dX10_taken_89 (by decide) (fun c26 => ?_) (fun c26 => ?_)
  · have hM := ite_t c26 hM
    refine lv_bipush (v := (-13)) hx hb dX10_taken_100 (by decide) ?_
    exact x_iret C hV hM dX10_taken_102
  have hM := ite_f c26 hM
  refine lv_aload hx hb dX10_taken_92 (lv_at hl 1 rfl) ?_
  have hk27 := hM.1
  have hM := hM.2
  refine x_getI C hV wf_X10_356 hk27 dX10_taken_94 ?_
  refine lv_goto (tgt := 102) hx hb dX10_taken_97 (by decide) ?_
  exact x_iret C hV hM dX10_taken_102
set_option maxHeartbeats 4000000 in
set_option maxRecDepth 100000 in
theorem tq_X10_taken_84 {p : Program} {l : Launch} {e : Env} {s : State} {m : MethodId} {args : Array Value} {below : List Frame} {meth : Method} {c : Code} {D : DX} {cA : Nat → ClassId} {z0 N : Nat} {K : Int32 → PS → Prop} (C : CX p s m args meth c cX10_taken 7 RX10 (some .int) D cA z0) : ∀ (S : PS) (a5 : Nat) (H : Heap) (locs : List Loc) (ls : Array Slot), wq_X10_taken_84 N K S a5 → XV D cA z0 s S H locs → lv_has ls 7 [(5, .ref a5)] → W p l e (rmd 2 0 0) s m args below meth c H locs 0 0 (MQ below (va_Qi K (XK D cA z0) (zA z0)) args s 0 0 (zA z0)) (F0 m 84 ls []) := by
  obtain ⟨hx, hb, hml, hown, hts, hK, hz, hlk, hr⟩ := id C
  intro S a5 H locs ls hM hV hl
  unfold wq_X10_taken_84 at hM
  refine lv_iconst (v := 0) hx hb dX10_taken_84 (by decide) ?_
  exact tq_X10_taken_85 C _ _ _ _ _ _ hM hV (lv_sub hl [0] rfl)
set_option maxHeartbeats 4000000 in
set_option maxRecDepth 100000 in
theorem tq_X10_taken_36 {p : Program} {l : Launch} {e : Env} {s : State} {m : MethodId} {args : Array Value} {below : List Frame} {meth : Method} {c : Code} {D : DX} {cA : Nat → ClassId} {z0 N : Nat} {K : Int32 → PS → Prop} (C : CX p s m args meth c cX10_taken 7 RX10 (some .int) D cA z0) : ∀ (S : PS) (a0 : Nat) (x1 : Int32) (x2 : Int32) (x3 : Int32) (x4 : Int32) (H : Heap) (locs : List Loc) (ls : Array Slot), wq_X10_taken_36 N K S a0 x1 x2 x3 x4 → XV D cA z0 s S H locs → lv_has ls 7 [(0, .ref a0), (1, .int x1), (2, .int x2), (3, .int x3), (4, .int x4)] → W p l e (rmd 2 0 0) s m args below meth c H locs 0 0 (MQ below (va_Qi K (XK D cA z0) (zA z0)) args s 0 0 (zA z0)) (F0 m 36 ls []) := by
  obtain ⟨hx, hb, hml, hown, hts, hK, hz, hlk, hr⟩ := id C
  intro S a0 x1 x2 x3 x4 H locs ls hM hV hl
  unfold wq_X10_taken_36 at hM
  refine lv_aload_n hx hb dX10_taken_36 rfl (lv_at hl 0 rfl) ?_
  have hk12 := hM.1
  have hM := hM.2
  obtain ⟨p13, hp13, hM⟩ := hM
  refine x_getR C hV wf_X10_81 hk12 hp13 dX10_taken_37 ?_
  refine lv_iload_n hx hb dX10_taken_40 rfl (lv_at hl 1 rfl) ?_
  have hk14 := hM.1
  have hM := hM.2
  have hi15 := hM.1
  have hM := hM.2
  obtain ⟨p16, hp16, hM⟩ := hM
  refine x_aald C hV hk14 (by decide) rfl hi15 hp16 dX10_taken_41 ?_
  refine lv_astore (lv' := [(5, .ref p16), (0, .ref a0), (1, .int x1), (2, .int x2), (3, .int x3), (4, .int x4)]) hx hb dX10_taken_42 hl (by decide) rfl (fun ls hl => ?_)
  refine lv_aload_n hx hb dX10_taken_44 rfl (lv_at hl 1 rfl) ?_
  refine lv_aload hx hb dX10_taken_45 (lv_at hl 0 rfl) ?_
  refine x_ci hV (x_runV (As := [.ref p16]) (rest := []) C hV mi_X10_holdsPart wl_X10_352 hk12 (c_X10_holdsPart hM) ⟨by decide, by decide⟩ rfl hl.1 (Nat.le_of_ble_eq_true rfl) dX10_taken_47 ⟨Nat.zero_le _, Nat.zero_le _⟩) (fun r18 S17 H locs hV hM => ?_)
  have hz19 := hM.1
  have hM := hM.2
  refine lv_if_eq (tgt := 103) hx hb dX10_taken_50 (by decide) (fun c20 => ?_) (fun c20 => ?_)
  · have hM := ite_t c20 hM
    refine lv_aload hx hb dX10_taken_103 (lv_at hl 0 rfl) ?_
    have hk21 := hM.1
    have hM := hM.2
    refine x_getI C hV wf_X10_362 hk21 dX10_taken_105 ?_
    refine lv_iconst (v := 1) hx hb dX10_taken_108 (by decide) ?_
    refine lv_icmp_ne (tgt := 140) hx hb dX10_taken_109 (by decide) (fun c22 => ?_) (fun c22 => ?_)
    · have hM := ite_f c22 hM
      refine lv_bipush (v := (-11)) hx hb dX10_taken_140 (by decide) ?_
      exact x_iret C hV hM dX10_taken_142
    have hM := ite_t c22 hM
    refine lv_iload hx hb dX10_taken_112 (lv_at hl 5 rfl) ?_
    refine lv_if_eq (tgt := 137) hx hb dX10_taken_114 (by decide) (fun c23 => ?_) (fun c23 => ?_)
    · have hM := ite_t c23 hM
      refine lv_bipush (v := (-13)) hx hb dX10_taken_137 (by decide) ?_
      exact x_iret C hV hM dX10_taken_139
    have hM := ite_f c23 hM
    refine lv_aload hx hb dX10_taken_117 (lv_at hl 0 rfl) ?_
    refine x_getI C hV wf_X10_365 hk21 dX10_taken_119 ?_
    refine lv_iload_n hx hb dX10_taken_122 rfl (lv_at hl 3 rfl) ?_
    refine lv_bipush (v := 10) hx hb dX10_taken_123 (by decide) ?_
    refine lv_isub hx hb dX10_taken_125 ?_
    refine lv_icmp_ne (tgt := 137) hx hb dX10_taken_126 (by decide) (fun c24 => ?_) (fun c24 => ?_)
    · have hM := ite_f c24 hM
      refine lv_bipush (v := (-13)) hx hb dX10_taken_137 (by decide) ?_
      exact x_iret C hV hM dX10_taken_139
    have hM := ite_t c24 hM
    refine lv_aload hx hb dX10_taken_129 (lv_at hl 0 rfl) ?_
    refine x_getI C hV wf_X10_366 hk21 dX10_taken_131 ?_
    refine lv_goto (tgt := 139) hx hb dX10_taken_134 (by decide) ?_
    exact x_iret C hV hM dX10_taken_139
  have hM := ite_f c20 hM
  refine lv_iload_n hx hb dX10_taken_53 rfl (lv_at hl 4 rfl) ?_
  refine lv_if_eq (tgt := 84) hx hb dX10_taken_54 (by decide) (fun c25 => ?_) (fun c25 => ?_)
  · have hM := ite_t c25 hM
    exact tq_X10_taken_84 C _ _ _ _ _ hM hV (lv_sub hl [0] rfl)
  have hM := ite_f c25 hM
  refine lv_aload_n hx hb dX10_taken_57 rfl (lv_at hl 1 rfl) ?_
  have hk28 := hM.1
  have hM := hM.2
  obtain ⟨p29, hp29, hM⟩ := hM
  refine x_getR C hV wf_X10_10 hk28 hp29 dX10_taken_58 ?_
  have hk30 := hM.1
  have hM := hM.2
  obtain ⟨p31, hp31, hM⟩ := hM
  refine x_getR C hV wf_X10_101 hk30 hp31 dX10_taken_61 ?_
  refine lv_aload hx hb dX10_taken_64 (lv_at hl 0 rfl) ?_
  have hk32 := hM.1
  have hM := hM.2
  refine x_getI C hV wf_X10_356 hk32 dX10_taken_66 ?_
  have hk33 := hM.1
  have hM := hM.2
  have hi34 := hM.1
  have hM := hM.2
  obtain ⟨p35, hp35, hM⟩ := hM
  refine x_aald C hV hk33 (by decide) rfl hi34 hp35 dX10_taken_69 ?_
  have hk36 := hM.1
  have hM := hM.2
  refine x_getI C hV wf_X10_116 hk36 dX10_taken_70 ?_
  refine lv_iload_n hx hb dX10_taken_73 rfl (lv_at hl 3 rfl) ?_
  refine x_ci hV (x_runS (As := [.int (S17.I 128 p35), .int x2]) (rest := []) C hV ms_X10_isUnder wl_X10_359 (c_X10_isUnder hM) ⟨by decide, by decide⟩ rfl hl.1 (Nat.le_of_ble_eq_true rfl) dX10_taken_74 ⟨Nat.zero_le _, Nat.zero_le _⟩) (fun r38 S37 H locs hV hM => ?_)
  have hz39 := hM.1
  have hM := hM.2
  refine lv_if_eq (tgt := 84) hx hb dX10_taken_77 (by decide) (fun c40 => ?_) (fun c40 => ?_)
  · have hM := ite_t c40 hM
    exact tq_X10_taken_84 C _ _ _ _ _ hM hV (lv_sub hl [0] rfl)
  have hM := ite_f c40 hM
  refine lv_iconst (v := 1) hx hb dX10_taken_80 (by decide) ?_
  refine lv_goto (tgt := 85) hx hb dX10_taken_81 (by decide) ?_
  exact tq_X10_taken_85 C _ _ _ _ _ _ hM hV (lv_sub hl [0] rfl)
set_option maxHeartbeats 4000000 in
set_option maxRecDepth 100000 in
theorem c_X10_taken {l : Launch} {D : DX} {cA : Nat → ClassId} {z0 N : Nat} {S : PS} {a0 : Nat} {x1 : Int32} {x2 : Int32} {K : Int32 → PS → Prop} (hM : wp_X10_taken N S a0 x1 x2 K) : MetI l yX10_taken cX10_taken 7 (some .int) 2 0 0 D cA z0 [.ref a0, .int x1, .int x2] S K := by
  refine x_met RX10 (by decide) rfl ?_
  intro p e s m below meth c C hin hV
  have hl := lv_entry ([.ref a0, .int x1, .int x2]) (n := 7) (Nat.le_of_ble_eq_true rfl)
  rw [lg_entry_eq]
  generalize (lg_sl ([.ref a0, .int x1, .int x2]) ++ List.replicate (7 - (lg_sl ([.ref a0, .int x1, .int x2])).length) Slot.unset).toArray = ls at hl ⊢
  have hl : lv_has ls 7 [(0, .ref a0), (1, .int x1), (2, .int x2)] := hl
  obtain ⟨hx, hb, hml, hown, hts, hK, hz, hlk, hr⟩ := id C
  unfold wp_X10_taken at hM
  refine lv_iload_n hx hb dX10_taken_0 rfl (lv_at hl 2 rfl) ?_
  refine lv_iconst (v := 0) hx hb dX10_taken_1 (by decide) ?_
  refine lv_bipush (v := 6) hx hb dX10_taken_2 (by decide) ?_
  refine x_ci hV (x_runS (As := [.int x2, .int 0, .int 6]) (rest := []) C hV ms_X10_within wl_X10_94 (c_X10_within hM) ⟨by decide, by decide⟩ rfl hl.1 (Nat.le_of_ble_eq_true rfl) dX10_taken_4 ⟨Nat.zero_le _, Nat.zero_le _⟩) (fun r2 S1 H locs hV hM => ?_)
  have hz3 := hM.1
  have hM := hM.2
  refine lv_istore_n (lv' := [(3, .int r2), (0, .ref a0), (1, .int x1), (2, .int x2)]) hx hb dX10_taken_7 rfl hl (by decide) rfl (fun ls hl => ?_)
  refine lv_iload_n hx hb dX10_taken_8 rfl (lv_at hl 3 rfl) ?_
  refine lv_bipush (v := 10) hx hb dX10_taken_9 (by decide) ?_
  refine lv_bipush (v := 13) hx hb dX10_taken_11 (by decide) ?_
  refine x_ci hV (x_runS (As := [.int x2, .int 10, .int 13]) (rest := []) C hV ms_X10_within wl_X10_94 (c_X10_within hM) ⟨by decide, by decide⟩ rfl hl.1 (Nat.le_of_ble_eq_true rfl) dX10_taken_13 ⟨Nat.zero_le _, Nat.zero_le _⟩) (fun r5 S4 H locs hV hM => ?_)
  have hz6 := hM.1
  have hM := hM.2
  refine lv_istore (lv' := [(4, .int r5), (3, .int r2), (0, .ref a0), (1, .int x1), (2, .int x2)]) hx hb dX10_taken_16 hl (by decide) rfl (fun ls hl => ?_)
  refine lv_iload_n hx hb dX10_taken_18 rfl (lv_at hl 3 rfl) ?_
  refine x_ci hV (x_runS (As := [.int x1]) (rest := []) C hV ms_X10_isShelf wl_X10_336 (c_X10_isShelf hM) ⟨by decide, by decide⟩ rfl hl.1 (Nat.le_of_ble_eq_true rfl) dX10_taken_19 ⟨Nat.zero_le _, Nat.zero_le _⟩) (fun r8 S7 H locs hV hM => ?_)
  have hz9 := hM.1
  have hM := hM.2
  refine lv_if_eq (tgt := 34) hx hb dX10_taken_22 (by decide) (fun c10 => ?_) (fun c10 => ?_)
  · have hM := ite_t c10 hM
    refine lv_iconst (v := (-1)) hx hb dX10_taken_34 (by decide) ?_
    exact x_iret C hV hM dX10_taken_35
  have hM := ite_f c10 hM
  refine lv_iload_n hx hb dX10_taken_25 rfl (lv_at hl 1 rfl) ?_
  refine lv_if_ne (tgt := 36) hx hb dX10_taken_26 (by decide) (fun c11 => ?_) (fun c11 => ?_)
  · have hM := ite_f c11 hM
    exact tq_X10_taken_36 C _ _ _ _ _ _ _ _ _ hM hV (lv_sub hl [2, 3, 4, 1, 0] rfl)
  have hM := ite_t c11 hM
  refine lv_iload hx hb dX10_taken_29 (lv_at hl 0 rfl) ?_
  refine lv_if_ne (tgt := 36) hx hb dX10_taken_31 (by decide) (fun c41 => ?_) (fun c41 => ?_)
  · have hM := ite_f c41 hM
    exact tq_X10_taken_36 C _ _ _ _ _ _ _ _ _ hM hV (lv_sub hl [2, 3, 4, 1, 0] rfl)
  have hM := ite_t c41 hM
  refine lv_iconst (v := (-1)) hx hb dX10_taken_34 (by decide) ?_
  exact x_iret C hV hM dX10_taken_35

def wp_X10_trace (N : Nat) (S : PS) (a0 : Nat) (x1 : Int32) (K : Int32 → PS → Prop) : Prop := S.K a0 = 11 ∧ ∃ p2 : Nat, S.R 720 a0 = some p2 ∧ S.K p2 = 1 ∧ wp_X10_within N S x1 0 ((S.I 65 p2) - 1) (fun r5 S4 => if r5 = 0 then (K (-3) S4) else (S4.K a0 = 11 ∧ ∃ p9 : Nat, S4.R 720 a0 = some p9 ∧ S4.K p9 = 1 ∧ ∃ p11 : Nat, S4.R 64 p9 = some p11 ∧ S4.K p11 = 20 ∧ vp_in x1 (S4.ln p11) ∧ K (S4.A p11 x1.toNatClampNeg) S4))
set_option maxHeartbeats 4000000 in
set_option maxRecDepth 100000 in
theorem c_X10_trace {l : Launch} {D : DX} {cA : Nat → ClassId} {z0 N : Nat} {S : PS} {a0 : Nat} {x1 : Int32} {K : Int32 → PS → Prop} (hM : wp_X10_trace N S a0 x1 K) : MetI l yX10_trace cX10_trace 2 (some .int) 1 0 0 D cA z0 [.ref a0, .int x1] S K := by
  refine x_met RX10 (by decide) rfl ?_
  intro p e s m below meth c C hin hV
  have hl := lv_entry ([.ref a0, .int x1]) (n := 2) (Nat.le_of_ble_eq_true rfl)
  rw [lg_entry_eq]
  generalize (lg_sl ([.ref a0, .int x1]) ++ List.replicate (2 - (lg_sl ([.ref a0, .int x1])).length) Slot.unset).toArray = ls at hl ⊢
  have hl : lv_has ls 2 [(0, .ref a0), (1, .int x1)] := hl
  obtain ⟨hx, hb, hml, hown, hts, hK, hz, hlk, hr⟩ := id C
  unfold wp_X10_trace at hM
  refine lv_iload_n hx hb dX10_trace_0 rfl (lv_at hl 1 rfl) ?_
  refine lv_iconst (v := 0) hx hb dX10_trace_1 (by decide) ?_
  refine lv_aload_n hx hb dX10_trace_2 rfl (lv_at hl 0 rfl) ?_
  have hk1 := hM.1
  have hM := hM.2
  obtain ⟨p2, hp2, hM⟩ := hM
  refine x_getR C hV wf_X10_88 hk1 hp2 dX10_trace_3 ?_
  have hk3 := hM.1
  have hM := hM.2
  refine x_getI C hV wf_X10_389 hk3 dX10_trace_6 ?_
  refine lv_iconst (v := 1) hx hb dX10_trace_9 (by decide) ?_
  refine lv_isub hx hb dX10_trace_10 ?_
  refine x_ci hV (x_runS (As := [.int x1, .int 0, .int ((S.I 65 p2) - 1)]) (rest := []) C hV ms_X10_within wl_X10_94 (c_X10_within hM) ⟨by decide, by decide⟩ rfl hl.1 (Nat.le_of_ble_eq_true rfl) dX10_trace_11 ⟨Nat.zero_le _, Nat.zero_le _⟩) (fun r5 S4 H locs hV hM => ?_)
  have hz6 := hM.1
  have hM := hM.2
  refine lv_if_eq (tgt := 29) hx hb dX10_trace_14 (by decide) (fun c7 => ?_) (fun c7 => ?_)
  · have hM := ite_t c7 hM
    refine lv_bipush (v := (-3)) hx hb dX10_trace_29 (by decide) ?_
    exact x_iret C hV hM dX10_trace_31
  have hM := ite_f c7 hM
  refine lv_aload_n hx hb dX10_trace_17 rfl (lv_at hl 0 rfl) ?_
  have hk8 := hM.1
  have hM := hM.2
  obtain ⟨p9, hp9, hM⟩ := hM
  refine x_getR C hV wf_X10_88 hk8 hp9 dX10_trace_18 ?_
  have hk10 := hM.1
  have hM := hM.2
  obtain ⟨p11, hp11, hM⟩ := hM
  refine x_getR C hV wf_X10_392 hk10 hp11 dX10_trace_21 ?_
  refine lv_iload_n hx hb dX10_trace_24 rfl (lv_at hl 1 rfl) ?_
  have hk12 := hM.1
  have hM := hM.2
  have hi13 := hM.1
  have hM := hM.2
  refine x_iald C hV hk12 hi13 dX10_trace_25 ?_
  refine lv_goto (tgt := 31) hx hb dX10_trace_26 (by decide) ?_
  exact x_iret C hV hM dX10_trace_31

def wq_X10_tryout_77 (N : Nat) (K : Int32 → PS → Prop) (S : PS) (a0 : Nat) (a3 : Nat) (x4 : Int32) : Prop := S.K a3 = 2 ∧ ∀ S20 : PS, S20 = S.setI 134 a3 1 → S20.K a0 = 11 ∧ ∃ p22 : Nat, S20.R 704 a0 = some p22 ∧ S20.K p22 = 10 ∧ ∀ S25 : PS, S25 = S20.setI 643 p22 ((S20.I 643 p22) + (S20.I 132 a3)) → K ((S25.I 133 a3) - x4) S25
def wq_X10_tryout_55 (N : Nat) (K : Int32 → PS → Prop) (S : PS) (a0 : Nat) (a3 : Nat) (x4 : Int32) (t0 : Int32) : Prop := if t0 = 0 then (S.K a0 = 11 ∧ ∃ p28 : Nat, S.R 704 a0 = some p28 ∧ S.K p28 = 10 ∧ S.K a3 = 2 ∧ wp_X1_takesOn N S a3 (S.I 640 p28) (fun r32 S31 => S31.K a3 = 2 ∧ ∀ S34 : PS, S34 = S31.setI 133 a3 r32 → wq_X10_tryout_77 N K S34 a0 a3 x4)) else (wq_X10_tryout_77 N K S a0 a3 x4)
def wq_X10_tryout_54 (N : Nat) (K : Int32 → PS → Prop) (S : PS) (a0 : Nat) (a3 : Nat) (x4 : Int32) : Prop := wq_X10_tryout_55 N K S a0 a3 x4 0
def wq_X10_tryout_50 (N : Nat) (K : Int32 → PS → Prop) (S : PS) (a0 : Nat) (a3 : Nat) (x4 : Int32) : Prop := wq_X10_tryout_55 N K S a0 a3 x4 1
def wp_X10_tryout (N : Nat) (S : PS) (a0 : Nat) (x1 : Int32) (x2 : Int32) (K : Int32 → PS → Prop) : Prop := S.K a0 = 11 ∧ ∃ p2 : Nat, S.R 704 a0 = some p2 ∧ S.K p2 = 10 ∧ wp_X9_hasPart N S p2 x1 (fun r5 S4 => if r5 = 0 then (K (-2147483648) S4) else (S4.K a0 = 11 ∧ ∃ p9 : Nat, S4.R 704 a0 = some p9 ∧ S4.K p9 = 10 ∧ ∃ p11 : Nat, S4.R 648 p9 = some p11 ∧ S4.K p11 = 23 ∧ vp_in x1 (S4.ln p11) ∧ ∃ p14 : Nat, S4.Q p11 x1.toNatClampNeg = some p14 ∧ S4.K p14 = 2 ∧ ∀ v16 : Int32, v16 = (S4.I 133 p14) → if x2 = 0 then (wq_X10_tryout_54 N K S4 a0 p14 v16) else (if (S4.I 128 p14) = 4 then (wq_X10_tryout_50 N K S4 a0 p14 v16) else (if (S4.I 128 p14) = 5 then (wq_X10_tryout_50 N K S4 a0 p14 v16) else (wq_X10_tryout_54 N K S4 a0 p14 v16)))))
set_option maxHeartbeats 4000000 in
set_option maxRecDepth 100000 in
theorem tq_X10_tryout_77 {p : Program} {l : Launch} {e : Env} {s : State} {m : MethodId} {args : Array Value} {below : List Frame} {meth : Method} {c : Code} {D : DX} {cA : Nat → ClassId} {z0 N : Nat} {K : Int32 → PS → Prop} (C : CX p s m args meth c cX10_tryout 6 RX10 (some .int) D cA z0) : ∀ (S : PS) (a0 : Nat) (a3 : Nat) (x4 : Int32) (H : Heap) (locs : List Loc) (ls : Array Slot), wq_X10_tryout_77 N K S a0 a3 x4 → XV D cA z0 s S H locs → lv_has ls 6 [(0, .ref a0), (3, .ref a3), (4, .int x4)] → W p l e (rmd 1 0 0) s m args below meth c H locs 0 0 (MQ below (va_Qi K (XK D cA z0) (zA z0)) args s 0 0 (zA z0)) (F0 m 77 ls []) := by
  obtain ⟨hx, hb, hml, hown, hts, hK, hz, hlk, hr⟩ := id C
  intro S a0 a3 x4 H locs ls hM hV hl
  unfold wq_X10_tryout_77 at hM
  refine lv_aload_n hx hb dX10_tryout_77 rfl (lv_at hl 1 rfl) ?_
  refine lv_iconst (v := 1) hx hb dX10_tryout_78 (by decide) ?_
  have hk19 := hM.1
  have hM := hM.2
  obtain ⟨S20, eS20⟩ : ∃ z : PS, z = S.setI 134 a3 1 := ⟨_, rfl⟩
  have hM := hM S20 eS20
  refine x_putI C hV wp_X10_134 hk19 (nz_b (by decide)) eS20 dX10_tryout_79 (fun H locs hV => ?_)
  refine lv_aload_n hx hb dX10_tryout_82 rfl (lv_at hl 0 rfl) ?_
  have hk21 := hM.1
  have hM := hM.2
  obtain ⟨p22, hp22, hM⟩ := hM
  refine x_getR C hV wf_X10_10 hk21 hp22 dX10_tryout_83 ?_
  refine lv_dup hx hb dX10_tryout_86 rfl ?_
  have hk23 := hM.1
  have hM := hM.2
  refine x_getI C hV wf_X10_188 hk23 dX10_tryout_87 ?_
  refine lv_aload_n hx hb dX10_tryout_90 rfl (lv_at hl 1 rfl) ?_
  have hk24 := kp_I eS20 hk19
  refine x_getI C hV wf_X10_128 hk24 dX10_tryout_91 ?_
  refine lv_iadd hx hb dX10_tryout_94 ?_
  obtain ⟨S25, eS25⟩ : ∃ z : PS, z = S20.setI 643 p22 ((S20.I 643 p22) + (S20.I 132 a3)) := ⟨_, rfl⟩
  have hM := hM S25 eS25
  refine x_putI C hV wp_X10_188 hk23 ⟨rfl, rfl⟩ eS25 dX10_tryout_95 (fun H locs hV => ?_)
  refine lv_aload_n hx hb dX10_tryout_98 rfl (lv_at hl 1 rfl) ?_
  have hk26 := kp_I eS25 hk24
  refine x_getI C hV wf_X10_131 hk26 dX10_tryout_99 ?_
  refine lv_iload hx hb dX10_tryout_102 (lv_at hl 2 rfl) ?_
  refine lv_isub hx hb dX10_tryout_104 ?_
  exact x_iret C hV hM dX10_tryout_105
set_option maxHeartbeats 4000000 in
set_option maxRecDepth 100000 in
theorem tq_X10_tryout_55 {p : Program} {l : Launch} {e : Env} {s : State} {m : MethodId} {args : Array Value} {below : List Frame} {meth : Method} {c : Code} {D : DX} {cA : Nat → ClassId} {z0 N : Nat} {K : Int32 → PS → Prop} (C : CX p s m args meth c cX10_tryout 6 RX10 (some .int) D cA z0) : ∀ (S : PS) (a0 : Nat) (a3 : Nat) (x4 : Int32) (t0 : Int32) (H : Heap) (locs : List Loc) (ls : Array Slot), wq_X10_tryout_55 N K S a0 a3 x4 t0 → XV D cA z0 s S H locs → lv_has ls 6 [(0, .ref a0), (3, .ref a3), (4, .int x4)] → W p l e (rmd 1 0 0) s m args below meth c H locs 0 0 (MQ below (va_Qi K (XK D cA z0) (zA z0)) args s 0 0 (zA z0)) (F0 m 55 ls [.int t0]) := by
  obtain ⟨hx, hb, hml, hown, hts, hK, hz, hlk, hr⟩ := id C
  intro S a0 a3 x4 t0 H locs ls hM hV hl
  unfold wq_X10_tryout_55 at hM
  refine lv_istore (lv' := [(5, .int t0), (0, .ref a0), (3, .ref a3), (4, .int x4)]) hx hb dX10_tryout_55 hl (by decide) rfl (fun ls hl => ?_)
  refine lv_iload hx hb dX10_tryout_57 (lv_at hl 0 rfl) ?_
  refine lv_if_ne (tgt := 77) hx hb dX10_tryout_59 (by decide) (fun c18 => ?_) (fun c18 => ?_)
  · have hM := ite_f c18 hM
    exact tq_X10_tryout_77 C _ _ _ _ _ _ _ hM hV (lv_sub hl [1, 2, 3] rfl)
  have hM := ite_t c18 hM
  refine lv_aload_n hx hb dX10_tryout_62 rfl (lv_at hl 2 rfl) ?_
  refine lv_aload_n hx hb dX10_tryout_63 rfl (lv_at hl 2 rfl) ?_
  refine lv_aload_n hx hb dX10_tryout_64 rfl (lv_at hl 1 rfl) ?_
  have hk27 := hM.1
  have hM := hM.2
  obtain ⟨p28, hp28, hM⟩ := hM
  refine x_getR C hV wf_X10_10 hk27 hp28 dX10_tryout_65 ?_
  have hk29 := hM.1
  have hM := hM.2
  refine x_getI C hV wf_X10_146 hk29 dX10_tryout_68 ?_
  have hk30 := hM.1
  have hM := hM.2
  refine x_ci hV (x_runV (As := [.int (S.I 640 p28)]) (rest := [.ref a3]) C hV mi_X1_takesOn wl_X10_149 hk30 (c_X1_takesOn hM) ⟨by decide, by decide⟩ rfl hl.1 (Nat.le_of_ble_eq_true rfl) dX10_tryout_71 ⟨Nat.zero_le _, Nat.zero_le _⟩) (fun r32 S31 H locs hV hM => ?_)
  have hk33 := hM.1
  have hM := hM.2
  obtain ⟨S34, eS34⟩ : ∃ z : PS, z = S31.setI 133 a3 r32 := ⟨_, rfl⟩
  have hM := hM S34 eS34
  refine x_putI C hV wp_X10_131 hk33 ⟨rfl, rfl⟩ eS34 dX10_tryout_74 (fun H locs hV => ?_)
  exact tq_X10_tryout_77 C _ _ _ _ _ _ _ hM hV (lv_sub hl [1, 2, 3] rfl)
set_option maxHeartbeats 4000000 in
set_option maxRecDepth 100000 in
theorem tq_X10_tryout_54 {p : Program} {l : Launch} {e : Env} {s : State} {m : MethodId} {args : Array Value} {below : List Frame} {meth : Method} {c : Code} {D : DX} {cA : Nat → ClassId} {z0 N : Nat} {K : Int32 → PS → Prop} (C : CX p s m args meth c cX10_tryout 6 RX10 (some .int) D cA z0) : ∀ (S : PS) (a0 : Nat) (a3 : Nat) (x4 : Int32) (H : Heap) (locs : List Loc) (ls : Array Slot), wq_X10_tryout_54 N K S a0 a3 x4 → XV D cA z0 s S H locs → lv_has ls 6 [(0, .ref a0), (3, .ref a3), (4, .int x4)] → W p l e (rmd 1 0 0) s m args below meth c H locs 0 0 (MQ below (va_Qi K (XK D cA z0) (zA z0)) args s 0 0 (zA z0)) (F0 m 54 ls []) := by
  obtain ⟨hx, hb, hml, hown, hts, hK, hz, hlk, hr⟩ := id C
  intro S a0 a3 x4 H locs ls hM hV hl
  unfold wq_X10_tryout_54 at hM
  refine lv_iconst (v := 0) hx hb dX10_tryout_54 (by decide) ?_
  exact tq_X10_tryout_55 C _ _ _ _ _ _ _ _ hM hV (lv_sub hl [0, 1, 2] rfl)
set_option maxHeartbeats 4000000 in
set_option maxRecDepth 100000 in
theorem tq_X10_tryout_50 {p : Program} {l : Launch} {e : Env} {s : State} {m : MethodId} {args : Array Value} {below : List Frame} {meth : Method} {c : Code} {D : DX} {cA : Nat → ClassId} {z0 N : Nat} {K : Int32 → PS → Prop} (C : CX p s m args meth c cX10_tryout 6 RX10 (some .int) D cA z0) : ∀ (S : PS) (a0 : Nat) (a3 : Nat) (x4 : Int32) (H : Heap) (locs : List Loc) (ls : Array Slot), wq_X10_tryout_50 N K S a0 a3 x4 → XV D cA z0 s S H locs → lv_has ls 6 [(0, .ref a0), (3, .ref a3), (4, .int x4)] → W p l e (rmd 1 0 0) s m args below meth c H locs 0 0 (MQ below (va_Qi K (XK D cA z0) (zA z0)) args s 0 0 (zA z0)) (F0 m 50 ls []) := by
  obtain ⟨hx, hb, hml, hown, hts, hK, hz, hlk, hr⟩ := id C
  intro S a0 a3 x4 H locs ls hM hV hl
  unfold wq_X10_tryout_50 at hM
  refine lv_iconst (v := 1) hx hb dX10_tryout_50 (by decide) ?_
  refine lv_goto (tgt := 55) hx hb dX10_tryout_51 (by decide) ?_
  exact tq_X10_tryout_55 C _ _ _ _ _ _ _ _ hM hV (lv_sub hl [0, 1, 2] rfl)
set_option maxHeartbeats 4000000 in
set_option maxRecDepth 100000 in
theorem c_X10_tryout {l : Launch} {D : DX} {cA : Nat → ClassId} {z0 N : Nat} {S : PS} {a0 : Nat} {x1 : Int32} {x2 : Int32} {K : Int32 → PS → Prop} (hM : wp_X10_tryout N S a0 x1 x2 K) : MetI l yX10_tryout cX10_tryout 6 (some .int) 1 0 0 D cA z0 [.ref a0, .int x1, .int x2] S K := by
  refine x_met RX10 (by decide) rfl ?_
  intro p e s m below meth c C hin hV
  have hl := lv_entry ([.ref a0, .int x1, .int x2]) (n := 6) (Nat.le_of_ble_eq_true rfl)
  rw [lg_entry_eq]
  generalize (lg_sl ([.ref a0, .int x1, .int x2]) ++ List.replicate (6 - (lg_sl ([.ref a0, .int x1, .int x2])).length) Slot.unset).toArray = ls at hl ⊢
  have hl : lv_has ls 6 [(0, .ref a0), (1, .int x1), (2, .int x2)] := hl
  obtain ⟨hx, hb, hml, hown, hts, hK, hz, hlk, hr⟩ := id C
  unfold wp_X10_tryout at hM
  refine lv_aload_n hx hb dX10_tryout_0 rfl (lv_at hl 0 rfl) ?_
  have hk1 := hM.1
  have hM := hM.2
  obtain ⟨p2, hp2, hM⟩ := hM
  refine x_getR C hV wf_X10_10 hk1 hp2 dX10_tryout_1 ?_
  refine lv_iload_n hx hb dX10_tryout_4 rfl (lv_at hl 1 rfl) ?_
  have hk3 := hM.1
  have hM := hM.2
  refine x_ci hV (x_runV (As := [.int x1]) (rest := []) C hV mi_X9_hasPart wl_X10_111 hk3 (c_X9_hasPart hM) ⟨by decide, by decide⟩ rfl hl.1 (Nat.le_of_ble_eq_true rfl) dX10_tryout_5 ⟨Nat.zero_le _, Nat.zero_le _⟩) (fun r5 S4 H locs hV hM => ?_)
  have hz6 := hM.1
  have hM := hM.2
  refine lv_if_ne (tgt := 14) hx hb dX10_tryout_8 (by decide) (fun c7 => ?_) (fun c7 => ?_)
  · have hM := ite_f c7 hM
    refine lv_aload_n hx hb dX10_tryout_14 rfl (lv_at hl 0 rfl) ?_
    have hk8 := hM.1
    have hM := hM.2
    obtain ⟨p9, hp9, hM⟩ := hM
    refine x_getR C hV wf_X10_10 hk8 hp9 dX10_tryout_15 ?_
    have hk10 := hM.1
    have hM := hM.2
    obtain ⟨p11, hp11, hM⟩ := hM
    refine x_getR C hV wf_X10_101 hk10 hp11 dX10_tryout_18 ?_
    refine lv_iload_n hx hb dX10_tryout_21 rfl (lv_at hl 1 rfl) ?_
    have hk12 := hM.1
    have hM := hM.2
    have hi13 := hM.1
    have hM := hM.2
    obtain ⟨p14, hp14, hM⟩ := hM
    refine x_aald C hV hk12 (by decide) rfl hi13 hp14 dX10_tryout_22 ?_
    refine lv_astore_n (lv' := [(3, .ref p14), (0, .ref a0), (1, .int x1), (2, .int x2)]) hx hb dX10_tryout_23 rfl hl (by decide) rfl (fun ls hl => ?_)
    refine lv_aload_n hx hb dX10_tryout_24 rfl (lv_at hl 0 rfl) ?_
    have hk15 := hM.1
    have hM := hM.2
    refine x_getI C hV wf_X10_131 hk15 dX10_tryout_25 ?_
    refine lv_topi (fun v16 ev16 => ?_)
    have hM := hM v16 ev16
    refine lv_istore (lv' := [(4, .int v16), (3, .ref p14), (0, .ref a0), (1, .int x1), (2, .int x2)]) hx hb dX10_tryout_28 hl (by decide) rfl (fun ls hl => ?_)
    refine lv_iload_n hx hb dX10_tryout_30 rfl (lv_at hl 4 rfl) ?_
    refine lv_if_eq (tgt := 54) hx hb dX10_tryout_31 (by decide) (fun c17 => ?_) (fun c17 => ?_)
    · have hM := ite_t c17 hM
      exact tq_X10_tryout_54 C _ _ _ _ _ _ _ hM hV (lv_sub hl [2, 1, 0] rfl)
    have hM := ite_f c17 hM
    refine lv_aload_n hx hb dX10_tryout_34 rfl (lv_at hl 1 rfl) ?_
    refine x_getI C hV wf_X10_116 hk15 dX10_tryout_35 ?_
    refine lv_iconst (v := 4) hx hb dX10_tryout_38 (by decide) ?_
    refine lv_icmp_eq (tgt := 50) hx hb dX10_tryout_39 (by decide) (fun c35 => ?_) (fun c35 => ?_)
    · have hM := ite_t c35 hM
      exact tq_X10_tryout_50 C _ _ _ _ _ _ _ hM hV (lv_sub hl [2, 1, 0] rfl)
    have hM := ite_f c35 hM
    refine lv_aload_n hx hb dX10_tryout_42 rfl (lv_at hl 1 rfl) ?_
    refine x_getI C hV wf_X10_116 hk15 dX10_tryout_43 ?_
    refine lv_iconst (v := 5) hx hb dX10_tryout_46 (by decide) ?_
    refine lv_icmp_ne (tgt := 54) hx hb dX10_tryout_47 (by decide) (fun c36 => ?_) (fun c36 => ?_)
    · have hM := ite_f c36 hM
      exact tq_X10_tryout_54 C _ _ _ _ _ _ _ hM hV (lv_sub hl [2, 1, 0] rfl)
    have hM := ite_t c36 hM
    exact tq_X10_tryout_50 C _ _ _ _ _ _ _ hM hV (lv_sub hl [2, 1, 0] rfl)
  have hM := ite_t c7 hM
  refine lv_ldc hx hb hown (hts _ wc_X10_115) dX10_tryout_11 ?_
  exact x_iret C hV hM dX10_tryout_13
