def wp_X11_body (N : Nat) (S : PS) (a0 : Nat) (x1 : Int32) (K : PS → Prop) : Prop := S.K a0 = 12 ∧ if 30 ≤ (S.I 816 a0) then (K S) else (∃ p3 : Nat, S.R 815 a0 = some p3 ∧ S.K p3 = 20 ∧ vp_in (S.I 816 a0) (S.ln p3) ∧ ∀ S6 : PS, S6 = S.setA p3 (S.I 816 a0).toNatClampNeg x1 → ∀ S8 : PS, S8 = S6.setI 816 a0 ((S6.I 816 a0) + 1) → K S8)
set_option maxHeartbeats 4000000 in
set_option maxRecDepth 100000 in
theorem c_X11_body {l : Launch} {D : DX} {cA : Nat → ClassId} {z0 N : Nat} {S : PS} {a0 : Nat} {x1 : Int32} {K : PS → Prop} (hM : wp_X11_body N S a0 x1 K) : MetV l yX11_body cX11_body 2 none 0 0 0 D cA z0 [.ref a0, .int x1] S K := by
  refine x_met RX11 (by decide) rfl ?_
  intro p e s m below meth c C hin hV
  have hl := lv_entry ([.ref a0, .int x1]) (n := 2) (Nat.le_of_ble_eq_true rfl)
  rw [lg_entry_eq]
  generalize (lg_sl ([.ref a0, .int x1]) ++ List.replicate (2 - (lg_sl ([.ref a0, .int x1])).length) Slot.unset).toArray = ls at hl ⊢
  have hl : lv_has ls 2 [(0, .ref a0), (1, .int x1)] := hl
  obtain ⟨hx, hb, hml, hown, hts, hK, hz, hlk, hr⟩ := id C
  unfold wp_X11_body at hM
  refine lv_aload_n hx hb dX11_body_0 rfl (lv_at hl 0 rfl) ?_
  have hk1 := hM.1
  have hM := hM.2
  refine x_getI C hV wf_X11_403 hk1 dX11_body_1 ?_
  refine lv_bipush (v := 30) hx hb dX11_body_4 (by decide) ?_
  refine lv_icmp_ge (tgt := 29) hx hb dX11_body_6 (by decide) (fun c2 => ?_) (fun c2 => ?_)
  · have hM := ite_t c2 hM
    exact x_vret C hV hM dX11_body_29
  have hM := ite_f c2 hM
  refine lv_aload_n hx hb dX11_body_9 rfl (lv_at hl 0 rfl) ?_
  obtain ⟨p3, hp3, hM⟩ := hM
  refine x_getR C hV wf_X11_75 hk1 hp3 dX11_body_10 ?_
  refine lv_aload_n hx hb dX11_body_13 rfl (lv_at hl 0 rfl) ?_
  refine x_getI C hV wf_X11_403 hk1 dX11_body_14 ?_
  refine lv_iload_n hx hb dX11_body_17 rfl (lv_at hl 1 rfl) ?_
  have hk4 := hM.1
  have hM := hM.2
  have hi5 := hM.1
  have hM := hM.2
  obtain ⟨S6, eS6⟩ : ∃ z : PS, z = S.setA p3 (S.I 816 a0).toNatClampNeg x1 := ⟨_, rfl⟩
  have hM := hM S6 eS6
  refine x_iast C hV hk4 hi5 eS6 dX11_body_18 (fun H locs hV => ?_)
  refine lv_aload_n hx hb dX11_body_19 rfl (lv_at hl 0 rfl) ?_
  refine lv_dup hx hb dX11_body_20 rfl ?_
  have hk7 := kp_A eS6 hk1
  refine x_getI C hV wf_X11_403 hk7 dX11_body_21 ?_
  refine lv_iconst (v := 1) hx hb dX11_body_24 (by decide) ?_
  refine lv_iadd hx hb dX11_body_25 ?_
  obtain ⟨S8, eS8⟩ : ∃ z : PS, z = S6.setI 816 a0 ((S6.I 816 a0) + 1) := ⟨_, rfl⟩
  have hM := hM S8 eS8
  refine x_putI C hV wp_X11_403 hk7 ⟨rfl, rfl⟩ eS8 dX11_body_26 (fun H locs hV => ?_)
  exact x_vret C hV hM dX11_body_29

def wp_X11_plainBounds (N : Nat) (S : PS) (a0 : Nat) (x1 : Int32) (K : Int32 → PS → Prop) : Prop := S.K a0 = 12 ∧ wp_X11_body N S a0 12 (fun S2 => S2.K a0 = 12 ∧ if (S2.I 814 a0) = (S2.I 813 a0) then (∀ S7 : PS, S7 = S2.setI 817 a0 1 → K 0 S7) else ((¬ ((S2.I 814 a0) - (S2.I 813 a0)) = 0) ∧ K (x1 / ((S2.I 814 a0) - (S2.I 813 a0))) S2))
set_option maxHeartbeats 4000000 in
set_option maxRecDepth 100000 in
theorem c_X11_plainBounds {l : Launch} {D : DX} {cA : Nat → ClassId} {z0 N : Nat} {S : PS} {a0 : Nat} {x1 : Int32} {K : Int32 → PS → Prop} (hM : wp_X11_plainBounds N S a0 x1 K) : MetI l yX11_plainBounds cX11_plainBounds 2 (some .int) 1 0 0 D cA z0 [.ref a0, .int x1] S K := by
  refine x_met RX11 (by decide) rfl ?_
  intro p e s m below meth c C hin hV
  have hl := lv_entry ([.ref a0, .int x1]) (n := 2) (Nat.le_of_ble_eq_true rfl)
  rw [lg_entry_eq]
  generalize (lg_sl ([.ref a0, .int x1]) ++ List.replicate (2 - (lg_sl ([.ref a0, .int x1])).length) Slot.unset).toArray = ls at hl ⊢
  have hl : lv_has ls 2 [(0, .ref a0), (1, .int x1)] := hl
  obtain ⟨hx, hb, hml, hown, hts, hK, hz, hlk, hr⟩ := id C
  unfold wp_X11_plainBounds at hM
  refine lv_aload_n hx hb dX11_plainBounds_0 rfl (lv_at hl 0 rfl) ?_
  refine lv_bipush (v := 12) hx hb dX11_plainBounds_1 (by decide) ?_
  have hk1 := hM.1
  have hM := hM.2
  refine x_cv hV (x_runV (As := [.int 12]) (rest := []) C hV mi_X11_body wl_X11_409 hk1 (c_X11_body hM) ⟨by decide, by decide⟩ rfl hl.1 (Nat.le_of_ble_eq_true rfl) dX11_plainBounds_3 ⟨Nat.zero_le _, Nat.zero_le _⟩) (fun S2 H locs hV hM => ?_)
  refine lv_aload_n hx hb dX11_plainBounds_6 rfl (lv_at hl 0 rfl) ?_
  have hk4 := hM.1
  have hM := hM.2
  refine x_getI C hV wf_X11_421 hk4 dX11_plainBounds_7 ?_
  refine lv_aload_n hx hb dX11_plainBounds_10 rfl (lv_at hl 0 rfl) ?_
  refine x_getI C hV wf_X11_412 hk4 dX11_plainBounds_11 ?_
  refine lv_icmp_ne (tgt := 24) hx hb dX11_plainBounds_14 (by decide) (fun c5 => ?_) (fun c5 => ?_)
  · have hM := ite_f c5 hM
    refine lv_iload_n hx hb dX11_plainBounds_24 rfl (lv_at hl 1 rfl) ?_
    refine lv_aload_n hx hb dX11_plainBounds_25 rfl (lv_at hl 0 rfl) ?_
    refine x_getI C hV wf_X11_421 hk4 dX11_plainBounds_26 ?_
    refine lv_aload_n hx hb dX11_plainBounds_29 rfl (lv_at hl 0 rfl) ?_
    refine x_getI C hV wf_X11_412 hk4 dX11_plainBounds_30 ?_
    refine lv_isub hx hb dX11_plainBounds_33 ?_
    have hne6 := hM.1
    have hM := hM.2
    refine lv_idiv hx hb dX11_plainBounds_34 hne6 ?_
    exact x_iret C hV hM dX11_plainBounds_35
  have hM := ite_t c5 hM
  refine lv_aload_n hx hb dX11_plainBounds_17 rfl (lv_at hl 0 rfl) ?_
  refine lv_iconst (v := 1) hx hb dX11_plainBounds_18 (by decide) ?_
  obtain ⟨S7, eS7⟩ : ∃ z : PS, z = S2.setI 817 a0 1 := ⟨_, rfl⟩
  have hM := hM S7 eS7
  refine x_putI C hV wp_X11_424 hk4 (nz_b (by decide)) eS7 dX11_plainBounds_19 (fun H locs hV => ?_)
  refine lv_iconst (v := 0) hx hb dX11_plainBounds_22 (by decide) ?_
  exact x_iret C hV hM dX11_plainBounds_23

def wq_X11_boundsIt_30 (N : Nat) (K : Int32 → PS → Prop) (S : PS) (a0 : Nat) (x1 : Int32) : Prop := S.K a0 = 12 ∧ wp_X11_body N S a0 50 (fun S6 => S6.K a0 = 12 ∧ wp_X11_plainBounds N S6 a0 (x1 + 2) (fun r10 S9 => ∀ v11 : Int32, v11 = (r10 ^^^ 1) → S9.K a0 = 12 ∧ if (S9.I 812 a0) = 5 then (K (v11 * 2) S9) else (K v11 S9)))
def wq_X11_boundsIt_14 (N : Nat) (K : Int32 → PS → Prop) (S : PS) (a0 : Nat) (x1 : Int32) : Prop := S.K a0 = 12 ∧ if (S.I 812 a0) = 4 then (wq_X11_boundsIt_30 N K S a0 x1) else (if (S.I 812 a0) = 5 then (wq_X11_boundsIt_30 N K S a0 x1) else (wp_X11_plainBounds N S a0 x1 (fun r16 S15 => K r16 S15)))
def wp_X11_boundsIt (N : Nat) (S : PS) (a0 : Nat) (x1 : Int32) (K : Int32 → PS → Prop) : Prop := S.K a0 = 12 ∧ if (S.I 812 a0) = 5 then (wp_X11_body N S a0 61 (fun S17 => wq_X11_boundsIt_14 N K S17 a0 x1)) else (wq_X11_boundsIt_14 N K S a0 x1)
set_option maxHeartbeats 4000000 in
set_option maxRecDepth 100000 in
theorem tq_X11_boundsIt_30 {p : Program} {l : Launch} {e : Env} {s : State} {m : MethodId} {args : Array Value} {below : List Frame} {meth : Method} {c : Code} {D : DX} {cA : Nat → ClassId} {z0 N : Nat} {K : Int32 → PS → Prop} (C : CX p s m args meth c cX11_boundsIt 3 RX11 (some .int) D cA z0) : ∀ (S : PS) (a0 : Nat) (x1 : Int32) (H : Heap) (locs : List Loc) (ls : Array Slot), wq_X11_boundsIt_30 N K S a0 x1 → XV D cA z0 s S H locs → lv_has ls 3 [(0, .ref a0), (1, .int x1)] → W p l e (rmd 2 0 0) s m args below meth c H locs 0 0 (MQ below (va_Qi K (XK D cA z0) (zA z0)) args s 0 0 (zA z0)) (F0 m 30 ls []) := by
  obtain ⟨hx, hb, hml, hown, hts, hK, hz, hlk, hr⟩ := id C
  intro S a0 x1 H locs ls hM hV hl
  unfold wq_X11_boundsIt_30 at hM
  refine lv_aload_n hx hb dX11_boundsIt_30 rfl (lv_at hl 0 rfl) ?_
  refine lv_bipush (v := 50) hx hb dX11_boundsIt_31 (by decide) ?_
  have hk5 := hM.1
  have hM := hM.2
  refine x_cv hV (x_runV (As := [.int 50]) (rest := []) C hV mi_X11_body wl_X11_409 hk5 (c_X11_body hM) ⟨by decide, by decide⟩ rfl hl.1 (Nat.le_of_ble_eq_true rfl) dX11_boundsIt_33 ⟨Nat.zero_le _, Nat.zero_le _⟩) (fun S6 H locs hV hM => ?_)
  refine lv_aload_n hx hb dX11_boundsIt_36 rfl (lv_at hl 0 rfl) ?_
  refine lv_iload_n hx hb dX11_boundsIt_37 rfl (lv_at hl 1 rfl) ?_
  refine lv_iconst (v := 2) hx hb dX11_boundsIt_38 (by decide) ?_
  refine lv_iadd hx hb dX11_boundsIt_39 ?_
  have hk8 := hM.1
  have hM := hM.2
  refine x_ci hV (x_runV (As := [.int (x1 + 2)]) (rest := []) C hV mi_X11_plainBounds wl_X11_427 hk8 (c_X11_plainBounds hM) ⟨by decide, by decide⟩ rfl hl.1 (Nat.le_of_ble_eq_true rfl) dX11_boundsIt_40 ⟨Nat.zero_le _, Nat.zero_le _⟩) (fun r10 S9 H locs hV hM => ?_)
  refine lv_iconst (v := 1) hx hb dX11_boundsIt_43 (by decide) ?_
  refine lv_ixor hx hb dX11_boundsIt_44 ?_
  refine lv_topi (fun v11 ev11 => ?_)
  have hM := hM v11 ev11
  refine lv_istore_n (lv' := [(2, .int v11), (0, .ref a0), (1, .int x1)]) hx hb dX11_boundsIt_45 rfl hl (by decide) rfl (fun ls hl => ?_)
  refine lv_aload_n hx hb dX11_boundsIt_46 rfl (lv_at hl 1 rfl) ?_
  have hk12 := hM.1
  have hM := hM.2
  refine x_getI C hV wf_X11_406 hk12 dX11_boundsIt_47 ?_
  refine lv_iconst (v := 5) hx hb dX11_boundsIt_50 (by decide) ?_
  refine lv_icmp_ne (tgt := 60) hx hb dX11_boundsIt_51 (by decide) (fun c13 => ?_) (fun c13 => ?_)
  · have hM := ite_f c13 hM
    refine lv_iload_n hx hb dX11_boundsIt_60 rfl (lv_at hl 0 rfl) ?_
    exact x_iret C hV hM dX11_boundsIt_61
  have hM := ite_t c13 hM
  refine lv_iload_n hx hb dX11_boundsIt_54 rfl (lv_at hl 0 rfl) ?_
  refine lv_iconst (v := 2) hx hb dX11_boundsIt_55 (by decide) ?_
  refine lv_imul hx hb dX11_boundsIt_56 ?_
  refine lv_goto (tgt := 61) hx hb dX11_boundsIt_57 (by decide) ?_
  exact x_iret C hV hM dX11_boundsIt_61
set_option maxHeartbeats 4000000 in
set_option maxRecDepth 100000 in
theorem tq_X11_boundsIt_14 {p : Program} {l : Launch} {e : Env} {s : State} {m : MethodId} {args : Array Value} {below : List Frame} {meth : Method} {c : Code} {D : DX} {cA : Nat → ClassId} {z0 N : Nat} {K : Int32 → PS → Prop} (C : CX p s m args meth c cX11_boundsIt 3 RX11 (some .int) D cA z0) : ∀ (S : PS) (a0 : Nat) (x1 : Int32) (H : Heap) (locs : List Loc) (ls : Array Slot), wq_X11_boundsIt_14 N K S a0 x1 → XV D cA z0 s S H locs → lv_has ls 3 [(0, .ref a0), (1, .int x1)] → W p l e (rmd 2 0 0) s m args below meth c H locs 0 0 (MQ below (va_Qi K (XK D cA z0) (zA z0)) args s 0 0 (zA z0)) (F0 m 14 ls []) := by
  obtain ⟨hx, hb, hml, hown, hts, hK, hz, hlk, hr⟩ := id C
  intro S a0 x1 H locs ls hM hV hl
  unfold wq_X11_boundsIt_14 at hM
  refine lv_aload_n hx hb dX11_boundsIt_14 rfl (lv_at hl 0 rfl) ?_
  have hk3 := hM.1
  have hM := hM.2
  refine x_getI C hV wf_X11_406 hk3 dX11_boundsIt_15 ?_
  refine lv_iconst (v := 4) hx hb dX11_boundsIt_18 (by decide) ?_
  refine lv_icmp_eq (tgt := 30) hx hb dX11_boundsIt_19 (by decide) (fun c4 => ?_) (fun c4 => ?_)
  · have hM := ite_t c4 hM
    exact tq_X11_boundsIt_30 C _ _ _ _ _ _ hM hV (lv_sub hl [0, 1] rfl)
  have hM := ite_f c4 hM
  refine lv_aload_n hx hb dX11_boundsIt_22 rfl (lv_at hl 0 rfl) ?_
  refine x_getI C hV wf_X11_406 hk3 dX11_boundsIt_23 ?_
  refine lv_iconst (v := 5) hx hb dX11_boundsIt_26 (by decide) ?_
  refine lv_icmp_ne (tgt := 62) hx hb dX11_boundsIt_27 (by decide) (fun c14 => ?_) (fun c14 => ?_)
  · have hM := ite_f c14 hM
    refine lv_aload_n hx hb dX11_boundsIt_62 rfl (lv_at hl 0 rfl) ?_
    refine lv_iload_n hx hb dX11_boundsIt_63 rfl (lv_at hl 1 rfl) ?_
    refine x_ci hV (x_runV (As := [.int x1]) (rest := []) C hV mi_X11_plainBounds wl_X11_427 hk3 (c_X11_plainBounds hM) ⟨by decide, by decide⟩ rfl hl.1 (Nat.le_of_ble_eq_true rfl) dX11_boundsIt_64 ⟨Nat.zero_le _, Nat.zero_le _⟩) (fun r16 S15 H locs hV hM => ?_)
    exact x_iret C hV hM dX11_boundsIt_67
  have hM := ite_t c14 hM
  exact tq_X11_boundsIt_30 C _ _ _ _ _ _ hM hV (lv_sub hl [0, 1] rfl)
set_option maxHeartbeats 4000000 in
set_option maxRecDepth 100000 in
theorem c_X11_boundsIt {l : Launch} {D : DX} {cA : Nat → ClassId} {z0 N : Nat} {S : PS} {a0 : Nat} {x1 : Int32} {K : Int32 → PS → Prop} (hM : wp_X11_boundsIt N S a0 x1 K) : MetI l yX11_boundsIt cX11_boundsIt 3 (some .int) 2 0 0 D cA z0 [.ref a0, .int x1] S K := by
  refine x_met RX11 (by decide) rfl ?_
  intro p e s m below meth c C hin hV
  have hl := lv_entry ([.ref a0, .int x1]) (n := 3) (Nat.le_of_ble_eq_true rfl)
  rw [lg_entry_eq]
  generalize (lg_sl ([.ref a0, .int x1]) ++ List.replicate (3 - (lg_sl ([.ref a0, .int x1])).length) Slot.unset).toArray = ls at hl ⊢
  have hl : lv_has ls 3 [(0, .ref a0), (1, .int x1)] := hl
  obtain ⟨hx, hb, hml, hown, hts, hK, hz, hlk, hr⟩ := id C
  unfold wp_X11_boundsIt at hM
  refine lv_aload_n hx hb dX11_boundsIt_0 rfl (lv_at hl 0 rfl) ?_
  have hk1 := hM.1
  have hM := hM.2
  refine x_getI C hV wf_X11_406 hk1 dX11_boundsIt_1 ?_
  refine lv_iconst (v := 5) hx hb dX11_boundsIt_4 (by decide) ?_
  refine lv_icmp_ne (tgt := 14) hx hb dX11_boundsIt_5 (by decide) (fun c2 => ?_) (fun c2 => ?_)
  · have hM := ite_f c2 hM
    exact tq_X11_boundsIt_14 C _ _ _ _ _ _ hM hV (lv_sub hl [0, 1] rfl)
  have hM := ite_t c2 hM
  refine lv_aload_n hx hb dX11_boundsIt_8 rfl (lv_at hl 0 rfl) ?_
  refine lv_bipush (v := 61) hx hb dX11_boundsIt_9 (by decide) ?_
  refine x_cv hV (x_runV (As := [.int 61]) (rest := []) C hV mi_X11_body wl_X11_409 hk1 (c_X11_body hM) ⟨by decide, by decide⟩ rfl hl.1 (Nat.le_of_ble_eq_true rfl) dX11_boundsIt_11 ⟨Nat.zero_le _, Nat.zero_le _⟩) (fun S17 H locs hV hM => ?_)
  exact tq_X11_boundsIt_14 C _ _ _ _ _ _ hM hV (lv_sub hl [0, 1] rfl)

def wp_X11_in (N : Nat) (S : PS) (x0 : Int32) (x1 : Int32) (x2 : Int32) (K : Int32 → PS → Prop) : Prop := if x0 < x1 then (K 0 S) else (if x2 < x0 then (K 0 S) else (K 1 S))
set_option maxHeartbeats 4000000 in
set_option maxRecDepth 100000 in
theorem c_X11_in {l : Launch} {D : DX} {cA : Nat → ClassId} {z0 N : Nat} {S : PS} {x0 : Int32} {x1 : Int32} {x2 : Int32} {K : Int32 → PS → Prop} (hM : wp_X11_in N S x0 x1 x2 K) : MetI l yX11_in cX11_in 3 (some .boolean) 0 0 0 D cA z0 [.int x0, .int x1, .int x2] S (fun r S => (r = 0 ∨ r = 1) ∧ K r S) := by
  refine x_met RX11 (by decide) rfl ?_
  intro p e s m below meth c C hin hV
  have hl := lv_entry ([.int x0, .int x1, .int x2]) (n := 3) (Nat.le_of_ble_eq_true rfl)
  rw [lg_entry_eq]
  generalize (lg_sl ([.int x0, .int x1, .int x2]) ++ List.replicate (3 - (lg_sl ([.int x0, .int x1, .int x2])).length) Slot.unset).toArray = ls at hl ⊢
  have hl : lv_has ls 3 [(0, .int x0), (1, .int x1), (2, .int x2)] := hl
  obtain ⟨hx, hb, hml, hown, hts, hK, hz, hlk, hr⟩ := id C
  unfold wp_X11_in at hM
  refine lv_iload_n hx hb dX11_in_0 rfl (lv_at hl 0 rfl) ?_
  refine lv_iload_n hx hb dX11_in_1 rfl (lv_at hl 1 rfl) ?_
  refine lv_icmp_lt (tgt := 14) hx hb dX11_in_2 (by decide) (fun c1 => ?_) (fun c1 => ?_)
  · have hM := ite_t c1 hM
    refine lv_iconst (v := 0) hx hb dX11_in_14 (by decide) ?_
    exact x_zret C hV (by decide) hM dX11_in_15
  have hM := ite_f c1 hM
  refine lv_iload_n hx hb dX11_in_5 rfl (lv_at hl 0 rfl) ?_
  refine lv_iload_n hx hb dX11_in_6 rfl (lv_at hl 2 rfl) ?_
  refine lv_icmp_gt (tgt := 14) hx hb dX11_in_7 (by decide) (fun c2 => ?_) (fun c2 => ?_)
  · have hM := ite_t c2 hM
    refine lv_iconst (v := 0) hx hb dX11_in_14 (by decide) ?_
    exact x_zret C hV (by decide) hM dX11_in_15
  have hM := ite_f c2 hM
  refine lv_iconst (v := 1) hx hb dX11_in_10 (by decide) ?_
  refine lv_goto (tgt := 15) hx hb dX11_in_11 (by decide) ?_
  exact x_zret C hV (by decide) hM dX11_in_15

def wp_X11_isShelf (N : Nat) (S : PS) (x0 : Int32) (K : Int32 → PS → Prop) : Prop := wp_X11_in N S x0 0 3 (fun r2 S1 => (r2 = 0 ∨ r2 = 1) ∧ K r2 S1)
set_option maxHeartbeats 4000000 in
set_option maxRecDepth 100000 in
theorem c_X11_isShelf {l : Launch} {D : DX} {cA : Nat → ClassId} {z0 N : Nat} {S : PS} {x0 : Int32} {K : Int32 → PS → Prop} (hM : wp_X11_isShelf N S x0 K) : MetI l yX11_isShelf cX11_isShelf 1 (some .boolean) 1 0 0 D cA z0 [.int x0] S (fun r S => (r = 0 ∨ r = 1) ∧ K r S) := by
  refine x_met RX11 (by decide) rfl ?_
  intro p e s m below meth c C hin hV
  have hl := lv_entry ([.int x0]) (n := 1) (Nat.le_of_ble_eq_true rfl)
  rw [lg_entry_eq]
  generalize (lg_sl ([.int x0]) ++ List.replicate (1 - (lg_sl ([.int x0])).length) Slot.unset).toArray = ls at hl ⊢
  have hl : lv_has ls 1 [(0, .int x0)] := hl
  obtain ⟨hx, hb, hml, hown, hts, hK, hz, hlk, hr⟩ := id C
  unfold wp_X11_isShelf at hM
  refine lv_iload_n hx hb dX11_isShelf_0 rfl (lv_at hl 0 rfl) ?_
  refine lv_iconst (v := 0) hx hb dX11_isShelf_1 (by decide) ?_
  refine lv_iconst (v := 3) hx hb dX11_isShelf_2 (by decide) ?_
  refine x_ci hV (x_runS (As := [.int x0, .int 0, .int 3]) (rest := []) C hV ms_X11_in wl_X11_87 (c_X11_in hM) ⟨by decide, by decide⟩ rfl hl.1 (Nat.le_of_ble_eq_true rfl) dX11_isShelf_3 ⟨Nat.zero_le _, Nat.zero_le _⟩) (fun r2 S1 H locs hV hM => ?_)
  have hz3 := hM.1
  have hM := hM.2
  have hz4 := hM.1
  have hM := hM.2
  exact x_zret C hV hz4 hM dX11_isShelf_6

def wp_X11_its (N : Nat) (S : PS) (a0 : Nat) (x1 : Int32) (x2 : Int32) (K : Int32 → PS → Prop) : Prop := S.K a0 = 12 ∧ ∃ p2 : Nat, S.R 773 a0 = some p2 ∧ S.K p2 = 20 ∧ vp_in ((9 * x1) + x2) (S.ln p2) ∧ K (S.A p2 ((9 * x1) + x2).toNatClampNeg) S
set_option maxHeartbeats 4000000 in
set_option maxRecDepth 100000 in
theorem c_X11_its {l : Launch} {D : DX} {cA : Nat → ClassId} {z0 N : Nat} {S : PS} {a0 : Nat} {x1 : Int32} {x2 : Int32} {K : Int32 → PS → Prop} (hM : wp_X11_its N S a0 x1 x2 K) : MetI l yX11_its cX11_its 3 (some .int) 0 0 0 D cA z0 [.ref a0, .int x1, .int x2] S K := by
  refine x_met RX11 (by decide) rfl ?_
  intro p e s m below meth c C hin hV
  have hl := lv_entry ([.ref a0, .int x1, .int x2]) (n := 3) (Nat.le_of_ble_eq_true rfl)
  rw [lg_entry_eq]
  generalize (lg_sl ([.ref a0, .int x1, .int x2]) ++ List.replicate (3 - (lg_sl ([.ref a0, .int x1, .int x2])).length) Slot.unset).toArray = ls at hl ⊢
  have hl : lv_has ls 3 [(0, .ref a0), (1, .int x1), (2, .int x2)] := hl
  obtain ⟨hx, hb, hml, hown, hts, hK, hz, hlk, hr⟩ := id C
  unfold wp_X11_its at hM
  refine lv_aload_n hx hb dX11_its_0 rfl (lv_at hl 0 rfl) ?_
  have hk1 := hM.1
  have hM := hM.2
  obtain ⟨p2, hp2, hM⟩ := hM
  refine x_getR C hV wf_X11_13 hk1 hp2 dX11_its_1 ?_
  refine lv_bipush (v := 9) hx hb dX11_its_4 (by decide) ?_
  refine lv_iload_n hx hb dX11_its_6 rfl (lv_at hl 1 rfl) ?_
  refine lv_imul hx hb dX11_its_7 ?_
  refine lv_iload_n hx hb dX11_its_8 rfl (lv_at hl 2 rfl) ?_
  refine lv_iadd hx hb dX11_its_9 ?_
  have hk3 := hM.1
  have hM := hM.2
  have hi4 := hM.1
  have hM := hM.2
  refine x_iald C hV hk3 hi4 dX11_its_10 ?_
  exact x_iret C hV hM dX11_its_11

def wp_X11_isPart (N : Nat) (S : PS) (a0 : Nat) (x1 : Int32) (K : Int32 → PS → Prop) : Prop := S.K a0 = 12 ∧ wp_X11_in N S x1 0 ((S.I 772 a0) - 1) (fun r3 S2 => (r3 = 0 ∨ r3 = 1) ∧ K r3 S2)
set_option maxHeartbeats 4000000 in
set_option maxRecDepth 100000 in
theorem c_X11_isPart {l : Launch} {D : DX} {cA : Nat → ClassId} {z0 N : Nat} {S : PS} {a0 : Nat} {x1 : Int32} {K : Int32 → PS → Prop} (hM : wp_X11_isPart N S a0 x1 K) : MetI l yX11_isPart cX11_isPart 2 (some .boolean) 1 0 0 D cA z0 [.ref a0, .int x1] S (fun r S => (r = 0 ∨ r = 1) ∧ K r S) := by
  refine x_met RX11 (by decide) rfl ?_
  intro p e s m below meth c C hin hV
  have hl := lv_entry ([.ref a0, .int x1]) (n := 2) (Nat.le_of_ble_eq_true rfl)
  rw [lg_entry_eq]
  generalize (lg_sl ([.ref a0, .int x1]) ++ List.replicate (2 - (lg_sl ([.ref a0, .int x1])).length) Slot.unset).toArray = ls at hl ⊢
  have hl : lv_has ls 2 [(0, .ref a0), (1, .int x1)] := hl
  obtain ⟨hx, hb, hml, hown, hts, hK, hz, hlk, hr⟩ := id C
  unfold wp_X11_isPart at hM
  refine lv_iload_n hx hb dX11_isPart_0 rfl (lv_at hl 1 rfl) ?_
  refine lv_iconst (v := 0) hx hb dX11_isPart_1 (by decide) ?_
  refine lv_aload_n hx hb dX11_isPart_2 rfl (lv_at hl 0 rfl) ?_
  have hk1 := hM.1
  have hM := hM.2
  refine x_getI C hV wf_X11_84 hk1 dX11_isPart_3 ?_
  refine lv_iconst (v := 1) hx hb dX11_isPart_6 (by decide) ?_
  refine lv_isub hx hb dX11_isPart_7 ?_
  refine x_ci hV (x_runS (As := [.int x1, .int 0, .int ((S.I 772 a0) - 1)]) (rest := []) C hV ms_X11_in wl_X11_87 (c_X11_in hM) ⟨by decide, by decide⟩ rfl hl.1 (Nat.le_of_ble_eq_true rfl) dX11_isPart_8 ⟨Nat.zero_le _, Nat.zero_le _⟩) (fun r3 S2 H locs hV hM => ?_)
  have hz4 := hM.1
  have hM := hM.2
  have hz5 := hM.1
  have hM := hM.2
  exact x_zret C hV hz5 hM dX11_isPart_11

def wp_X11_kindOn (N : Nat) (S : PS) (a0 : Nat) (x1 : Int32) (K : Int32 → PS → Prop) : Prop := S.K a0 = 12 ∧ ∃ p2 : Nat, S.R 809 a0 = some p2 ∧ S.K p2 = 20 ∧ vp_in x1 (S.ln p2) ∧ if (S.A p2 x1.toNatClampNeg) = 0 then (∃ p6 : Nat, S.R 810 a0 = some p6 ∧ S.K p6 = 20 ∧ vp_in x1 (S.ln p6) ∧ wp_X11_isPart N S a0 (S.A p6 x1.toNatClampNeg) (fun r10 S9 => if r10 = 0 then (K (-1) S9) else (S9.K a0 = 12 ∧ ∃ p14 : Nat, S9.R 810 a0 = some p14 ∧ S9.K p14 = 20 ∧ vp_in x1 (S9.ln p14) ∧ wp_X11_its N S9 a0 (S9.A p14 x1.toNatClampNeg) 0 (fun r18 S17 => K r18 S17)))) else (∃ p19 : Nat, S.R 809 a0 = some p19 ∧ S.K p19 = 20 ∧ vp_in x1 (S.ln p19) ∧ if 0 ≤ (S.A p19 x1.toNatClampNeg) then (K 9 S) else (K (-1) S))
set_option maxHeartbeats 4000000 in
set_option maxRecDepth 100000 in
theorem c_X11_kindOn {l : Launch} {D : DX} {cA : Nat → ClassId} {z0 N : Nat} {S : PS} {a0 : Nat} {x1 : Int32} {K : Int32 → PS → Prop} (hM : wp_X11_kindOn N S a0 x1 K) : MetI l yX11_kindOn cX11_kindOn 2 (some .int) 2 0 0 D cA z0 [.ref a0, .int x1] S K := by
  refine x_met RX11 (by decide) rfl ?_
  intro p e s m below meth c C hin hV
  have hl := lv_entry ([.ref a0, .int x1]) (n := 2) (Nat.le_of_ble_eq_true rfl)
  rw [lg_entry_eq]
  generalize (lg_sl ([.ref a0, .int x1]) ++ List.replicate (2 - (lg_sl ([.ref a0, .int x1])).length) Slot.unset).toArray = ls at hl ⊢
  have hl : lv_has ls 2 [(0, .ref a0), (1, .int x1)] := hl
  obtain ⟨hx, hb, hml, hown, hts, hK, hz, hlk, hr⟩ := id C
  unfold wp_X11_kindOn at hM
  refine lv_aload_n hx hb dX11_kindOn_0 rfl (lv_at hl 0 rfl) ?_
  have hk1 := hM.1
  have hM := hM.2
  obtain ⟨p2, hp2, hM⟩ := hM
  refine x_getR C hV wf_X11_66 hk1 hp2 dX11_kindOn_1 ?_
  refine lv_iload_n hx hb dX11_kindOn_4 rfl (lv_at hl 1 rfl) ?_
  have hk3 := hM.1
  have hM := hM.2
  have hi4 := hM.1
  have hM := hM.2
  refine x_iald C hV hk3 hi4 dX11_kindOn_5 ?_
  refine lv_if_eq (tgt := 25) hx hb dX11_kindOn_6 (by decide) (fun c5 => ?_) (fun c5 => ?_)
  · have hM := ite_t c5 hM
    refine lv_aload_n hx hb dX11_kindOn_25 rfl (lv_at hl 0 rfl) ?_
    refine lv_aload_n hx hb dX11_kindOn_26 rfl (lv_at hl 0 rfl) ?_
    obtain ⟨p6, hp6, hM⟩ := hM
    refine x_getR C hV wf_X11_69 hk1 hp6 dX11_kindOn_27 ?_
    refine lv_iload_n hx hb dX11_kindOn_30 rfl (lv_at hl 1 rfl) ?_
    have hk7 := hM.1
    have hM := hM.2
    have hi8 := hM.1
    have hM := hM.2
    refine x_iald C hV hk7 hi8 dX11_kindOn_31 ?_
    refine x_ci hV (x_runV (As := [.int (S.A p6 x1.toNatClampNeg)]) (rest := []) C hV mi_X11_isPart wl_X11_98 hk1 (c_X11_isPart hM) ⟨by decide, by decide⟩ rfl hl.1 (Nat.le_of_ble_eq_true rfl) dX11_kindOn_32 ⟨Nat.zero_le _, Nat.zero_le _⟩) (fun r10 S9 H locs hV hM => ?_)
    have hz11 := hM.1
    have hM := hM.2
    refine lv_if_eq (tgt := 52) hx hb dX11_kindOn_35 (by decide) (fun c12 => ?_) (fun c12 => ?_)
    · have hM := ite_t c12 hM
      refine lv_iconst (v := (-1)) hx hb dX11_kindOn_52 (by decide) ?_
      exact x_iret C hV hM dX11_kindOn_53
    have hM := ite_f c12 hM
    refine lv_aload_n hx hb dX11_kindOn_38 rfl (lv_at hl 0 rfl) ?_
    refine lv_aload_n hx hb dX11_kindOn_39 rfl (lv_at hl 0 rfl) ?_
    have hk13 := hM.1
    have hM := hM.2
    obtain ⟨p14, hp14, hM⟩ := hM
    refine x_getR C hV wf_X11_69 hk13 hp14 dX11_kindOn_40 ?_
    refine lv_iload_n hx hb dX11_kindOn_43 rfl (lv_at hl 1 rfl) ?_
    have hk15 := hM.1
    have hM := hM.2
    have hi16 := hM.1
    have hM := hM.2
    refine x_iald C hV hk15 hi16 dX11_kindOn_44 ?_
    refine lv_iconst (v := 0) hx hb dX11_kindOn_45 (by decide) ?_
    refine x_ci hV (x_runV (As := [.int (S9.A p14 x1.toNatClampNeg), .int 0]) (rest := []) C hV mi_X11_its wl_X11_94 hk13 (c_X11_its hM) ⟨by decide, by decide⟩ rfl hl.1 (Nat.le_of_ble_eq_true rfl) dX11_kindOn_46 ⟨Nat.zero_le _, Nat.zero_le _⟩) (fun r18 S17 H locs hV hM => ?_)
    refine lv_goto (tgt := 53) hx hb dX11_kindOn_49 (by decide) ?_
    exact x_iret C hV hM dX11_kindOn_53
  have hM := ite_f c5 hM
  refine lv_aload_n hx hb dX11_kindOn_9 rfl (lv_at hl 0 rfl) ?_
  obtain ⟨p19, hp19, hM⟩ := hM
  refine x_getR C hV wf_X11_66 hk1 hp19 dX11_kindOn_10 ?_
  refine lv_iload_n hx hb dX11_kindOn_13 rfl (lv_at hl 1 rfl) ?_
  have hk20 := hM.1
  have hM := hM.2
  have hi21 := hM.1
  have hM := hM.2
  refine x_iald C hV hk20 hi21 dX11_kindOn_14 ?_
  refine lv_if_ge (tgt := 22) hx hb dX11_kindOn_15 (by decide) (fun c22 => ?_) (fun c22 => ?_)
  · have hM := ite_t c22 hM
    refine lv_bipush (v := 9) hx hb dX11_kindOn_22 (by decide) ?_
    exact x_iret C hV hM dX11_kindOn_24
  have hM := ite_f c22 hM
  refine lv_iconst (v := (-1)) hx hb dX11_kindOn_18 (by decide) ?_
  refine lv_goto (tgt := 24) hx hb dX11_kindOn_19 (by decide) ?_
  exact x_iret C hV hM dX11_kindOn_24

def wq_X11_takesIt_59 (N : Nat) (K : Int32 → PS → Prop) (S : PS) (a0 : Nat) (x1 : Int32) (x2 : Int32) : Prop := S.K a0 = 12 ∧ wp_X11_body N S a0 10 (fun S6 => S6.K a0 = 12 ∧ ∀ v9 : Int32, v9 = (x1 + (S6.I 813 a0)) → if x2 = 30 then (K (v9 * 3) S6) else (if x2 = 51 then (K (0 - v9) S6) else (if x2 = 70 then (K (v9 - 4) S6) else (K v9 S6))))
def wq_X11_takesIt_49 (N : Nat) (K : Int32 → PS → Prop) (S : PS) (a0 : Nat) (x1 : Int32) (t0 : Int32) : Prop := if t0 ≤ 0 then (wq_X11_takesIt_59 N K S a0 x1 t0) else (S.K a0 = 12 ∧ wp_X11_body N S a0 t0 (fun S14 => wq_X11_takesIt_59 N K S14 a0 x1 t0))
def wq_X11_takesIt_29 (N : Nat) (K : Int32 → PS → Prop) (S : PS) (a0 : Nat) (x1 : Int32) : Prop := wq_X11_takesIt_49 N K S a0 x1 51
def wp_X11_takesIt (N : Nat) (S : PS) (a0 : Nat) (x1 : Int32) (K : Int32 → PS → Prop) : Prop := S.K a0 = 12 ∧ if (S.I 812 a0) = 2 then (wq_X11_takesIt_49 N K S a0 x1 30) else (if (S.I 812 a0) = 4 then (wq_X11_takesIt_29 N K S a0 x1) else (if (S.I 812 a0) = 5 then (wq_X11_takesIt_29 N K S a0 x1) else (if (S.I 812 a0) = 6 then (wq_X11_takesIt_49 N K S a0 x1 70) else (wq_X11_takesIt_49 N K S a0 x1 0))))
set_option maxHeartbeats 4000000 in
set_option maxRecDepth 100000 in
theorem tq_X11_takesIt_59 {p : Program} {l : Launch} {e : Env} {s : State} {m : MethodId} {args : Array Value} {below : List Frame} {meth : Method} {c : Code} {D : DX} {cA : Nat → ClassId} {z0 N : Nat} {K : Int32 → PS → Prop} (C : CX p s m args meth c cX11_takesIt 4 RX11 (some .int) D cA z0) : ∀ (S : PS) (a0 : Nat) (x1 : Int32) (x2 : Int32) (H : Heap) (locs : List Loc) (ls : Array Slot), wq_X11_takesIt_59 N K S a0 x1 x2 → XV D cA z0 s S H locs → lv_has ls 4 [(0, .ref a0), (1, .int x1), (2, .int x2)] → W p l e (rmd 1 0 0) s m args below meth c H locs 0 0 (MQ below (va_Qi K (XK D cA z0) (zA z0)) args s 0 0 (zA z0)) (F0 m 59 ls []) := by
  obtain ⟨hx, hb, hml, hown, hts, hK, hz, hlk, hr⟩ := id C
  intro S a0 x1 x2 H locs ls hM hV hl
  unfold wq_X11_takesIt_59 at hM
  refine lv_aload_n hx hb dX11_takesIt_59 rfl (lv_at hl 0 rfl) ?_
  refine lv_bipush (v := 10) hx hb dX11_takesIt_60 (by decide) ?_
  have hk5 := hM.1
  have hM := hM.2
  refine x_cv hV (x_runV (As := [.int 10]) (rest := []) C hV mi_X11_body wl_X11_409 hk5 (c_X11_body hM) ⟨by decide, by decide⟩ rfl hl.1 (Nat.le_of_ble_eq_true rfl) dX11_takesIt_62 ⟨Nat.zero_le _, Nat.zero_le _⟩) (fun S6 H locs hV hM => ?_)
  refine lv_iload_n hx hb dX11_takesIt_65 rfl (lv_at hl 1 rfl) ?_
  refine lv_aload_n hx hb dX11_takesIt_66 rfl (lv_at hl 0 rfl) ?_
  have hk8 := hM.1
  have hM := hM.2
  refine x_getI C hV wf_X11_412 hk8 dX11_takesIt_67 ?_
  refine lv_iadd hx hb dX11_takesIt_70 ?_
  refine lv_topi (fun v9 ev9 => ?_)
  have hM := hM v9 ev9
  refine lv_istore_n (lv' := [(3, .int v9), (0, .ref a0), (1, .int x1), (2, .int x2)]) hx hb dX11_takesIt_71 rfl hl (by decide) rfl (fun ls hl => ?_)
  refine lv_iload_n hx hb dX11_takesIt_72 rfl (lv_at hl 3 rfl) ?_
  refine lv_bipush (v := 30) hx hb dX11_takesIt_73 (by decide) ?_
  refine lv_icmp_ne (tgt := 84) hx hb dX11_takesIt_75 (by decide) (fun c10 => ?_) (fun c10 => ?_)
  · have hM := ite_f c10 hM
    refine lv_iload_n hx hb dX11_takesIt_84 rfl (lv_at hl 3 rfl) ?_
    refine lv_bipush (v := 51) hx hb dX11_takesIt_85 (by decide) ?_
    refine lv_icmp_ne (tgt := 96) hx hb dX11_takesIt_87 (by decide) (fun c11 => ?_) (fun c11 => ?_)
    · have hM := ite_f c11 hM
      refine lv_iload_n hx hb dX11_takesIt_96 rfl (lv_at hl 3 rfl) ?_
      refine lv_bipush (v := 70) hx hb dX11_takesIt_97 (by decide) ?_
      refine lv_icmp_ne (tgt := 108) hx hb dX11_takesIt_99 (by decide) (fun c12 => ?_) (fun c12 => ?_)
      · have hM := ite_f c12 hM
        refine lv_iload_n hx hb dX11_takesIt_108 rfl (lv_at hl 0 rfl) ?_
        exact x_iret C hV hM dX11_takesIt_109
      have hM := ite_t c12 hM
      refine lv_iload_n hx hb dX11_takesIt_102 rfl (lv_at hl 0 rfl) ?_
      refine lv_iconst (v := 4) hx hb dX11_takesIt_103 (by decide) ?_
      refine lv_isub hx hb dX11_takesIt_104 ?_
      refine lv_goto (tgt := 109) hx hb dX11_takesIt_105 (by decide) ?_
      exact x_iret C hV hM dX11_takesIt_109
    have hM := ite_t c11 hM
    refine lv_iconst (v := 0) hx hb dX11_takesIt_90 (by decide) ?_
    refine lv_iload_n hx hb dX11_takesIt_91 rfl (lv_at hl 0 rfl) ?_
    refine lv_isub hx hb dX11_takesIt_92 ?_
    refine lv_goto (tgt := 109) hx hb dX11_takesIt_93 (by decide) ?_
    exact x_iret C hV hM dX11_takesIt_109
  have hM := ite_t c10 hM
  refine lv_iload_n hx hb dX11_takesIt_78 rfl (lv_at hl 0 rfl) ?_
  refine lv_iconst (v := 3) hx hb dX11_takesIt_79 (by decide) ?_
  refine lv_imul hx hb dX11_takesIt_80 ?_
  refine lv_goto (tgt := 109) hx hb dX11_takesIt_81 (by decide) ?_
  exact x_iret C hV hM dX11_takesIt_109
set_option maxHeartbeats 4000000 in
set_option maxRecDepth 100000 in
theorem tq_X11_takesIt_49 {p : Program} {l : Launch} {e : Env} {s : State} {m : MethodId} {args : Array Value} {below : List Frame} {meth : Method} {c : Code} {D : DX} {cA : Nat → ClassId} {z0 N : Nat} {K : Int32 → PS → Prop} (C : CX p s m args meth c cX11_takesIt 4 RX11 (some .int) D cA z0) : ∀ (S : PS) (a0 : Nat) (x1 : Int32) (t0 : Int32) (H : Heap) (locs : List Loc) (ls : Array Slot), wq_X11_takesIt_49 N K S a0 x1 t0 → XV D cA z0 s S H locs → lv_has ls 4 [(0, .ref a0), (1, .int x1)] → W p l e (rmd 1 0 0) s m args below meth c H locs 0 0 (MQ below (va_Qi K (XK D cA z0) (zA z0)) args s 0 0 (zA z0)) (F0 m 49 ls [.int t0]) := by
  obtain ⟨hx, hb, hml, hown, hts, hK, hz, hlk, hr⟩ := id C
  intro S a0 x1 t0 H locs ls hM hV hl
  unfold wq_X11_takesIt_49 at hM
  refine lv_istore_n (lv' := [(2, .int t0), (0, .ref a0), (1, .int x1)]) hx hb dX11_takesIt_49 rfl hl (by decide) rfl (fun ls hl => ?_)
  refine lv_iload_n hx hb dX11_takesIt_50 rfl (lv_at hl 0 rfl) ?_
  refine lv_if_le (tgt := 59) hx hb dX11_takesIt_51 (by decide) (fun c4 => ?_) (fun c4 => ?_)
  · have hM := ite_t c4 hM
    exact tq_X11_takesIt_59 C _ _ _ _ _ _ _ hM hV (lv_sub hl [1, 2, 0] rfl)
  have hM := ite_f c4 hM
  refine lv_aload_n hx hb dX11_takesIt_54 rfl (lv_at hl 1 rfl) ?_
  refine lv_iload_n hx hb dX11_takesIt_55 rfl (lv_at hl 0 rfl) ?_
  have hk13 := hM.1
  have hM := hM.2
  refine x_cv hV (x_runV (As := [.int t0]) (rest := []) C hV mi_X11_body wl_X11_409 hk13 (c_X11_body hM) ⟨by decide, by decide⟩ rfl hl.1 (Nat.le_of_ble_eq_true rfl) dX11_takesIt_56 ⟨Nat.zero_le _, Nat.zero_le _⟩) (fun S14 H locs hV hM => ?_)
  exact tq_X11_takesIt_59 C _ _ _ _ _ _ _ hM hV (lv_sub hl [1, 2, 0] rfl)
set_option maxHeartbeats 4000000 in
set_option maxRecDepth 100000 in
theorem tq_X11_takesIt_29 {p : Program} {l : Launch} {e : Env} {s : State} {m : MethodId} {args : Array Value} {below : List Frame} {meth : Method} {c : Code} {D : DX} {cA : Nat → ClassId} {z0 N : Nat} {K : Int32 → PS → Prop} (C : CX p s m args meth c cX11_takesIt 4 RX11 (some .int) D cA z0) : ∀ (S : PS) (a0 : Nat) (x1 : Int32) (H : Heap) (locs : List Loc) (ls : Array Slot), wq_X11_takesIt_29 N K S a0 x1 → XV D cA z0 s S H locs → lv_has ls 4 [(0, .ref a0), (1, .int x1)] → W p l e (rmd 1 0 0) s m args below meth c H locs 0 0 (MQ below (va_Qi K (XK D cA z0) (zA z0)) args s 0 0 (zA z0)) (F0 m 29 ls []) := by
  obtain ⟨hx, hb, hml, hown, hts, hK, hz, hlk, hr⟩ := id C
  intro S a0 x1 H locs ls hM hV hl
  unfold wq_X11_takesIt_29 at hM
  refine lv_bipush (v := 51) hx hb dX11_takesIt_29 (by decide) ?_
  refine lv_goto (tgt := 49) hx hb dX11_takesIt_31 (by decide) ?_
  exact tq_X11_takesIt_49 C _ _ _ _ _ _ _ hM hV (lv_sub hl [0, 1] rfl)
set_option maxHeartbeats 4000000 in
set_option maxRecDepth 100000 in
theorem c_X11_takesIt {l : Launch} {D : DX} {cA : Nat → ClassId} {z0 N : Nat} {S : PS} {a0 : Nat} {x1 : Int32} {K : Int32 → PS → Prop} (hM : wp_X11_takesIt N S a0 x1 K) : MetI l yX11_takesIt cX11_takesIt 4 (some .int) 1 0 0 D cA z0 [.ref a0, .int x1] S K := by
  refine x_met RX11 (by decide) rfl ?_
  intro p e s m below meth c C hin hV
  have hl := lv_entry ([.ref a0, .int x1]) (n := 4) (Nat.le_of_ble_eq_true rfl)
  rw [lg_entry_eq]
  generalize (lg_sl ([.ref a0, .int x1]) ++ List.replicate (4 - (lg_sl ([.ref a0, .int x1])).length) Slot.unset).toArray = ls at hl ⊢
  have hl : lv_has ls 4 [(0, .ref a0), (1, .int x1)] := hl
  obtain ⟨hx, hb, hml, hown, hts, hK, hz, hlk, hr⟩ := id C
  unfold wp_X11_takesIt at hM
  refine lv_aload_n hx hb dX11_takesIt_0 rfl (lv_at hl 0 rfl) ?_
  have hk1 := hM.1
  have hM := hM.2
  refine x_getI C hV wf_X11_406 hk1 dX11_takesIt_1 ?_
  refine lv_iconst (v := 2) hx hb dX11_takesIt_4 (by decide) ?_
  refine lv_icmp_ne (tgt := 13) hx hb dX11_takesIt_5 (by decide) (fun c2 => ?_) (fun c2 => ?_)
  · have hM := ite_f c2 hM
    refine lv_aload_n hx hb dX11_takesIt_13 rfl (lv_at hl 0 rfl) ?_
    refine x_getI C hV wf_X11_406 hk1 dX11_takesIt_14 ?_
    refine lv_iconst (v := 4) hx hb dX11_takesIt_17 (by decide) ?_
    refine lv_icmp_eq (tgt := 29) hx hb dX11_takesIt_18 (by decide) (fun c3 => ?_) (fun c3 => ?_)
    · have hM := ite_t c3 hM
      exact tq_X11_takesIt_29 C _ _ _ _ _ _ hM hV (lv_sub hl [0, 1] rfl)
    have hM := ite_f c3 hM
    refine lv_aload_n hx hb dX11_takesIt_21 rfl (lv_at hl 0 rfl) ?_
    refine x_getI C hV wf_X11_406 hk1 dX11_takesIt_22 ?_
    refine lv_iconst (v := 5) hx hb dX11_takesIt_25 (by decide) ?_
    refine lv_icmp_ne (tgt := 34) hx hb dX11_takesIt_26 (by decide) (fun c16 => ?_) (fun c16 => ?_)
    · have hM := ite_f c16 hM
      refine lv_aload_n hx hb dX11_takesIt_34 rfl (lv_at hl 0 rfl) ?_
      refine x_getI C hV wf_X11_406 hk1 dX11_takesIt_35 ?_
      refine lv_bipush (v := 6) hx hb dX11_takesIt_38 (by decide) ?_
      refine lv_icmp_ne (tgt := 48) hx hb dX11_takesIt_40 (by decide) (fun c17 => ?_) (fun c17 => ?_)
      · have hM := ite_f c17 hM
        refine lv_iconst (v := 0) hx hb dX11_takesIt_48 (by decide) ?_
        exact tq_X11_takesIt_49 C _ _ _ _ _ _ _ hM hV (lv_sub hl [0, 1] rfl)
      have hM := ite_t c17 hM
      refine lv_bipush (v := 70) hx hb dX11_takesIt_43 (by decide) ?_
      refine lv_goto (tgt := 49) hx hb dX11_takesIt_45 (by decide) ?_
      exact tq_X11_takesIt_49 C _ _ _ _ _ _ _ hM hV (lv_sub hl [0, 1] rfl)
    have hM := ite_t c16 hM
    exact tq_X11_takesIt_29 C _ _ _ _ _ _ hM hV (lv_sub hl [0, 1] rfl)
  have hM := ite_t c2 hM
  refine lv_bipush (v := 30) hx hb dX11_takesIt_8 (by decide) ?_
  refine lv_goto (tgt := 49) hx hb dX11_takesIt_10 (by decide) ?_
  exact tq_X11_takesIt_49 C _ _ _ _ _ _ _ hM hV (lv_sub hl [0, 1] rfl)

def wp_X11_plainShares (N : Nat) (S : PS) (a0 : Nat) (x1 : Int32) (K : Int32 → PS → Prop) : Prop := S.K a0 = 12 ∧ wp_X11_body N S a0 11 (fun S2 => S2.K a0 = 12 ∧ wp_X11_takesIt N S2 a0 x1 (fun r6 S5 => K (r6 * 2) S5))
set_option maxHeartbeats 4000000 in
set_option maxRecDepth 100000 in
theorem c_X11_plainShares {l : Launch} {D : DX} {cA : Nat → ClassId} {z0 N : Nat} {S : PS} {a0 : Nat} {x1 : Int32} {K : Int32 → PS → Prop} (hM : wp_X11_plainShares N S a0 x1 K) : MetI l yX11_plainShares cX11_plainShares 2 (some .int) 2 0 0 D cA z0 [.ref a0, .int x1] S K := by
  refine x_met RX11 (by decide) rfl ?_
  intro p e s m below meth c C hin hV
  have hl := lv_entry ([.ref a0, .int x1]) (n := 2) (Nat.le_of_ble_eq_true rfl)
  rw [lg_entry_eq]
  generalize (lg_sl ([.ref a0, .int x1]) ++ List.replicate (2 - (lg_sl ([.ref a0, .int x1])).length) Slot.unset).toArray = ls at hl ⊢
  have hl : lv_has ls 2 [(0, .ref a0), (1, .int x1)] := hl
  obtain ⟨hx, hb, hml, hown, hts, hK, hz, hlk, hr⟩ := id C
  unfold wp_X11_plainShares at hM
  refine lv_aload_n hx hb dX11_plainShares_0 rfl (lv_at hl 0 rfl) ?_
  refine lv_bipush (v := 11) hx hb dX11_plainShares_1 (by decide) ?_
  have hk1 := hM.1
  have hM := hM.2
  refine x_cv hV (x_runV (As := [.int 11]) (rest := []) C hV mi_X11_body wl_X11_409 hk1 (c_X11_body hM) ⟨by decide, by decide⟩ rfl hl.1 (Nat.le_of_ble_eq_true rfl) dX11_plainShares_3 ⟨Nat.zero_le _, Nat.zero_le _⟩) (fun S2 H locs hV hM => ?_)
  refine lv_aload_n hx hb dX11_plainShares_6 rfl (lv_at hl 0 rfl) ?_
  refine lv_iload_n hx hb dX11_plainShares_7 rfl (lv_at hl 1 rfl) ?_
  have hk4 := hM.1
  have hM := hM.2
  refine x_ci hV (x_runV (As := [.int x1]) (rest := []) C hV mi_X11_takesIt wl_X11_415 hk4 (c_X11_takesIt hM) ⟨by decide, by decide⟩ rfl hl.1 (Nat.le_of_ble_eq_true rfl) dX11_plainShares_8 ⟨Nat.zero_le _, Nat.zero_le _⟩) (fun r6 S5 H locs hV hM => ?_)
  refine lv_iconst (v := 2) hx hb dX11_plainShares_11 (by decide) ?_
  refine lv_imul hx hb dX11_plainShares_12 ?_
  exact x_iret C hV hM dX11_plainShares_13

def wq_X11_sharesIt_17 (N : Nat) (K : Int32 → PS → Prop) (S : PS) (a0 : Nat) (x1 : Int32) : Prop := S.K a0 = 12 ∧ wp_X11_body N S a0 20 (fun S4 => S4.K a0 = 12 ∧ wp_X11_plainShares N S4 a0 x1 (fun r8 S7 => S7.K a0 = 12 ∧ K (r8 - (S7.I 814 a0)) S7))
def wp_X11_sharesIt (N : Nat) (S : PS) (a0 : Nat) (x1 : Int32) (K : Int32 → PS → Prop) : Prop := S.K a0 = 12 ∧ if (S.I 812 a0) = 1 then (wq_X11_sharesIt_17 N K S a0 x1) else (if (S.I 812 a0) = 6 then (wq_X11_sharesIt_17 N K S a0 x1) else (if (S.I 812 a0) = 5 then (wp_X11_body N S a0 60 (fun S14 => S14.K a0 = 12 ∧ wp_X11_plainShares N S14 a0 x1 (fun r18 S17 => S17.K a0 = 12 ∧ wp_X11_takesIt N S17 a0 (S17.I 814 a0) (fun r21 S20 => K (r18 + r21) S20)))) else (wp_X11_plainShares N S a0 x1 (fun r13 S12 => K r13 S12))))
set_option maxHeartbeats 4000000 in
set_option maxRecDepth 100000 in
theorem tq_X11_sharesIt_17 {p : Program} {l : Launch} {e : Env} {s : State} {m : MethodId} {args : Array Value} {below : List Frame} {meth : Method} {c : Code} {D : DX} {cA : Nat → ClassId} {z0 N : Nat} {K : Int32 → PS → Prop} (C : CX p s m args meth c cX11_sharesIt 3 RX11 (some .int) D cA z0) : ∀ (S : PS) (a0 : Nat) (x1 : Int32) (H : Heap) (locs : List Loc) (ls : Array Slot), wq_X11_sharesIt_17 N K S a0 x1 → XV D cA z0 s S H locs → lv_has ls 3 [(0, .ref a0), (1, .int x1)] → W p l e (rmd 3 0 0) s m args below meth c H locs 0 0 (MQ below (va_Qi K (XK D cA z0) (zA z0)) args s 0 0 (zA z0)) (F0 m 17 ls []) := by
  obtain ⟨hx, hb, hml, hown, hts, hK, hz, hlk, hr⟩ := id C
  intro S a0 x1 H locs ls hM hV hl
  unfold wq_X11_sharesIt_17 at hM
  refine lv_aload_n hx hb dX11_sharesIt_17 rfl (lv_at hl 0 rfl) ?_
  refine lv_bipush (v := 20) hx hb dX11_sharesIt_18 (by decide) ?_
  have hk3 := hM.1
  have hM := hM.2
  refine x_cv hV (x_runV (As := [.int 20]) (rest := []) C hV mi_X11_body wl_X11_409 hk3 (c_X11_body hM) ⟨by decide, by decide⟩ rfl hl.1 (Nat.le_of_ble_eq_true rfl) dX11_sharesIt_20 ⟨Nat.zero_le _, Nat.zero_le _⟩) (fun S4 H locs hV hM => ?_)
  refine lv_aload_n hx hb dX11_sharesIt_23 rfl (lv_at hl 0 rfl) ?_
  refine lv_iload_n hx hb dX11_sharesIt_24 rfl (lv_at hl 1 rfl) ?_
  have hk6 := hM.1
  have hM := hM.2
  refine x_ci hV (x_runV (As := [.int x1]) (rest := []) C hV mi_X11_plainShares wl_X11_418 hk6 (c_X11_plainShares hM) ⟨by decide, by decide⟩ rfl hl.1 (Nat.le_of_ble_eq_true rfl) dX11_sharesIt_25 ⟨Nat.zero_le _, Nat.zero_le _⟩) (fun r8 S7 H locs hV hM => ?_)
  refine lv_aload_n hx hb dX11_sharesIt_28 rfl (lv_at hl 0 rfl) ?_
  have hk9 := hM.1
  have hM := hM.2
  refine x_getI C hV wf_X11_421 hk9 dX11_sharesIt_29 ?_
  refine lv_isub hx hb dX11_sharesIt_32 ?_
  exact x_iret C hV hM dX11_sharesIt_33
set_option maxHeartbeats 4000000 in
set_option maxRecDepth 100000 in
theorem c_X11_sharesIt {l : Launch} {D : DX} {cA : Nat → ClassId} {z0 N : Nat} {S : PS} {a0 : Nat} {x1 : Int32} {K : Int32 → PS → Prop} (hM : wp_X11_sharesIt N S a0 x1 K) : MetI l yX11_sharesIt cX11_sharesIt 3 (some .int) 3 0 0 D cA z0 [.ref a0, .int x1] S K := by
  refine x_met RX11 (by decide) rfl ?_
  intro p e s m below meth c C hin hV
  have hl := lv_entry ([.ref a0, .int x1]) (n := 3) (Nat.le_of_ble_eq_true rfl)
  rw [lg_entry_eq]
  generalize (lg_sl ([.ref a0, .int x1]) ++ List.replicate (3 - (lg_sl ([.ref a0, .int x1])).length) Slot.unset).toArray = ls at hl ⊢
  have hl : lv_has ls 3 [(0, .ref a0), (1, .int x1)] := hl
  obtain ⟨hx, hb, hml, hown, hts, hK, hz, hlk, hr⟩ := id C
  unfold wp_X11_sharesIt at hM
  refine lv_aload_n hx hb dX11_sharesIt_0 rfl (lv_at hl 0 rfl) ?_
  have hk1 := hM.1
  have hM := hM.2
  refine x_getI C hV wf_X11_406 hk1 dX11_sharesIt_1 ?_
  refine lv_iconst (v := 1) hx hb dX11_sharesIt_4 (by decide) ?_
  refine lv_icmp_eq (tgt := 17) hx hb dX11_sharesIt_5 (by decide) (fun c2 => ?_) (fun c2 => ?_)
  · have hM := ite_t c2 hM
    exact tq_X11_sharesIt_17 C _ _ _ _ _ _ hM hV (lv_sub hl [0, 1] rfl)
  have hM := ite_f c2 hM
  refine lv_aload_n hx hb dX11_sharesIt_8 rfl (lv_at hl 0 rfl) ?_
  refine x_getI C hV wf_X11_406 hk1 dX11_sharesIt_9 ?_
  refine lv_bipush (v := 6) hx hb dX11_sharesIt_12 (by decide) ?_
  refine lv_icmp_ne (tgt := 34) hx hb dX11_sharesIt_14 (by decide) (fun c10 => ?_) (fun c10 => ?_)
  · have hM := ite_f c10 hM
    refine lv_aload_n hx hb dX11_sharesIt_34 rfl (lv_at hl 0 rfl) ?_
    refine x_getI C hV wf_X11_406 hk1 dX11_sharesIt_35 ?_
    refine lv_iconst (v := 5) hx hb dX11_sharesIt_38 (by decide) ?_
    refine lv_icmp_ne (tgt := 65) hx hb dX11_sharesIt_39 (by decide) (fun c11 => ?_) (fun c11 => ?_)
    · have hM := ite_f c11 hM
      refine lv_aload_n hx hb dX11_sharesIt_65 rfl (lv_at hl 0 rfl) ?_
      refine lv_iload_n hx hb dX11_sharesIt_66 rfl (lv_at hl 1 rfl) ?_
      refine x_ci hV (x_runV (As := [.int x1]) (rest := []) C hV mi_X11_plainShares wl_X11_418 hk1 (c_X11_plainShares hM) ⟨by decide, by decide⟩ rfl hl.1 (Nat.le_of_ble_eq_true rfl) dX11_sharesIt_67 ⟨Nat.zero_le _, Nat.zero_le _⟩) (fun r13 S12 H locs hV hM => ?_)
      exact x_iret C hV hM dX11_sharesIt_70
    have hM := ite_t c11 hM
    refine lv_aload_n hx hb dX11_sharesIt_42 rfl (lv_at hl 0 rfl) ?_
    refine lv_bipush (v := 60) hx hb dX11_sharesIt_43 (by decide) ?_
    refine x_cv hV (x_runV (As := [.int 60]) (rest := []) C hV mi_X11_body wl_X11_409 hk1 (c_X11_body hM) ⟨by decide, by decide⟩ rfl hl.1 (Nat.le_of_ble_eq_true rfl) dX11_sharesIt_45 ⟨Nat.zero_le _, Nat.zero_le _⟩) (fun S14 H locs hV hM => ?_)
    refine lv_aload_n hx hb dX11_sharesIt_48 rfl (lv_at hl 0 rfl) ?_
    refine lv_iload_n hx hb dX11_sharesIt_49 rfl (lv_at hl 1 rfl) ?_
    have hk16 := hM.1
    have hM := hM.2
    refine x_ci hV (x_runV (As := [.int x1]) (rest := []) C hV mi_X11_plainShares wl_X11_418 hk16 (c_X11_plainShares hM) ⟨by decide, by decide⟩ rfl hl.1 (Nat.le_of_ble_eq_true rfl) dX11_sharesIt_50 ⟨Nat.zero_le _, Nat.zero_le _⟩) (fun r18 S17 H locs hV hM => ?_)
    refine lv_istore_n (lv' := [(2, .int r18), (0, .ref a0), (1, .int x1)]) hx hb dX11_sharesIt_53 rfl hl (by decide) rfl (fun ls hl => ?_)
    refine lv_iload_n hx hb dX11_sharesIt_54 rfl (lv_at hl 0 rfl) ?_
    refine lv_aload_n hx hb dX11_sharesIt_55 rfl (lv_at hl 1 rfl) ?_
    refine lv_aload_n hx hb dX11_sharesIt_56 rfl (lv_at hl 1 rfl) ?_
    have hk19 := hM.1
    have hM := hM.2
    refine x_getI C hV wf_X11_421 hk19 dX11_sharesIt_57 ?_
    refine x_ci hV (x_runV (As := [.int (S17.I 814 a0)]) (rest := [.int r18]) C hV mi_X11_takesIt wl_X11_415 hk19 (c_X11_takesIt hM) ⟨by decide, by decide⟩ rfl hl.1 (Nat.le_of_ble_eq_true rfl) dX11_sharesIt_60 ⟨Nat.zero_le _, Nat.zero_le _⟩) (fun r21 S20 H locs hV hM => ?_)
    refine lv_iadd hx hb dX11_sharesIt_63 ?_
    exact x_iret C hV hM dX11_sharesIt_64
  have hM := ite_t c10 hM
  exact tq_X11_sharesIt_17 C _ _ _ _ _ _ hM hV (lv_sub hl [0, 1] rfl)

def wp_X11_plainTells (N : Nat) (S : PS) (a0 : Nat) (x1 : Int32) (K : Int32 → PS → Prop) : Prop := S.K a0 = 12 ∧ wp_X11_body N S a0 13 (fun S2 => S2.K a0 = 12 ∧ wp_X11_sharesIt N S2 a0 x1 (fun r6 S5 => S5.K a0 = 12 ∧ K (r6 ^^^ (S5.I 814 a0)) S5))
set_option maxHeartbeats 4000000 in
set_option maxRecDepth 100000 in
theorem c_X11_plainTells {l : Launch} {D : DX} {cA : Nat → ClassId} {z0 N : Nat} {S : PS} {a0 : Nat} {x1 : Int32} {K : Int32 → PS → Prop} (hM : wp_X11_plainTells N S a0 x1 K) : MetI l yX11_plainTells cX11_plainTells 2 (some .int) 4 0 0 D cA z0 [.ref a0, .int x1] S K := by
  refine x_met RX11 (by decide) rfl ?_
  intro p e s m below meth c C hin hV
  have hl := lv_entry ([.ref a0, .int x1]) (n := 2) (Nat.le_of_ble_eq_true rfl)
  rw [lg_entry_eq]
  generalize (lg_sl ([.ref a0, .int x1]) ++ List.replicate (2 - (lg_sl ([.ref a0, .int x1])).length) Slot.unset).toArray = ls at hl ⊢
  have hl : lv_has ls 2 [(0, .ref a0), (1, .int x1)] := hl
  obtain ⟨hx, hb, hml, hown, hts, hK, hz, hlk, hr⟩ := id C
  unfold wp_X11_plainTells at hM
  refine lv_aload_n hx hb dX11_plainTells_0 rfl (lv_at hl 0 rfl) ?_
  refine lv_bipush (v := 13) hx hb dX11_plainTells_1 (by decide) ?_
  have hk1 := hM.1
  have hM := hM.2
  refine x_cv hV (x_runV (As := [.int 13]) (rest := []) C hV mi_X11_body wl_X11_409 hk1 (c_X11_body hM) ⟨by decide, by decide⟩ rfl hl.1 (Nat.le_of_ble_eq_true rfl) dX11_plainTells_3 ⟨Nat.zero_le _, Nat.zero_le _⟩) (fun S2 H locs hV hM => ?_)
  refine lv_aload_n hx hb dX11_plainTells_6 rfl (lv_at hl 0 rfl) ?_
  refine lv_iload_n hx hb dX11_plainTells_7 rfl (lv_at hl 1 rfl) ?_
  have hk4 := hM.1
  have hM := hM.2
  refine x_ci hV (x_runV (As := [.int x1]) (rest := []) C hV mi_X11_sharesIt wl_X11_430 hk4 (c_X11_sharesIt hM) ⟨by decide, by decide⟩ rfl hl.1 (Nat.le_of_ble_eq_true rfl) dX11_plainTells_8 ⟨Nat.zero_le _, Nat.zero_le _⟩) (fun r6 S5 H locs hV hM => ?_)
  refine lv_aload_n hx hb dX11_plainTells_11 rfl (lv_at hl 0 rfl) ?_
  have hk7 := hM.1
  have hM := hM.2
  refine x_getI C hV wf_X11_421 hk7 dX11_plainTells_12 ?_
  refine lv_ixor hx hb dX11_plainTells_15 ?_
  exact x_iret C hV hM dX11_plainTells_16

def wp_X11_tellsIt (N : Nat) (S : PS) (a0 : Nat) (x1 : Int32) (K : Int32 → PS → Prop) : Prop := S.K a0 = 12 ∧ if (S.I 812 a0) = 3 then (wp_X11_body N S a0 40 (fun S14 => S14.K a0 = 12 ∧ wp_X11_plainTells N S14 a0 x1 (fun r18 S17 => S17.K a0 = 12 ∧ wp_X11_boundsIt N S17 a0 (S17.I 813 a0) (fun r21 S20 => K (r18 + r21) S20)))) else (if (S.I 812 a0) = 6 then (wp_X11_body N S a0 71 (fun S6 => S6.K a0 = 12 ∧ wp_X11_plainTells N S6 a0 x1 (fun r10 S9 => S9.K a0 = 12 ∧ wp_X11_sharesIt N S9 a0 (S9.I 813 a0) (fun r13 S12 => K (r10 ^^^ r13) S12)))) else (wp_X11_plainTells N S a0 x1 (fun r5 S4 => K r5 S4)))
set_option maxHeartbeats 4000000 in
set_option maxRecDepth 100000 in
theorem c_X11_tellsIt {l : Launch} {D : DX} {cA : Nat → ClassId} {z0 N : Nat} {S : PS} {a0 : Nat} {x1 : Int32} {K : Int32 → PS → Prop} (hM : wp_X11_tellsIt N S a0 x1 K) : MetI l yX11_tellsIt cX11_tellsIt 3 (some .int) 5 0 0 D cA z0 [.ref a0, .int x1] S K := by
  refine x_met RX11 (by decide) rfl ?_
  intro p e s m below meth c C hin hV
  have hl := lv_entry ([.ref a0, .int x1]) (n := 3) (Nat.le_of_ble_eq_true rfl)
  rw [lg_entry_eq]
  generalize (lg_sl ([.ref a0, .int x1]) ++ List.replicate (3 - (lg_sl ([.ref a0, .int x1])).length) Slot.unset).toArray = ls at hl ⊢
  have hl : lv_has ls 3 [(0, .ref a0), (1, .int x1)] := hl
  obtain ⟨hx, hb, hml, hown, hts, hK, hz, hlk, hr⟩ := id C
  unfold wp_X11_tellsIt at hM
  refine lv_aload_n hx hb dX11_tellsIt_0 rfl (lv_at hl 0 rfl) ?_
  have hk1 := hM.1
  have hM := hM.2
  refine x_getI C hV wf_X11_406 hk1 dX11_tellsIt_1 ?_
  refine lv_iconst (v := 3) hx hb dX11_tellsIt_4 (by decide) ?_
  refine lv_icmp_ne (tgt := 31) hx hb dX11_tellsIt_5 (by decide) (fun c2 => ?_) (fun c2 => ?_)
  · have hM := ite_f c2 hM
    refine lv_aload_n hx hb dX11_tellsIt_31 rfl (lv_at hl 0 rfl) ?_
    refine x_getI C hV wf_X11_406 hk1 dX11_tellsIt_32 ?_
    refine lv_bipush (v := 6) hx hb dX11_tellsIt_35 (by decide) ?_
    refine lv_icmp_ne (tgt := 63) hx hb dX11_tellsIt_37 (by decide) (fun c3 => ?_) (fun c3 => ?_)
    · have hM := ite_f c3 hM
      refine lv_aload_n hx hb dX11_tellsIt_63 rfl (lv_at hl 0 rfl) ?_
      refine lv_iload_n hx hb dX11_tellsIt_64 rfl (lv_at hl 1 rfl) ?_
      refine x_ci hV (x_runV (As := [.int x1]) (rest := []) C hV mi_X11_plainTells wl_X11_433 hk1 (c_X11_plainTells hM) ⟨by decide, by decide⟩ rfl hl.1 (Nat.le_of_ble_eq_true rfl) dX11_tellsIt_65 ⟨Nat.zero_le _, Nat.zero_le _⟩) (fun r5 S4 H locs hV hM => ?_)
      exact x_iret C hV hM dX11_tellsIt_68
    have hM := ite_t c3 hM
    refine lv_aload_n hx hb dX11_tellsIt_40 rfl (lv_at hl 0 rfl) ?_
    refine lv_bipush (v := 71) hx hb dX11_tellsIt_41 (by decide) ?_
    refine x_cv hV (x_runV (As := [.int 71]) (rest := []) C hV mi_X11_body wl_X11_409 hk1 (c_X11_body hM) ⟨by decide, by decide⟩ rfl hl.1 (Nat.le_of_ble_eq_true rfl) dX11_tellsIt_43 ⟨Nat.zero_le _, Nat.zero_le _⟩) (fun S6 H locs hV hM => ?_)
    refine lv_aload_n hx hb dX11_tellsIt_46 rfl (lv_at hl 0 rfl) ?_
    refine lv_iload_n hx hb dX11_tellsIt_47 rfl (lv_at hl 1 rfl) ?_
    have hk8 := hM.1
    have hM := hM.2
    refine x_ci hV (x_runV (As := [.int x1]) (rest := []) C hV mi_X11_plainTells wl_X11_433 hk8 (c_X11_plainTells hM) ⟨by decide, by decide⟩ rfl hl.1 (Nat.le_of_ble_eq_true rfl) dX11_tellsIt_48 ⟨Nat.zero_le _, Nat.zero_le _⟩) (fun r10 S9 H locs hV hM => ?_)
    refine lv_istore_n (lv' := [(2, .int r10), (0, .ref a0), (1, .int x1)]) hx hb dX11_tellsIt_51 rfl hl (by decide) rfl (fun ls hl => ?_)
    refine lv_iload_n hx hb dX11_tellsIt_52 rfl (lv_at hl 0 rfl) ?_
    refine lv_aload_n hx hb dX11_tellsIt_53 rfl (lv_at hl 1 rfl) ?_
    refine lv_aload_n hx hb dX11_tellsIt_54 rfl (lv_at hl 1 rfl) ?_
    have hk11 := hM.1
    have hM := hM.2
    refine x_getI C hV wf_X11_412 hk11 dX11_tellsIt_55 ?_
    refine x_ci hV (x_runV (As := [.int (S9.I 813 a0)]) (rest := [.int r10]) C hV mi_X11_sharesIt wl_X11_430 hk11 (c_X11_sharesIt hM) ⟨by decide, by decide⟩ rfl hl.1 (Nat.le_of_ble_eq_true rfl) dX11_tellsIt_58 ⟨Nat.zero_le _, Nat.zero_le _⟩) (fun r13 S12 H locs hV hM => ?_)
    refine lv_ixor hx hb dX11_tellsIt_61 ?_
    exact x_iret C hV hM dX11_tellsIt_62
  have hM := ite_t c2 hM
  refine lv_aload_n hx hb dX11_tellsIt_8 rfl (lv_at hl 0 rfl) ?_
  refine lv_bipush (v := 40) hx hb dX11_tellsIt_9 (by decide) ?_
  refine x_cv hV (x_runV (As := [.int 40]) (rest := []) C hV mi_X11_body wl_X11_409 hk1 (c_X11_body hM) ⟨by decide, by decide⟩ rfl hl.1 (Nat.le_of_ble_eq_true rfl) dX11_tellsIt_11 ⟨Nat.zero_le _, Nat.zero_le _⟩) (fun S14 H locs hV hM => ?_)
  refine lv_aload_n hx hb dX11_tellsIt_14 rfl (lv_at hl 0 rfl) ?_
  refine lv_iload_n hx hb dX11_tellsIt_15 rfl (lv_at hl 1 rfl) ?_
  have hk16 := hM.1
  have hM := hM.2
  refine x_ci hV (x_runV (As := [.int x1]) (rest := []) C hV mi_X11_plainTells wl_X11_433 hk16 (c_X11_plainTells hM) ⟨by decide, by decide⟩ rfl hl.1 (Nat.le_of_ble_eq_true rfl) dX11_tellsIt_16 ⟨Nat.zero_le _, Nat.zero_le _⟩) (fun r18 S17 H locs hV hM => ?_)
  refine lv_istore_n (lv' := [(2, .int r18), (0, .ref a0), (1, .int x1)]) hx hb dX11_tellsIt_19 rfl hl (by decide) rfl (fun ls hl => ?_)
  refine lv_iload_n hx hb dX11_tellsIt_20 rfl (lv_at hl 0 rfl) ?_
  refine lv_aload_n hx hb dX11_tellsIt_21 rfl (lv_at hl 1 rfl) ?_
  refine lv_aload_n hx hb dX11_tellsIt_22 rfl (lv_at hl 1 rfl) ?_
  have hk19 := hM.1
  have hM := hM.2
  refine x_getI C hV wf_X11_412 hk19 dX11_tellsIt_23 ?_
  refine x_ci hV (x_runV (As := [.int (S17.I 813 a0)]) (rest := [.int r18]) C hV mi_X11_boundsIt wl_X11_436 hk19 (c_X11_boundsIt hM) ⟨by decide, by decide⟩ rfl hl.1 (Nat.le_of_ble_eq_true rfl) dX11_tellsIt_26 ⟨Nat.zero_le _, Nat.zero_le _⟩) (fun r21 S20 H locs hV hM => ?_)
  refine lv_iadd hx hb dX11_tellsIt_29 ?_
  exact x_iret C hV hM dX11_tellsIt_30

def wq_X11_act_117 (N : Nat) (K : Int32 → PS → Prop) (S : PS) (a0 : Nat) (t0 : Int32) : Prop := S.K a0 = 12 ∧ if (S.I 817 a0) = 0 then (K t0 S) else (K (-15) S)
def wp_X11_act (N : Nat) (S : PS) (a0 : Nat) (x1 : Int32) (x2 : Int32) (x3 : Int32) (K : Int32 → PS → Prop) : Prop := S.K a0 = 12 ∧ ∀ S2 : PS, S2 = S.setI 816 a0 0 → wp_X11_isShelf N S2 x1 (fun r4 S3 => if r4 = 0 then (K 0 S3) else (wp_X11_in N S3 x2 0 3 (fun r8 S7 => if r8 = 0 then (K 0 S7) else (S7.K a0 = 12 ∧ wp_X11_kindOn N S7 a0 x1 (fun r13 S12 => wp_X11_in N S12 r13 0 6 (fun r15 S14 => if r15 = 0 then (K 0 S14) else (S14.K a0 = 12 ∧ wp_X11_kindOn N S14 a0 x1 (fun r20 S19 => S19.K a0 = 12 ∧ ∀ S22 : PS, S22 = S19.setI 812 a0 r20 → ∃ p24 : Nat, S22.R 810 a0 = some p24 ∧ S22.K p24 = 20 ∧ vp_in x1 (S22.ln p24) ∧ ∀ S27 : PS, S27 = S22.setI 813 a0 (S22.A p24 x1.toNatClampNeg) → wp_X11_its N S27 a0 (S27.I 813 a0) 3 (fun r30 S29 => S29.K a0 = 12 ∧ ∀ S32 : PS, S32 = S29.setI 814 a0 r30 → ∀ S34 : PS, S34 = S32.setI 817 a0 0 → if x2 = 0 then (wp_X11_takesIt N S34 a0 x3 (fun r51 S50 => wq_X11_act_117 N K S50 a0 r51)) else (if x2 = 1 then (wp_X11_sharesIt N S34 a0 x3 (fun r48 S47 => wq_X11_act_117 N K S47 a0 r48)) else (if x2 = 2 then (wp_X11_boundsIt N S34 a0 x3 (fun r45 S44 => wq_X11_act_117 N K S44 a0 r45)) else (wp_X11_tellsIt N S34 a0 x3 (fun r40 S39 => wq_X11_act_117 N K S39 a0 r40)))))))))))))
set_option maxHeartbeats 4000000 in
set_option maxRecDepth 100000 in
theorem tq_X11_act_117 {p : Program} {l : Launch} {e : Env} {s : State} {m : MethodId} {args : Array Value} {below : List Frame} {meth : Method} {c : Code} {D : DX} {cA : Nat → ClassId} {z0 N : Nat} {K : Int32 → PS → Prop} (C : CX p s m args meth c cX11_act 5 RX11 (some .int) D cA z0) : ∀ (S : PS) (a0 : Nat) (t0 : Int32) (H : Heap) (locs : List Loc) (ls : Array Slot), wq_X11_act_117 N K S a0 t0 → XV D cA z0 s S H locs → lv_has ls 5 [(0, .ref a0)] → W p l e (rmd 6 0 0) s m args below meth c H locs 0 0 (MQ below (va_Qi K (XK D cA z0) (zA z0)) args s 0 0 (zA z0)) (F0 m 117 ls [.int t0]) := by
  obtain ⟨hx, hb, hml, hown, hts, hK, hz, hlk, hr⟩ := id C
  intro S a0 t0 H locs ls hM hV hl
  unfold wq_X11_act_117 at hM
  refine lv_istore (lv' := [(4, .int t0), (0, .ref a0)]) hx hb dX11_act_117 hl (by decide) rfl (fun ls hl => ?_)
  refine lv_aload_n hx hb dX11_act_119 rfl (lv_at hl 1 rfl) ?_
  have hk41 := hM.1
  have hM := hM.2
  refine x_getI C hV wf_X11_424 hk41 dX11_act_120 ?_
  refine lv_if_eq (tgt := 131) hx hb dX11_act_123 (by decide) (fun c42 => ?_) (fun c42 => ?_)
  · have hM := ite_t c42 hM
    refine lv_iload hx hb dX11_act_131 (lv_at hl 0 rfl) ?_
    exact x_iret C hV hM dX11_act_133
  have hM := ite_f c42 hM
  refine lv_bipush (v := (-15)) hx hb dX11_act_126 (by decide) ?_
  refine lv_goto (tgt := 133) hx hb dX11_act_128 (by decide) ?_
  exact x_iret C hV hM dX11_act_133
set_option maxHeartbeats 4000000 in
set_option maxRecDepth 100000 in
theorem c_X11_act {l : Launch} {D : DX} {cA : Nat → ClassId} {z0 N : Nat} {S : PS} {a0 : Nat} {x1 : Int32} {x2 : Int32} {x3 : Int32} {K : Int32 → PS → Prop} (hM : wp_X11_act N S a0 x1 x2 x3 K) : MetI l yX11_act cX11_act 5 (some .int) 6 0 0 D cA z0 [.ref a0, .int x1, .int x2, .int x3] S K := by
  refine x_met RX11 (by decide) rfl ?_
  intro p e s m below meth c C hin hV
  have hl := lv_entry ([.ref a0, .int x1, .int x2, .int x3]) (n := 5) (Nat.le_of_ble_eq_true rfl)
  rw [lg_entry_eq]
  generalize (lg_sl ([.ref a0, .int x1, .int x2, .int x3]) ++ List.replicate (5 - (lg_sl ([.ref a0, .int x1, .int x2, .int x3])).length) Slot.unset).toArray = ls at hl ⊢
  have hl : lv_has ls 5 [(0, .ref a0), (1, .int x1), (2, .int x2), (3, .int x3)] := hl
  obtain ⟨hx, hb, hml, hown, hts, hK, hz, hlk, hr⟩ := id C
  unfold wp_X11_act at hM
  refine lv_aload_n hx hb dX11_act_0 rfl (lv_at hl 0 rfl) ?_
  refine lv_iconst (v := 0) hx hb dX11_act_1 (by decide) ?_
  have hk1 := hM.1
  have hM := hM.2
  obtain ⟨S2, eS2⟩ : ∃ z : PS, z = S.setI 816 a0 0 := ⟨_, rfl⟩
  have hM := hM S2 eS2
  refine x_putI C hV wp_X11_403 hk1 ⟨rfl, rfl⟩ eS2 dX11_act_2 (fun H locs hV => ?_)
  refine lv_iload_n hx hb dX11_act_5 rfl (lv_at hl 1 rfl) ?_
  refine x_ci hV (x_runS (As := [.int x1]) (rest := []) C hV ms_X11_isShelf wl_X11_388 (c_X11_isShelf hM) ⟨by decide, by decide⟩ rfl hl.1 (Nat.le_of_ble_eq_true rfl) dX11_act_6 ⟨Nat.zero_le _, Nat.zero_le _⟩) (fun r4 S3 H locs hV hM => ?_)
  have hz5 := hM.1
  have hM := hM.2
  refine lv_if_eq (tgt := 35) hx hb dX11_act_9 (by decide) (fun c6 => ?_) (fun c6 => ?_)
  · have hM := ite_t c6 hM
    refine lv_iconst (v := 0) hx hb dX11_act_35 (by decide) ?_
    exact x_iret C hV hM dX11_act_36
  have hM := ite_f c6 hM
  refine lv_iload_n hx hb dX11_act_12 rfl (lv_at hl 2 rfl) ?_
  refine lv_iconst (v := 0) hx hb dX11_act_13 (by decide) ?_
  refine lv_iconst (v := 3) hx hb dX11_act_14 (by decide) ?_
  refine x_ci hV (x_runS (As := [.int x2, .int 0, .int 3]) (rest := []) C hV ms_X11_in wl_X11_87 (c_X11_in hM) ⟨by decide, by decide⟩ rfl hl.1 (Nat.le_of_ble_eq_true rfl) dX11_act_15 ⟨Nat.zero_le _, Nat.zero_le _⟩) (fun r8 S7 H locs hV hM => ?_)
  have hz9 := hM.1
  have hM := hM.2
  refine lv_if_eq (tgt := 35) hx hb dX11_act_18 (by decide) (fun c10 => ?_) (fun c10 => ?_)
  · have hM := ite_t c10 hM
    refine lv_iconst (v := 0) hx hb dX11_act_35 (by decide) ?_
    exact x_iret C hV hM dX11_act_36
  have hM := ite_f c10 hM
  refine lv_aload_n hx hb dX11_act_21 rfl (lv_at hl 0 rfl) ?_
  refine lv_iload_n hx hb dX11_act_22 rfl (lv_at hl 1 rfl) ?_
  have hk11 := hM.1
  have hM := hM.2
  refine x_ci hV (x_runV (As := [.int x1]) (rest := []) C hV mi_X11_kindOn wl_X11_397 hk11 (c_X11_kindOn hM) ⟨by decide, by decide⟩ rfl hl.1 (Nat.le_of_ble_eq_true rfl) dX11_act_23 ⟨Nat.zero_le _, Nat.zero_le _⟩) (fun r13 S12 H locs hV hM => ?_)
  refine lv_iconst (v := 0) hx hb dX11_act_26 (by decide) ?_
  refine lv_bipush (v := 6) hx hb dX11_act_27 (by decide) ?_
  refine x_ci hV (x_runS (As := [.int r13, .int 0, .int 6]) (rest := []) C hV ms_X11_in wl_X11_87 (c_X11_in hM) ⟨by decide, by decide⟩ rfl hl.1 (Nat.le_of_ble_eq_true rfl) dX11_act_29 ⟨Nat.zero_le _, Nat.zero_le _⟩) (fun r15 S14 H locs hV hM => ?_)
  have hz16 := hM.1
  have hM := hM.2
  refine lv_if_ne (tgt := 37) hx hb dX11_act_32 (by decide) (fun c17 => ?_) (fun c17 => ?_)
  · have hM := ite_f c17 hM
    refine lv_aload_n hx hb dX11_act_37 rfl (lv_at hl 0 rfl) ?_
    refine lv_aload_n hx hb dX11_act_38 rfl (lv_at hl 0 rfl) ?_
    refine lv_iload_n hx hb dX11_act_39 rfl (lv_at hl 1 rfl) ?_
    have hk18 := hM.1
    have hM := hM.2
    refine x_ci hV (x_runV (As := [.int x1]) (rest := [.ref a0]) C hV mi_X11_kindOn wl_X11_397 hk18 (c_X11_kindOn hM) ⟨by decide, by decide⟩ rfl hl.1 (Nat.le_of_ble_eq_true rfl) dX11_act_40 ⟨Nat.zero_le _, Nat.zero_le _⟩) (fun r20 S19 H locs hV hM => ?_)
    have hk21 := hM.1
    have hM := hM.2
    obtain ⟨S22, eS22⟩ : ∃ z : PS, z = S19.setI 812 a0 r20 := ⟨_, rfl⟩
    have hM := hM S22 eS22
    refine x_putI C hV wp_X11_406 hk21 ⟨rfl, rfl⟩ eS22 dX11_act_43 (fun H locs hV => ?_)
    refine lv_aload_n hx hb dX11_act_46 rfl (lv_at hl 0 rfl) ?_
    refine lv_aload_n hx hb dX11_act_47 rfl (lv_at hl 0 rfl) ?_
    have hk23 := kp_I eS22 hk21
    obtain ⟨p24, hp24, hM⟩ := hM
    refine x_getR C hV wf_X11_69 hk23 hp24 dX11_act_48 ?_
    refine lv_iload_n hx hb dX11_act_51 rfl (lv_at hl 1 rfl) ?_
    have hk25 := hM.1
    have hM := hM.2
    have hi26 := hM.1
    have hM := hM.2
    refine x_iald C hV hk25 hi26 dX11_act_52 ?_
    obtain ⟨S27, eS27⟩ : ∃ z : PS, z = S22.setI 813 a0 (S22.A p24 x1.toNatClampNeg) := ⟨_, rfl⟩
    have hM := hM S27 eS27
    refine x_putI C hV wp_X11_412 hk23 ⟨rfl, rfl⟩ eS27 dX11_act_53 (fun H locs hV => ?_)
    refine lv_aload_n hx hb dX11_act_56 rfl (lv_at hl 0 rfl) ?_
    refine lv_aload_n hx hb dX11_act_57 rfl (lv_at hl 0 rfl) ?_
    refine lv_aload_n hx hb dX11_act_58 rfl (lv_at hl 0 rfl) ?_
    have hk28 := kp_I eS27 hk23
    refine x_getI C hV wf_X11_412 hk28 dX11_act_59 ?_
    refine lv_iconst (v := 3) hx hb dX11_act_62 (by decide) ?_
    refine x_ci hV (x_runV (As := [.int (S27.I 813 a0), .int 3]) (rest := [.ref a0]) C hV mi_X11_its wl_X11_94 hk28 (c_X11_its hM) ⟨by decide, by decide⟩ rfl hl.1 (Nat.le_of_ble_eq_true rfl) dX11_act_63 ⟨Nat.zero_le _, Nat.zero_le _⟩) (fun r30 S29 H locs hV hM => ?_)
    have hk31 := hM.1
    have hM := hM.2
    obtain ⟨S32, eS32⟩ : ∃ z : PS, z = S29.setI 814 a0 r30 := ⟨_, rfl⟩
    have hM := hM S32 eS32
    refine x_putI C hV wp_X11_421 hk31 ⟨rfl, rfl⟩ eS32 dX11_act_66 (fun H locs hV => ?_)
    refine lv_aload_n hx hb dX11_act_69 rfl (lv_at hl 0 rfl) ?_
    refine lv_iconst (v := 0) hx hb dX11_act_70 (by decide) ?_
    have hk33 := kp_I eS32 hk31
    obtain ⟨S34, eS34⟩ : ∃ z : PS, z = S32.setI 817 a0 0 := ⟨_, rfl⟩
    have hM := hM S34 eS34
    refine x_putI C hV wp_X11_424 hk33 (nz_b (by decide)) eS34 dX11_act_71 (fun H locs hV => ?_)
    refine lv_iload_n hx hb dX11_act_74 rfl (lv_at hl 2 rfl) ?_
    refine lv_if_ne (tgt := 86) hx hb dX11_act_75 (by decide) (fun c35 => ?_) (fun c35 => ?_)
    · have hM := ite_f c35 hM
      refine lv_iload_n hx hb dX11_act_86 rfl (lv_at hl 2 rfl) ?_
      refine lv_iconst (v := 1) hx hb dX11_act_87 (by decide) ?_
      refine lv_icmp_ne (tgt := 99) hx hb dX11_act_88 (by decide) (fun c36 => ?_) (fun c36 => ?_)
      · have hM := ite_f c36 hM
        refine lv_iload_n hx hb dX11_act_99 rfl (lv_at hl 2 rfl) ?_
        refine lv_iconst (v := 2) hx hb dX11_act_100 (by decide) ?_
        refine lv_icmp_ne (tgt := 112) hx hb dX11_act_101 (by decide) (fun c37 => ?_) (fun c37 => ?_)
        · have hM := ite_f c37 hM
          refine lv_aload_n hx hb dX11_act_112 rfl (lv_at hl 0 rfl) ?_
          refine lv_iload_n hx hb dX11_act_113 rfl (lv_at hl 3 rfl) ?_
          have hk38 := kp_I eS34 hk33
          refine x_ci hV (x_runV (As := [.int x3]) (rest := []) C hV mi_X11_tellsIt wl_X11_439 hk38 (c_X11_tellsIt hM) ⟨by decide, by decide⟩ rfl hl.1 (Nat.le_of_ble_eq_true rfl) dX11_act_114 ⟨Nat.zero_le _, Nat.zero_le _⟩) (fun r40 S39 H locs hV hM => ?_)
          exact tq_X11_act_117 C _ _ _ _ _ _ hM hV (lv_sub hl [0] rfl)
        have hM := ite_t c37 hM
        refine lv_aload_n hx hb dX11_act_104 rfl (lv_at hl 0 rfl) ?_
        refine lv_iload_n hx hb dX11_act_105 rfl (lv_at hl 3 rfl) ?_
        have hk43 := kp_I eS34 hk33
        refine x_ci hV (x_runV (As := [.int x3]) (rest := []) C hV mi_X11_boundsIt wl_X11_436 hk43 (c_X11_boundsIt hM) ⟨by decide, by decide⟩ rfl hl.1 (Nat.le_of_ble_eq_true rfl) dX11_act_106 ⟨Nat.zero_le _, Nat.zero_le _⟩) (fun r45 S44 H locs hV hM => ?_)
        refine lv_goto (tgt := 117) hx hb dX11_act_109 (by decide) ?_
        exact tq_X11_act_117 C _ _ _ _ _ _ hM hV (lv_sub hl [0] rfl)
      have hM := ite_t c36 hM
      refine lv_aload_n hx hb dX11_act_91 rfl (lv_at hl 0 rfl) ?_
      refine lv_iload_n hx hb dX11_act_92 rfl (lv_at hl 3 rfl) ?_
      have hk46 := kp_I eS34 hk33
      refine x_ci hV (x_runV (As := [.int x3]) (rest := []) C hV mi_X11_sharesIt wl_X11_430 hk46 (c_X11_sharesIt hM) ⟨by decide, by decide⟩ rfl hl.1 (Nat.le_of_ble_eq_true rfl) dX11_act_93 ⟨Nat.zero_le _, Nat.zero_le _⟩) (fun r48 S47 H locs hV hM => ?_)
      refine lv_goto (tgt := 117) hx hb dX11_act_96 (by decide) ?_
      exact tq_X11_act_117 C _ _ _ _ _ _ hM hV (lv_sub hl [0] rfl)
    have hM := ite_t c35 hM
    refine lv_aload_n hx hb dX11_act_78 rfl (lv_at hl 0 rfl) ?_
    refine lv_iload_n hx hb dX11_act_79 rfl (lv_at hl 3 rfl) ?_
    have hk49 := kp_I eS34 hk33
    refine x_ci hV (x_runV (As := [.int x3]) (rest := []) C hV mi_X11_takesIt wl_X11_415 hk49 (c_X11_takesIt hM) ⟨by decide, by decide⟩ rfl hl.1 (Nat.le_of_ble_eq_true rfl) dX11_act_80 ⟨Nat.zero_le _, Nat.zero_le _⟩) (fun r51 S50 H locs hV hM => ?_)
    refine lv_goto (tgt := 117) hx hb dX11_act_83 (by decide) ?_
    exact tq_X11_act_117 C _ _ _ _ _ _ hM hV (lv_sub hl [0] rfl)
  have hM := ite_t c17 hM
  refine lv_iconst (v := 0) hx hb dX11_act_35 (by decide) ?_
  exact x_iret C hV hM dX11_act_36

def wp_X11_addRun (N : Nat) (S : PS) (a0 : Nat) (x1 : Int32) (x2 : Int32) (x3 : Int32) (K : Int32 → PS → Prop) : Prop := S.K a0 = 12 ∧ if (S.I 774 a0) = 40 then (K (-2) S) else (∃ p3 : Nat, S.R 775 a0 = some p3 ∧ S.K p3 = 20 ∧ vp_in (3 * (S.I 774 a0)) (S.ln p3) ∧ ∀ S6 : PS, S6 = S.setA p3 (3 * (S.I 774 a0)).toNatClampNeg x1 → ∃ p8 : Nat, S6.R 775 a0 = some p8 ∧ S6.K p8 = 20 ∧ vp_in ((3 * (S6.I 774 a0)) + 1) (S6.ln p8) ∧ ∀ S11 : PS, S11 = S6.setA p8 ((3 * (S6.I 774 a0)) + 1).toNatClampNeg x2 → ∃ p13 : Nat, S11.R 775 a0 = some p13 ∧ S11.K p13 = 20 ∧ vp_in ((3 * (S11.I 774 a0)) + 2) (S11.ln p13) ∧ ∀ S16 : PS, S16 = S11.setA p13 ((3 * (S11.I 774 a0)) + 2).toNatClampNeg x3 → ∀ S18 : PS, S18 = S16.setI 774 a0 ((S16.I 774 a0) + 1) → K ((S18.I 774 a0) - 1) S18)
set_option maxHeartbeats 4000000 in
set_option maxRecDepth 100000 in
theorem c_X11_addRun {l : Launch} {D : DX} {cA : Nat → ClassId} {z0 N : Nat} {S : PS} {a0 : Nat} {x1 : Int32} {x2 : Int32} {x3 : Int32} {K : Int32 → PS → Prop} (hM : wp_X11_addRun N S a0 x1 x2 x3 K) : MetI l yX11_addRun cX11_addRun 4 (some .int) 0 0 0 D cA z0 [.ref a0, .int x1, .int x2, .int x3] S K := by
  refine x_met RX11 (by decide) rfl ?_
  intro p e s m below meth c C hin hV
  have hl := lv_entry ([.ref a0, .int x1, .int x2, .int x3]) (n := 4) (Nat.le_of_ble_eq_true rfl)
  rw [lg_entry_eq]
  generalize (lg_sl ([.ref a0, .int x1, .int x2, .int x3]) ++ List.replicate (4 - (lg_sl ([.ref a0, .int x1, .int x2, .int x3])).length) Slot.unset).toArray = ls at hl ⊢
  have hl : lv_has ls 4 [(0, .ref a0), (1, .int x1), (2, .int x2), (3, .int x3)] := hl
  obtain ⟨hx, hb, hml, hown, hts, hK, hz, hlk, hr⟩ := id C
  unfold wp_X11_addRun at hM
  refine lv_aload_n hx hb dX11_addRun_0 rfl (lv_at hl 0 rfl) ?_
  have hk1 := hM.1
  have hM := hM.2
  refine x_getI C hV wf_X11_116 hk1 dX11_addRun_1 ?_
  refine lv_bipush (v := 40) hx hb dX11_addRun_4 (by decide) ?_
  refine lv_icmp_ne (tgt := 12) hx hb dX11_addRun_6 (by decide) (fun c2 => ?_) (fun c2 => ?_)
  · have hM := ite_f c2 hM
    refine lv_aload_n hx hb dX11_addRun_12 rfl (lv_at hl 0 rfl) ?_
    obtain ⟨p3, hp3, hM⟩ := hM
    refine x_getR C hV wf_X11_17 hk1 hp3 dX11_addRun_13 ?_
    refine lv_iconst (v := 3) hx hb dX11_addRun_16 (by decide) ?_
    refine lv_aload_n hx hb dX11_addRun_17 rfl (lv_at hl 0 rfl) ?_
    refine x_getI C hV wf_X11_116 hk1 dX11_addRun_18 ?_
    refine lv_imul hx hb dX11_addRun_21 ?_
    refine lv_iload_n hx hb dX11_addRun_22 rfl (lv_at hl 1 rfl) ?_
    have hk4 := hM.1
    have hM := hM.2
    have hi5 := hM.1
    have hM := hM.2
    obtain ⟨S6, eS6⟩ : ∃ z : PS, z = S.setA p3 (3 * (S.I 774 a0)).toNatClampNeg x1 := ⟨_, rfl⟩
    have hM := hM S6 eS6
    refine x_iast C hV hk4 hi5 eS6 dX11_addRun_23 (fun H locs hV => ?_)
    refine lv_aload_n hx hb dX11_addRun_24 rfl (lv_at hl 0 rfl) ?_
    have hk7 := kp_A eS6 hk1
    obtain ⟨p8, hp8, hM⟩ := hM
    refine x_getR C hV wf_X11_17 hk7 hp8 dX11_addRun_25 ?_
    refine lv_iconst (v := 3) hx hb dX11_addRun_28 (by decide) ?_
    refine lv_aload_n hx hb dX11_addRun_29 rfl (lv_at hl 0 rfl) ?_
    refine x_getI C hV wf_X11_116 hk7 dX11_addRun_30 ?_
    refine lv_imul hx hb dX11_addRun_33 ?_
    refine lv_iconst (v := 1) hx hb dX11_addRun_34 (by decide) ?_
    refine lv_iadd hx hb dX11_addRun_35 ?_
    refine lv_iload_n hx hb dX11_addRun_36 rfl (lv_at hl 2 rfl) ?_
    have hk9 := hM.1
    have hM := hM.2
    have hi10 := hM.1
    have hM := hM.2
    obtain ⟨S11, eS11⟩ : ∃ z : PS, z = S6.setA p8 ((3 * (S6.I 774 a0)) + 1).toNatClampNeg x2 := ⟨_, rfl⟩
    have hM := hM S11 eS11
    refine x_iast C hV hk9 hi10 eS11 dX11_addRun_37 (fun H locs hV => ?_)
    refine lv_aload_n hx hb dX11_addRun_38 rfl (lv_at hl 0 rfl) ?_
    have hk12 := kp_A eS11 hk7
    obtain ⟨p13, hp13, hM⟩ := hM
    refine x_getR C hV wf_X11_17 hk12 hp13 dX11_addRun_39 ?_
    refine lv_iconst (v := 3) hx hb dX11_addRun_42 (by decide) ?_
    refine lv_aload_n hx hb dX11_addRun_43 rfl (lv_at hl 0 rfl) ?_
    refine x_getI C hV wf_X11_116 hk12 dX11_addRun_44 ?_
    refine lv_imul hx hb dX11_addRun_47 ?_
    refine lv_iconst (v := 2) hx hb dX11_addRun_48 (by decide) ?_
    refine lv_iadd hx hb dX11_addRun_49 ?_
    refine lv_iload_n hx hb dX11_addRun_50 rfl (lv_at hl 3 rfl) ?_
    have hk14 := hM.1
    have hM := hM.2
    have hi15 := hM.1
    have hM := hM.2
    obtain ⟨S16, eS16⟩ : ∃ z : PS, z = S11.setA p13 ((3 * (S11.I 774 a0)) + 2).toNatClampNeg x3 := ⟨_, rfl⟩
    have hM := hM S16 eS16
    refine x_iast C hV hk14 hi15 eS16 dX11_addRun_51 (fun H locs hV => ?_)
    refine lv_aload_n hx hb dX11_addRun_52 rfl (lv_at hl 0 rfl) ?_
    refine lv_dup hx hb dX11_addRun_53 rfl ?_
    have hk17 := kp_A eS16 hk12
    refine x_getI C hV wf_X11_116 hk17 dX11_addRun_54 ?_
    refine lv_iconst (v := 1) hx hb dX11_addRun_57 (by decide) ?_
    refine lv_iadd hx hb dX11_addRun_58 ?_
    obtain ⟨S18, eS18⟩ : ∃ z : PS, z = S16.setI 774 a0 ((S16.I 774 a0) + 1) := ⟨_, rfl⟩
    have hM := hM S18 eS18
    refine x_putI C hV wp_X11_116 hk17 ⟨rfl, rfl⟩ eS18 dX11_addRun_59 (fun H locs hV => ?_)
    refine lv_aload_n hx hb dX11_addRun_62 rfl (lv_at hl 0 rfl) ?_
    have hk19 := kp_I eS18 hk17
    refine x_getI C hV wf_X11_116 hk19 dX11_addRun_63 ?_
    refine lv_iconst (v := 1) hx hb dX11_addRun_66 (by decide) ?_
    refine lv_isub hx hb dX11_addRun_67 ?_
    exact x_iret C hV hM dX11_addRun_68
  have hM := ite_t c2 hM
  refine lv_bipush (v := (-2)) hx hb dX11_addRun_9 (by decide) ?_
  exact x_iret C hV hM dX11_addRun_11

def wp_X11_byteAt (N : Nat) (S : PS) (a0 : Nat) (x1 : Int32) (K : Int32 → PS → Prop) : Prop := S.K a0 = 12 ∧ if (S.I 782 a0) ≤ x1 then (K (-1) S) else (∃ p3 : Nat, S.R 781 a0 = some p3 ∧ S.K p3 = 20 ∧ vp_in x1 (S.ln p3) ∧ K (S.A p3 x1.toNatClampNeg) S)
set_option maxHeartbeats 4000000 in
set_option maxRecDepth 100000 in
theorem c_X11_byteAt {l : Launch} {D : DX} {cA : Nat → ClassId} {z0 N : Nat} {S : PS} {a0 : Nat} {x1 : Int32} {K : Int32 → PS → Prop} (hM : wp_X11_byteAt N S a0 x1 K) : MetI l yX11_byteAt cX11_byteAt 2 (some .int) 0 0 0 D cA z0 [.ref a0, .int x1] S K := by
  refine x_met RX11 (by decide) rfl ?_
  intro p e s m below meth c C hin hV
  have hl := lv_entry ([.ref a0, .int x1]) (n := 2) (Nat.le_of_ble_eq_true rfl)
  rw [lg_entry_eq]
  generalize (lg_sl ([.ref a0, .int x1]) ++ List.replicate (2 - (lg_sl ([.ref a0, .int x1])).length) Slot.unset).toArray = ls at hl ⊢
  have hl : lv_has ls 2 [(0, .ref a0), (1, .int x1)] := hl
  obtain ⟨hx, hb, hml, hown, hts, hK, hz, hlk, hr⟩ := id C
  unfold wp_X11_byteAt at hM
  refine lv_iload_n hx hb dX11_byteAt_0 rfl (lv_at hl 1 rfl) ?_
  refine lv_aload_n hx hb dX11_byteAt_1 rfl (lv_at hl 0 rfl) ?_
  have hk1 := hM.1
  have hM := hM.2
  refine x_getI C hV wf_X11_137 hk1 dX11_byteAt_2 ?_
  refine lv_icmp_ge (tgt := 17) hx hb dX11_byteAt_5 (by decide) (fun c2 => ?_) (fun c2 => ?_)
  · have hM := ite_t c2 hM
    refine lv_iconst (v := (-1)) hx hb dX11_byteAt_17 (by decide) ?_
    exact x_iret C hV hM dX11_byteAt_18
  have hM := ite_f c2 hM
  refine lv_aload_n hx hb dX11_byteAt_8 rfl (lv_at hl 0 rfl) ?_
  obtain ⟨p3, hp3, hM⟩ := hM
  refine x_getR C hV wf_X11_29 hk1 hp3 dX11_byteAt_9 ?_
  refine lv_iload_n hx hb dX11_byteAt_12 rfl (lv_at hl 1 rfl) ?_
  have hk4 := hM.1
  have hM := hM.2
  have hi5 := hM.1
  have hM := hM.2
  refine x_iald C hV hk4 hi5 dX11_byteAt_13 ?_
  refine lv_goto (tgt := 18) hx hb dX11_byteAt_14 (by decide) ?_
  exact x_iret C hV hM dX11_byteAt_18

def wp_X11_isDigit (N : Nat) (S : PS) (x0 : Int32) (K : Int32 → PS → Prop) : Prop := wp_X11_in N S x0 48 57 (fun r2 S1 => (r2 = 0 ∨ r2 = 1) ∧ K r2 S1)
set_option maxHeartbeats 4000000 in
set_option maxRecDepth 100000 in
theorem c_X11_isDigit {l : Launch} {D : DX} {cA : Nat → ClassId} {z0 N : Nat} {S : PS} {x0 : Int32} {K : Int32 → PS → Prop} (hM : wp_X11_isDigit N S x0 K) : MetI l yX11_isDigit cX11_isDigit 1 (some .boolean) 1 0 0 D cA z0 [.int x0] S (fun r S => (r = 0 ∨ r = 1) ∧ K r S) := by
  refine x_met RX11 (by decide) rfl ?_
  intro p e s m below meth c C hin hV
  have hl := lv_entry ([.int x0]) (n := 1) (Nat.le_of_ble_eq_true rfl)
  rw [lg_entry_eq]
  generalize (lg_sl ([.int x0]) ++ List.replicate (1 - (lg_sl ([.int x0])).length) Slot.unset).toArray = ls at hl ⊢
  have hl : lv_has ls 1 [(0, .int x0)] := hl
  obtain ⟨hx, hb, hml, hown, hts, hK, hz, hlk, hr⟩ := id C
  unfold wp_X11_isDigit at hM
  refine lv_iload_n hx hb dX11_isDigit_0 rfl (lv_at hl 0 rfl) ?_
  refine lv_bipush (v := 48) hx hb dX11_isDigit_1 (by decide) ?_
  refine lv_bipush (v := 57) hx hb dX11_isDigit_3 (by decide) ?_
  refine x_ci hV (x_runS (As := [.int x0, .int 48, .int 57]) (rest := []) C hV ms_X11_in wl_X11_87 (c_X11_in hM) ⟨by decide, by decide⟩ rfl hl.1 (Nat.le_of_ble_eq_true rfl) dX11_isDigit_5 ⟨Nat.zero_le _, Nat.zero_le _⟩) (fun r2 S1 H locs hV hM => ?_)
  have hz3 := hM.1
  have hM := hM.2
  have hz4 := hM.1
  have hM := hM.2
  exact x_zret C hV hz4 hM dX11_isDigit_8

def wp_X11_isLetter (N : Nat) (S : PS) (x0 : Int32) (K : Int32 → PS → Prop) : Prop := wp_X11_in N S x0 97 122 (fun r2 S1 => (r2 = 0 ∨ r2 = 1) ∧ K r2 S1)
set_option maxHeartbeats 4000000 in
set_option maxRecDepth 100000 in
theorem c_X11_isLetter {l : Launch} {D : DX} {cA : Nat → ClassId} {z0 N : Nat} {S : PS} {x0 : Int32} {K : Int32 → PS → Prop} (hM : wp_X11_isLetter N S x0 K) : MetI l yX11_isLetter cX11_isLetter 1 (some .boolean) 1 0 0 D cA z0 [.int x0] S (fun r S => (r = 0 ∨ r = 1) ∧ K r S) := by
  refine x_met RX11 (by decide) rfl ?_
  intro p e s m below meth c C hin hV
  have hl := lv_entry ([.int x0]) (n := 1) (Nat.le_of_ble_eq_true rfl)
  rw [lg_entry_eq]
  generalize (lg_sl ([.int x0]) ++ List.replicate (1 - (lg_sl ([.int x0])).length) Slot.unset).toArray = ls at hl ⊢
  have hl : lv_has ls 1 [(0, .int x0)] := hl
  obtain ⟨hx, hb, hml, hown, hts, hK, hz, hlk, hr⟩ := id C
  unfold wp_X11_isLetter at hM
  refine lv_iload_n hx hb dX11_isLetter_0 rfl (lv_at hl 0 rfl) ?_
  refine lv_bipush (v := 97) hx hb dX11_isLetter_1 (by decide) ?_
  refine lv_bipush (v := 122) hx hb dX11_isLetter_3 (by decide) ?_
  refine x_ci hV (x_runS (As := [.int x0, .int 97, .int 122]) (rest := []) C hV ms_X11_in wl_X11_87 (c_X11_in hM) ⟨by decide, by decide⟩ rfl hl.1 (Nat.le_of_ble_eq_true rfl) dX11_isLetter_5 ⟨Nat.zero_le _, Nat.zero_le _⟩) (fun r2 S1 H locs hV hM => ?_)
  have hz3 := hM.1
  have hM := hM.2
  have hz4 := hM.1
  have hM := hM.2
  exact x_zret C hV hz4 hM dX11_isLetter_8

def wq_X11_advance_266 (N : Nat) (K : PS → Prop) (k_207 : PS → Nat → Prop) (S : PS) (a0 : Nat) (b0 : Nat) (t1 : Int32) : Prop := S.K b0 = 12 ∧ ∀ S44 : PS, S44 = S.setI 787 b0 t1 → S44.K a0 = 12 ∧ ∀ S46 : PS, S46 = S44.setI 785 a0 ((S44.I 785 a0) + 1) → k_207 S46 a0
def wq_X11_advance_207 (N : Nat) (K : PS → Prop) : Nat → PS → Nat → Prop
  | 0, _, _ => False
  | n + 1, S, a0 => S.K a0 = 12 ∧ if (S.I 783 a0) = 2 then (wp_X11_byteAt N S a0 (S.I 785 a0) (fun r36 S35 => wp_X11_isDigit N S35 r36 (fun r38 S37 => if r38 = 0 then (K S37) else (S37.K a0 = 12 ∧ if 4 ≤ ((S37.I 785 a0) - (S37.I 784 a0)) then (wq_X11_advance_266 N K (fun S a0 => wq_X11_advance_207 N K n S a0) S37 a0 a0 (-1)) else (wp_X11_byteAt N S37 a0 (S37.I 785 a0) (fun r48 S47 => wq_X11_advance_266 N K (fun S a0 => wq_X11_advance_207 N K n S a0) S47 a0 a0 (((10 * (S37.I 787 a0)) + r48) - 48))))))) else (K S)
def wq_X11_advance_191 (N : Nat) (K : PS → Prop) (k_126 : PS → Nat → Prop) (S : PS) (a0 : Nat) (b0 : Nat) (u1 : Int64) : Prop := S.K b0 = 12 ∧ ∀ S58 : PS, S58 = S.setJ 786 b0 u1 → S58.K a0 = 12 ∧ ∀ S60 : PS, S60 = S58.setI 785 a0 ((S58.I 785 a0) + 1) → k_126 S60 a0
def wq_X11_advance_126 (N : Nat) (K : PS → Prop) : Nat → PS → Nat → Prop
  | 0, _, _ => False
  | n + 1, S, a0 => S.K a0 = 12 ∧ if (S.I 783 a0) = 1 then (wp_X11_byteAt N S a0 (S.I 785 a0) (fun r50 S49 => wp_X11_isLetter N S49 r50 (fun r52 S51 => if r52 = 0 then (wq_X11_advance_207 N K N S51 a0) else (S51.K a0 = 12 ∧ if 8 ≤ ((S51.I 785 a0) - (S51.I 784 a0)) then (wq_X11_advance_191 N K (fun S a0 => wq_X11_advance_126 N K n S a0) S51 a0 a0 (-1 : Int64)) else (wp_X11_byteAt N S51 a0 (S51.I 785 a0) (fun r62 S61 => wq_X11_advance_191 N K (fun S a0 => wq_X11_advance_126 N K n S a0) S61 a0 a0 ((((27 : Int64) * (S51.J 786 a0)) + r62.toInt64) - (96 : Int64)))))))) else (wq_X11_advance_207 N K N S a0)
def wq_X11_advance_105 (N : Nat) (K : PS → Prop) (S : PS) (a0 : Nat) (b0 : Nat) (t1 : Int32) : Prop := S.K b0 = 12 ∧ ∀ S28 : PS, S28 = S.setI 787 b0 t1 → S28.K a0 = 12 ∧ if (S28.I 783 a0) = 3 then (∀ S63 : PS, S63 = S28.setI 785 a0 ((S28.I 785 a0) + 1) → wq_X11_advance_126 N K N S63 a0) else (wq_X11_advance_126 N K N S28 a0)
def wq_X11_advance_83 (N : Nat) (K : PS → Prop) (S : PS) (a0 : Nat) (x1 : Int32) (b0 : Nat) (t1 : Int32) : Prop := S.K b0 = 12 ∧ ∀ S22 : PS, S22 = S.setI 783 b0 t1 → S22.K a0 = 12 ∧ ∀ S24 : PS, S24 = S22.setJ 786 a0 (0 : Int64) → if (S24.I 783 a0) = 2 then (wq_X11_advance_105 N K S24 a0 a0 0) else (wq_X11_advance_105 N K S24 a0 a0 x1)
def wq_X11_advance_8 (N : Nat) (K : PS → Prop) : Nat → PS → Nat → Prop
  | 0, _, _ => False
  | n + 1, S, a0 => S.K a0 = 12 ∧ wp_X11_byteAt N S a0 (S.I 784 a0) (fun r5 S4 => if r5 = 32 then (S4.K a0 = 12 ∧ ∀ S65 : PS, S65 = S4.setI 784 a0 ((S4.I 784 a0) + 1) → wq_X11_advance_8 N K n S65 a0) else (S4.K a0 = 12 ∧ ∀ S8 : PS, S8 = S4.setI 785 a0 (S4.I 784 a0) → wp_X11_byteAt N S8 a0 (S8.I 784 a0) (fun r11 S10 => if 0 ≤ r11 then (wp_X11_isLetter N S10 r11 (fun r14 S13 => if r14 = 0 then (wp_X11_isDigit N S13 r11 (fun r18 S17 => if r18 = 0 then (wq_X11_advance_83 N K S17 a0 r11 a0 3) else (wq_X11_advance_83 N K S17 a0 r11 a0 2))) else (wq_X11_advance_83 N K S13 a0 r11 a0 1))) else (wq_X11_advance_83 N K S10 a0 r11 a0 0))))
def wp_X11_advance (N : Nat) (S : PS) (a0 : Nat) (K : PS → Prop) : Prop := S.K a0 = 12 ∧ ∀ S2 : PS, S2 = S.setI 784 a0 (S.I 785 a0) → wq_X11_advance_8 N K N S2 a0
set_option maxHeartbeats 4000000 in
set_option maxRecDepth 100000 in
theorem tq_X11_advance_266 {p : Program} {l : Launch} {e : Env} {s : State} {m : MethodId} {args : Array Value} {below : List Frame} {meth : Method} {c : Code} {D : DX} {cA : Nat → ClassId} {z0 N : Nat} {K : PS → Prop} {k_207 : PS → Nat → Prop} (C : CX p s m args meth c cX11_advance 2 RX11 none D cA z0) (H_207 : ∀ (S : PS) (a0 : Nat) (H : Heap) (locs : List Loc) (ls : Array Slot), k_207 S a0 → XV D cA z0 s S H locs → lv_has ls 2 [(0, .ref a0)] → W p l e (rmd 2 0 0) s m args below meth c H locs 0 0 (MQ below (va_Qv K (XK D cA z0) (zA z0)) args s 0 0 (zA z0)) (F0 m 207 ls [])) : ∀ (S : PS) (a0 : Nat) (b0 : Nat) (t1 : Int32) (H : Heap) (locs : List Loc) (ls : Array Slot), wq_X11_advance_266 N K k_207 S a0 b0 t1 → XV D cA z0 s S H locs → lv_has ls 2 [(0, .ref a0)] → W p l e (rmd 2 0 0) s m args below meth c H locs 0 0 (MQ below (va_Qv K (XK D cA z0) (zA z0)) args s 0 0 (zA z0)) (F0 m 266 ls [.int t1, .ref b0]) := by
  obtain ⟨hx, hb, hml, hown, hts, hK, hz, hlk, hr⟩ := id C
  intro S a0 b0 t1 H locs ls hM hV hl
  unfold wq_X11_advance_266 at hM
  have hk43 := hM.1
  have hM := hM.2
  obtain ⟨S44, eS44⟩ : ∃ z : PS, z = S.setI 787 b0 t1 := ⟨_, rfl⟩
  have hM := hM S44 eS44
  refine x_putI C hV wp_X11_164 hk43 ⟨rfl, rfl⟩ eS44 dX11_advance_266 (fun H locs hV => ?_)
  refine lv_aload_n hx hb dX11_advance_269 rfl (lv_at hl 0 rfl) ?_
  refine lv_dup hx hb dX11_advance_270 rfl ?_
  have hk45 := hM.1
  have hM := hM.2
  refine x_getI C hV wf_X11_142 hk45 dX11_advance_271 ?_
  refine lv_iconst (v := 1) hx hb dX11_advance_274 (by decide) ?_
  refine lv_iadd hx hb dX11_advance_275 ?_
  obtain ⟨S46, eS46⟩ : ∃ z : PS, z = S44.setI 785 a0 ((S44.I 785 a0) + 1) := ⟨_, rfl⟩
  have hM := hM S46 eS46
  refine x_putI C hV wp_X11_142 hk45 ⟨rfl, rfl⟩ eS46 dX11_advance_276 (fun H locs hV => ?_)
  refine lv_goto (tgt := 207) hx hb dX11_advance_279 (by decide) ?_
  exact H_207 _ _ _ _ _ hM hV (lv_sub hl [0] rfl)
set_option maxHeartbeats 4000000 in
set_option maxRecDepth 100000 in
theorem tq_X11_advance_207 {p : Program} {l : Launch} {e : Env} {s : State} {m : MethodId} {args : Array Value} {below : List Frame} {meth : Method} {c : Code} {D : DX} {cA : Nat → ClassId} {z0 N : Nat} {K : PS → Prop} (C : CX p s m args meth c cX11_advance 2 RX11 none D cA z0) : ∀ (n : Nat) (S : PS) (a0 : Nat) (H : Heap) (locs : List Loc) (ls : Array Slot), wq_X11_advance_207 N K n S a0 → XV D cA z0 s S H locs → lv_has ls 2 [(0, .ref a0)] → W p l e (rmd 2 0 0) s m args below meth c H locs 0 0 (MQ below (va_Qv K (XK D cA z0) (zA z0)) args s 0 0 (zA z0)) (F0 m 207 ls []) := by
  obtain ⟨hx, hb, hml, hown, hts, hK, hz, hlk, hr⟩ := id C
  intro n
  induction n with
  | zero => intro S a0 H locs ls hM; exact absurd hM id
  | succ n ih =>
    intro S a0 H locs ls hM hV hl
    rw [wq_X11_advance_207.eq_2] at hM
    refine lv_aload_n hx hb dX11_advance_207 rfl (lv_at hl 0 rfl) ?_
    have hk33 := hM.1
    have hM := hM.2
    refine x_getI C hV wf_X11_157 hk33 dX11_advance_208 ?_
    refine lv_iconst (v := 2) hx hb dX11_advance_211 (by decide) ?_
    refine lv_icmp_ne (tgt := 282) hx hb dX11_advance_212 (by decide) (fun c34 => ?_) (fun c34 => ?_)
    · have hM := ite_f c34 hM
      exact x_vret C hV hM dX11_advance_282
    have hM := ite_t c34 hM
    refine lv_aload_n hx hb dX11_advance_215 rfl (lv_at hl 0 rfl) ?_
    refine lv_aload_n hx hb dX11_advance_216 rfl (lv_at hl 0 rfl) ?_
    refine x_getI C hV wf_X11_142 hk33 dX11_advance_217 ?_
    refine x_ci hV (x_runV (As := [.int (S.I 785 a0)]) (rest := []) C hV mi_X11_byteAt wl_X11_148 hk33 (c_X11_byteAt hM) ⟨by decide, by decide⟩ rfl hl.1 (Nat.le_of_ble_eq_true rfl) dX11_advance_220 ⟨Nat.zero_le _, Nat.zero_le _⟩) (fun r36 S35 H locs hV hM => ?_)
    refine x_ci hV (x_runS (As := [.int r36]) (rest := []) C hV ms_X11_isDigit wl_X11_154 (c_X11_isDigit hM) ⟨by decide, by decide⟩ rfl hl.1 (Nat.le_of_ble_eq_true rfl) dX11_advance_223 ⟨Nat.zero_le _, Nat.zero_le _⟩) (fun r38 S37 H locs hV hM => ?_)
    have hz39 := hM.1
    have hM := hM.2
    refine lv_if_eq (tgt := 282) hx hb dX11_advance_226 (by decide) (fun c40 => ?_) (fun c40 => ?_)
    · have hM := ite_t c40 hM
      exact x_vret C hV hM dX11_advance_282
    have hM := ite_f c40 hM
    refine lv_aload_n hx hb dX11_advance_229 rfl (lv_at hl 0 rfl) ?_
    refine lv_aload_n hx hb dX11_advance_230 rfl (lv_at hl 0 rfl) ?_
    have hk41 := hM.1
    have hM := hM.2
    refine x_getI C hV wf_X11_142 hk41 dX11_advance_231 ?_
    refine lv_aload_n hx hb dX11_advance_234 rfl (lv_at hl 0 rfl) ?_
    refine x_getI C hV wf_X11_145 hk41 dX11_advance_235 ?_
    refine lv_isub hx hb dX11_advance_238 ?_
    refine lv_iconst (v := 4) hx hb dX11_advance_239 (by decide) ?_
    refine lv_icmp_ge (tgt := 265) hx hb dX11_advance_240 (by decide) (fun c42 => ?_) (fun c42 => ?_)
    · have hM := ite_t c42 hM
      refine lv_iconst (v := (-1)) hx hb dX11_advance_265 (by decide) ?_
      exact tq_X11_advance_266 C ih _ _ _ _ _ _ _ hM hV (lv_sub hl [0] rfl)
    have hM := ite_f c42 hM
    refine lv_bipush (v := 10) hx hb dX11_advance_243 (by decide) ?_
    refine lv_aload_n hx hb dX11_advance_245 rfl (lv_at hl 0 rfl) ?_
    refine x_getI C hV wf_X11_164 hk41 dX11_advance_246 ?_
    refine lv_imul hx hb dX11_advance_249 ?_
    refine lv_aload_n hx hb dX11_advance_250 rfl (lv_at hl 0 rfl) ?_
    refine lv_aload_n hx hb dX11_advance_251 rfl (lv_at hl 0 rfl) ?_
    refine x_getI C hV wf_X11_142 hk41 dX11_advance_252 ?_
    refine x_ci hV (x_runV (As := [.int (S37.I 785 a0)]) (rest := [.int (10 * (S37.I 787 a0)), .ref a0]) C hV mi_X11_byteAt wl_X11_148 hk41 (c_X11_byteAt hM) ⟨by decide, by decide⟩ rfl hl.1 (Nat.le_of_ble_eq_true rfl) dX11_advance_255 ⟨Nat.zero_le _, Nat.zero_le _⟩) (fun r48 S47 H locs hV hM => ?_)
    refine lv_iadd hx hb dX11_advance_258 ?_
    refine lv_bipush (v := 48) hx hb dX11_advance_259 (by decide) ?_
    refine lv_isub hx hb dX11_advance_261 ?_
    refine lv_goto (tgt := 266) hx hb dX11_advance_262 (by decide) ?_
    exact tq_X11_advance_266 C ih _ _ _ _ _ _ _ hM hV (lv_sub hl [0] rfl)
set_option maxHeartbeats 4000000 in
set_option maxRecDepth 100000 in
theorem tq_X11_advance_191 {p : Program} {l : Launch} {e : Env} {s : State} {m : MethodId} {args : Array Value} {below : List Frame} {meth : Method} {c : Code} {D : DX} {cA : Nat → ClassId} {z0 N : Nat} {K : PS → Prop} {k_126 : PS → Nat → Prop} (C : CX p s m args meth c cX11_advance 2 RX11 none D cA z0) (H_126 : ∀ (S : PS) (a0 : Nat) (H : Heap) (locs : List Loc) (ls : Array Slot), k_126 S a0 → XV D cA z0 s S H locs → lv_has ls 2 [(0, .ref a0)] → W p l e (rmd 2 0 0) s m args below meth c H locs 0 0 (MQ below (va_Qv K (XK D cA z0) (zA z0)) args s 0 0 (zA z0)) (F0 m 126 ls [])) : ∀ (S : PS) (a0 : Nat) (b0 : Nat) (u1 : Int64) (H : Heap) (locs : List Loc) (ls : Array Slot), wq_X11_advance_191 N K k_126 S a0 b0 u1 → XV D cA z0 s S H locs → lv_has ls 2 [(0, .ref a0)] → W p l e (rmd 2 0 0) s m args below meth c H locs 0 0 (MQ below (va_Qv K (XK D cA z0) (zA z0)) args s 0 0 (zA z0)) (F0 m 191 ls [.long u1, .ref b0]) := by
  obtain ⟨hx, hb, hml, hown, hts, hK, hz, hlk, hr⟩ := id C
  intro S a0 b0 u1 H locs ls hM hV hl
  unfold wq_X11_advance_191 at hM
  have hk57 := hM.1
  have hM := hM.2
  obtain ⟨S58, eS58⟩ : ∃ z : PS, z = S.setJ 786 b0 u1 := ⟨_, rfl⟩
  have hM := hM S58 eS58
  refine x_putJ C hV wp_X11_160 hk57 eS58 dX11_advance_191 (fun H locs hV => ?_)
  refine lv_aload_n hx hb dX11_advance_194 rfl (lv_at hl 0 rfl) ?_
  refine lv_dup hx hb dX11_advance_195 rfl ?_
  have hk59 := hM.1
  have hM := hM.2
  refine x_getI C hV wf_X11_142 hk59 dX11_advance_196 ?_
  refine lv_iconst (v := 1) hx hb dX11_advance_199 (by decide) ?_
  refine lv_iadd hx hb dX11_advance_200 ?_
  obtain ⟨S60, eS60⟩ : ∃ z : PS, z = S58.setI 785 a0 ((S58.I 785 a0) + 1) := ⟨_, rfl⟩
  have hM := hM S60 eS60
  refine x_putI C hV wp_X11_142 hk59 ⟨rfl, rfl⟩ eS60 dX11_advance_201 (fun H locs hV => ?_)
  refine lv_goto (tgt := 126) hx hb dX11_advance_204 (by decide) ?_
  exact H_126 _ _ _ _ _ hM hV (lv_sub hl [0] rfl)
set_option maxHeartbeats 4000000 in
set_option maxRecDepth 100000 in
theorem tq_X11_advance_126 {p : Program} {l : Launch} {e : Env} {s : State} {m : MethodId} {args : Array Value} {below : List Frame} {meth : Method} {c : Code} {D : DX} {cA : Nat → ClassId} {z0 N : Nat} {K : PS → Prop} (C : CX p s m args meth c cX11_advance 2 RX11 none D cA z0) : ∀ (n : Nat) (S : PS) (a0 : Nat) (H : Heap) (locs : List Loc) (ls : Array Slot), wq_X11_advance_126 N K n S a0 → XV D cA z0 s S H locs → lv_has ls 2 [(0, .ref a0)] → W p l e (rmd 2 0 0) s m args below meth c H locs 0 0 (MQ below (va_Qv K (XK D cA z0) (zA z0)) args s 0 0 (zA z0)) (F0 m 126 ls []) := by
  obtain ⟨hx, hb, hml, hown, hts, hK, hz, hlk, hr⟩ := id C
  intro n
  induction n with
  | zero => intro S a0 H locs ls hM; exact absurd hM id
  | succ n ih =>
    intro S a0 H locs ls hM hV hl
    rw [wq_X11_advance_126.eq_2] at hM
    refine lv_aload_n hx hb dX11_advance_126 rfl (lv_at hl 0 rfl) ?_
    have hk31 := hM.1
    have hM := hM.2
    refine x_getI C hV wf_X11_157 hk31 dX11_advance_127 ?_
    refine lv_iconst (v := 1) hx hb dX11_advance_130 (by decide) ?_
    refine lv_icmp_ne (tgt := 207) hx hb dX11_advance_131 (by decide) (fun c32 => ?_) (fun c32 => ?_)
    · have hM := ite_f c32 hM
      exact tq_X11_advance_207 C N _ _ _ _ _ hM hV (lv_sub hl [0] rfl)
    have hM := ite_t c32 hM
    refine lv_aload_n hx hb dX11_advance_134 rfl (lv_at hl 0 rfl) ?_
    refine lv_aload_n hx hb dX11_advance_135 rfl (lv_at hl 0 rfl) ?_
    refine x_getI C hV wf_X11_142 hk31 dX11_advance_136 ?_
    refine x_ci hV (x_runV (As := [.int (S.I 785 a0)]) (rest := []) C hV mi_X11_byteAt wl_X11_148 hk31 (c_X11_byteAt hM) ⟨by decide, by decide⟩ rfl hl.1 (Nat.le_of_ble_eq_true rfl) dX11_advance_139 ⟨Nat.zero_le _, Nat.zero_le _⟩) (fun r50 S49 H locs hV hM => ?_)
    refine x_ci hV (x_runS (As := [.int r50]) (rest := []) C hV ms_X11_isLetter wl_X11_151 (c_X11_isLetter hM) ⟨by decide, by decide⟩ rfl hl.1 (Nat.le_of_ble_eq_true rfl) dX11_advance_142 ⟨Nat.zero_le _, Nat.zero_le _⟩) (fun r52 S51 H locs hV hM => ?_)
    have hz53 := hM.1
    have hM := hM.2
    refine lv_if_eq (tgt := 207) hx hb dX11_advance_145 (by decide) (fun c54 => ?_) (fun c54 => ?_)
    · have hM := ite_t c54 hM
      exact tq_X11_advance_207 C N _ _ _ _ _ hM hV (lv_sub hl [0] rfl)
    have hM := ite_f c54 hM
    refine lv_aload_n hx hb dX11_advance_148 rfl (lv_at hl 0 rfl) ?_
    refine lv_aload_n hx hb dX11_advance_149 rfl (lv_at hl 0 rfl) ?_
    have hk55 := hM.1
    have hM := hM.2
    refine x_getI C hV wf_X11_142 hk55 dX11_advance_150 ?_
    refine lv_aload_n hx hb dX11_advance_153 rfl (lv_at hl 0 rfl) ?_
    refine x_getI C hV wf_X11_145 hk55 dX11_advance_154 ?_
    refine lv_isub hx hb dX11_advance_157 ?_
    refine lv_bipush (v := 8) hx hb dX11_advance_158 (by decide) ?_
    refine lv_icmp_ge (tgt := 188) hx hb dX11_advance_160 (by decide) (fun c56 => ?_) (fun c56 => ?_)
    · have hM := ite_t c56 hM
      refine lv_ldc2 hx hb hown (hts _ wc_X11_171) dX11_advance_188 ?_
      exact tq_X11_advance_191 C ih _ _ _ _ _ _ _ hM hV (lv_sub hl [0] rfl)
    have hM := ite_f c56 hM
    refine lv_ldc2 hx hb hown (hts _ wc_X11_167) dX11_advance_163 ?_
    refine lv_aload_n hx hb dX11_advance_166 rfl (lv_at hl 0 rfl) ?_
    refine x_getJ C hV wf_X11_160 hk55 dX11_advance_167 ?_
    refine lv_lmul hx hb dX11_advance_170 ?_
    refine lv_aload_n hx hb dX11_advance_171 rfl (lv_at hl 0 rfl) ?_
    refine lv_aload_n hx hb dX11_advance_172 rfl (lv_at hl 0 rfl) ?_
    refine x_getI C hV wf_X11_142 hk55 dX11_advance_173 ?_
    refine x_ci hV (x_runV (As := [.int (S51.I 785 a0)]) (rest := [.long ((27 : Int64) * (S51.J 786 a0)), .ref a0]) C hV mi_X11_byteAt wl_X11_148 hk55 (c_X11_byteAt hM) ⟨by decide, by decide⟩ rfl hl.1 (Nat.le_of_ble_eq_true rfl) dX11_advance_176 ⟨Nat.zero_le _, Nat.zero_le _⟩) (fun r62 S61 H locs hV hM => ?_)
    refine lv_i2l hx hb dX11_advance_179 rfl ?_
    refine lv_ladd hx hb dX11_advance_180 ?_
    refine lv_ldc2 hx hb hown (hts _ wc_X11_169) dX11_advance_181 ?_
    refine lv_lsub hx hb dX11_advance_184 ?_
    refine lv_goto (tgt := 191) hx hb dX11_advance_185 (by decide) ?_
    exact tq_X11_advance_191 C ih _ _ _ _ _ _ _ hM hV (lv_sub hl [0] rfl)
set_option maxHeartbeats 4000000 in
set_option maxRecDepth 100000 in
theorem tq_X11_advance_105 {p : Program} {l : Launch} {e : Env} {s : State} {m : MethodId} {args : Array Value} {below : List Frame} {meth : Method} {c : Code} {D : DX} {cA : Nat → ClassId} {z0 N : Nat} {K : PS → Prop} (C : CX p s m args meth c cX11_advance 2 RX11 none D cA z0) : ∀ (S : PS) (a0 : Nat) (b0 : Nat) (t1 : Int32) (H : Heap) (locs : List Loc) (ls : Array Slot), wq_X11_advance_105 N K S a0 b0 t1 → XV D cA z0 s S H locs → lv_has ls 2 [(0, .ref a0)] → W p l e (rmd 2 0 0) s m args below meth c H locs 0 0 (MQ below (va_Qv K (XK D cA z0) (zA z0)) args s 0 0 (zA z0)) (F0 m 105 ls [.int t1, .ref b0]) := by
  obtain ⟨hx, hb, hml, hown, hts, hK, hz, hlk, hr⟩ := id C
  intro S a0 b0 t1 H locs ls hM hV hl
  unfold wq_X11_advance_105 at hM
  have hk27 := hM.1
  have hM := hM.2
  obtain ⟨S28, eS28⟩ : ∃ z : PS, z = S.setI 787 b0 t1 := ⟨_, rfl⟩
  have hM := hM S28 eS28
  refine x_putI C hV wp_X11_164 hk27 ⟨rfl, rfl⟩ eS28 dX11_advance_105 (fun H locs hV => ?_)
  refine lv_aload_n hx hb dX11_advance_108 rfl (lv_at hl 0 rfl) ?_
  have hk29 := hM.1
  have hM := hM.2
  refine x_getI C hV wf_X11_157 hk29 dX11_advance_109 ?_
  refine lv_iconst (v := 3) hx hb dX11_advance_112 (by decide) ?_
  refine lv_icmp_ne (tgt := 126) hx hb dX11_advance_113 (by decide) (fun c30 => ?_) (fun c30 => ?_)
  · have hM := ite_f c30 hM
    exact tq_X11_advance_126 C N _ _ _ _ _ hM hV (lv_sub hl [0] rfl)
  have hM := ite_t c30 hM
  refine lv_aload_n hx hb dX11_advance_116 rfl (lv_at hl 0 rfl) ?_
  refine lv_dup hx hb dX11_advance_117 rfl ?_
  refine x_getI C hV wf_X11_142 hk29 dX11_advance_118 ?_
  refine lv_iconst (v := 1) hx hb dX11_advance_121 (by decide) ?_
  refine lv_iadd hx hb dX11_advance_122 ?_
  obtain ⟨S63, eS63⟩ : ∃ z : PS, z = S28.setI 785 a0 ((S28.I 785 a0) + 1) := ⟨_, rfl⟩
  have hM := hM S63 eS63
  refine x_putI C hV wp_X11_142 hk29 ⟨rfl, rfl⟩ eS63 dX11_advance_123 (fun H locs hV => ?_)
  exact tq_X11_advance_126 C N _ _ _ _ _ hM hV (lv_sub hl [0] rfl)
set_option maxHeartbeats 4000000 in
set_option maxRecDepth 100000 in
theorem tq_X11_advance_83 {p : Program} {l : Launch} {e : Env} {s : State} {m : MethodId} {args : Array Value} {below : List Frame} {meth : Method} {c : Code} {D : DX} {cA : Nat → ClassId} {z0 N : Nat} {K : PS → Prop} (C : CX p s m args meth c cX11_advance 2 RX11 none D cA z0) : ∀ (S : PS) (a0 : Nat) (x1 : Int32) (b0 : Nat) (t1 : Int32) (H : Heap) (locs : List Loc) (ls : Array Slot), wq_X11_advance_83 N K S a0 x1 b0 t1 → XV D cA z0 s S H locs → lv_has ls 2 [(0, .ref a0), (1, .int x1)] → W p l e (rmd 2 0 0) s m args below meth c H locs 0 0 (MQ below (va_Qv K (XK D cA z0) (zA z0)) args s 0 0 (zA z0)) (F0 m 83 ls [.int t1, .ref b0]) := by
  obtain ⟨hx, hb, hml, hown, hts, hK, hz, hlk, hr⟩ := id C
  intro S a0 x1 b0 t1 H locs ls hM hV hl
  unfold wq_X11_advance_83 at hM
  have hk21 := hM.1
  have hM := hM.2
  obtain ⟨S22, eS22⟩ : ∃ z : PS, z = S.setI 783 b0 t1 := ⟨_, rfl⟩
  have hM := hM S22 eS22
  refine x_putI C hV wp_X11_157 hk21 ⟨rfl, rfl⟩ eS22 dX11_advance_83 (fun H locs hV => ?_)
  refine lv_aload_n hx hb dX11_advance_86 rfl (lv_at hl 0 rfl) ?_
  refine lv_lconst (v := 0) hx hb dX11_advance_87 (by decide) ?_
  have hk23 := hM.1
  have hM := hM.2
  obtain ⟨S24, eS24⟩ : ∃ z : PS, z = S22.setJ 786 a0 (0 : Int64) := ⟨_, rfl⟩
  have hM := hM S24 eS24
  refine x_putJ C hV wp_X11_160 hk23 eS24 dX11_advance_88 (fun H locs hV => ?_)
  refine lv_aload_n hx hb dX11_advance_91 rfl (lv_at hl 0 rfl) ?_
  refine lv_aload_n hx hb dX11_advance_92 rfl (lv_at hl 0 rfl) ?_
  have hk25 := kp_J eS24 hk23
  refine x_getI C hV wf_X11_157 hk25 dX11_advance_93 ?_
  refine lv_iconst (v := 2) hx hb dX11_advance_96 (by decide) ?_
  refine lv_icmp_ne (tgt := 104) hx hb dX11_advance_97 (by decide) (fun c26 => ?_) (fun c26 => ?_)
  · have hM := ite_f c26 hM
    refine lv_iload_n hx hb dX11_advance_104 rfl (lv_at hl 1 rfl) ?_
    exact tq_X11_advance_105 C _ _ _ _ _ _ _ hM hV (lv_sub hl [0] rfl)
  have hM := ite_t c26 hM
  refine lv_iconst (v := 0) hx hb dX11_advance_100 (by decide) ?_
  refine lv_goto (tgt := 105) hx hb dX11_advance_101 (by decide) ?_
  exact tq_X11_advance_105 C _ _ _ _ _ _ _ hM hV (lv_sub hl [0] rfl)
set_option maxHeartbeats 4000000 in
set_option maxRecDepth 100000 in
theorem tq_X11_advance_8 {p : Program} {l : Launch} {e : Env} {s : State} {m : MethodId} {args : Array Value} {below : List Frame} {meth : Method} {c : Code} {D : DX} {cA : Nat → ClassId} {z0 N : Nat} {K : PS → Prop} (C : CX p s m args meth c cX11_advance 2 RX11 none D cA z0) : ∀ (n : Nat) (S : PS) (a0 : Nat) (H : Heap) (locs : List Loc) (ls : Array Slot), wq_X11_advance_8 N K n S a0 → XV D cA z0 s S H locs → lv_has ls 2 [(0, .ref a0)] → W p l e (rmd 2 0 0) s m args below meth c H locs 0 0 (MQ below (va_Qv K (XK D cA z0) (zA z0)) args s 0 0 (zA z0)) (F0 m 8 ls []) := by
  obtain ⟨hx, hb, hml, hown, hts, hK, hz, hlk, hr⟩ := id C
  intro n
  induction n with
  | zero => intro S a0 H locs ls hM; exact absurd hM id
  | succ n ih =>
    intro S a0 H locs ls hM hV hl
    rw [wq_X11_advance_8.eq_2] at hM
    refine lv_aload_n hx hb dX11_advance_8 rfl (lv_at hl 0 rfl) ?_
    refine lv_aload_n hx hb dX11_advance_9 rfl (lv_at hl 0 rfl) ?_
    have hk3 := hM.1
    have hM := hM.2
    refine x_getI C hV wf_X11_145 hk3 dX11_advance_10 ?_
    refine x_ci hV (x_runV (As := [.int (S.I 784 a0)]) (rest := []) C hV mi_X11_byteAt wl_X11_148 hk3 (c_X11_byteAt hM) ⟨by decide, by decide⟩ rfl hl.1 (Nat.le_of_ble_eq_true rfl) dX11_advance_13 ⟨Nat.zero_le _, Nat.zero_le _⟩) (fun r5 S4 H locs hV hM => ?_)
    refine lv_bipush (v := 32) hx hb dX11_advance_16 (by decide) ?_
    refine lv_icmp_ne (tgt := 34) hx hb dX11_advance_18 (by decide) (fun c6 => ?_) (fun c6 => ?_)
    · have hM := ite_f c6 hM
      refine lv_aload_n hx hb dX11_advance_34 rfl (lv_at hl 0 rfl) ?_
      refine lv_aload_n hx hb dX11_advance_35 rfl (lv_at hl 0 rfl) ?_
      have hk7 := hM.1
      have hM := hM.2
      refine x_getI C hV wf_X11_145 hk7 dX11_advance_36 ?_
      obtain ⟨S8, eS8⟩ : ∃ z : PS, z = S4.setI 785 a0 (S4.I 784 a0) := ⟨_, rfl⟩
      have hM := hM S8 eS8
      refine x_putI C hV wp_X11_142 hk7 ⟨rfl, rfl⟩ eS8 dX11_advance_39 (fun H locs hV => ?_)
      refine lv_aload_n hx hb dX11_advance_42 rfl (lv_at hl 0 rfl) ?_
      refine lv_aload_n hx hb dX11_advance_43 rfl (lv_at hl 0 rfl) ?_
      have hk9 := kp_I eS8 hk7
      refine x_getI C hV wf_X11_145 hk9 dX11_advance_44 ?_
      refine x_ci hV (x_runV (As := [.int (S8.I 784 a0)]) (rest := []) C hV mi_X11_byteAt wl_X11_148 hk9 (c_X11_byteAt hM) ⟨by decide, by decide⟩ rfl hl.1 (Nat.le_of_ble_eq_true rfl) dX11_advance_47 ⟨Nat.zero_le _, Nat.zero_le _⟩) (fun r11 S10 H locs hV hM => ?_)
      refine lv_istore_n (lv' := [(1, .int r11), (0, .ref a0)]) hx hb dX11_advance_50 rfl hl (by decide) rfl (fun ls hl => ?_)
      refine lv_aload_n hx hb dX11_advance_51 rfl (lv_at hl 1 rfl) ?_
      refine lv_iload_n hx hb dX11_advance_52 rfl (lv_at hl 0 rfl) ?_
      refine lv_if_ge (tgt := 60) hx hb dX11_advance_53 (by decide) (fun c12 => ?_) (fun c12 => ?_)
      · have hM := ite_t c12 hM
        refine lv_iload_n hx hb dX11_advance_60 rfl (lv_at hl 0 rfl) ?_
        refine x_ci hV (x_runS (As := [.int r11]) (rest := [.ref a0]) C hV ms_X11_isLetter wl_X11_151 (c_X11_isLetter hM) ⟨by decide, by decide⟩ rfl hl.1 (Nat.le_of_ble_eq_true rfl) dX11_advance_61 ⟨Nat.zero_le _, Nat.zero_le _⟩) (fun r14 S13 H locs hV hM => ?_)
        have hz15 := hM.1
        have hM := hM.2
        refine lv_if_eq (tgt := 71) hx hb dX11_advance_64 (by decide) (fun c16 => ?_) (fun c16 => ?_)
        · have hM := ite_t c16 hM
          refine lv_iload_n hx hb dX11_advance_71 rfl (lv_at hl 0 rfl) ?_
          refine x_ci hV (x_runS (As := [.int r11]) (rest := [.ref a0]) C hV ms_X11_isDigit wl_X11_154 (c_X11_isDigit hM) ⟨by decide, by decide⟩ rfl hl.1 (Nat.le_of_ble_eq_true rfl) dX11_advance_72 ⟨Nat.zero_le _, Nat.zero_le _⟩) (fun r18 S17 H locs hV hM => ?_)
          have hz19 := hM.1
          have hM := hM.2
          refine lv_if_eq (tgt := 82) hx hb dX11_advance_75 (by decide) (fun c20 => ?_) (fun c20 => ?_)
          · have hM := ite_t c20 hM
            refine lv_iconst (v := 3) hx hb dX11_advance_82 (by decide) ?_
            exact tq_X11_advance_83 C _ _ _ _ _ _ _ _ hM hV (lv_sub hl [1, 0] rfl)
          have hM := ite_f c20 hM
          refine lv_iconst (v := 2) hx hb dX11_advance_78 (by decide) ?_
          refine lv_goto (tgt := 83) hx hb dX11_advance_79 (by decide) ?_
          exact tq_X11_advance_83 C _ _ _ _ _ _ _ _ hM hV (lv_sub hl [1, 0] rfl)
        have hM := ite_f c16 hM
        refine lv_iconst (v := 1) hx hb dX11_advance_67 (by decide) ?_
        refine lv_goto (tgt := 83) hx hb dX11_advance_68 (by decide) ?_
        exact tq_X11_advance_83 C _ _ _ _ _ _ _ _ hM hV (lv_sub hl [1, 0] rfl)
      have hM := ite_f c12 hM
      refine lv_iconst (v := 0) hx hb dX11_advance_56 (by decide) ?_
      refine lv_goto (tgt := 83) hx hb dX11_advance_57 (by decide) ?_
      exact tq_X11_advance_83 C _ _ _ _ _ _ _ _ hM hV (lv_sub hl [1, 0] rfl)
    have hM := ite_t c6 hM
    refine lv_aload_n hx hb dX11_advance_21 rfl (lv_at hl 0 rfl) ?_
    refine lv_dup hx hb dX11_advance_22 rfl ?_
    have hk64 := hM.1
    have hM := hM.2
    refine x_getI C hV wf_X11_145 hk64 dX11_advance_23 ?_
    refine lv_iconst (v := 1) hx hb dX11_advance_26 (by decide) ?_
    refine lv_iadd hx hb dX11_advance_27 ?_
    obtain ⟨S65, eS65⟩ : ∃ z : PS, z = S4.setI 784 a0 ((S4.I 784 a0) + 1) := ⟨_, rfl⟩
    have hM := hM S65 eS65
    refine x_putI C hV wp_X11_145 hk64 ⟨rfl, rfl⟩ eS65 dX11_advance_28 (fun H locs hV => ?_)
    refine lv_goto (tgt := 8) hx hb dX11_advance_31 (by decide) ?_
    exact ih _ _ _ _ _ hM hV (lv_sub hl [0] rfl)
set_option maxHeartbeats 4000000 in
set_option maxRecDepth 100000 in
theorem c_X11_advance {l : Launch} {D : DX} {cA : Nat → ClassId} {z0 N : Nat} {S : PS} {a0 : Nat} {K : PS → Prop} (hM : wp_X11_advance N S a0 K) : MetV l yX11_advance cX11_advance 2 none 2 0 0 D cA z0 [.ref a0] S K := by
  refine x_met RX11 (by decide) rfl ?_
  intro p e s m below meth c C hin hV
  have hl := lv_entry ([.ref a0]) (n := 2) (Nat.le_of_ble_eq_true rfl)
  rw [lg_entry_eq]
  generalize (lg_sl ([.ref a0]) ++ List.replicate (2 - (lg_sl ([.ref a0])).length) Slot.unset).toArray = ls at hl ⊢
  have hl : lv_has ls 2 [(0, .ref a0)] := hl
  obtain ⟨hx, hb, hml, hown, hts, hK, hz, hlk, hr⟩ := id C
  unfold wp_X11_advance at hM
  refine lv_aload_n hx hb dX11_advance_0 rfl (lv_at hl 0 rfl) ?_
  refine lv_aload_n hx hb dX11_advance_1 rfl (lv_at hl 0 rfl) ?_
  have hk1 := hM.1
  have hM := hM.2
  refine x_getI C hV wf_X11_142 hk1 dX11_advance_2 ?_
  obtain ⟨S2, eS2⟩ : ∃ z : PS, z = S.setI 784 a0 (S.I 785 a0) := ⟨_, rfl⟩
  have hM := hM S2 eS2
  refine x_putI C hV wp_X11_145 hk1 ⟨rfl, rfl⟩ eS2 dX11_advance_5 (fun H locs hV => ?_)
  exact tq_X11_advance_8 C N _ _ _ _ _ hM hV (lv_sub hl [0] rfl)

def wp_X11_isRow (N : Nat) (S : PS) (a0 : Nat) (x1 : Int32) (x2 : Int32) (K : Int32 → PS → Prop) : Prop := S.K a0 = 12 ∧ wp_X11_in N S x1 0 ((S.I 805 a0) - 1) (fun r3 S2 => if r3 = 0 then (K 0 S2) else (wp_X11_in N S2 x2 0 2 (fun r7 S6 => if r7 = 0 then (K 0 S6) else (K 1 S6))))
set_option maxHeartbeats 4000000 in
set_option maxRecDepth 100000 in
theorem c_X11_isRow {l : Launch} {D : DX} {cA : Nat → ClassId} {z0 N : Nat} {S : PS} {a0 : Nat} {x1 : Int32} {x2 : Int32} {K : Int32 → PS → Prop} (hM : wp_X11_isRow N S a0 x1 x2 K) : MetI l yX11_isRow cX11_isRow 3 (some .boolean) 1 0 0 D cA z0 [.ref a0, .int x1, .int x2] S (fun r S => (r = 0 ∨ r = 1) ∧ K r S) := by
  refine x_met RX11 (by decide) rfl ?_
  intro p e s m below meth c C hin hV
  have hl := lv_entry ([.ref a0, .int x1, .int x2]) (n := 3) (Nat.le_of_ble_eq_true rfl)
  rw [lg_entry_eq]
  generalize (lg_sl ([.ref a0, .int x1, .int x2]) ++ List.replicate (3 - (lg_sl ([.ref a0, .int x1, .int x2])).length) Slot.unset).toArray = ls at hl ⊢
  have hl : lv_has ls 3 [(0, .ref a0), (1, .int x1), (2, .int x2)] := hl
  obtain ⟨hx, hb, hml, hown, hts, hK, hz, hlk, hr⟩ := id C
  unfold wp_X11_isRow at hM
  refine lv_iload_n hx hb dX11_isRow_0 rfl (lv_at hl 1 rfl) ?_
  refine lv_iconst (v := 0) hx hb dX11_isRow_1 (by decide) ?_
  refine lv_aload_n hx hb dX11_isRow_2 rfl (lv_at hl 0 rfl) ?_
  have hk1 := hM.1
  have hM := hM.2
  refine x_getI C hV wf_X11_382 hk1 dX11_isRow_3 ?_
  refine lv_iconst (v := 1) hx hb dX11_isRow_6 (by decide) ?_
  refine lv_isub hx hb dX11_isRow_7 ?_
  refine x_ci hV (x_runS (As := [.int x1, .int 0, .int ((S.I 805 a0) - 1)]) (rest := []) C hV ms_X11_in wl_X11_87 (c_X11_in hM) ⟨by decide, by decide⟩ rfl hl.1 (Nat.le_of_ble_eq_true rfl) dX11_isRow_8 ⟨Nat.zero_le _, Nat.zero_le _⟩) (fun r3 S2 H locs hV hM => ?_)
  have hz4 := hM.1
  have hM := hM.2
  refine lv_if_eq (tgt := 27) hx hb dX11_isRow_11 (by decide) (fun c5 => ?_) (fun c5 => ?_)
  · have hM := ite_t c5 hM
    refine lv_iconst (v := 0) hx hb dX11_isRow_27 (by decide) ?_
    exact x_zret C hV (by decide) hM dX11_isRow_28
  have hM := ite_f c5 hM
  refine lv_iload_n hx hb dX11_isRow_14 rfl (lv_at hl 2 rfl) ?_
  refine lv_iconst (v := 0) hx hb dX11_isRow_15 (by decide) ?_
  refine lv_iconst (v := 2) hx hb dX11_isRow_16 (by decide) ?_
  refine x_ci hV (x_runS (As := [.int x2, .int 0, .int 2]) (rest := []) C hV ms_X11_in wl_X11_87 (c_X11_in hM) ⟨by decide, by decide⟩ rfl hl.1 (Nat.le_of_ble_eq_true rfl) dX11_isRow_17 ⟨Nat.zero_le _, Nat.zero_le _⟩) (fun r7 S6 H locs hV hM => ?_)
  have hz8 := hM.1
  have hM := hM.2
  refine lv_if_eq (tgt := 27) hx hb dX11_isRow_20 (by decide) (fun c9 => ?_) (fun c9 => ?_)
  · have hM := ite_t c9 hM
    refine lv_iconst (v := 0) hx hb dX11_isRow_27 (by decide) ?_
    exact x_zret C hV (by decide) hM dX11_isRow_28
  have hM := ite_f c9 hM
  refine lv_iconst (v := 1) hx hb dX11_isRow_23 (by decide) ?_
  refine lv_goto (tgt := 28) hx hb dX11_isRow_24 (by decide) ?_
  exact x_zret C hV (by decide) hM dX11_isRow_28

def wp_X11_alterRow (N : Nat) (S : PS) (a0 : Nat) (x1 : Int32) (x2 : Int32) (x3 : Int32) (K : Int32 → PS → Prop) : Prop := S.K a0 = 12 ∧ wp_X11_isRow N S a0 x1 x2 (fun r3 S2 => if r3 = 0 then (K (-2147483648) S2) else (S2.K a0 = 12 ∧ ∃ p7 : Nat, S2.R 804 a0 = some p7 ∧ S2.K p7 = 20 ∧ vp_in ((3 * x1) + x2) (S2.ln p7) ∧ ∀ v10 : Int32, v10 = (S2.A p7 ((3 * x1) + x2).toNatClampNeg) → ∃ p11 : Nat, S2.R 804 a0 = some p11 ∧ S2.K p11 = 20 ∧ vp_in ((3 * x1) + x2) (S2.ln p11) ∧ ∀ S14 : PS, S14 = S2.setA p11 ((3 * x1) + x2).toNatClampNeg x3 → K v10 S14))
set_option maxHeartbeats 4000000 in
set_option maxRecDepth 100000 in
theorem c_X11_alterRow {l : Launch} {D : DX} {cA : Nat → ClassId} {z0 N : Nat} {S : PS} {a0 : Nat} {x1 : Int32} {x2 : Int32} {x3 : Int32} {K : Int32 → PS → Prop} (hM : wp_X11_alterRow N S a0 x1 x2 x3 K) : MetI l yX11_alterRow cX11_alterRow 5 (some .int) 2 0 0 D cA z0 [.ref a0, .int x1, .int x2, .int x3] S K := by
  refine x_met RX11 (by decide) rfl ?_
  intro p e s m below meth c C hin hV
  have hl := lv_entry ([.ref a0, .int x1, .int x2, .int x3]) (n := 5) (Nat.le_of_ble_eq_true rfl)
  rw [lg_entry_eq]
  generalize (lg_sl ([.ref a0, .int x1, .int x2, .int x3]) ++ List.replicate (5 - (lg_sl ([.ref a0, .int x1, .int x2, .int x3])).length) Slot.unset).toArray = ls at hl ⊢
  have hl : lv_has ls 5 [(0, .ref a0), (1, .int x1), (2, .int x2), (3, .int x3)] := hl
  obtain ⟨hx, hb, hml, hown, hts, hK, hz, hlk, hr⟩ := id C
  unfold wp_X11_alterRow at hM
  refine lv_aload_n hx hb dX11_alterRow_0 rfl (lv_at hl 0 rfl) ?_
  refine lv_iload_n hx hb dX11_alterRow_1 rfl (lv_at hl 1 rfl) ?_
  refine lv_iload_n hx hb dX11_alterRow_2 rfl (lv_at hl 2 rfl) ?_
  have hk1 := hM.1
  have hM := hM.2
  refine x_ci hV (x_runV (As := [.int x1, .int x2]) (rest := []) C hV mi_X11_isRow wl_X11_385 hk1 (c_X11_isRow hM) ⟨by decide, by decide⟩ rfl hl.1 (Nat.le_of_ble_eq_true rfl) dX11_alterRow_3 ⟨Nat.zero_le _, Nat.zero_le _⟩) (fun r3 S2 H locs hV hM => ?_)
  have hz4 := hM.1
  have hM := hM.2
  refine lv_if_ne (tgt := 12) hx hb dX11_alterRow_6 (by decide) (fun c5 => ?_) (fun c5 => ?_)
  · have hM := ite_f c5 hM
    refine lv_aload_n hx hb dX11_alterRow_12 rfl (lv_at hl 0 rfl) ?_
    have hk6 := hM.1
    have hM := hM.2
    obtain ⟨p7, hp7, hM⟩ := hM
    refine x_getR C hV wf_X11_53 hk6 hp7 dX11_alterRow_13 ?_
    refine lv_iconst (v := 3) hx hb dX11_alterRow_16 (by decide) ?_
    refine lv_iload_n hx hb dX11_alterRow_17 rfl (lv_at hl 1 rfl) ?_
    refine lv_imul hx hb dX11_alterRow_18 ?_
    refine lv_iload_n hx hb dX11_alterRow_19 rfl (lv_at hl 2 rfl) ?_
    refine lv_iadd hx hb dX11_alterRow_20 ?_
    have hk8 := hM.1
    have hM := hM.2
    have hi9 := hM.1
    have hM := hM.2
    refine x_iald C hV hk8 hi9 dX11_alterRow_21 ?_
    refine lv_topi (fun v10 ev10 => ?_)
    have hM := hM v10 ev10
    refine lv_istore (lv' := [(4, .int v10), (0, .ref a0), (1, .int x1), (2, .int x2), (3, .int x3)]) hx hb dX11_alterRow_22 hl (by decide) rfl (fun ls hl => ?_)
    refine lv_aload_n hx hb dX11_alterRow_24 rfl (lv_at hl 1 rfl) ?_
    obtain ⟨p11, hp11, hM⟩ := hM
    refine x_getR C hV wf_X11_53 hk6 hp11 dX11_alterRow_25 ?_
    refine lv_iconst (v := 3) hx hb dX11_alterRow_28 (by decide) ?_
    refine lv_iload_n hx hb dX11_alterRow_29 rfl (lv_at hl 2 rfl) ?_
    refine lv_imul hx hb dX11_alterRow_30 ?_
    refine lv_iload_n hx hb dX11_alterRow_31 rfl (lv_at hl 3 rfl) ?_
    refine lv_iadd hx hb dX11_alterRow_32 ?_
    refine lv_iload_n hx hb dX11_alterRow_33 rfl (lv_at hl 4 rfl) ?_
    have hk12 := hM.1
    have hM := hM.2
    have hi13 := hM.1
    have hM := hM.2
    obtain ⟨S14, eS14⟩ : ∃ z : PS, z = S2.setA p11 ((3 * x1) + x2).toNatClampNeg x3 := ⟨_, rfl⟩
    have hM := hM S14 eS14
    refine x_iast C hV hk12 hi13 eS14 dX11_alterRow_34 (fun H locs hV => ?_)
    refine lv_iload hx hb dX11_alterRow_35 (lv_at hl 0 rfl) ?_
    exact x_iret C hV hM dX11_alterRow_37
  have hM := ite_t c5 hM
  refine lv_ldc hx hb hown (hts _ wc_X11_102) dX11_alterRow_9 ?_
  exact x_iret C hV hM dX11_alterRow_11

def wq_X11_move_42 (N : Nat) (K : PS → Prop) (k_3 : PS → Nat → Nat → Int32 → Int32 → Int32 → Prop) (S : PS) (a0 : Nat) (a1 : Nat) (x2 : Int32) (x3 : Int32) (x4 : Int32) : Prop := S.K a0 = 12 ∧ ∀ S11 : PS, S11 = S.setI 820 a0 ((S.I 820 a0) + 1) → k_3 S11 a0 a1 x2 x3 (x4 + 1)
def wq_X11_move_3 (N : Nat) (K : PS → Prop) : Nat → PS → Nat → Nat → Int32 → Int32 → Int32 → Prop
  | 0, _, _, _, _, _, _ => False
  | n + 1, S, a0, a1, x2, x3, x4 => if x2 ≤ x4 then (K S) else (if x3 = 0 then (S.K a0 = 12 ∧ ∃ p4 : Nat, S.R 819 a0 = some p4 ∧ S.K p4 = 20 ∧ vp_in (S.I 820 a0) (S.ln p4) ∧ S.K a1 = 20 ∧ vp_in x4 (S.ln a1) ∧ ∀ S9 : PS, S9 = S.setA a1 x4.toNatClampNeg (S.A p4 (S.I 820 a0).toNatClampNeg) → wq_X11_move_42 N K (fun S a0 a1 x2 x3 x4 => wq_X11_move_3 N K n S a0 a1 x2 x3 x4) S9 a0 a1 x2 x3 x4) else (S.K a0 = 12 ∧ ∃ p13 : Nat, S.R 819 a0 = some p13 ∧ S.K a1 = 20 ∧ vp_in x4 (S.ln a1) ∧ S.K p13 = 20 ∧ vp_in (S.I 820 a0) (S.ln p13) ∧ ∀ S18 : PS, S18 = S.setA p13 (S.I 820 a0).toNatClampNeg (S.A a1 x4.toNatClampNeg) → wq_X11_move_42 N K (fun S a0 a1 x2 x3 x4 => wq_X11_move_3 N K n S a0 a1 x2 x3 x4) S18 a0 a1 x2 x3 x4))
def wp_X11_move (N : Nat) (S : PS) (a0 : Nat) (a1 : Nat) (x2 : Int32) (x3 : Int32) (K : PS → Prop) : Prop := wq_X11_move_3 N K N S a0 a1 x2 x3 0
set_option maxHeartbeats 4000000 in
set_option maxRecDepth 100000 in
theorem tq_X11_move_42 {p : Program} {l : Launch} {e : Env} {s : State} {m : MethodId} {args : Array Value} {below : List Frame} {meth : Method} {c : Code} {D : DX} {cA : Nat → ClassId} {z0 N : Nat} {K : PS → Prop} {k_3 : PS → Nat → Nat → Int32 → Int32 → Int32 → Prop} (C : CX p s m args meth c cX11_move 5 RX11 none D cA z0) (H_3 : ∀ (S : PS) (a0 : Nat) (a1 : Nat) (x2 : Int32) (x3 : Int32) (x4 : Int32) (H : Heap) (locs : List Loc) (ls : Array Slot), k_3 S a0 a1 x2 x3 x4 → XV D cA z0 s S H locs → lv_has ls 5 [(0, .ref a0), (1, .ref a1), (2, .int x2), (3, .int x3), (4, .int x4)] → W p l e (rmd 0 0 0) s m args below meth c H locs 0 0 (MQ below (va_Qv K (XK D cA z0) (zA z0)) args s 0 0 (zA z0)) (F0 m 3 ls [])) : ∀ (S : PS) (a0 : Nat) (a1 : Nat) (x2 : Int32) (x3 : Int32) (x4 : Int32) (H : Heap) (locs : List Loc) (ls : Array Slot), wq_X11_move_42 N K k_3 S a0 a1 x2 x3 x4 → XV D cA z0 s S H locs → lv_has ls 5 [(0, .ref a0), (1, .ref a1), (2, .int x2), (3, .int x3), (4, .int x4)] → W p l e (rmd 0 0 0) s m args below meth c H locs 0 0 (MQ below (va_Qv K (XK D cA z0) (zA z0)) args s 0 0 (zA z0)) (F0 m 42 ls []) := by
  obtain ⟨hx, hb, hml, hown, hts, hK, hz, hlk, hr⟩ := id C
  intro S a0 a1 x2 x3 x4 H locs ls hM hV hl
  unfold wq_X11_move_42 at hM
  refine lv_aload_n hx hb dX11_move_42 rfl (lv_at hl 0 rfl) ?_
  refine lv_dup hx hb dX11_move_43 rfl ?_
  have hk10 := hM.1
  have hM := hM.2
  refine x_getI C hV wf_X11_442 hk10 dX11_move_44 ?_
  refine lv_iconst (v := 1) hx hb dX11_move_47 (by decide) ?_
  refine lv_iadd hx hb dX11_move_48 ?_
  obtain ⟨S11, eS11⟩ : ∃ z : PS, z = S.setI 820 a0 ((S.I 820 a0) + 1) := ⟨_, rfl⟩
  have hM := hM S11 eS11
  refine x_putI C hV wp_X11_442 hk10 ⟨rfl, rfl⟩ eS11 dX11_move_49 (fun H locs hV => ?_)
  refine lv_iinc (v := (x4 + 1)) (lv' := [(4, .int (x4 + 1)), (0, .ref a0), (1, .ref a1), (2, .int x2), (3, .int x3)]) hx hb dX11_move_52 hl (k := 4) rfl rfl (by decide) rfl (fun ls hl => ?_)
  refine lv_goto (tgt := 3) hx hb dX11_move_55 (by decide) ?_
  exact H_3 _ _ _ _ _ _ _ _ _ hM hV (lv_sub hl [1, 2, 3, 4, 0] rfl)
set_option maxHeartbeats 4000000 in
set_option maxRecDepth 100000 in
theorem tq_X11_move_3 {p : Program} {l : Launch} {e : Env} {s : State} {m : MethodId} {args : Array Value} {below : List Frame} {meth : Method} {c : Code} {D : DX} {cA : Nat → ClassId} {z0 N : Nat} {K : PS → Prop} (C : CX p s m args meth c cX11_move 5 RX11 none D cA z0) : ∀ (n : Nat) (S : PS) (a0 : Nat) (a1 : Nat) (x2 : Int32) (x3 : Int32) (x4 : Int32) (H : Heap) (locs : List Loc) (ls : Array Slot), wq_X11_move_3 N K n S a0 a1 x2 x3 x4 → XV D cA z0 s S H locs → lv_has ls 5 [(0, .ref a0), (1, .ref a1), (2, .int x2), (3, .int x3), (4, .int x4)] → W p l e (rmd 0 0 0) s m args below meth c H locs 0 0 (MQ below (va_Qv K (XK D cA z0) (zA z0)) args s 0 0 (zA z0)) (F0 m 3 ls []) := by
  obtain ⟨hx, hb, hml, hown, hts, hK, hz, hlk, hr⟩ := id C
  intro n
  induction n with
  | zero => intro S a0 a1 x2 x3 x4 H locs ls hM; exact absurd hM id
  | succ n ih =>
    intro S a0 a1 x2 x3 x4 H locs ls hM hV hl
    rw [wq_X11_move_3.eq_2] at hM
    refine lv_iload hx hb dX11_move_3 (lv_at hl 4 rfl) ?_
    refine lv_iload_n hx hb dX11_move_5 rfl (lv_at hl 2 rfl) ?_
    refine lv_icmp_ge (tgt := 58) hx hb dX11_move_6 (by decide) (fun c1 => ?_) (fun c1 => ?_)
    · have hM := ite_t c1 hM
      exact x_vret C hV hM dX11_move_58
    have hM := ite_f c1 hM
    refine lv_iload_n hx hb dX11_move_9 rfl (lv_at hl 3 rfl) ?_
    refine lv_if_eq (tgt := 29) hx hb dX11_move_10 (by decide) (fun c2 => ?_) (fun c2 => ?_)
    · have hM := ite_t c2 hM
      refine lv_aload_n hx hb dX11_move_29 rfl (lv_at hl 1 rfl) ?_
      refine lv_iload hx hb dX11_move_30 (lv_at hl 4 rfl) ?_
      refine lv_aload_n hx hb dX11_move_32 rfl (lv_at hl 0 rfl) ?_
      have hk3 := hM.1
      have hM := hM.2
      obtain ⟨p4, hp4, hM⟩ := hM
      refine x_getR C hV wf_X11_78 hk3 hp4 dX11_move_33 ?_
      refine lv_aload_n hx hb dX11_move_36 rfl (lv_at hl 0 rfl) ?_
      refine x_getI C hV wf_X11_442 hk3 dX11_move_37 ?_
      have hk5 := hM.1
      have hM := hM.2
      have hi6 := hM.1
      have hM := hM.2
      refine x_iald C hV hk5 hi6 dX11_move_40 ?_
      have hk7 := hM.1
      have hM := hM.2
      have hi8 := hM.1
      have hM := hM.2
      obtain ⟨S9, eS9⟩ : ∃ z : PS, z = S.setA a1 x4.toNatClampNeg (S.A p4 (S.I 820 a0).toNatClampNeg) := ⟨_, rfl⟩
      have hM := hM S9 eS9
      refine x_iast C hV hk7 hi8 eS9 dX11_move_41 (fun H locs hV => ?_)
      exact tq_X11_move_42 C ih _ _ _ _ _ _ _ _ _ hM hV (lv_sub hl [0, 1, 2, 3, 4] rfl)
    have hM := ite_f c2 hM
    refine lv_aload_n hx hb dX11_move_13 rfl (lv_at hl 0 rfl) ?_
    have hk12 := hM.1
    have hM := hM.2
    obtain ⟨p13, hp13, hM⟩ := hM
    refine x_getR C hV wf_X11_78 hk12 hp13 dX11_move_14 ?_
    refine lv_aload_n hx hb dX11_move_17 rfl (lv_at hl 0 rfl) ?_
    refine x_getI C hV wf_X11_442 hk12 dX11_move_18 ?_
    refine lv_aload_n hx hb dX11_move_21 rfl (lv_at hl 1 rfl) ?_
    refine lv_iload hx hb dX11_move_22 (lv_at hl 4 rfl) ?_
    have hk14 := hM.1
    have hM := hM.2
    have hi15 := hM.1
    have hM := hM.2
    refine x_iald C hV hk14 hi15 dX11_move_24 ?_
    have hk16 := hM.1
    have hM := hM.2
    have hi17 := hM.1
    have hM := hM.2
    obtain ⟨S18, eS18⟩ : ∃ z : PS, z = S.setA p13 (S.I 820 a0).toNatClampNeg (S.A a1 x4.toNatClampNeg) := ⟨_, rfl⟩
    have hM := hM S18 eS18
    refine x_iast C hV hk16 hi17 eS18 dX11_move_25 (fun H locs hV => ?_)
    refine lv_goto (tgt := 42) hx hb dX11_move_26 (by decide) ?_
    exact tq_X11_move_42 C ih _ _ _ _ _ _ _ _ _ hM hV (lv_sub hl [0, 1, 2, 3, 4] rfl)
set_option maxHeartbeats 4000000 in
set_option maxRecDepth 100000 in
theorem c_X11_move {l : Launch} {D : DX} {cA : Nat → ClassId} {z0 N : Nat} {S : PS} {a0 : Nat} {a1 : Nat} {x2 : Int32} {x3 : Int32} {K : PS → Prop} (hM : wp_X11_move N S a0 a1 x2 x3 K) : MetV l yX11_move cX11_move 5 none 0 0 0 D cA z0 [.ref a0, .ref a1, .int x2, .int x3] S K := by
  refine x_met RX11 (by decide) rfl ?_
  intro p e s m below meth c C hin hV
  have hl := lv_entry ([.ref a0, .ref a1, .int x2, .int x3]) (n := 5) (Nat.le_of_ble_eq_true rfl)
  rw [lg_entry_eq]
  generalize (lg_sl ([.ref a0, .ref a1, .int x2, .int x3]) ++ List.replicate (5 - (lg_sl ([.ref a0, .ref a1, .int x2, .int x3])).length) Slot.unset).toArray = ls at hl ⊢
  have hl : lv_has ls 5 [(0, .ref a0), (1, .ref a1), (2, .int x2), (3, .int x3)] := hl
  obtain ⟨hx, hb, hml, hown, hts, hK, hz, hlk, hr⟩ := id C
  unfold wp_X11_move at hM
  refine lv_iconst (v := 0) hx hb dX11_move_0 (by decide) ?_
  refine lv_istore (lv' := [(4, .int 0), (0, .ref a0), (1, .ref a1), (2, .int x2), (3, .int x3)]) hx hb dX11_move_1 hl (by decide) rfl (fun ls hl => ?_)
  exact tq_X11_move_3 C N _ _ _ _ _ _ _ _ _ hM hV (lv_sub hl [1, 2, 3, 4, 0] rfl)

def wp_X11_moveAll (N : Nat) (S : PS) (a0 : Nat) (x1 : Int32) (K : PS → Prop) : Prop := S.K a0 = 12 ∧ ∀ S2 : PS, S2 = S.setI 820 a0 0 → ∃ p4 : Nat, S2.R 821 a0 = some p4 ∧ S2.K p4 = 20 ∧ vp_in 0 (S2.ln p4) ∧ ∀ S7 : PS, S7 = S2.setA p4 (0 : Int32).toNatClampNeg (S2.I 768 a0) → ∃ p9 : Nat, S7.R 821 a0 = some p9 ∧ S7.K p9 = 20 ∧ vp_in 1 (S7.ln p9) ∧ ∀ S12 : PS, S12 = S7.setA p9 (1 : Int32).toNatClampNeg (S7.I 769 a0) → ∃ p14 : Nat, S12.R 821 a0 = some p14 ∧ S12.K p14 = 20 ∧ vp_in 2 (S12.ln p14) ∧ ∀ S17 : PS, S17 = S12.setA p14 (2 : Int32).toNatClampNeg (S12.I 770 a0) → ∃ p19 : Nat, S17.R 821 a0 = some p19 ∧ S17.K p19 = 20 ∧ vp_in 3 (S17.ln p19) ∧ ∀ S22 : PS, S22 = S17.setA p19 (3 : Int32).toNatClampNeg (S17.I 771 a0) → ∃ p24 : Nat, S22.R 821 a0 = some p24 ∧ S22.K p24 = 20 ∧ vp_in 4 (S22.ln p24) ∧ ∀ S27 : PS, S27 = S22.setA p24 (4 : Int32).toNatClampNeg (S22.I 772 a0) → ∃ p29 : Nat, S27.R 821 a0 = some p29 ∧ S27.K p29 = 20 ∧ vp_in 5 (S27.ln p29) ∧ ∀ S32 : PS, S32 = S27.setA p29 (5 : Int32).toNatClampNeg (S27.I 774 a0) → ∃ p34 : Nat, S32.R 821 a0 = some p34 ∧ S32.K p34 = 20 ∧ vp_in 6 (S32.ln p34) ∧ ∀ S37 : PS, S37 = S32.setA p34 (6 : Int32).toNatClampNeg (S32.I 776 a0) → ∃ p39 : Nat, S37.R 821 a0 = some p39 ∧ S37.K p39 = 20 ∧ vp_in 7 (S37.ln p39) ∧ ∀ S42 : PS, S42 = S37.setA p39 (7 : Int32).toNatClampNeg (S37.I 778 a0) → ∃ p44 : Nat, S42.R 821 a0 = some p44 ∧ wp_X11_move N S42 a0 p44 8 x1 (fun S45 => S45.K a0 = 12 ∧ ∃ p48 : Nat, S45.R 773 a0 = some p48 ∧ wp_X11_move N S45 a0 p48 90 x1 (fun S49 => S49.K a0 = 12 ∧ ∃ p52 : Nat, S49.R 775 a0 = some p52 ∧ wp_X11_move N S49 a0 p52 120 x1 (fun S53 => S53.K a0 = 12 ∧ ∃ p56 : Nat, S53.R 777 a0 = some p56 ∧ wp_X11_move N S53 a0 p56 128 x1 (fun S57 => S57.K a0 = 12 ∧ ∃ p60 : Nat, S57.R 779 a0 = some p60 ∧ wp_X11_move N S57 a0 p60 8 x1 (fun S61 => S61.K a0 = 12 ∧ ∃ p64 : Nat, S61.R 780 a0 = some p64 ∧ wp_X11_move N S61 a0 p64 1600 x1 (fun S65 => K S65))))))
set_option maxHeartbeats 4000000 in
set_option maxRecDepth 100000 in
theorem c_X11_moveAll {l : Launch} {D : DX} {cA : Nat → ClassId} {z0 N : Nat} {S : PS} {a0 : Nat} {x1 : Int32} {K : PS → Prop} (hM : wp_X11_moveAll N S a0 x1 K) : MetV l yX11_moveAll cX11_moveAll 2 none 1 0 0 D cA z0 [.ref a0, .int x1] S K := by
  refine x_met RX11 (by decide) rfl ?_
  intro p e s m below meth c C hin hV
  have hl := lv_entry ([.ref a0, .int x1]) (n := 2) (Nat.le_of_ble_eq_true rfl)
  rw [lg_entry_eq]
  generalize (lg_sl ([.ref a0, .int x1]) ++ List.replicate (2 - (lg_sl ([.ref a0, .int x1])).length) Slot.unset).toArray = ls at hl ⊢
  have hl : lv_has ls 2 [(0, .ref a0), (1, .int x1)] := hl
  obtain ⟨hx, hb, hml, hown, hts, hK, hz, hlk, hr⟩ := id C
  unfold wp_X11_moveAll at hM
  refine lv_aload_n hx hb dX11_moveAll_0 rfl (lv_at hl 0 rfl) ?_
  refine lv_iconst (v := 0) hx hb dX11_moveAll_1 (by decide) ?_
  have hk1 := hM.1
  have hM := hM.2
  obtain ⟨S2, eS2⟩ : ∃ z : PS, z = S.setI 820 a0 0 := ⟨_, rfl⟩
  have hM := hM S2 eS2
  refine x_putI C hV wp_X11_442 hk1 ⟨rfl, rfl⟩ eS2 dX11_moveAll_2 (fun H locs hV => ?_)
  refine lv_aload_n hx hb dX11_moveAll_5 rfl (lv_at hl 0 rfl) ?_
  have hk3 := kp_I eS2 hk1
  obtain ⟨p4, hp4, hM⟩ := hM
  refine x_getR C hV wf_X11_81 hk3 hp4 dX11_moveAll_6 ?_
  refine lv_iconst (v := 0) hx hb dX11_moveAll_9 (by decide) ?_
  refine lv_aload_n hx hb dX11_moveAll_10 rfl (lv_at hl 0 rfl) ?_
  refine x_getI C hV wf_X11_103 hk3 dX11_moveAll_11 ?_
  have hk5 := hM.1
  have hM := hM.2
  have hi6 := hM.1
  have hM := hM.2
  obtain ⟨S7, eS7⟩ : ∃ z : PS, z = S2.setA p4 (0 : Int32).toNatClampNeg (S2.I 768 a0) := ⟨_, rfl⟩
  have hM := hM S7 eS7
  refine x_iast C hV hk5 hi6 eS7 dX11_moveAll_14 (fun H locs hV => ?_)
  refine lv_aload_n hx hb dX11_moveAll_15 rfl (lv_at hl 0 rfl) ?_
  have hk8 := kp_A eS7 hk3
  obtain ⟨p9, hp9, hM⟩ := hM
  refine x_getR C hV wf_X11_81 hk8 hp9 dX11_moveAll_16 ?_
  refine lv_iconst (v := 1) hx hb dX11_moveAll_19 (by decide) ?_
  refine lv_aload_n hx hb dX11_moveAll_20 rfl (lv_at hl 0 rfl) ?_
  refine x_getI C hV wf_X11_113 hk8 dX11_moveAll_21 ?_
  have hk10 := hM.1
  have hM := hM.2
  have hi11 := hM.1
  have hM := hM.2
  obtain ⟨S12, eS12⟩ : ∃ z : PS, z = S7.setA p9 (1 : Int32).toNatClampNeg (S7.I 769 a0) := ⟨_, rfl⟩
  have hM := hM S12 eS12
  refine x_iast C hV hk10 hi11 eS12 dX11_moveAll_24 (fun H locs hV => ?_)
  refine lv_aload_n hx hb dX11_moveAll_25 rfl (lv_at hl 0 rfl) ?_
  have hk13 := kp_A eS12 hk8
  obtain ⟨p14, hp14, hM⟩ := hM
  refine x_getR C hV wf_X11_81 hk13 hp14 dX11_moveAll_26 ?_
  refine lv_iconst (v := 2) hx hb dX11_moveAll_29 (by decide) ?_
  refine lv_aload_n hx hb dX11_moveAll_30 rfl (lv_at hl 0 rfl) ?_
  refine x_getI C hV wf_X11_7 hk13 dX11_moveAll_31 ?_
  have hk15 := hM.1
  have hM := hM.2
  have hi16 := hM.1
  have hM := hM.2
  obtain ⟨S17, eS17⟩ : ∃ z : PS, z = S12.setA p14 (2 : Int32).toNatClampNeg (S12.I 770 a0) := ⟨_, rfl⟩
  have hM := hM S17 eS17
  refine x_iast C hV hk15 hi16 eS17 dX11_moveAll_34 (fun H locs hV => ?_)
  refine lv_aload_n hx hb dX11_moveAll_35 rfl (lv_at hl 0 rfl) ?_
  have hk18 := kp_A eS17 hk13
  obtain ⟨p19, hp19, hM⟩ := hM
  refine x_getR C hV wf_X11_81 hk18 hp19 dX11_moveAll_36 ?_
  refine lv_iconst (v := 3) hx hb dX11_moveAll_39 (by decide) ?_
  refine lv_aload_n hx hb dX11_moveAll_40 rfl (lv_at hl 0 rfl) ?_
  refine x_getI C hV wf_X11_134 hk18 dX11_moveAll_41 ?_
  have hk20 := hM.1
  have hM := hM.2
  have hi21 := hM.1
  have hM := hM.2
  obtain ⟨S22, eS22⟩ : ∃ z : PS, z = S17.setA p19 (3 : Int32).toNatClampNeg (S17.I 771 a0) := ⟨_, rfl⟩
  have hM := hM S22 eS22
  refine x_iast C hV hk20 hi21 eS22 dX11_moveAll_44 (fun H locs hV => ?_)
  refine lv_aload_n hx hb dX11_moveAll_45 rfl (lv_at hl 0 rfl) ?_
  have hk23 := kp_A eS22 hk18
  obtain ⟨p24, hp24, hM⟩ := hM
  refine x_getR C hV wf_X11_81 hk23 hp24 dX11_moveAll_46 ?_
  refine lv_iconst (v := 4) hx hb dX11_moveAll_49 (by decide) ?_
  refine lv_aload_n hx hb dX11_moveAll_50 rfl (lv_at hl 0 rfl) ?_
  refine x_getI C hV wf_X11_84 hk23 dX11_moveAll_51 ?_
  have hk25 := hM.1
  have hM := hM.2
  have hi26 := hM.1
  have hM := hM.2
  obtain ⟨S27, eS27⟩ : ∃ z : PS, z = S22.setA p24 (4 : Int32).toNatClampNeg (S22.I 772 a0) := ⟨_, rfl⟩
  have hM := hM S27 eS27
  refine x_iast C hV hk25 hi26 eS27 dX11_moveAll_54 (fun H locs hV => ?_)
  refine lv_aload_n hx hb dX11_moveAll_55 rfl (lv_at hl 0 rfl) ?_
  have hk28 := kp_A eS27 hk23
  obtain ⟨p29, hp29, hM⟩ := hM
  refine x_getR C hV wf_X11_81 hk28 hp29 dX11_moveAll_56 ?_
  refine lv_iconst (v := 5) hx hb dX11_moveAll_59 (by decide) ?_
  refine lv_aload_n hx hb dX11_moveAll_60 rfl (lv_at hl 0 rfl) ?_
  refine x_getI C hV wf_X11_116 hk28 dX11_moveAll_61 ?_
  have hk30 := hM.1
  have hM := hM.2
  have hi31 := hM.1
  have hM := hM.2
  obtain ⟨S32, eS32⟩ : ∃ z : PS, z = S27.setA p29 (5 : Int32).toNatClampNeg (S27.I 774 a0) := ⟨_, rfl⟩
  have hM := hM S32 eS32
  refine x_iast C hV hk30 hi31 eS32 dX11_moveAll_64 (fun H locs hV => ?_)
  refine lv_aload_n hx hb dX11_moveAll_65 rfl (lv_at hl 0 rfl) ?_
  have hk33 := kp_A eS32 hk28
  obtain ⟨p34, hp34, hM⟩ := hM
  refine x_getR C hV wf_X11_81 hk33 hp34 dX11_moveAll_66 ?_
  refine lv_bipush (v := 6) hx hb dX11_moveAll_69 (by decide) ?_
  refine lv_aload_n hx hb dX11_moveAll_71 rfl (lv_at hl 0 rfl) ?_
  refine x_getI C hV wf_X11_91 hk33 dX11_moveAll_72 ?_
  have hk35 := hM.1
  have hM := hM.2
  have hi36 := hM.1
  have hM := hM.2
  obtain ⟨S37, eS37⟩ : ∃ z : PS, z = S32.setA p34 (6 : Int32).toNatClampNeg (S32.I 776 a0) := ⟨_, rfl⟩
  have hM := hM S37 eS37
  refine x_iast C hV hk35 hi36 eS37 dX11_moveAll_75 (fun H locs hV => ?_)
  refine lv_aload_n hx hb dX11_moveAll_76 rfl (lv_at hl 0 rfl) ?_
  have hk38 := kp_A eS37 hk33
  obtain ⟨p39, hp39, hM⟩ := hM
  refine x_getR C hV wf_X11_81 hk38 hp39 dX11_moveAll_77 ?_
  refine lv_bipush (v := 7) hx hb dX11_moveAll_80 (by decide) ?_
  refine lv_aload_n hx hb dX11_moveAll_82 rfl (lv_at hl 0 rfl) ?_
  refine x_getI C hV wf_X11_364 hk38 dX11_moveAll_83 ?_
  have hk40 := hM.1
  have hM := hM.2
  have hi41 := hM.1
  have hM := hM.2
  obtain ⟨S42, eS42⟩ : ∃ z : PS, z = S37.setA p39 (7 : Int32).toNatClampNeg (S37.I 778 a0) := ⟨_, rfl⟩
  have hM := hM S42 eS42
  refine x_iast C hV hk40 hi41 eS42 dX11_moveAll_86 (fun H locs hV => ?_)
  refine lv_aload_n hx hb dX11_moveAll_87 rfl (lv_at hl 0 rfl) ?_
  refine lv_aload_n hx hb dX11_moveAll_88 rfl (lv_at hl 0 rfl) ?_
  have hk43 := kp_A eS42 hk38
  obtain ⟨p44, hp44, hM⟩ := hM
  refine x_getR C hV wf_X11_81 hk43 hp44 dX11_moveAll_89 ?_
  refine lv_bipush (v := 8) hx hb dX11_moveAll_92 (by decide) ?_
  refine lv_iload_n hx hb dX11_moveAll_94 rfl (lv_at hl 1 rfl) ?_
  refine x_cv hV (x_runV (As := [.ref p44, .int 8, .int x1]) (rest := []) C hV mi_X11_move wl_X11_445 hk43 (c_X11_move hM) ⟨by decide, by decide⟩ rfl hl.1 (Nat.le_of_ble_eq_true rfl) dX11_moveAll_95 ⟨Nat.zero_le _, Nat.zero_le _⟩) (fun S45 H locs hV hM => ?_)
  refine lv_aload_n hx hb dX11_moveAll_98 rfl (lv_at hl 0 rfl) ?_
  refine lv_aload_n hx hb dX11_moveAll_99 rfl (lv_at hl 0 rfl) ?_
  have hk47 := hM.1
  have hM := hM.2
  obtain ⟨p48, hp48, hM⟩ := hM
  refine x_getR C hV wf_X11_13 hk47 hp48 dX11_moveAll_100 ?_
  refine lv_bipush (v := 90) hx hb dX11_moveAll_103 (by decide) ?_
  refine lv_iload_n hx hb dX11_moveAll_105 rfl (lv_at hl 1 rfl) ?_
  refine x_cv hV (x_runV (As := [.ref p48, .int 90, .int x1]) (rest := []) C hV mi_X11_move wl_X11_445 hk47 (c_X11_move hM) ⟨by decide, by decide⟩ rfl hl.1 (Nat.le_of_ble_eq_true rfl) dX11_moveAll_106 ⟨Nat.zero_le _, Nat.zero_le _⟩) (fun S49 H locs hV hM => ?_)
  refine lv_aload_n hx hb dX11_moveAll_109 rfl (lv_at hl 0 rfl) ?_
  refine lv_aload_n hx hb dX11_moveAll_110 rfl (lv_at hl 0 rfl) ?_
  have hk51 := hM.1
  have hM := hM.2
  obtain ⟨p52, hp52, hM⟩ := hM
  refine x_getR C hV wf_X11_17 hk51 hp52 dX11_moveAll_111 ?_
  refine lv_bipush (v := 120) hx hb dX11_moveAll_114 (by decide) ?_
  refine lv_iload_n hx hb dX11_moveAll_116 rfl (lv_at hl 1 rfl) ?_
  refine x_cv hV (x_runV (As := [.ref p52, .int 120, .int x1]) (rest := []) C hV mi_X11_move wl_X11_445 hk51 (c_X11_move hM) ⟨by decide, by decide⟩ rfl hl.1 (Nat.le_of_ble_eq_true rfl) dX11_moveAll_117 ⟨Nat.zero_le _, Nat.zero_le _⟩) (fun S53 H locs hV hM => ?_)
  refine lv_aload_n hx hb dX11_moveAll_120 rfl (lv_at hl 0 rfl) ?_
  refine lv_aload_n hx hb dX11_moveAll_121 rfl (lv_at hl 0 rfl) ?_
  have hk55 := hM.1
  have hM := hM.2
  obtain ⟨p56, hp56, hM⟩ := hM
  refine x_getR C hV wf_X11_20 hk55 hp56 dX11_moveAll_122 ?_
  refine lv_sipush (v := 128) hx hb dX11_moveAll_125 (by decide) ?_
  refine lv_iload_n hx hb dX11_moveAll_128 rfl (lv_at hl 1 rfl) ?_
  refine x_cv hV (x_runV (As := [.ref p56, .int 128, .int x1]) (rest := []) C hV mi_X11_move wl_X11_445 hk55 (c_X11_move hM) ⟨by decide, by decide⟩ rfl hl.1 (Nat.le_of_ble_eq_true rfl) dX11_moveAll_129 ⟨Nat.zero_le _, Nat.zero_le _⟩) (fun S57 H locs hV hM => ?_)
  refine lv_aload_n hx hb dX11_moveAll_132 rfl (lv_at hl 0 rfl) ?_
  refine lv_aload_n hx hb dX11_moveAll_133 rfl (lv_at hl 0 rfl) ?_
  have hk59 := hM.1
  have hM := hM.2
  obtain ⟨p60, hp60, hM⟩ := hM
  refine x_getR C hV wf_X11_23 hk59 hp60 dX11_moveAll_134 ?_
  refine lv_bipush (v := 8) hx hb dX11_moveAll_137 (by decide) ?_
  refine lv_iload_n hx hb dX11_moveAll_139 rfl (lv_at hl 1 rfl) ?_
  refine x_cv hV (x_runV (As := [.ref p60, .int 8, .int x1]) (rest := []) C hV mi_X11_move wl_X11_445 hk59 (c_X11_move hM) ⟨by decide, by decide⟩ rfl hl.1 (Nat.le_of_ble_eq_true rfl) dX11_moveAll_140 ⟨Nat.zero_le _, Nat.zero_le _⟩) (fun S61 H locs hV hM => ?_)
  refine lv_aload_n hx hb dX11_moveAll_143 rfl (lv_at hl 0 rfl) ?_
  refine lv_aload_n hx hb dX11_moveAll_144 rfl (lv_at hl 0 rfl) ?_
  have hk63 := hM.1
  have hM := hM.2
  obtain ⟨p64, hp64, hM⟩ := hM
  refine x_getR C hV wf_X11_26 hk63 hp64 dX11_moveAll_145 ?_
  refine lv_sipush (v := 1600) hx hb dX11_moveAll_148 (by decide) ?_
  refine lv_iload_n hx hb dX11_moveAll_151 rfl (lv_at hl 1 rfl) ?_
  refine x_cv hV (x_runV (As := [.ref p64, .int 1600, .int x1]) (rest := []) C hV mi_X11_move wl_X11_445 hk63 (c_X11_move hM) ⟨by decide, by decide⟩ rfl hl.1 (Nat.le_of_ble_eq_true rfl) dX11_moveAll_152 ⟨Nat.zero_le _, Nat.zero_le _⟩) (fun S65 H locs hV hM => ?_)
  exact x_vret C hV hM dX11_moveAll_155

def wp_X11_back (N : Nat) (S : PS) (a0 : Nat) (K : Int32 → PS → Prop) : Prop := S.K a0 = 12 ∧ if (S.I 818 a0) = 0 then (K (-3) S) else (wp_X11_moveAll N S a0 0 (fun S3 => S3.K a0 = 12 ∧ ∃ p6 : Nat, S3.R 821 a0 = some p6 ∧ S3.K p6 = 20 ∧ vp_in 0 (S3.ln p6) ∧ ∀ S9 : PS, S9 = S3.setI 768 a0 (S3.A p6 (0 : Int32).toNatClampNeg) → ∃ p11 : Nat, S9.R 821 a0 = some p11 ∧ S9.K p11 = 20 ∧ vp_in 1 (S9.ln p11) ∧ ∀ S14 : PS, S14 = S9.setI 769 a0 (S9.A p11 (1 : Int32).toNatClampNeg) → ∃ p16 : Nat, S14.R 821 a0 = some p16 ∧ S14.K p16 = 20 ∧ vp_in 2 (S14.ln p16) ∧ ∀ S19 : PS, S19 = S14.setI 770 a0 (S14.A p16 (2 : Int32).toNatClampNeg) → ∃ p21 : Nat, S19.R 821 a0 = some p21 ∧ S19.K p21 = 20 ∧ vp_in 3 (S19.ln p21) ∧ ∀ S24 : PS, S24 = S19.setI 771 a0 (S19.A p21 (3 : Int32).toNatClampNeg) → ∃ p26 : Nat, S24.R 821 a0 = some p26 ∧ S24.K p26 = 20 ∧ vp_in 4 (S24.ln p26) ∧ ∀ S29 : PS, S29 = S24.setI 772 a0 (S24.A p26 (4 : Int32).toNatClampNeg) → ∃ p31 : Nat, S29.R 821 a0 = some p31 ∧ S29.K p31 = 20 ∧ vp_in 5 (S29.ln p31) ∧ ∀ S34 : PS, S34 = S29.setI 774 a0 (S29.A p31 (5 : Int32).toNatClampNeg) → ∃ p36 : Nat, S34.R 821 a0 = some p36 ∧ S34.K p36 = 20 ∧ vp_in 6 (S34.ln p36) ∧ ∀ S39 : PS, S39 = S34.setI 776 a0 (S34.A p36 (6 : Int32).toNatClampNeg) → ∃ p41 : Nat, S39.R 821 a0 = some p41 ∧ S39.K p41 = 20 ∧ vp_in 7 (S39.ln p41) ∧ ∀ S44 : PS, S44 = S39.setI 778 a0 (S39.A p41 (7 : Int32).toNatClampNeg) → K (S44.I 768 a0) S44))
set_option maxHeartbeats 4000000 in
set_option maxRecDepth 100000 in
theorem c_X11_back {l : Launch} {D : DX} {cA : Nat → ClassId} {z0 N : Nat} {S : PS} {a0 : Nat} {K : Int32 → PS → Prop} (hM : wp_X11_back N S a0 K) : MetI l yX11_back cX11_back 1 (some .int) 2 0 0 D cA z0 [.ref a0] S K := by
  refine x_met RX11 (by decide) rfl ?_
  intro p e s m below meth c C hin hV
  have hl := lv_entry ([.ref a0]) (n := 1) (Nat.le_of_ble_eq_true rfl)
  rw [lg_entry_eq]
  generalize (lg_sl ([.ref a0]) ++ List.replicate (1 - (lg_sl ([.ref a0])).length) Slot.unset).toArray = ls at hl ⊢
  have hl : lv_has ls 1 [(0, .ref a0)] := hl
  obtain ⟨hx, hb, hml, hown, hts, hK, hz, hlk, hr⟩ := id C
  unfold wp_X11_back at hM
  refine lv_aload_n hx hb dX11_back_0 rfl (lv_at hl 0 rfl) ?_
  have hk1 := hM.1
  have hM := hM.2
  refine x_getI C hV wf_X11_453 hk1 dX11_back_1 ?_
  refine lv_if_ne (tgt := 10) hx hb dX11_back_4 (by decide) (fun c2 => ?_) (fun c2 => ?_)
  · have hM := ite_f c2 hM
    refine lv_aload_n hx hb dX11_back_10 rfl (lv_at hl 0 rfl) ?_
    refine lv_iconst (v := 0) hx hb dX11_back_11 (by decide) ?_
    refine x_cv hV (x_runV (As := [.int 0]) (rest := []) C hV mi_X11_moveAll wl_X11_449 hk1 (c_X11_moveAll hM) ⟨by decide, by decide⟩ rfl hl.1 (Nat.le_of_ble_eq_true rfl) dX11_back_12 ⟨Nat.zero_le _, Nat.zero_le _⟩) (fun S3 H locs hV hM => ?_)
    refine lv_aload_n hx hb dX11_back_15 rfl (lv_at hl 0 rfl) ?_
    refine lv_aload_n hx hb dX11_back_16 rfl (lv_at hl 0 rfl) ?_
    have hk5 := hM.1
    have hM := hM.2
    obtain ⟨p6, hp6, hM⟩ := hM
    refine x_getR C hV wf_X11_81 hk5 hp6 dX11_back_17 ?_
    refine lv_iconst (v := 0) hx hb dX11_back_20 (by decide) ?_
    have hk7 := hM.1
    have hM := hM.2
    have hi8 := hM.1
    have hM := hM.2
    refine x_iald C hV hk7 hi8 dX11_back_21 ?_
    obtain ⟨S9, eS9⟩ : ∃ z : PS, z = S3.setI 768 a0 (S3.A p6 (0 : Int32).toNatClampNeg) := ⟨_, rfl⟩
    have hM := hM S9 eS9
    refine x_putI C hV wp_X11_103 hk5 ⟨rfl, rfl⟩ eS9 dX11_back_22 (fun H locs hV => ?_)
    refine lv_aload_n hx hb dX11_back_25 rfl (lv_at hl 0 rfl) ?_
    refine lv_aload_n hx hb dX11_back_26 rfl (lv_at hl 0 rfl) ?_
    have hk10 := kp_I eS9 hk5
    obtain ⟨p11, hp11, hM⟩ := hM
    refine x_getR C hV wf_X11_81 hk10 hp11 dX11_back_27 ?_
    refine lv_iconst (v := 1) hx hb dX11_back_30 (by decide) ?_
    have hk12 := hM.1
    have hM := hM.2
    have hi13 := hM.1
    have hM := hM.2
    refine x_iald C hV hk12 hi13 dX11_back_31 ?_
    obtain ⟨S14, eS14⟩ : ∃ z : PS, z = S9.setI 769 a0 (S9.A p11 (1 : Int32).toNatClampNeg) := ⟨_, rfl⟩
    have hM := hM S14 eS14
    refine x_putI C hV wp_X11_113 hk10 ⟨rfl, rfl⟩ eS14 dX11_back_32 (fun H locs hV => ?_)
    refine lv_aload_n hx hb dX11_back_35 rfl (lv_at hl 0 rfl) ?_
    refine lv_aload_n hx hb dX11_back_36 rfl (lv_at hl 0 rfl) ?_
    have hk15 := kp_I eS14 hk10
    obtain ⟨p16, hp16, hM⟩ := hM
    refine x_getR C hV wf_X11_81 hk15 hp16 dX11_back_37 ?_
    refine lv_iconst (v := 2) hx hb dX11_back_40 (by decide) ?_
    have hk17 := hM.1
    have hM := hM.2
    have hi18 := hM.1
    have hM := hM.2
    refine x_iald C hV hk17 hi18 dX11_back_41 ?_
    obtain ⟨S19, eS19⟩ : ∃ z : PS, z = S14.setI 770 a0 (S14.A p16 (2 : Int32).toNatClampNeg) := ⟨_, rfl⟩
    have hM := hM S19 eS19
    refine x_putI C hV wp_X11_7 hk15 ⟨rfl, rfl⟩ eS19 dX11_back_42 (fun H locs hV => ?_)
    refine lv_aload_n hx hb dX11_back_45 rfl (lv_at hl 0 rfl) ?_
    refine lv_aload_n hx hb dX11_back_46 rfl (lv_at hl 0 rfl) ?_
    have hk20 := kp_I eS19 hk15
    obtain ⟨p21, hp21, hM⟩ := hM
    refine x_getR C hV wf_X11_81 hk20 hp21 dX11_back_47 ?_
    refine lv_iconst (v := 3) hx hb dX11_back_50 (by decide) ?_
    have hk22 := hM.1
    have hM := hM.2
    have hi23 := hM.1
    have hM := hM.2
    refine x_iald C hV hk22 hi23 dX11_back_51 ?_
    obtain ⟨S24, eS24⟩ : ∃ z : PS, z = S19.setI 771 a0 (S19.A p21 (3 : Int32).toNatClampNeg) := ⟨_, rfl⟩
    have hM := hM S24 eS24
    refine x_putI C hV wp_X11_134 hk20 ⟨rfl, rfl⟩ eS24 dX11_back_52 (fun H locs hV => ?_)
    refine lv_aload_n hx hb dX11_back_55 rfl (lv_at hl 0 rfl) ?_
    refine lv_aload_n hx hb dX11_back_56 rfl (lv_at hl 0 rfl) ?_
    have hk25 := kp_I eS24 hk20
    obtain ⟨p26, hp26, hM⟩ := hM
    refine x_getR C hV wf_X11_81 hk25 hp26 dX11_back_57 ?_
    refine lv_iconst (v := 4) hx hb dX11_back_60 (by decide) ?_
    have hk27 := hM.1
    have hM := hM.2
    have hi28 := hM.1
    have hM := hM.2
    refine x_iald C hV hk27 hi28 dX11_back_61 ?_
    obtain ⟨S29, eS29⟩ : ∃ z : PS, z = S24.setI 772 a0 (S24.A p26 (4 : Int32).toNatClampNeg) := ⟨_, rfl⟩
    have hM := hM S29 eS29
    refine x_putI C hV wp_X11_84 hk25 ⟨rfl, rfl⟩ eS29 dX11_back_62 (fun H locs hV => ?_)
    refine lv_aload_n hx hb dX11_back_65 rfl (lv_at hl 0 rfl) ?_
    refine lv_aload_n hx hb dX11_back_66 rfl (lv_at hl 0 rfl) ?_
    have hk30 := kp_I eS29 hk25
    obtain ⟨p31, hp31, hM⟩ := hM
    refine x_getR C hV wf_X11_81 hk30 hp31 dX11_back_67 ?_
    refine lv_iconst (v := 5) hx hb dX11_back_70 (by decide) ?_
    have hk32 := hM.1
    have hM := hM.2
    have hi33 := hM.1
    have hM := hM.2
    refine x_iald C hV hk32 hi33 dX11_back_71 ?_
    obtain ⟨S34, eS34⟩ : ∃ z : PS, z = S29.setI 774 a0 (S29.A p31 (5 : Int32).toNatClampNeg) := ⟨_, rfl⟩
    have hM := hM S34 eS34
    refine x_putI C hV wp_X11_116 hk30 ⟨rfl, rfl⟩ eS34 dX11_back_72 (fun H locs hV => ?_)
    refine lv_aload_n hx hb dX11_back_75 rfl (lv_at hl 0 rfl) ?_
    refine lv_aload_n hx hb dX11_back_76 rfl (lv_at hl 0 rfl) ?_
    have hk35 := kp_I eS34 hk30
    obtain ⟨p36, hp36, hM⟩ := hM
    refine x_getR C hV wf_X11_81 hk35 hp36 dX11_back_77 ?_
    refine lv_bipush (v := 6) hx hb dX11_back_80 (by decide) ?_
    have hk37 := hM.1
    have hM := hM.2
    have hi38 := hM.1
    have hM := hM.2
    refine x_iald C hV hk37 hi38 dX11_back_82 ?_
    obtain ⟨S39, eS39⟩ : ∃ z : PS, z = S34.setI 776 a0 (S34.A p36 (6 : Int32).toNatClampNeg) := ⟨_, rfl⟩
    have hM := hM S39 eS39
    refine x_putI C hV wp_X11_91 hk35 ⟨rfl, rfl⟩ eS39 dX11_back_83 (fun H locs hV => ?_)
    refine lv_aload_n hx hb dX11_back_86 rfl (lv_at hl 0 rfl) ?_
    refine lv_aload_n hx hb dX11_back_87 rfl (lv_at hl 0 rfl) ?_
    have hk40 := kp_I eS39 hk35
    obtain ⟨p41, hp41, hM⟩ := hM
    refine x_getR C hV wf_X11_81 hk40 hp41 dX11_back_88 ?_
    refine lv_bipush (v := 7) hx hb dX11_back_91 (by decide) ?_
    have hk42 := hM.1
    have hM := hM.2
    have hi43 := hM.1
    have hM := hM.2
    refine x_iald C hV hk42 hi43 dX11_back_93 ?_
    obtain ⟨S44, eS44⟩ : ∃ z : PS, z = S39.setI 778 a0 (S39.A p41 (7 : Int32).toNatClampNeg) := ⟨_, rfl⟩
    have hM := hM S44 eS44
    refine x_putI C hV wp_X11_364 hk40 ⟨rfl, rfl⟩ eS44 dX11_back_94 (fun H locs hV => ?_)
    refine lv_aload_n hx hb dX11_back_97 rfl (lv_at hl 0 rfl) ?_
    have hk45 := kp_I eS44 hk40
    refine x_getI C hV wf_X11_103 hk45 dX11_back_98 ?_
    exact x_iret C hV hM dX11_back_101
  have hM := ite_t c2 hM
  refine lv_bipush (v := (-3)) hx hb dX11_back_7 (by decide) ?_
  exact x_iret C hV hM dX11_back_9

def wp_X11_begin (N : Nat) (S : PS) (a0 : Nat) (K : PS → Prop) : Prop := S.K a0 = 12 ∧ ∀ S2 : PS, S2 = S.setI 785 a0 0 → ∀ S4 : PS, S4 = S2.setI 788 a0 1 → wp_X11_advance N S4 a0 (fun S6 => K S6)
set_option maxHeartbeats 4000000 in
set_option maxRecDepth 100000 in
theorem c_X11_begin {l : Launch} {D : DX} {cA : Nat → ClassId} {z0 N : Nat} {S : PS} {a0 : Nat} {K : PS → Prop} (hM : wp_X11_begin N S a0 K) : MetV l yX11_begin cX11_begin 1 none 3 0 0 D cA z0 [.ref a0] S K := by
  refine x_met RX11 (by decide) rfl ?_
  intro p e s m below meth c C hin hV
  have hl := lv_entry ([.ref a0]) (n := 1) (Nat.le_of_ble_eq_true rfl)
  rw [lg_entry_eq]
  generalize (lg_sl ([.ref a0]) ++ List.replicate (1 - (lg_sl ([.ref a0])).length) Slot.unset).toArray = ls at hl ⊢
  have hl : lv_has ls 1 [(0, .ref a0)] := hl
  obtain ⟨hx, hb, hml, hown, hts, hK, hz, hlk, hr⟩ := id C
  unfold wp_X11_begin at hM
  refine lv_aload_n hx hb dX11_begin_0 rfl (lv_at hl 0 rfl) ?_
  refine lv_iconst (v := 0) hx hb dX11_begin_1 (by decide) ?_
  have hk1 := hM.1
  have hM := hM.2
  obtain ⟨S2, eS2⟩ : ∃ z : PS, z = S.setI 785 a0 0 := ⟨_, rfl⟩
  have hM := hM S2 eS2
  refine x_putI C hV wp_X11_142 hk1 ⟨rfl, rfl⟩ eS2 dX11_begin_2 (fun H locs hV => ?_)
  refine lv_aload_n hx hb dX11_begin_5 rfl (lv_at hl 0 rfl) ?_
  refine lv_iconst (v := 1) hx hb dX11_begin_6 (by decide) ?_
  have hk3 := kp_I eS2 hk1
  obtain ⟨S4, eS4⟩ : ∃ z : PS, z = S2.setI 788 a0 1 := ⟨_, rfl⟩
  have hM := hM S4 eS4
  refine x_putI C hV wp_X11_173 hk3 (nz_b (by decide)) eS4 dX11_begin_7 (fun H locs hV => ?_)
  refine lv_aload_n hx hb dX11_begin_10 rfl (lv_at hl 0 rfl) ?_
  have hk5 := kp_I eS4 hk3
  refine x_cv hV (x_runV (As := []) (rest := []) C hV mi_X11_advance wl_X11_177 hk5 (c_X11_advance hM) ⟨by decide, by decide⟩ rfl hl.1 (Nat.le_of_ble_eq_true rfl) dX11_begin_11 ⟨Nat.zero_le _, Nat.zero_le _⟩) (fun S6 H locs hV hM => ?_)
  exact x_vret C hV hM dX11_begin_14

def wp_X11_emit (N : Nat) (S : PS) (a0 : Nat) (x1 : Int32) (K : PS → Prop) : Prop := S.K a0 = 12 ∧ ∃ p2 : Nat, S.R 795 a0 = some p2 ∧ S.K p2 = 20 ∧ vp_in (S.I 797 a0) (S.ln p2) ∧ ∀ S5 : PS, S5 = S.setA p2 (S.I 797 a0).toNatClampNeg x1 → ∀ S7 : PS, S7 = S5.setI 797 a0 ((S5.I 797 a0) + 1) → K S7
set_option maxHeartbeats 4000000 in
set_option maxRecDepth 100000 in
theorem c_X11_emit {l : Launch} {D : DX} {cA : Nat → ClassId} {z0 N : Nat} {S : PS} {a0 : Nat} {x1 : Int32} {K : PS → Prop} (hM : wp_X11_emit N S a0 x1 K) : MetV l yX11_emit cX11_emit 2 none 0 0 0 D cA z0 [.ref a0, .int x1] S K := by
  refine x_met RX11 (by decide) rfl ?_
  intro p e s m below meth c C hin hV
  have hl := lv_entry ([.ref a0, .int x1]) (n := 2) (Nat.le_of_ble_eq_true rfl)
  rw [lg_entry_eq]
  generalize (lg_sl ([.ref a0, .int x1]) ++ List.replicate (2 - (lg_sl ([.ref a0, .int x1])).length) Slot.unset).toArray = ls at hl ⊢
  have hl : lv_has ls 2 [(0, .ref a0), (1, .int x1)] := hl
  obtain ⟨hx, hb, hml, hown, hts, hK, hz, hlk, hr⟩ := id C
  unfold wp_X11_emit at hM
  refine lv_aload_n hx hb dX11_emit_0 rfl (lv_at hl 0 rfl) ?_
  have hk1 := hM.1
  have hM := hM.2
  obtain ⟨p2, hp2, hM⟩ := hM
  refine x_getR C hV wf_X11_41 hk1 hp2 dX11_emit_1 ?_
  refine lv_aload_n hx hb dX11_emit_4 rfl (lv_at hl 0 rfl) ?_
  refine x_getI C hV wf_X11_290 hk1 dX11_emit_5 ?_
  refine lv_iload_n hx hb dX11_emit_8 rfl (lv_at hl 1 rfl) ?_
  have hk3 := hM.1
  have hM := hM.2
  have hi4 := hM.1
  have hM := hM.2
  obtain ⟨S5, eS5⟩ : ∃ z : PS, z = S.setA p2 (S.I 797 a0).toNatClampNeg x1 := ⟨_, rfl⟩
  have hM := hM S5 eS5
  refine x_iast C hV hk3 hi4 eS5 dX11_emit_9 (fun H locs hV => ?_)
  refine lv_aload_n hx hb dX11_emit_10 rfl (lv_at hl 0 rfl) ?_
  refine lv_dup hx hb dX11_emit_11 rfl ?_
  have hk6 := kp_A eS5 hk1
  refine x_getI C hV wf_X11_290 hk6 dX11_emit_12 ?_
  refine lv_iconst (v := 1) hx hb dX11_emit_15 (by decide) ?_
  refine lv_iadd hx hb dX11_emit_16 ?_
  obtain ⟨S7, eS7⟩ : ∃ z : PS, z = S5.setI 797 a0 ((S5.I 797 a0) + 1) := ⟨_, rfl⟩
  have hM := hM S7 eS7
  refine x_putI C hV wp_X11_290 hk6 ⟨rfl, rfl⟩ eS7 dX11_emit_17 (fun H locs hV => ?_)
  exact x_vret C hV hM dX11_emit_20

def wp_X11_top (N : Nat) (S : PS) (a0 : Nat) (K : Int32 → PS → Prop) : Prop := S.K a0 = 12 ∧ if (S.I 798 a0) = 0 then (K 0 S) else (∃ p3 : Nat, S.R 796 a0 = some p3 ∧ S.K p3 = 20 ∧ vp_in ((S.I 798 a0) - 1) (S.ln p3) ∧ K (S.A p3 ((S.I 798 a0) - 1).toNatClampNeg) S)
set_option maxHeartbeats 4000000 in
set_option maxRecDepth 100000 in
theorem c_X11_top {l : Launch} {D : DX} {cA : Nat → ClassId} {z0 N : Nat} {S : PS} {a0 : Nat} {K : Int32 → PS → Prop} (hM : wp_X11_top N S a0 K) : MetI l yX11_top cX11_top 1 (some .int) 0 0 0 D cA z0 [.ref a0] S K := by
  refine x_met RX11 (by decide) rfl ?_
  intro p e s m below meth c C hin hV
  have hl := lv_entry ([.ref a0]) (n := 1) (Nat.le_of_ble_eq_true rfl)
  rw [lg_entry_eq]
  generalize (lg_sl ([.ref a0]) ++ List.replicate (1 - (lg_sl ([.ref a0])).length) Slot.unset).toArray = ls at hl ⊢
  have hl : lv_has ls 1 [(0, .ref a0)] := hl
  obtain ⟨hx, hb, hml, hown, hts, hK, hz, hlk, hr⟩ := id C
  unfold wp_X11_top at hM
  refine lv_aload_n hx hb dX11_top_0 rfl (lv_at hl 0 rfl) ?_
  have hk1 := hM.1
  have hM := hM.2
  refine x_getI C hV wf_X11_293 hk1 dX11_top_1 ?_
  refine lv_if_ne (tgt := 11) hx hb dX11_top_4 (by decide) (fun c2 => ?_) (fun c2 => ?_)
  · have hM := ite_f c2 hM
    refine lv_aload_n hx hb dX11_top_11 rfl (lv_at hl 0 rfl) ?_
    obtain ⟨p3, hp3, hM⟩ := hM
    refine x_getR C hV wf_X11_44 hk1 hp3 dX11_top_12 ?_
    refine lv_aload_n hx hb dX11_top_15 rfl (lv_at hl 0 rfl) ?_
    refine x_getI C hV wf_X11_293 hk1 dX11_top_16 ?_
    refine lv_iconst (v := 1) hx hb dX11_top_19 (by decide) ?_
    refine lv_isub hx hb dX11_top_20 ?_
    have hk4 := hM.1
    have hM := hM.2
    have hi5 := hM.1
    have hM := hM.2
    refine x_iald C hV hk4 hi5 dX11_top_21 ?_
    exact x_iret C hV hM dX11_top_22
  have hM := ite_t c2 hM
  refine lv_iconst (v := 0) hx hb dX11_top_7 (by decide) ?_
  refine lv_goto (tgt := 22) hx hb dX11_top_8 (by decide) ?_
  exact x_iret C hV hM dX11_top_22

def wq_X11_ends_0 (N : Nat) (K : PS → Prop) : Nat → PS → Nat → Int32 → Prop
  | 0, _, _, _ => False
  | n + 1, S, a0, x1 => S.K a0 = 12 ∧ wp_X11_top N S a0 (fun r3 S2 => if r3 = x1 then (S2.K a0 = 12 ∧ wp_X11_emit N S2 a0 x1 (fun S6 => S6.K a0 = 12 ∧ ∀ S9 : PS, S9 = S6.setI 798 a0 ((S6.I 798 a0) - 1) → ∀ S11 : PS, S11 = S9.setI 799 a0 ((S9.I 799 a0) - 1) → wq_X11_ends_0 N K n S11 a0 x1)) else (K S2))
def wp_X11_ends (N : Nat) (S : PS) (a0 : Nat) (x1 : Int32) (K : PS → Prop) : Prop := wq_X11_ends_0 N K N S a0 x1
set_option maxHeartbeats 4000000 in
set_option maxRecDepth 100000 in
theorem tq_X11_ends_0 {p : Program} {l : Launch} {e : Env} {s : State} {m : MethodId} {args : Array Value} {below : List Frame} {meth : Method} {c : Code} {D : DX} {cA : Nat → ClassId} {z0 N : Nat} {K : PS → Prop} (C : CX p s m args meth c cX11_ends 2 RX11 none D cA z0) : ∀ (n : Nat) (S : PS) (a0 : Nat) (x1 : Int32) (H : Heap) (locs : List Loc) (ls : Array Slot), wq_X11_ends_0 N K n S a0 x1 → XV D cA z0 s S H locs → lv_has ls 2 [(0, .ref a0), (1, .int x1)] → W p l e (rmd 1 0 0) s m args below meth c H locs 0 0 (MQ below (va_Qv K (XK D cA z0) (zA z0)) args s 0 0 (zA z0)) (F0 m 0 ls []) := by
  obtain ⟨hx, hb, hml, hown, hts, hK, hz, hlk, hr⟩ := id C
  intro n
  induction n with
  | zero => intro S a0 x1 H locs ls hM; exact absurd hM id
  | succ n ih =>
    intro S a0 x1 H locs ls hM hV hl
    rw [wq_X11_ends_0.eq_2] at hM
    refine lv_aload_n hx hb dX11_ends_0 rfl (lv_at hl 0 rfl) ?_
    have hk1 := hM.1
    have hM := hM.2
    refine x_ci hV (x_runV (As := []) (rest := []) C hV mi_X11_top wl_X11_296 hk1 (c_X11_top hM) ⟨by decide, by decide⟩ rfl hl.1 (Nat.le_of_ble_eq_true rfl) dX11_ends_1 ⟨Nat.zero_le _, Nat.zero_le _⟩) (fun r3 S2 H locs hV hM => ?_)
    refine lv_iload_n hx hb dX11_ends_4 rfl (lv_at hl 1 rfl) ?_
    refine lv_icmp_ne (tgt := 36) hx hb dX11_ends_5 (by decide) (fun c4 => ?_) (fun c4 => ?_)
    · have hM := ite_f c4 hM
      exact x_vret C hV hM dX11_ends_36
    have hM := ite_t c4 hM
    refine lv_aload_n hx hb dX11_ends_8 rfl (lv_at hl 0 rfl) ?_
    refine lv_iload_n hx hb dX11_ends_9 rfl (lv_at hl 1 rfl) ?_
    have hk5 := hM.1
    have hM := hM.2
    refine x_cv hV (x_runV (As := [.int x1]) (rest := []) C hV mi_X11_emit wl_X11_302 hk5 (c_X11_emit hM) ⟨by decide, by decide⟩ rfl hl.1 (Nat.le_of_ble_eq_true rfl) dX11_ends_10 ⟨Nat.zero_le _, Nat.zero_le _⟩) (fun S6 H locs hV hM => ?_)
    refine lv_aload_n hx hb dX11_ends_13 rfl (lv_at hl 0 rfl) ?_
    refine lv_dup hx hb dX11_ends_14 rfl ?_
    have hk8 := hM.1
    have hM := hM.2
    refine x_getI C hV wf_X11_293 hk8 dX11_ends_15 ?_
    refine lv_iconst (v := 1) hx hb dX11_ends_18 (by decide) ?_
    refine lv_isub hx hb dX11_ends_19 ?_
    obtain ⟨S9, eS9⟩ : ∃ z : PS, z = S6.setI 798 a0 ((S6.I 798 a0) - 1) := ⟨_, rfl⟩
    have hM := hM S9 eS9
    refine x_putI C hV wp_X11_293 hk8 ⟨rfl, rfl⟩ eS9 dX11_ends_20 (fun H locs hV => ?_)
    refine lv_aload_n hx hb dX11_ends_23 rfl (lv_at hl 0 rfl) ?_
    refine lv_dup hx hb dX11_ends_24 rfl ?_
    have hk10 := kp_I eS9 hk8
    refine x_getI C hV wf_X11_306 hk10 dX11_ends_25 ?_
    refine lv_iconst (v := 1) hx hb dX11_ends_28 (by decide) ?_
    refine lv_isub hx hb dX11_ends_29 ?_
    obtain ⟨S11, eS11⟩ : ∃ z : PS, z = S9.setI 799 a0 ((S9.I 799 a0) - 1) := ⟨_, rfl⟩
    have hM := hM S11 eS11
    refine x_putI C hV wp_X11_306 hk10 ⟨rfl, rfl⟩ eS11 dX11_ends_30 (fun H locs hV => ?_)
    refine lv_goto (tgt := 0) hx hb dX11_ends_33 (by decide) ?_
    exact ih _ _ _ _ _ _ hM hV (lv_sub hl [0, 1] rfl)
set_option maxHeartbeats 4000000 in
set_option maxRecDepth 100000 in
theorem c_X11_ends {l : Launch} {D : DX} {cA : Nat → ClassId} {z0 N : Nat} {S : PS} {a0 : Nat} {x1 : Int32} {K : PS → Prop} (hM : wp_X11_ends N S a0 x1 K) : MetV l yX11_ends cX11_ends 2 none 1 0 0 D cA z0 [.ref a0, .int x1] S K := by
  refine x_met RX11 (by decide) rfl ?_
  intro p e s m below meth c C hin hV
  have hl := lv_entry ([.ref a0, .int x1]) (n := 2) (Nat.le_of_ble_eq_true rfl)
  rw [lg_entry_eq]
  generalize (lg_sl ([.ref a0, .int x1]) ++ List.replicate (2 - (lg_sl ([.ref a0, .int x1])).length) Slot.unset).toArray = ls at hl ⊢
  have hl : lv_has ls 2 [(0, .ref a0), (1, .int x1)] := hl
  obtain ⟨hx, hb, hml, hown, hts, hK, hz, hlk, hr⟩ := id C
  unfold wp_X11_ends at hM
  exact tq_X11_ends_0 C N _ _ _ _ _ _ hM hV (lv_sub hl [0, 1] rfl)

def wp_X11_isWord (N : Nat) (S : PS) (a0 : Nat) (j1 : Int64) (K : Int32 → PS → Prop) : Prop := S.K a0 = 12 ∧ if (S.I 783 a0) = 1 then (if (lg_cmp (S.J 786 a0) j1) = 0 then (K 1 S) else (K 0 S)) else (K 0 S)
set_option maxHeartbeats 4000000 in
set_option maxRecDepth 100000 in
theorem c_X11_isWord {l : Launch} {D : DX} {cA : Nat → ClassId} {z0 N : Nat} {S : PS} {a0 : Nat} {j1 : Int64} {K : Int32 → PS → Prop} (hM : wp_X11_isWord N S a0 j1 K) : MetI l yX11_isWord cX11_isWord 3 (some .boolean) 0 0 0 D cA z0 [.ref a0, .long j1] S (fun r S => (r = 0 ∨ r = 1) ∧ K r S) := by
  refine x_met RX11 (by decide) rfl ?_
  intro p e s m below meth c C hin hV
  have hl := lv_entry ([.ref a0, .long j1]) (n := 3) (Nat.le_of_ble_eq_true rfl)
  rw [lg_entry_eq]
  generalize (lg_sl ([.ref a0, .long j1]) ++ List.replicate (3 - (lg_sl ([.ref a0, .long j1])).length) Slot.unset).toArray = ls at hl ⊢
  have hl : lv_has ls 3 [(0, .ref a0), (1, .long j1)] := hl
  obtain ⟨hx, hb, hml, hown, hts, hK, hz, hlk, hr⟩ := id C
  unfold wp_X11_isWord at hM
  refine lv_aload_n hx hb dX11_isWord_0 rfl (lv_at hl 0 rfl) ?_
  have hk1 := hM.1
  have hM := hM.2
  refine x_getI C hV wf_X11_157 hk1 dX11_isWord_1 ?_
  refine lv_iconst (v := 1) hx hb dX11_isWord_4 (by decide) ?_
  refine lv_icmp_ne (tgt := 21) hx hb dX11_isWord_5 (by decide) (fun c2 => ?_) (fun c2 => ?_)
  · have hM := ite_f c2 hM
    refine lv_iconst (v := 0) hx hb dX11_isWord_21 (by decide) ?_
    exact x_zret C hV (by decide) hM dX11_isWord_22
  have hM := ite_t c2 hM
  refine lv_aload_n hx hb dX11_isWord_8 rfl (lv_at hl 0 rfl) ?_
  refine x_getJ C hV wf_X11_160 hk1 dX11_isWord_9 ?_
  refine lv_lload_n hx hb dX11_isWord_12 rfl (lv_at hl 1 rfl) ?_
  refine W.lcmp hx hb dX11_isWord_13 ?_
  refine lv_if_ne (tgt := 21) hx hb dX11_isWord_14 (by decide) (fun c3 => ?_) (fun c3 => ?_)
  · have hM := ite_f c3 hM
    refine lv_iconst (v := 0) hx hb dX11_isWord_21 (by decide) ?_
    exact x_zret C hV (by decide) hM dX11_isWord_22
  have hM := ite_t c3 hM
  refine lv_iconst (v := 1) hx hb dX11_isWord_17 (by decide) ?_
  refine lv_goto (tgt := 22) hx hb dX11_isWord_18 (by decide) ?_
  exact x_zret C hV (by decide) hM dX11_isWord_22

def wp_X11_factHere (N : Nat) (S : PS) (a0 : Nat) (K : Int32 → PS → Prop) : Prop := S.K a0 = 12 ∧ wp_X11_isWord N S a0 (2968 : Int64) (fun r3 S2 => if r3 = 0 then (S2.K a0 = 12 ∧ wp_X11_isWord N S2 a0 (370000 : Int64) (fun r8 S7 => if r8 = 0 then (S7.K a0 = 12 ∧ wp_X11_isWord N S7 a0 (385331 : Int64) (fun r13 S12 => if r13 = 0 then (S12.K a0 = 12 ∧ wp_X11_isWord N S12 a0 (10989814 : Int64) (fun r18 S17 => if r18 = 0 then (S17.K a0 = 12 ∧ wp_X11_isWord N S17 a0 (10416350 : Int64) (fun r23 S22 => if r23 = 0 then (S22.K a0 = 12 ∧ wp_X11_isWord N S22 a0 (262972 : Int64) (fun r28 S27 => if r28 = 0 then (S27.K a0 = 12 ∧ wp_X11_isWord N S27 a0 (277560328 : Int64) (fun r33 S32 => if r33 = 0 then (K (-1) S32) else (K 6 S32))) else (K 5 S27))) else (K 4 S22))) else (K 3 S17))) else (K 2 S12))) else (K 1 S7))) else (K 0 S2))
set_option maxHeartbeats 4000000 in
set_option maxRecDepth 100000 in
theorem c_X11_factHere {l : Launch} {D : DX} {cA : Nat → ClassId} {z0 N : Nat} {S : PS} {a0 : Nat} {K : Int32 → PS → Prop} (hM : wp_X11_factHere N S a0 K) : MetI l yX11_factHere cX11_factHere 1 (some .int) 1 0 0 D cA z0 [.ref a0] S K := by
  refine x_met RX11 (by decide) rfl ?_
  intro p e s m below meth c C hin hV
  have hl := lv_entry ([.ref a0]) (n := 1) (Nat.le_of_ble_eq_true rfl)
  rw [lg_entry_eq]
  generalize (lg_sl ([.ref a0]) ++ List.replicate (1 - (lg_sl ([.ref a0])).length) Slot.unset).toArray = ls at hl ⊢
  have hl : lv_has ls 1 [(0, .ref a0)] := hl
  obtain ⟨hx, hb, hml, hown, hts, hK, hz, hlk, hr⟩ := id C
  unfold wp_X11_factHere at hM
  refine lv_aload_n hx hb dX11_factHere_0 rfl (lv_at hl 0 rfl) ?_
  refine lv_ldc2 hx hb hown (hts _ wc_X11_312) dX11_factHere_1 ?_
  have hk1 := hM.1
  have hM := hM.2
  refine x_ci hV (x_runV (As := [.long (2968 : Int64)]) (rest := []) C hV mi_X11_isWord wl_X11_180 hk1 (c_X11_isWord hM) ⟨by decide, by decide⟩ rfl hl.1 (Nat.le_of_ble_eq_true rfl) dX11_factHere_4 ⟨Nat.zero_le _, Nat.zero_le _⟩) (fun r3 S2 H locs hV hM => ?_)
  have hz4 := hM.1
  have hM := hM.2
  refine lv_if_eq (tgt := 14) hx hb dX11_factHere_7 (by decide) (fun c5 => ?_) (fun c5 => ?_)
  · have hM := ite_t c5 hM
    refine lv_aload_n hx hb dX11_factHere_14 rfl (lv_at hl 0 rfl) ?_
    refine lv_ldc2 hx hb hown (hts _ wc_X11_314) dX11_factHere_15 ?_
    have hk6 := hM.1
    have hM := hM.2
    refine x_ci hV (x_runV (As := [.long (370000 : Int64)]) (rest := []) C hV mi_X11_isWord wl_X11_180 hk6 (c_X11_isWord hM) ⟨by decide, by decide⟩ rfl hl.1 (Nat.le_of_ble_eq_true rfl) dX11_factHere_18 ⟨Nat.zero_le _, Nat.zero_le _⟩) (fun r8 S7 H locs hV hM => ?_)
    have hz9 := hM.1
    have hM := hM.2
    refine lv_if_eq (tgt := 28) hx hb dX11_factHere_21 (by decide) (fun c10 => ?_) (fun c10 => ?_)
    · have hM := ite_t c10 hM
      refine lv_aload_n hx hb dX11_factHere_28 rfl (lv_at hl 0 rfl) ?_
      refine lv_ldc2 hx hb hown (hts _ wc_X11_316) dX11_factHere_29 ?_
      have hk11 := hM.1
      have hM := hM.2
      refine x_ci hV (x_runV (As := [.long (385331 : Int64)]) (rest := []) C hV mi_X11_isWord wl_X11_180 hk11 (c_X11_isWord hM) ⟨by decide, by decide⟩ rfl hl.1 (Nat.le_of_ble_eq_true rfl) dX11_factHere_32 ⟨Nat.zero_le _, Nat.zero_le _⟩) (fun r13 S12 H locs hV hM => ?_)
      have hz14 := hM.1
      have hM := hM.2
      refine lv_if_eq (tgt := 42) hx hb dX11_factHere_35 (by decide) (fun c15 => ?_) (fun c15 => ?_)
      · have hM := ite_t c15 hM
        refine lv_aload_n hx hb dX11_factHere_42 rfl (lv_at hl 0 rfl) ?_
        refine lv_ldc2 hx hb hown (hts _ wc_X11_318) dX11_factHere_43 ?_
        have hk16 := hM.1
        have hM := hM.2
        refine x_ci hV (x_runV (As := [.long (10989814 : Int64)]) (rest := []) C hV mi_X11_isWord wl_X11_180 hk16 (c_X11_isWord hM) ⟨by decide, by decide⟩ rfl hl.1 (Nat.le_of_ble_eq_true rfl) dX11_factHere_46 ⟨Nat.zero_le _, Nat.zero_le _⟩) (fun r18 S17 H locs hV hM => ?_)
        have hz19 := hM.1
        have hM := hM.2
        refine lv_if_eq (tgt := 56) hx hb dX11_factHere_49 (by decide) (fun c20 => ?_) (fun c20 => ?_)
        · have hM := ite_t c20 hM
          refine lv_aload_n hx hb dX11_factHere_56 rfl (lv_at hl 0 rfl) ?_
          refine lv_ldc2 hx hb hown (hts _ wc_X11_320) dX11_factHere_57 ?_
          have hk21 := hM.1
          have hM := hM.2
          refine x_ci hV (x_runV (As := [.long (10416350 : Int64)]) (rest := []) C hV mi_X11_isWord wl_X11_180 hk21 (c_X11_isWord hM) ⟨by decide, by decide⟩ rfl hl.1 (Nat.le_of_ble_eq_true rfl) dX11_factHere_60 ⟨Nat.zero_le _, Nat.zero_le _⟩) (fun r23 S22 H locs hV hM => ?_)
          have hz24 := hM.1
          have hM := hM.2
          refine lv_if_eq (tgt := 70) hx hb dX11_factHere_63 (by decide) (fun c25 => ?_) (fun c25 => ?_)
          · have hM := ite_t c25 hM
            refine lv_aload_n hx hb dX11_factHere_70 rfl (lv_at hl 0 rfl) ?_
            refine lv_ldc2 hx hb hown (hts _ wc_X11_322) dX11_factHere_71 ?_
            have hk26 := hM.1
            have hM := hM.2
            refine x_ci hV (x_runV (As := [.long (262972 : Int64)]) (rest := []) C hV mi_X11_isWord wl_X11_180 hk26 (c_X11_isWord hM) ⟨by decide, by decide⟩ rfl hl.1 (Nat.le_of_ble_eq_true rfl) dX11_factHere_74 ⟨Nat.zero_le _, Nat.zero_le _⟩) (fun r28 S27 H locs hV hM => ?_)
            have hz29 := hM.1
            have hM := hM.2
            refine lv_if_eq (tgt := 84) hx hb dX11_factHere_77 (by decide) (fun c30 => ?_) (fun c30 => ?_)
            · have hM := ite_t c30 hM
              refine lv_aload_n hx hb dX11_factHere_84 rfl (lv_at hl 0 rfl) ?_
              refine lv_ldc2 hx hb hown (hts _ wc_X11_324) dX11_factHere_85 ?_
              have hk31 := hM.1
              have hM := hM.2
              refine x_ci hV (x_runV (As := [.long (277560328 : Int64)]) (rest := []) C hV mi_X11_isWord wl_X11_180 hk31 (c_X11_isWord hM) ⟨by decide, by decide⟩ rfl hl.1 (Nat.le_of_ble_eq_true rfl) dX11_factHere_88 ⟨Nat.zero_le _, Nat.zero_le _⟩) (fun r33 S32 H locs hV hM => ?_)
              have hz34 := hM.1
              have hM := hM.2
              refine lv_if_eq (tgt := 99) hx hb dX11_factHere_91 (by decide) (fun c35 => ?_) (fun c35 => ?_)
              · have hM := ite_t c35 hM
                refine lv_iconst (v := (-1)) hx hb dX11_factHere_99 (by decide) ?_
                exact x_iret C hV hM dX11_factHere_100
              have hM := ite_f c35 hM
              refine lv_bipush (v := 6) hx hb dX11_factHere_94 (by decide) ?_
              refine lv_goto (tgt := 100) hx hb dX11_factHere_96 (by decide) ?_
              exact x_iret C hV hM dX11_factHere_100
            have hM := ite_f c30 hM
            refine lv_iconst (v := 5) hx hb dX11_factHere_80 (by decide) ?_
            refine lv_goto (tgt := 100) hx hb dX11_factHere_81 (by decide) ?_
            exact x_iret C hV hM dX11_factHere_100
          have hM := ite_f c25 hM
          refine lv_iconst (v := 4) hx hb dX11_factHere_66 (by decide) ?_
          refine lv_goto (tgt := 100) hx hb dX11_factHere_67 (by decide) ?_
          exact x_iret C hV hM dX11_factHere_100
        have hM := ite_f c20 hM
        refine lv_iconst (v := 3) hx hb dX11_factHere_52 (by decide) ?_
        refine lv_goto (tgt := 100) hx hb dX11_factHere_53 (by decide) ?_
        exact x_iret C hV hM dX11_factHere_100
      have hM := ite_f c15 hM
      refine lv_iconst (v := 2) hx hb dX11_factHere_38 (by decide) ?_
      refine lv_goto (tgt := 100) hx hb dX11_factHere_39 (by decide) ?_
      exact x_iret C hV hM dX11_factHere_100
    have hM := ite_f c10 hM
    refine lv_iconst (v := 1) hx hb dX11_factHere_24 (by decide) ?_
    refine lv_goto (tgt := 100) hx hb dX11_factHere_25 (by decide) ?_
    exact x_iret C hV hM dX11_factHere_100
  have hM := ite_f c5 hM
  refine lv_iconst (v := 0) hx hb dX11_factHere_10 (by decide) ?_
  refine lv_goto (tgt := 100) hx hb dX11_factHere_11 (by decide) ?_
  exact x_iret C hV hM dX11_factHere_100

def wp_X11_isMark (N : Nat) (S : PS) (a0 : Nat) (x1 : Int32) (K : Int32 → PS → Prop) : Prop := S.K a0 = 12 ∧ if (S.I 783 a0) = 3 then (if (S.I 787 a0) = x1 then (K 1 S) else (K 0 S)) else (K 0 S)
set_option maxHeartbeats 4000000 in
set_option maxRecDepth 100000 in
theorem c_X11_isMark {l : Launch} {D : DX} {cA : Nat → ClassId} {z0 N : Nat} {S : PS} {a0 : Nat} {x1 : Int32} {K : Int32 → PS → Prop} (hM : wp_X11_isMark N S a0 x1 K) : MetI l yX11_isMark cX11_isMark 2 (some .boolean) 0 0 0 D cA z0 [.ref a0, .int x1] S (fun r S => (r = 0 ∨ r = 1) ∧ K r S) := by
  refine x_met RX11 (by decide) rfl ?_
  intro p e s m below meth c C hin hV
  have hl := lv_entry ([.ref a0, .int x1]) (n := 2) (Nat.le_of_ble_eq_true rfl)
  rw [lg_entry_eq]
  generalize (lg_sl ([.ref a0, .int x1]) ++ List.replicate (2 - (lg_sl ([.ref a0, .int x1])).length) Slot.unset).toArray = ls at hl ⊢
  have hl : lv_has ls 2 [(0, .ref a0), (1, .int x1)] := hl
  obtain ⟨hx, hb, hml, hown, hts, hK, hz, hlk, hr⟩ := id C
  unfold wp_X11_isMark at hM
  refine lv_aload_n hx hb dX11_isMark_0 rfl (lv_at hl 0 rfl) ?_
  have hk1 := hM.1
  have hM := hM.2
  refine x_getI C hV wf_X11_157 hk1 dX11_isMark_1 ?_
  refine lv_iconst (v := 3) hx hb dX11_isMark_4 (by decide) ?_
  refine lv_icmp_ne (tgt := 20) hx hb dX11_isMark_5 (by decide) (fun c2 => ?_) (fun c2 => ?_)
  · have hM := ite_f c2 hM
    refine lv_iconst (v := 0) hx hb dX11_isMark_20 (by decide) ?_
    exact x_zret C hV (by decide) hM dX11_isMark_21
  have hM := ite_t c2 hM
  refine lv_aload_n hx hb dX11_isMark_8 rfl (lv_at hl 0 rfl) ?_
  refine x_getI C hV wf_X11_164 hk1 dX11_isMark_9 ?_
  refine lv_iload_n hx hb dX11_isMark_12 rfl (lv_at hl 1 rfl) ?_
  refine lv_icmp_ne (tgt := 20) hx hb dX11_isMark_13 (by decide) (fun c3 => ?_) (fun c3 => ?_)
  · have hM := ite_f c3 hM
    refine lv_iconst (v := 0) hx hb dX11_isMark_20 (by decide) ?_
    exact x_zret C hV (by decide) hM dX11_isMark_21
  have hM := ite_t c3 hM
  refine lv_iconst (v := 1) hx hb dX11_isMark_16 (by decide) ?_
  refine lv_goto (tgt := 21) hx hb dX11_isMark_17 (by decide) ?_
  exact x_zret C hV (by decide) hM dX11_isMark_21

def wp_X11_isNumber (N : Nat) (S : PS) (a0 : Nat) (K : Int32 → PS → Prop) : Prop := S.K a0 = 12 ∧ if (S.I 783 a0) = 2 then (if (S.I 787 a0) < 0 then (K 0 S) else (K 1 S)) else (K 0 S)
set_option maxHeartbeats 4000000 in
set_option maxRecDepth 100000 in
theorem c_X11_isNumber {l : Launch} {D : DX} {cA : Nat → ClassId} {z0 N : Nat} {S : PS} {a0 : Nat} {K : Int32 → PS → Prop} (hM : wp_X11_isNumber N S a0 K) : MetI l yX11_isNumber cX11_isNumber 1 (some .boolean) 0 0 0 D cA z0 [.ref a0] S (fun r S => (r = 0 ∨ r = 1) ∧ K r S) := by
  refine x_met RX11 (by decide) rfl ?_
  intro p e s m below meth c C hin hV
  have hl := lv_entry ([.ref a0]) (n := 1) (Nat.le_of_ble_eq_true rfl)
  rw [lg_entry_eq]
  generalize (lg_sl ([.ref a0]) ++ List.replicate (1 - (lg_sl ([.ref a0])).length) Slot.unset).toArray = ls at hl ⊢
  have hl : lv_has ls 1 [(0, .ref a0)] := hl
  obtain ⟨hx, hb, hml, hown, hts, hK, hz, hlk, hr⟩ := id C
  unfold wp_X11_isNumber at hM
  refine lv_aload_n hx hb dX11_isNumber_0 rfl (lv_at hl 0 rfl) ?_
  have hk1 := hM.1
  have hM := hM.2
  refine x_getI C hV wf_X11_157 hk1 dX11_isNumber_1 ?_
  refine lv_iconst (v := 2) hx hb dX11_isNumber_4 (by decide) ?_
  refine lv_icmp_ne (tgt := 19) hx hb dX11_isNumber_5 (by decide) (fun c2 => ?_) (fun c2 => ?_)
  · have hM := ite_f c2 hM
    refine lv_iconst (v := 0) hx hb dX11_isNumber_19 (by decide) ?_
    exact x_zret C hV (by decide) hM dX11_isNumber_20
  have hM := ite_t c2 hM
  refine lv_aload_n hx hb dX11_isNumber_8 rfl (lv_at hl 0 rfl) ?_
  refine x_getI C hV wf_X11_164 hk1 dX11_isNumber_9 ?_
  refine lv_if_lt (tgt := 19) hx hb dX11_isNumber_12 (by decide) (fun c3 => ?_) (fun c3 => ?_)
  · have hM := ite_t c3 hM
    refine lv_iconst (v := 0) hx hb dX11_isNumber_19 (by decide) ?_
    exact x_zret C hV (by decide) hM dX11_isNumber_20
  have hM := ite_f c3 hM
  refine lv_iconst (v := 1) hx hb dX11_isNumber_15 (by decide) ?_
  refine lv_goto (tgt := 20) hx hb dX11_isNumber_16 (by decide) ?_
  exact x_zret C hV (by decide) hM dX11_isNumber_20

def wp_X11_pend (N : Nat) (S : PS) (a0 : Nat) (x1 : Int32) (K : PS → Prop) : Prop := S.K a0 = 12 ∧ ∃ p2 : Nat, S.R 796 a0 = some p2 ∧ S.K p2 = 20 ∧ vp_in (S.I 798 a0) (S.ln p2) ∧ ∀ S5 : PS, S5 = S.setA p2 (S.I 798 a0).toNatClampNeg x1 → ∀ S7 : PS, S7 = S5.setI 798 a0 ((S5.I 798 a0) + 1) → K S7
set_option maxHeartbeats 4000000 in
set_option maxRecDepth 100000 in
theorem c_X11_pend {l : Launch} {D : DX} {cA : Nat → ClassId} {z0 N : Nat} {S : PS} {a0 : Nat} {x1 : Int32} {K : PS → Prop} (hM : wp_X11_pend N S a0 x1 K) : MetV l yX11_pend cX11_pend 2 none 0 0 0 D cA z0 [.ref a0, .int x1] S K := by
  refine x_met RX11 (by decide) rfl ?_
  intro p e s m below meth c C hin hV
  have hl := lv_entry ([.ref a0, .int x1]) (n := 2) (Nat.le_of_ble_eq_true rfl)
  rw [lg_entry_eq]
  generalize (lg_sl ([.ref a0, .int x1]) ++ List.replicate (2 - (lg_sl ([.ref a0, .int x1])).length) Slot.unset).toArray = ls at hl ⊢
  have hl : lv_has ls 2 [(0, .ref a0), (1, .int x1)] := hl
  obtain ⟨hx, hb, hml, hown, hts, hK, hz, hlk, hr⟩ := id C
  unfold wp_X11_pend at hM
  refine lv_aload_n hx hb dX11_pend_0 rfl (lv_at hl 0 rfl) ?_
  have hk1 := hM.1
  have hM := hM.2
  obtain ⟨p2, hp2, hM⟩ := hM
  refine x_getR C hV wf_X11_44 hk1 hp2 dX11_pend_1 ?_
  refine lv_aload_n hx hb dX11_pend_4 rfl (lv_at hl 0 rfl) ?_
  refine x_getI C hV wf_X11_293 hk1 dX11_pend_5 ?_
  refine lv_iload_n hx hb dX11_pend_8 rfl (lv_at hl 1 rfl) ?_
  have hk3 := hM.1
  have hM := hM.2
  have hi4 := hM.1
  have hM := hM.2
  obtain ⟨S5, eS5⟩ : ∃ z : PS, z = S.setA p2 (S.I 798 a0).toNatClampNeg x1 := ⟨_, rfl⟩
  have hM := hM S5 eS5
  refine x_iast C hV hk3 hi4 eS5 dX11_pend_9 (fun H locs hV => ?_)
  refine lv_aload_n hx hb dX11_pend_10 rfl (lv_at hl 0 rfl) ?_
  refine lv_dup hx hb dX11_pend_11 rfl ?_
  have hk6 := kp_A eS5 hk1
  refine x_getI C hV wf_X11_293 hk6 dX11_pend_12 ?_
  refine lv_iconst (v := 1) hx hb dX11_pend_15 (by decide) ?_
  refine lv_iadd hx hb dX11_pend_16 ?_
  obtain ⟨S7, eS7⟩ : ∃ z : PS, z = S5.setI 798 a0 ((S5.I 798 a0) + 1) := ⟨_, rfl⟩
  have hM := hM S7 eS7
  refine x_putI C hV wp_X11_293 hk6 ⟨rfl, rfl⟩ eS7 dX11_pend_17 (fun H locs hV => ?_)
  exact x_vret C hV hM dX11_pend_20

def wq_X11_opens_14 (N : Nat) (K : PS → Prop) (S : PS) (a0 : Nat) (x1 : Int32) (b0 : Nat) (t1 : Int32) : Prop := S.K b0 = 12 ∧ (t1 = 0 ∨ t1 = 1) ∧ ∀ S5 : PS, S5 = S.setI 788 b0 t1 → S5.K a0 = 12 ∧ if (S5.I 788 a0) = 0 then (K S5) else (∀ S8 : PS, S8 = S5.setI 799 a0 ((S5.I 799 a0) + 1) → wp_X11_pend N S8 a0 x1 (fun S10 => S10.K a0 = 12 ∧ wp_X11_advance N S10 a0 (fun S13 => K S13)))
def wp_X11_opens (N : Nat) (S : PS) (a0 : Nat) (x1 : Int32) (K : PS → Prop) : Prop := S.K a0 = 12 ∧ if 4 ≤ (S.I 799 a0) then (wq_X11_opens_14 N K S a0 x1 a0 0) else (wq_X11_opens_14 N K S a0 x1 a0 1)
set_option maxHeartbeats 4000000 in
set_option maxRecDepth 100000 in
theorem tq_X11_opens_14 {p : Program} {l : Launch} {e : Env} {s : State} {m : MethodId} {args : Array Value} {below : List Frame} {meth : Method} {c : Code} {D : DX} {cA : Nat → ClassId} {z0 N : Nat} {K : PS → Prop} (C : CX p s m args meth c cX11_opens 2 RX11 none D cA z0) : ∀ (S : PS) (a0 : Nat) (x1 : Int32) (b0 : Nat) (t1 : Int32) (H : Heap) (locs : List Loc) (ls : Array Slot), wq_X11_opens_14 N K S a0 x1 b0 t1 → XV D cA z0 s S H locs → lv_has ls 2 [(0, .ref a0), (1, .int x1)] → W p l e (rmd 3 0 0) s m args below meth c H locs 0 0 (MQ below (va_Qv K (XK D cA z0) (zA z0)) args s 0 0 (zA z0)) (F0 m 14 ls [.int t1, .ref b0]) := by
  obtain ⟨hx, hb, hml, hown, hts, hK, hz, hlk, hr⟩ := id C
  intro S a0 x1 b0 t1 H locs ls hM hV hl
  unfold wq_X11_opens_14 at hM
  have hk3 := hM.1
  have hM := hM.2
  have hz4 := hM.1
  have hM := hM.2
  obtain ⟨S5, eS5⟩ : ∃ z : PS, z = S.setI 788 b0 t1 := ⟨_, rfl⟩
  have hM := hM S5 eS5
  refine x_putI C hV wp_X11_173 hk3 (nz_b hz4) eS5 dX11_opens_14 (fun H locs hV => ?_)
  refine lv_aload_n hx hb dX11_opens_17 rfl (lv_at hl 0 rfl) ?_
  have hk6 := hM.1
  have hM := hM.2
  refine x_getI C hV wf_X11_173 hk6 dX11_opens_18 ?_
  refine lv_if_eq (tgt := 43) hx hb dX11_opens_21 (by decide) (fun c7 => ?_) (fun c7 => ?_)
  · have hM := ite_t c7 hM
    exact x_vret C hV hM dX11_opens_43
  have hM := ite_f c7 hM
  refine lv_aload_n hx hb dX11_opens_24 rfl (lv_at hl 0 rfl) ?_
  refine lv_dup hx hb dX11_opens_25 rfl ?_
  refine x_getI C hV wf_X11_306 hk6 dX11_opens_26 ?_
  refine lv_iconst (v := 1) hx hb dX11_opens_29 (by decide) ?_
  refine lv_iadd hx hb dX11_opens_30 ?_
  obtain ⟨S8, eS8⟩ : ∃ z : PS, z = S5.setI 799 a0 ((S5.I 799 a0) + 1) := ⟨_, rfl⟩
  have hM := hM S8 eS8
  refine x_putI C hV wp_X11_306 hk6 ⟨rfl, rfl⟩ eS8 dX11_opens_31 (fun H locs hV => ?_)
  refine lv_aload_n hx hb dX11_opens_34 rfl (lv_at hl 0 rfl) ?_
  refine lv_iload_n hx hb dX11_opens_35 rfl (lv_at hl 1 rfl) ?_
  have hk9 := kp_I eS8 hk6
  refine x_cv hV (x_runV (As := [.int x1]) (rest := []) C hV mi_X11_pend wl_X11_309 hk9 (c_X11_pend hM) ⟨by decide, by decide⟩ rfl hl.1 (Nat.le_of_ble_eq_true rfl) dX11_opens_36 ⟨Nat.zero_le _, Nat.zero_le _⟩) (fun S10 H locs hV hM => ?_)
  refine lv_aload_n hx hb dX11_opens_39 rfl (lv_at hl 0 rfl) ?_
  have hk12 := hM.1
  have hM := hM.2
  refine x_cv hV (x_runV (As := []) (rest := []) C hV mi_X11_advance wl_X11_177 hk12 (c_X11_advance hM) ⟨by decide, by decide⟩ rfl hl.1 (Nat.le_of_ble_eq_true rfl) dX11_opens_40 ⟨Nat.zero_le _, Nat.zero_le _⟩) (fun S13 H locs hV hM => ?_)
  exact x_vret C hV hM dX11_opens_43
set_option maxHeartbeats 4000000 in
set_option maxRecDepth 100000 in
theorem c_X11_opens {l : Launch} {D : DX} {cA : Nat → ClassId} {z0 N : Nat} {S : PS} {a0 : Nat} {x1 : Int32} {K : PS → Prop} (hM : wp_X11_opens N S a0 x1 K) : MetV l yX11_opens cX11_opens 2 none 3 0 0 D cA z0 [.ref a0, .int x1] S K := by
  refine x_met RX11 (by decide) rfl ?_
  intro p e s m below meth c C hin hV
  have hl := lv_entry ([.ref a0, .int x1]) (n := 2) (Nat.le_of_ble_eq_true rfl)
  rw [lg_entry_eq]
  generalize (lg_sl ([.ref a0, .int x1]) ++ List.replicate (2 - (lg_sl ([.ref a0, .int x1])).length) Slot.unset).toArray = ls at hl ⊢
  have hl : lv_has ls 2 [(0, .ref a0), (1, .int x1)] := hl
  obtain ⟨hx, hb, hml, hown, hts, hK, hz, hlk, hr⟩ := id C
  unfold wp_X11_opens at hM
  refine lv_aload_n hx hb dX11_opens_0 rfl (lv_at hl 0 rfl) ?_
  refine lv_aload_n hx hb dX11_opens_1 rfl (lv_at hl 0 rfl) ?_
  have hk1 := hM.1
  have hM := hM.2
  refine x_getI C hV wf_X11_306 hk1 dX11_opens_2 ?_
  refine lv_iconst (v := 4) hx hb dX11_opens_5 (by decide) ?_
  refine lv_icmp_ge (tgt := 13) hx hb dX11_opens_6 (by decide) (fun c2 => ?_) (fun c2 => ?_)
  · have hM := ite_t c2 hM
    refine lv_iconst (v := 0) hx hb dX11_opens_13 (by decide) ?_
    exact tq_X11_opens_14 C _ _ _ _ _ _ _ _ hM hV (lv_sub hl [0, 1] rfl)
  have hM := ite_f c2 hM
  refine lv_iconst (v := 1) hx hb dX11_opens_9 (by decide) ?_
  refine lv_goto (tgt := 14) hx hb dX11_opens_10 (by decide) ?_
  exact tq_X11_opens_14 C _ _ _ _ _ _ _ _ hM hV (lv_sub hl [0, 1] rfl)

def wq_X11_beginAt_93 (N : Nat) (K : PS → Prop) (S : PS) (a0 : Nat) (b0 : Nat) (t1 : Int32) : Prop := S.K b0 = 12 ∧ ∀ S32 : PS, S32 = S.setI 800 b0 t1 → S32.K a0 = 12 ∧ wp_X11_advance N S32 a0 (fun S34 => K S34)
def wq_X11_beginAt_70 (N : Nat) (K : PS → Prop) (S : PS) (a0 : Nat) (b0 : Nat) (t1 : Int32) : Prop := S.K b0 = 12 ∧ wp_X11_emit N S b0 t1 (fun S24 => S24.K a0 = 12 ∧ wp_X11_ends N S24 a0 40003 (fun S27 => S27.K a0 = 12 ∧ if (S27.I 801 a0) = 0 then (wq_X11_beginAt_93 N K S27 a0 a0 2) else (wq_X11_beginAt_93 N K S27 a0 a0 3)))
def wq_X11_beginAt_37 (N : Nat) (K : PS → Prop) (S : PS) (a0 : Nat) (b0 : Nat) (t1 : Int32) : Prop := S.K b0 = 12 ∧ (t1 = 0 ∨ t1 = 1) ∧ ∀ S13 : PS, S13 = S.setI 788 b0 t1 → S13.K a0 = 12 ∧ if (S13.I 788 a0) = 0 then (K S13) else (wp_X11_isNumber N S13 a0 (fun r17 S16 => if r17 = 0 then (S16.K a0 = 12 ∧ wp_X11_factHere N S16 a0 (fun r22 S21 => wq_X11_beginAt_70 N K S21 a0 a0 (20000 + r22))) else (S16.K a0 = 12 ∧ wq_X11_beginAt_70 N K S16 a0 a0 (S16.I 787 a0))))
def wq_X11_beginAt_32 (N : Nat) (K : PS → Prop) (S : PS) (a0 : Nat) (b0 : Nat) : Prop := wq_X11_beginAt_37 N K S a0 b0 1
def wp_X11_beginAt (N : Nat) (S : PS) (a0 : Nat) (K : PS → Prop) : Prop := S.K a0 = 12 ∧ wp_X11_isMark N S a0 45 (fun r3 S2 => if r3 = 0 then (S2.K a0 = 12 ∧ wp_X11_isNumber N S2 a0 (fun r8 S7 => if r8 = 0 then (S7.K a0 = 12 ∧ wp_X11_factHere N S7 a0 (fun r39 S38 => if r39 < 0 then (wq_X11_beginAt_37 N K S38 a0 a0 0) else (wq_X11_beginAt_32 N K S38 a0 a0))) else (wq_X11_beginAt_32 N K S7 a0 a0))) else (S2.K a0 = 12 ∧ wp_X11_opens N S2 a0 40003 (fun S42 => K S42)))
set_option maxHeartbeats 4000000 in
set_option maxRecDepth 100000 in
theorem tq_X11_beginAt_93 {p : Program} {l : Launch} {e : Env} {s : State} {m : MethodId} {args : Array Value} {below : List Frame} {meth : Method} {c : Code} {D : DX} {cA : Nat → ClassId} {z0 N : Nat} {K : PS → Prop} (C : CX p s m args meth c cX11_beginAt 1 RX11 none D cA z0) : ∀ (S : PS) (a0 : Nat) (b0 : Nat) (t1 : Int32) (H : Heap) (locs : List Loc) (ls : Array Slot), wq_X11_beginAt_93 N K S a0 b0 t1 → XV D cA z0 s S H locs → lv_has ls 1 [(0, .ref a0)] → W p l e (rmd 4 0 0) s m args below meth c H locs 0 0 (MQ below (va_Qv K (XK D cA z0) (zA z0)) args s 0 0 (zA z0)) (F0 m 93 ls [.int t1, .ref b0]) := by
  obtain ⟨hx, hb, hml, hown, hts, hK, hz, hlk, hr⟩ := id C
  intro S a0 b0 t1 H locs ls hM hV hl
  unfold wq_X11_beginAt_93 at hM
  have hk31 := hM.1
  have hM := hM.2
  obtain ⟨S32, eS32⟩ : ∃ z : PS, z = S.setI 800 b0 t1 := ⟨_, rfl⟩
  have hM := hM S32 eS32
  refine x_putI C hV wp_X11_336 hk31 ⟨rfl, rfl⟩ eS32 dX11_beginAt_93 (fun H locs hV => ?_)
  refine lv_aload_n hx hb dX11_beginAt_96 rfl (lv_at hl 0 rfl) ?_
  have hk33 := hM.1
  have hM := hM.2
  refine x_cv hV (x_runV (As := []) (rest := []) C hV mi_X11_advance wl_X11_177 hk33 (c_X11_advance hM) ⟨by decide, by decide⟩ rfl hl.1 (Nat.le_of_ble_eq_true rfl) dX11_beginAt_97 ⟨Nat.zero_le _, Nat.zero_le _⟩) (fun S34 H locs hV hM => ?_)
  exact x_vret C hV hM dX11_beginAt_100
set_option maxHeartbeats 4000000 in
set_option maxRecDepth 100000 in
theorem tq_X11_beginAt_70 {p : Program} {l : Launch} {e : Env} {s : State} {m : MethodId} {args : Array Value} {below : List Frame} {meth : Method} {c : Code} {D : DX} {cA : Nat → ClassId} {z0 N : Nat} {K : PS → Prop} (C : CX p s m args meth c cX11_beginAt 1 RX11 none D cA z0) : ∀ (S : PS) (a0 : Nat) (b0 : Nat) (t1 : Int32) (H : Heap) (locs : List Loc) (ls : Array Slot), wq_X11_beginAt_70 N K S a0 b0 t1 → XV D cA z0 s S H locs → lv_has ls 1 [(0, .ref a0)] → W p l e (rmd 4 0 0) s m args below meth c H locs 0 0 (MQ below (va_Qv K (XK D cA z0) (zA z0)) args s 0 0 (zA z0)) (F0 m 70 ls [.int t1, .ref b0]) := by
  obtain ⟨hx, hb, hml, hown, hts, hK, hz, hlk, hr⟩ := id C
  intro S a0 b0 t1 H locs ls hM hV hl
  unfold wq_X11_beginAt_70 at hM
  have hk23 := hM.1
  have hM := hM.2
  refine x_cv hV (x_runV (As := [.int t1]) (rest := []) C hV mi_X11_emit wl_X11_302 hk23 (c_X11_emit hM) ⟨by decide, by decide⟩ rfl hl.1 (Nat.le_of_ble_eq_true rfl) dX11_beginAt_70 ⟨Nat.zero_le _, Nat.zero_le _⟩) (fun S24 H locs hV hM => ?_)
  refine lv_aload_n hx hb dX11_beginAt_73 rfl (lv_at hl 0 rfl) ?_
  refine lv_ldcw hx hb hown (hts _ wc_X11_339) dX11_beginAt_74 ?_
  have hk26 := hM.1
  have hM := hM.2
  refine x_cv hV (x_runV (As := [.int 40003]) (rest := []) C hV mi_X11_ends wl_X11_343 hk26 (c_X11_ends hM) ⟨by decide, by decide⟩ rfl hl.1 (Nat.le_of_ble_eq_true rfl) dX11_beginAt_77 ⟨Nat.zero_le _, Nat.zero_le _⟩) (fun S27 H locs hV hM => ?_)
  refine lv_aload_n hx hb dX11_beginAt_80 rfl (lv_at hl 0 rfl) ?_
  refine lv_aload_n hx hb dX11_beginAt_81 rfl (lv_at hl 0 rfl) ?_
  have hk29 := hM.1
  have hM := hM.2
  refine x_getI C hV wf_X11_326 hk29 dX11_beginAt_82 ?_
  refine lv_if_eq (tgt := 92) hx hb dX11_beginAt_85 (by decide) (fun c30 => ?_) (fun c30 => ?_)
  · have hM := ite_t c30 hM
    refine lv_iconst (v := 2) hx hb dX11_beginAt_92 (by decide) ?_
    exact tq_X11_beginAt_93 C _ _ _ _ _ _ _ hM hV (lv_sub hl [0] rfl)
  have hM := ite_f c30 hM
  refine lv_iconst (v := 3) hx hb dX11_beginAt_88 (by decide) ?_
  refine lv_goto (tgt := 93) hx hb dX11_beginAt_89 (by decide) ?_
  exact tq_X11_beginAt_93 C _ _ _ _ _ _ _ hM hV (lv_sub hl [0] rfl)
set_option maxHeartbeats 4000000 in
set_option maxRecDepth 100000 in
theorem tq_X11_beginAt_37 {p : Program} {l : Launch} {e : Env} {s : State} {m : MethodId} {args : Array Value} {below : List Frame} {meth : Method} {c : Code} {D : DX} {cA : Nat → ClassId} {z0 N : Nat} {K : PS → Prop} (C : CX p s m args meth c cX11_beginAt 1 RX11 none D cA z0) : ∀ (S : PS) (a0 : Nat) (b0 : Nat) (t1 : Int32) (H : Heap) (locs : List Loc) (ls : Array Slot), wq_X11_beginAt_37 N K S a0 b0 t1 → XV D cA z0 s S H locs → lv_has ls 1 [(0, .ref a0)] → W p l e (rmd 4 0 0) s m args below meth c H locs 0 0 (MQ below (va_Qv K (XK D cA z0) (zA z0)) args s 0 0 (zA z0)) (F0 m 37 ls [.int t1, .ref b0]) := by
  obtain ⟨hx, hb, hml, hown, hts, hK, hz, hlk, hr⟩ := id C
  intro S a0 b0 t1 H locs ls hM hV hl
  unfold wq_X11_beginAt_37 at hM
  have hk11 := hM.1
  have hM := hM.2
  have hz12 := hM.1
  have hM := hM.2
  obtain ⟨S13, eS13⟩ : ∃ z : PS, z = S.setI 788 b0 t1 := ⟨_, rfl⟩
  have hM := hM S13 eS13
  refine x_putI C hV wp_X11_173 hk11 (nz_b hz12) eS13 dX11_beginAt_37 (fun H locs hV => ?_)
  refine lv_aload_n hx hb dX11_beginAt_40 rfl (lv_at hl 0 rfl) ?_
  have hk14 := hM.1
  have hM := hM.2
  refine x_getI C hV wf_X11_173 hk14 dX11_beginAt_41 ?_
  refine lv_if_eq (tgt := 100) hx hb dX11_beginAt_44 (by decide) (fun c15 => ?_) (fun c15 => ?_)
  · have hM := ite_t c15 hM
    exact x_vret C hV hM dX11_beginAt_100
  have hM := ite_f c15 hM
  refine lv_aload_n hx hb dX11_beginAt_47 rfl (lv_at hl 0 rfl) ?_
  refine lv_aload_n hx hb dX11_beginAt_48 rfl (lv_at hl 0 rfl) ?_
  refine x_ci hV (x_runV (As := []) (rest := [.ref a0]) C hV mi_X11_isNumber wl_X11_184 hk14 (c_X11_isNumber hM) ⟨by decide, by decide⟩ rfl hl.1 (Nat.le_of_ble_eq_true rfl) dX11_beginAt_49 ⟨Nat.zero_le _, Nat.zero_le _⟩) (fun r17 S16 H locs hV hM => ?_)
  have hz18 := hM.1
  have hM := hM.2
  refine lv_if_eq (tgt := 62) hx hb dX11_beginAt_52 (by decide) (fun c19 => ?_) (fun c19 => ?_)
  · have hM := ite_t c19 hM
    refine lv_sipush (v := 20000) hx hb dX11_beginAt_62 (by decide) ?_
    refine lv_aload_n hx hb dX11_beginAt_65 rfl (lv_at hl 0 rfl) ?_
    have hk20 := hM.1
    have hM := hM.2
    refine x_ci hV (x_runV (As := []) (rest := [.int 20000, .ref a0]) C hV mi_X11_factHere wl_X11_340 hk20 (c_X11_factHere hM) ⟨by decide, by decide⟩ rfl hl.1 (Nat.le_of_ble_eq_true rfl) dX11_beginAt_66 ⟨Nat.zero_le _, Nat.zero_le _⟩) (fun r22 S21 H locs hV hM => ?_)
    refine lv_iadd hx hb dX11_beginAt_69 ?_
    exact tq_X11_beginAt_70 C _ _ _ _ _ _ _ hM hV (lv_sub hl [0] rfl)
  have hM := ite_f c19 hM
  refine lv_aload_n hx hb dX11_beginAt_55 rfl (lv_at hl 0 rfl) ?_
  have hk36 := hM.1
  have hM := hM.2
  refine x_getI C hV wf_X11_164 hk36 dX11_beginAt_56 ?_
  refine lv_goto (tgt := 70) hx hb dX11_beginAt_59 (by decide) ?_
  exact tq_X11_beginAt_70 C _ _ _ _ _ _ _ hM hV (lv_sub hl [0] rfl)
set_option maxHeartbeats 4000000 in
set_option maxRecDepth 100000 in
theorem tq_X11_beginAt_32 {p : Program} {l : Launch} {e : Env} {s : State} {m : MethodId} {args : Array Value} {below : List Frame} {meth : Method} {c : Code} {D : DX} {cA : Nat → ClassId} {z0 N : Nat} {K : PS → Prop} (C : CX p s m args meth c cX11_beginAt 1 RX11 none D cA z0) : ∀ (S : PS) (a0 : Nat) (b0 : Nat) (H : Heap) (locs : List Loc) (ls : Array Slot), wq_X11_beginAt_32 N K S a0 b0 → XV D cA z0 s S H locs → lv_has ls 1 [(0, .ref a0)] → W p l e (rmd 4 0 0) s m args below meth c H locs 0 0 (MQ below (va_Qv K (XK D cA z0) (zA z0)) args s 0 0 (zA z0)) (F0 m 32 ls [.ref b0]) := by
  obtain ⟨hx, hb, hml, hown, hts, hK, hz, hlk, hr⟩ := id C
  intro S a0 b0 H locs ls hM hV hl
  unfold wq_X11_beginAt_32 at hM
  refine lv_iconst (v := 1) hx hb dX11_beginAt_32 (by decide) ?_
  refine lv_goto (tgt := 37) hx hb dX11_beginAt_33 (by decide) ?_
  exact tq_X11_beginAt_37 C _ _ _ _ _ _ _ hM hV (lv_sub hl [0] rfl)
set_option maxHeartbeats 4000000 in
set_option maxRecDepth 100000 in
theorem c_X11_beginAt {l : Launch} {D : DX} {cA : Nat → ClassId} {z0 N : Nat} {S : PS} {a0 : Nat} {K : PS → Prop} (hM : wp_X11_beginAt N S a0 K) : MetV l yX11_beginAt cX11_beginAt 1 none 4 0 0 D cA z0 [.ref a0] S K := by
  refine x_met RX11 (by decide) rfl ?_
  intro p e s m below meth c C hin hV
  have hl := lv_entry ([.ref a0]) (n := 1) (Nat.le_of_ble_eq_true rfl)
  rw [lg_entry_eq]
  generalize (lg_sl ([.ref a0]) ++ List.replicate (1 - (lg_sl ([.ref a0])).length) Slot.unset).toArray = ls at hl ⊢
  have hl : lv_has ls 1 [(0, .ref a0)] := hl
  obtain ⟨hx, hb, hml, hown, hts, hK, hz, hlk, hr⟩ := id C
  unfold wp_X11_beginAt at hM
  refine lv_aload_n hx hb dX11_beginAt_0 rfl (lv_at hl 0 rfl) ?_
  refine lv_bipush (v := 45) hx hb dX11_beginAt_1 (by decide) ?_
  have hk1 := hM.1
  have hM := hM.2
  refine x_ci hV (x_runV (As := [.int 45]) (rest := []) C hV mi_X11_isMark wl_X11_188 hk1 (c_X11_isMark hM) ⟨by decide, by decide⟩ rfl hl.1 (Nat.le_of_ble_eq_true rfl) dX11_beginAt_3 ⟨Nat.zero_le _, Nat.zero_le _⟩) (fun r3 S2 H locs hV hM => ?_)
  have hz4 := hM.1
  have hM := hM.2
  refine lv_if_eq (tgt := 17) hx hb dX11_beginAt_6 (by decide) (fun c5 => ?_) (fun c5 => ?_)
  · have hM := ite_t c5 hM
    refine lv_aload_n hx hb dX11_beginAt_17 rfl (lv_at hl 0 rfl) ?_
    refine lv_aload_n hx hb dX11_beginAt_18 rfl (lv_at hl 0 rfl) ?_
    have hk6 := hM.1
    have hM := hM.2
    refine x_ci hV (x_runV (As := []) (rest := [.ref a0]) C hV mi_X11_isNumber wl_X11_184 hk6 (c_X11_isNumber hM) ⟨by decide, by decide⟩ rfl hl.1 (Nat.le_of_ble_eq_true rfl) dX11_beginAt_19 ⟨Nat.zero_le _, Nat.zero_le _⟩) (fun r8 S7 H locs hV hM => ?_)
    have hz9 := hM.1
    have hM := hM.2
    refine lv_if_ne (tgt := 32) hx hb dX11_beginAt_22 (by decide) (fun c10 => ?_) (fun c10 => ?_)
    · have hM := ite_f c10 hM
      exact tq_X11_beginAt_32 C _ _ _ _ _ _ hM hV (lv_sub hl [0] rfl)
    have hM := ite_t c10 hM
    refine lv_aload_n hx hb dX11_beginAt_25 rfl (lv_at hl 0 rfl) ?_
    have hk37 := hM.1
    have hM := hM.2
    refine x_ci hV (x_runV (As := []) (rest := [.ref a0]) C hV mi_X11_factHere wl_X11_340 hk37 (c_X11_factHere hM) ⟨by decide, by decide⟩ rfl hl.1 (Nat.le_of_ble_eq_true rfl) dX11_beginAt_26 ⟨Nat.zero_le _, Nat.zero_le _⟩) (fun r39 S38 H locs hV hM => ?_)
    refine lv_if_lt (tgt := 36) hx hb dX11_beginAt_29 (by decide) (fun c40 => ?_) (fun c40 => ?_)
    · have hM := ite_t c40 hM
      refine lv_iconst (v := 0) hx hb dX11_beginAt_36 (by decide) ?_
      exact tq_X11_beginAt_37 C _ _ _ _ _ _ _ hM hV (lv_sub hl [0] rfl)
    have hM := ite_f c40 hM
    exact tq_X11_beginAt_32 C _ _ _ _ _ _ hM hV (lv_sub hl [0] rfl)
  have hM := ite_f c5 hM
  refine lv_aload_n hx hb dX11_beginAt_9 rfl (lv_at hl 0 rfl) ?_
  refine lv_ldcw hx hb hown (hts _ wc_X11_339) dX11_beginAt_10 ?_
  have hk41 := hM.1
  have hM := hM.2
  refine x_cv hV (x_runV (As := [.int 40003]) (rest := []) C hV mi_X11_opens wl_X11_332 hk41 (c_X11_opens hM) ⟨by decide, by decide⟩ rfl hl.1 (Nat.le_of_ble_eq_true rfl) dX11_beginAt_13 ⟨Nat.zero_le _, Nat.zero_le _⟩) (fun S42 H locs hV hM => ?_)
  exact x_vret C hV hM dX11_beginAt_16

def wp_X11_beginOne (N : Nat) (S : PS) (a0 : Nat) (K : PS → Prop) : Prop := S.K a0 = 12 ∧ ∀ S2 : PS, S2 = S.setI 801 a0 0 → wp_X11_isWord N S2 a0 (10631 : Int64) (fun r5 S4 => if r5 = 0 then (S4.K a0 = 12 ∧ wp_X11_isMark N S4 a0 40 (fun r10 S9 => if r10 = 0 then (S9.K a0 = 12 ∧ ∀ S14 : PS, S14 = S9.setI 800 a0 1 → K S14) else (S9.K a0 = 12 ∧ wp_X11_opens N S9 a0 40004 (fun S16 => K S16)))) else (S4.K a0 = 12 ∧ wp_X11_opens N S4 a0 40002 (fun S19 => K S19)))
set_option maxHeartbeats 4000000 in
set_option maxRecDepth 100000 in
theorem c_X11_beginOne {l : Launch} {D : DX} {cA : Nat → ClassId} {z0 N : Nat} {S : PS} {a0 : Nat} {K : PS → Prop} (hM : wp_X11_beginOne N S a0 K) : MetV l yX11_beginOne cX11_beginOne 1 none 4 0 0 D cA z0 [.ref a0] S K := by
  refine x_met RX11 (by decide) rfl ?_
  intro p e s m below meth c C hin hV
  have hl := lv_entry ([.ref a0]) (n := 1) (Nat.le_of_ble_eq_true rfl)
  rw [lg_entry_eq]
  generalize (lg_sl ([.ref a0]) ++ List.replicate (1 - (lg_sl ([.ref a0])).length) Slot.unset).toArray = ls at hl ⊢
  have hl : lv_has ls 1 [(0, .ref a0)] := hl
  obtain ⟨hx, hb, hml, hown, hts, hK, hz, hlk, hr⟩ := id C
  unfold wp_X11_beginOne at hM
  refine lv_aload_n hx hb dX11_beginOne_0 rfl (lv_at hl 0 rfl) ?_
  refine lv_iconst (v := 0) hx hb dX11_beginOne_1 (by decide) ?_
  have hk1 := hM.1
  have hM := hM.2
  obtain ⟨S2, eS2⟩ : ∃ z : PS, z = S.setI 801 a0 0 := ⟨_, rfl⟩
  have hM := hM S2 eS2
  refine x_putI C hV wp_X11_326 hk1 (nz_b (by decide)) eS2 dX11_beginOne_2 (fun H locs hV => ?_)
  refine lv_aload_n hx hb dX11_beginOne_5 rfl (lv_at hl 0 rfl) ?_
  refine lv_ldc2 hx hb hown (hts _ wc_X11_329) dX11_beginOne_6 ?_
  have hk3 := kp_I eS2 hk1
  refine x_ci hV (x_runV (As := [.long (10631 : Int64)]) (rest := []) C hV mi_X11_isWord wl_X11_180 hk3 (c_X11_isWord hM) ⟨by decide, by decide⟩ rfl hl.1 (Nat.le_of_ble_eq_true rfl) dX11_beginOne_9 ⟨Nat.zero_le _, Nat.zero_le _⟩) (fun r5 S4 H locs hV hM => ?_)
  have hz6 := hM.1
  have hM := hM.2
  refine lv_if_eq (tgt := 25) hx hb dX11_beginOne_12 (by decide) (fun c7 => ?_) (fun c7 => ?_)
  · have hM := ite_t c7 hM
    refine lv_aload_n hx hb dX11_beginOne_25 rfl (lv_at hl 0 rfl) ?_
    refine lv_bipush (v := 40) hx hb dX11_beginOne_26 (by decide) ?_
    have hk8 := hM.1
    have hM := hM.2
    refine x_ci hV (x_runV (As := [.int 40]) (rest := []) C hV mi_X11_isMark wl_X11_188 hk8 (c_X11_isMark hM) ⟨by decide, by decide⟩ rfl hl.1 (Nat.le_of_ble_eq_true rfl) dX11_beginOne_28 ⟨Nat.zero_le _, Nat.zero_le _⟩) (fun r10 S9 H locs hV hM => ?_)
    have hz11 := hM.1
    have hM := hM.2
    refine lv_if_eq (tgt := 44) hx hb dX11_beginOne_31 (by decide) (fun c12 => ?_) (fun c12 => ?_)
    · have hM := ite_t c12 hM
      refine lv_aload_n hx hb dX11_beginOne_44 rfl (lv_at hl 0 rfl) ?_
      refine lv_iconst (v := 1) hx hb dX11_beginOne_45 (by decide) ?_
      have hk13 := hM.1
      have hM := hM.2
      obtain ⟨S14, eS14⟩ : ∃ z : PS, z = S9.setI 800 a0 1 := ⟨_, rfl⟩
      have hM := hM S14 eS14
      refine x_putI C hV wp_X11_336 hk13 ⟨rfl, rfl⟩ eS14 dX11_beginOne_46 (fun H locs hV => ?_)
      exact x_vret C hV hM dX11_beginOne_49
    have hM := ite_f c12 hM
    refine lv_aload_n hx hb dX11_beginOne_34 rfl (lv_at hl 0 rfl) ?_
    refine lv_ldcw hx hb hown (hts _ wc_X11_335) dX11_beginOne_35 ?_
    have hk15 := hM.1
    have hM := hM.2
    refine x_cv hV (x_runV (As := [.int 40004]) (rest := []) C hV mi_X11_opens wl_X11_332 hk15 (c_X11_opens hM) ⟨by decide, by decide⟩ rfl hl.1 (Nat.le_of_ble_eq_true rfl) dX11_beginOne_38 ⟨Nat.zero_le _, Nat.zero_le _⟩) (fun S16 H locs hV hM => ?_)
    refine lv_goto (tgt := 49) hx hb dX11_beginOne_41 (by decide) ?_
    exact x_vret C hV hM dX11_beginOne_49
  have hM := ite_f c7 hM
  refine lv_aload_n hx hb dX11_beginOne_15 rfl (lv_at hl 0 rfl) ?_
  refine lv_ldcw hx hb hown (hts _ wc_X11_331) dX11_beginOne_16 ?_
  have hk18 := hM.1
  have hM := hM.2
  refine x_cv hV (x_runV (As := [.int 40002]) (rest := []) C hV mi_X11_opens wl_X11_332 hk18 (c_X11_opens hM) ⟨by decide, by decide⟩ rfl hl.1 (Nat.le_of_ble_eq_true rfl) dX11_beginOne_19 ⟨Nat.zero_le _, Nat.zero_le _⟩) (fun S19 H locs hV hM => ?_)
  refine lv_goto (tgt := 49) hx hb dX11_beginOne_22 (by decide) ?_
  exact x_vret C hV hM dX11_beginOne_49

def wp_X11_binds (N : Nat) (S : PS) (x0 : Int32) (K : Int32 → PS → Prop) : Prop := if x0 = 30042 then (K 5 S) else if x0 = 30043 then (K 4 S) else if x0 = 30045 then (K 4 S) else if x0 = 30060 then (K 3 S) else if x0 = 30061 then (K 3 S) else if x0 = 30062 then (K 3 S) else if x0 = 40000 then (K 2 S) else if x0 = 40001 then (K 1 S) else K 0 S
set_option maxHeartbeats 4000000 in
set_option maxRecDepth 100000 in
theorem c_X11_binds {l : Launch} {D : DX} {cA : Nat → ClassId} {z0 N : Nat} {S : PS} {x0 : Int32} {K : Int32 → PS → Prop} (hM : wp_X11_binds N S x0 K) : MetI l yX11_binds cX11_binds 1 (some .int) 0 0 0 D cA z0 [.int x0] S K := by
  refine x_met RX11 (by decide) rfl ?_
  intro p e s m below meth c C hin hV
  have hl := lv_entry ([.int x0]) (n := 1) (Nat.le_of_ble_eq_true rfl)
  rw [lg_entry_eq]
  generalize (lg_sl ([.int x0]) ++ List.replicate (1 - (lg_sl ([.int x0])).length) Slot.unset).toArray = ls at hl ⊢
  have hl : lv_has ls 1 [(0, .int x0)] := hl
  obtain ⟨hx, hb, hml, hown, hts, hK, hz, hlk, hr⟩ := id C
  unfold wp_X11_binds at hM
  refine lv_iload_n hx hb dX11_binds_0 rfl (lv_at hl 0 rfl) ?_
  by_cases c1 : x0 = 30042
  · have hM := ite_t c1 hM
    refine lv_lookup (tgt := 76) (off := 75) hx hb dX11_binds_1 (by decide) (by rw [c1]; decide) (by decide) ?_
    refine lv_iconst (v := 5) hx hb dX11_binds_76 (by decide) ?_
    exact x_iret C hV hM dX11_binds_77
  have hM := ite_f c1 hM
  by_cases c2 : x0 = 30043
  · have hM := ite_t c2 hM
    refine lv_lookup (tgt := 78) (off := 77) hx hb dX11_binds_1 (by decide) (by rw [c2]; decide) (by decide) ?_
    refine lv_iconst (v := 4) hx hb dX11_binds_78 (by decide) ?_
    exact x_iret C hV hM dX11_binds_79
  have hM := ite_f c2 hM
  by_cases c3 : x0 = 30045
  · have hM := ite_t c3 hM
    refine lv_lookup (tgt := 78) (off := 77) hx hb dX11_binds_1 (by decide) (by rw [c3]; decide) (by decide) ?_
    refine lv_iconst (v := 4) hx hb dX11_binds_78 (by decide) ?_
    exact x_iret C hV hM dX11_binds_79
  have hM := ite_f c3 hM
  by_cases c4 : x0 = 30060
  · have hM := ite_t c4 hM
    refine lv_lookup (tgt := 80) (off := 79) hx hb dX11_binds_1 (by decide) (by rw [c4]; decide) (by decide) ?_
    refine lv_iconst (v := 3) hx hb dX11_binds_80 (by decide) ?_
    exact x_iret C hV hM dX11_binds_81
  have hM := ite_f c4 hM
  by_cases c5 : x0 = 30061
  · have hM := ite_t c5 hM
    refine lv_lookup (tgt := 80) (off := 79) hx hb dX11_binds_1 (by decide) (by rw [c5]; decide) (by decide) ?_
    refine lv_iconst (v := 3) hx hb dX11_binds_80 (by decide) ?_
    exact x_iret C hV hM dX11_binds_81
  have hM := ite_f c5 hM
  by_cases c6 : x0 = 30062
  · have hM := ite_t c6 hM
    refine lv_lookup (tgt := 80) (off := 79) hx hb dX11_binds_1 (by decide) (by rw [c6]; decide) (by decide) ?_
    refine lv_iconst (v := 3) hx hb dX11_binds_80 (by decide) ?_
    exact x_iret C hV hM dX11_binds_81
  have hM := ite_f c6 hM
  by_cases c7 : x0 = 40000
  · have hM := ite_t c7 hM
    refine lv_lookup (tgt := 82) (off := 81) hx hb dX11_binds_1 (by decide) (by rw [c7]; decide) (by decide) ?_
    refine lv_iconst (v := 2) hx hb dX11_binds_82 (by decide) ?_
    exact x_iret C hV hM dX11_binds_83
  have hM := ite_f c7 hM
  by_cases c8 : x0 = 40001
  · have hM := ite_t c8 hM
    refine lv_lookup (tgt := 84) (off := 83) hx hb dX11_binds_1 (by decide) (by rw [c8]; decide) (by decide) ?_
    refine lv_iconst (v := 1) hx hb dX11_binds_84 (by decide) ?_
    exact x_iret C hV hM dX11_binds_85
  have hM := ite_f c8 hM
  refine lv_lookup (tgt := 86) (off := 85) hx hb dX11_binds_1 (by decide) (show Op.lookupswitch.offset [(30042, 75), (30043, 77), (30045, 77), (30060, 79), (30061, 79), (30062, 79), (40000, 81), (40001, 83)] (85) x0.toInt = 85 from by rw [lv_osw c1 (by decide), lv_osw c2 (by decide), lv_osw c3 (by decide), lv_osw c4 (by decide), lv_osw c5 (by decide), lv_osw c6 (by decide), lv_osw c7 (by decide), lv_osw c8 (by decide)]; rfl) (by decide) ?_
  refine lv_iconst (v := 0) hx hb dX11_binds_86 (by decide) ?_
  exact x_iret C hV hM dX11_binds_87

def wp_X11_isFar (N : Nat) (S : PS) (x0 : Int32) (K : Int32 → PS → Prop) : Prop := wp_X11_in N S x0 (-9999) 9999 (fun r2 S1 => (r2 = 0 ∨ r2 = 1) ∧ K r2 S1)
set_option maxHeartbeats 4000000 in
set_option maxRecDepth 100000 in
theorem c_X11_isFar {l : Launch} {D : DX} {cA : Nat → ClassId} {z0 N : Nat} {S : PS} {x0 : Int32} {K : Int32 → PS → Prop} (hM : wp_X11_isFar N S x0 K) : MetI l yX11_isFar cX11_isFar 1 (some .boolean) 1 0 0 D cA z0 [.int x0] S (fun r S => (r = 0 ∨ r = 1) ∧ K r S) := by
  refine x_met RX11 (by decide) rfl ?_
  intro p e s m below meth c C hin hV
  have hl := lv_entry ([.int x0]) (n := 1) (Nat.le_of_ble_eq_true rfl)
  rw [lg_entry_eq]
  generalize (lg_sl ([.int x0]) ++ List.replicate (1 - (lg_sl ([.int x0])).length) Slot.unset).toArray = ls at hl ⊢
  have hl : lv_has ls 1 [(0, .int x0)] := hl
  obtain ⟨hx, hb, hml, hown, hts, hK, hz, hlk, hr⟩ := id C
  unfold wp_X11_isFar at hM
  refine lv_iload_n hx hb dX11_isFar_0 rfl (lv_at hl 0 rfl) ?_
  refine lv_sipush (v := (-9999)) hx hb dX11_isFar_1 (by decide) ?_
  refine lv_sipush (v := 9999) hx hb dX11_isFar_4 (by decide) ?_
  refine x_ci hV (x_runS (As := [.int x0, .int (-9999), .int 9999]) (rest := []) C hV ms_X11_in wl_X11_87 (c_X11_in hM) ⟨by decide, by decide⟩ rfl hl.1 (Nat.le_of_ble_eq_true rfl) dX11_isFar_7 ⟨Nat.zero_le _, Nat.zero_le _⟩) (fun r2 S1 H locs hV hM => ?_)
  have hz3 := hM.1
  have hM := hM.2
  have hz4 := hM.1
  have hM := hM.2
  exact x_zret C hV hz4 hM dX11_isFar_10
