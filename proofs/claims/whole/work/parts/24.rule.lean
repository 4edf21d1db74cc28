def wq_X3_at_108 (N : Nat) (o : PS → Nat → Int32 → (Int32 → PS → Prop) → Prop) (K : Int32 → PS → Prop) (S : PS) (a0 : Nat) (x2 : Int32) : Prop := S.K a0 = 4 ∧ ∃ p20 : Nat, S.R 256 a0 = some p20 ∧ S.K p20 = 9 ∧ wp_X8_take N S p20 x2 (fun r23 S22 => (r23 = 0 ∨ r23 = 1) ∧ K r23 S22)
def wp_X3_atB (N : Nat) (o : PS → Nat → Int32 → (Int32 → PS → Prop) → Prop) (S : PS) (a0 : Nat) (x1 : Int32) (K : Int32 → PS → Prop) : Prop := S.K a0 = 4 ∧ ∃ p2 : Nat, S.R 256 a0 = some p2 ∧ S.K p2 = 9 ∧ wp_X8_isNow N S p2 45 (fun r5 S4 => if r5 = 0 then (S4.K a0 = 4 ∧ ∃ p9 : Nat, S4.R 256 a0 = some p9 ∧ S4.K p9 = 9 ∧ wp_X8_code N S4 p9 (fun r12 S11 => if r12 = 256 then (S11.K a0 = 4 ∧ ∃ p27 : Nat, S11.R 256 a0 = some p27 ∧ S11.K p27 = 9 ∧ wp_X8_value N S11 p27 (fun r30 S29 => S29.K a0 = 4 ∧ wp_X3_emit N S29 a0 r30 (fun S32 => wq_X3_at_108 N o K S32 a0 r12))) else (if r12 < 308 then (K 0 S11) else (if 314 < r12 then (K 0 S11) else (S11.K a0 = 4 ∧ wp_X3_emit N S11 a0 ((-1) - (r12 - 308)) (fun S17 => wq_X3_at_108 N o K S17 a0 r12)))))) else (if 4 ≤ x1 then (K 0 S4) else (S4.K a0 = 4 ∧ ∃ p36 : Nat, S4.R 256 a0 = some p36 ∧ S4.K p36 = 9 ∧ wp_X8_take N S4 p36 45 (fun r39 S38 => if r39 = 0 then (K 0 S38) else (S38.K a0 = 4 ∧ o S38 a0 (x1 + 1) (fun r44 S43 => if r44 = 0 then (K 0 S43) else (S43.K a0 = 4 ∧ wp_X3_emit N S43 a0 (-8) (fun S48 => K 1 S48))))))))
set_option maxHeartbeats 4000000 in
set_option maxRecDepth 100000 in
theorem tq_X3_at_108 {p : Program} {l : Launch} {e : Env} {s : State} {m : MethodId} {args : Array Value} {below : List Frame} {meth : Method} {c : Code} {D : DX} {cA : Nat → ClassId} {z0 N : Nat} {o : PS → Nat → Int32 → (Int32 → PS → Prop) → Prop} {r : Nat} {K : Int32 → PS → Prop} (C : CX p s m args meth c cX3_at 3 RX3 (some .boolean) D cA z0) (hro : 8 ≤ r) (hO : ∀ {S : PS} {a0 : Nat} {x1 : Int32} {K : Int32 → PS → Prop}, o S a0 x1 K → MetI l yX3_at cX3_at 3 (some .boolean) r 0 0 D cA z0 [.ref a0, .int x1] S (fun r S => (r = 0 ∨ r = 1) ∧ K r S)) : ∀ (S : PS) (a0 : Nat) (x2 : Int32) (H : Heap) (locs : List Loc) (ls : Array Slot), wq_X3_at_108 N o K S a0 x2 → XV D cA z0 s S H locs → lv_has ls 3 [(0, .ref a0), (2, .int x2)] → W p l e (rmd (r + 1) 0 0) s m args below meth c H locs 0 0 (MQ below (va_Qi (fun r S => (r = 0 ∨ r = 1) ∧ K r S) (XK D cA z0) (zA z0)) args s 0 0 (zA z0)) (F0 m 108 ls []) := by
  obtain ⟨hx, hb, hml, hown, hts, hK, hz, hlk, hr⟩ := id C
  intro S a0 x2 H locs ls hM hV hl
  unfold wq_X3_at_108 at hM
  refine lv_aload_n hx hb dX3_at_108 rfl (lv_at hl 0 rfl) ?_
  have hk19 := hM.1
  have hM := hM.2
  obtain ⟨p20, hp20, hM⟩ := hM
  refine x_getR C hV wf_X3_19 hk19 hp20 dX3_at_109 ?_
  refine lv_iload_n hx hb dX3_at_112 rfl (lv_at hl 1 rfl) ?_
  have hk21 := hM.1
  have hM := hM.2
  refine x_ci hV (x_runV (As := [.int x2]) (rest := []) C hV mi_X8_take wl_X3_38 hk21 (c_X8_take hM) ⟨by show 0 + 1 ≤ r + 1; omega, by show 48 * (0 + 1) ≤ 48 * (r + 1); omega⟩ rfl hl.1 (Nat.le_of_ble_eq_true rfl) dX3_at_113 ⟨Nat.zero_le _, Nat.zero_le _⟩) (fun r23 S22 H locs hV hM => ?_)
  have hz24 := hM.1
  have hM := hM.2
  have hz25 := hM.1
  have hM := hM.2
  exact x_zret C hV hz25 hM dX3_at_116
set_option maxHeartbeats 4000000 in
set_option maxRecDepth 100000 in
theorem c_X3_atB {l : Launch} {D : DX} {cA : Nat → ClassId} {z0 N : Nat} {o : PS → Nat → Int32 → (Int32 → PS → Prop) → Prop} {r : Nat} {S : PS} {a0 : Nat} {x1 : Int32} {K : Int32 → PS → Prop} (hro : 8 ≤ r) (hO : ∀ {S : PS} {a0 : Nat} {x1 : Int32} {K : Int32 → PS → Prop}, o S a0 x1 K → MetI l yX3_at cX3_at 3 (some .boolean) r 0 0 D cA z0 [.ref a0, .int x1] S (fun r S => (r = 0 ∨ r = 1) ∧ K r S)) (hM : wp_X3_atB N o S a0 x1 K) : MetI l yX3_at cX3_at 3 (some .boolean) (r + 1) 0 0 D cA z0 [.ref a0, .int x1] S (fun r S => (r = 0 ∨ r = 1) ∧ K r S) := by
  refine x_met RX3 (by decide) rfl ?_
  intro p e s m below meth c C hin hV
  have hl := lv_entry ([.ref a0, .int x1]) (n := 3) (Nat.le_of_ble_eq_true rfl)
  rw [lg_entry_eq]
  generalize (lg_sl ([.ref a0, .int x1]) ++ List.replicate (3 - (lg_sl ([.ref a0, .int x1])).length) Slot.unset).toArray = ls at hl ⊢
  have hl : lv_has ls 3 [(0, .ref a0), (1, .int x1)] := hl
  obtain ⟨hx, hb, hml, hown, hts, hK, hz, hlk, hr⟩ := id C
  unfold wp_X3_atB at hM
  refine lv_aload_n hx hb dX3_at_0 rfl (lv_at hl 0 rfl) ?_
  have hk1 := hM.1
  have hM := hM.2
  obtain ⟨p2, hp2, hM⟩ := hM
  refine x_getR C hV wf_X3_19 hk1 hp2 dX3_at_1 ?_
  refine lv_bipush (v := 45) hx hb dX3_at_4 (by decide) ?_
  have hk3 := hM.1
  have hM := hM.2
  refine x_ci hV (x_runV (As := [.int 45]) (rest := []) C hV mi_X8_isNow wl_X3_50 hk3 (c_X8_isNow hM) ⟨by show 0 + 1 ≤ r + 1; omega, by show 48 * (0 + 1) ≤ 48 * (r + 1); omega⟩ rfl hl.1 (Nat.le_of_ble_eq_true rfl) dX3_at_6 ⟨Nat.zero_le _, Nat.zero_le _⟩) (fun r5 S4 H locs hV hM => ?_)
  have hz6 := hM.1
  have hM := hM.2
  refine lv_if_eq (tgt := 49) hx hb dX3_at_9 (by decide) (fun c7 => ?_) (fun c7 => ?_)
  · have hM := ite_t c7 hM
    refine lv_aload_n hx hb dX3_at_49 rfl (lv_at hl 0 rfl) ?_
    have hk8 := hM.1
    have hM := hM.2
    obtain ⟨p9, hp9, hM⟩ := hM
    refine x_getR C hV wf_X3_19 hk8 hp9 dX3_at_50 ?_
    have hk10 := hM.1
    have hM := hM.2
    refine x_ci hV (x_runV (As := []) (rest := []) C hV mi_X8_code wl_X3_59 hk10 (c_X8_code hM) ⟨by show 0 + 1 ≤ r + 1; omega, by show 48 * (0 + 1) ≤ 48 * (r + 1); omega⟩ rfl hl.1 (Nat.le_of_ble_eq_true rfl) dX3_at_53 ⟨Nat.zero_le _, Nat.zero_le _⟩) (fun r12 S11 H locs hV hM => ?_)
    refine lv_istore_n (lv' := [(2, .int r12), (0, .ref a0), (1, .int x1)]) hx hb dX3_at_56 rfl hl (by decide) rfl (fun ls hl => ?_)
    refine lv_iload_n hx hb dX3_at_57 rfl (lv_at hl 0 rfl) ?_
    refine lv_sipush (v := 256) hx hb dX3_at_58 (by decide) ?_
    refine lv_icmp_ne (tgt := 78) hx hb dX3_at_61 (by decide) (fun c13 => ?_) (fun c13 => ?_)
    · have hM := ite_f c13 hM
      refine lv_iload_n hx hb dX3_at_78 rfl (lv_at hl 0 rfl) ?_
      refine lv_sipush (v := 308) hx hb dX3_at_79 (by decide) ?_
      refine lv_icmp_lt (tgt := 106) hx hb dX3_at_82 (by decide) (fun c14 => ?_) (fun c14 => ?_)
      · have hM := ite_t c14 hM
        refine lv_iconst (v := 0) hx hb dX3_at_106 (by decide) ?_
        exact x_zret C hV (by decide) hM dX3_at_107
      have hM := ite_f c14 hM
      refine lv_iload_n hx hb dX3_at_85 rfl (lv_at hl 0 rfl) ?_
      refine lv_sipush (v := 314) hx hb dX3_at_86 (by decide) ?_
      refine lv_icmp_gt (tgt := 106) hx hb dX3_at_89 (by decide) (fun c15 => ?_) (fun c15 => ?_)
      · have hM := ite_t c15 hM
        refine lv_iconst (v := 0) hx hb dX3_at_106 (by decide) ?_
        exact x_zret C hV (by decide) hM dX3_at_107
      have hM := ite_f c15 hM
      refine lv_aload_n hx hb dX3_at_92 rfl (lv_at hl 1 rfl) ?_
      refine lv_iconst (v := (-1)) hx hb dX3_at_93 (by decide) ?_
      refine lv_iload_n hx hb dX3_at_94 rfl (lv_at hl 0 rfl) ?_
      refine lv_sipush (v := 308) hx hb dX3_at_95 (by decide) ?_
      refine lv_isub hx hb dX3_at_98 ?_
      refine lv_isub hx hb dX3_at_99 ?_
      have hk16 := hM.1
      have hM := hM.2
      refine x_cv hV (x_runV (As := [.int ((-1) - (r12 - 308))]) (rest := []) C hV mi_X3_emit wl_X3_43 hk16 (c_X3_emit hM) ⟨by show 0 + 1 ≤ r + 1; omega, by show 48 * (0 + 1) ≤ 48 * (r + 1); omega⟩ rfl hl.1 (Nat.le_of_ble_eq_true rfl) dX3_at_100 ⟨Nat.zero_le _, Nat.zero_le _⟩) (fun S17 H locs hV hM => ?_)
      refine lv_goto (tgt := 108) hx hb dX3_at_103 (by decide) ?_
      exact tq_X3_at_108 C hro hO _ _ _ _ _ _ hM hV (lv_sub hl [1, 0] rfl)
    have hM := ite_t c13 hM
    refine lv_aload_n hx hb dX3_at_64 rfl (lv_at hl 1 rfl) ?_
    refine lv_aload_n hx hb dX3_at_65 rfl (lv_at hl 1 rfl) ?_
    have hk26 := hM.1
    have hM := hM.2
    obtain ⟨p27, hp27, hM⟩ := hM
    refine x_getR C hV wf_X3_19 hk26 hp27 dX3_at_66 ?_
    have hk28 := hM.1
    have hM := hM.2
    refine x_ci hV (x_runV (As := []) (rest := [.ref a0]) C hV mi_X8_value wl_X3_68 hk28 (c_X8_value hM) ⟨by show 0 + 1 ≤ r + 1; omega, by show 48 * (0 + 1) ≤ 48 * (r + 1); omega⟩ rfl hl.1 (Nat.le_of_ble_eq_true rfl) dX3_at_69 ⟨Nat.zero_le _, Nat.zero_le _⟩) (fun r30 S29 H locs hV hM => ?_)
    have hk31 := hM.1
    have hM := hM.2
    refine x_cv hV (x_runV (As := [.int r30]) (rest := []) C hV mi_X3_emit wl_X3_43 hk31 (c_X3_emit hM) ⟨by show 0 + 1 ≤ r + 1; omega, by show 48 * (0 + 1) ≤ 48 * (r + 1); omega⟩ rfl hl.1 (Nat.le_of_ble_eq_true rfl) dX3_at_72 ⟨Nat.zero_le _, Nat.zero_le _⟩) (fun S32 H locs hV hM => ?_)
    refine lv_goto (tgt := 108) hx hb dX3_at_75 (by decide) ?_
    exact tq_X3_at_108 C hro hO _ _ _ _ _ _ hM hV (lv_sub hl [1, 0] rfl)
  have hM := ite_f c7 hM
  refine lv_iload_n hx hb dX3_at_12 rfl (lv_at hl 1 rfl) ?_
  refine lv_iconst (v := 4) hx hb dX3_at_13 (by decide) ?_
  refine lv_icmp_ge (tgt := 39) hx hb dX3_at_14 (by decide) (fun c34 => ?_) (fun c34 => ?_)
  · have hM := ite_t c34 hM
    refine lv_iconst (v := 0) hx hb dX3_at_39 (by decide) ?_
    exact x_zret C hV (by decide) hM dX3_at_40
  have hM := ite_f c34 hM
  refine lv_aload_n hx hb dX3_at_17 rfl (lv_at hl 0 rfl) ?_
  have hk35 := hM.1
  have hM := hM.2
  obtain ⟨p36, hp36, hM⟩ := hM
  refine x_getR C hV wf_X3_19 hk35 hp36 dX3_at_18 ?_
  refine lv_bipush (v := 45) hx hb dX3_at_21 (by decide) ?_
  have hk37 := hM.1
  have hM := hM.2
  refine x_ci hV (x_runV (As := [.int 45]) (rest := []) C hV mi_X8_take wl_X3_38 hk37 (c_X8_take hM) ⟨by show 0 + 1 ≤ r + 1; omega, by show 48 * (0 + 1) ≤ 48 * (r + 1); omega⟩ rfl hl.1 (Nat.le_of_ble_eq_true rfl) dX3_at_23 ⟨Nat.zero_le _, Nat.zero_le _⟩) (fun r39 S38 H locs hV hM => ?_)
  have hz40 := hM.1
  have hM := hM.2
  refine lv_if_eq (tgt := 39) hx hb dX3_at_26 (by decide) (fun c41 => ?_) (fun c41 => ?_)
  · have hM := ite_t c41 hM
    refine lv_iconst (v := 0) hx hb dX3_at_39 (by decide) ?_
    exact x_zret C hV (by decide) hM dX3_at_40
  have hM := ite_f c41 hM
  refine lv_aload_n hx hb dX3_at_29 rfl (lv_at hl 0 rfl) ?_
  refine lv_iload_n hx hb dX3_at_30 rfl (lv_at hl 1 rfl) ?_
  refine lv_iconst (v := 1) hx hb dX3_at_31 (by decide) ?_
  refine lv_iadd hx hb dX3_at_32 ?_
  have hk42 := hM.1
  have hM := hM.2
  refine x_ci hV (x_runV (As := [.int (x1 + 1)]) (rest := []) C hV mi_X3_at wl_X3_65 hk42 (hO hM) ⟨by show r + 1 ≤ r + 1; omega, by show 48 * (r + 1) ≤ 48 * (r + 1); omega⟩ rfl hl.1 (Nat.le_of_ble_eq_true rfl) dX3_at_33 ⟨Nat.zero_le _, Nat.zero_le _⟩) (fun r44 S43 H locs hV hM => ?_)
  have hz45 := hM.1
  have hM := hM.2
  refine lv_if_ne (tgt := 41) hx hb dX3_at_36 (by decide) (fun c46 => ?_) (fun c46 => ?_)
  · have hM := ite_f c46 hM
    refine lv_aload_n hx hb dX3_at_41 rfl (lv_at hl 0 rfl) ?_
    refine lv_bipush (v := (-8)) hx hb dX3_at_42 (by decide) ?_
    have hk47 := hM.1
    have hM := hM.2
    refine x_cv hV (x_runV (As := [.int (-8)]) (rest := []) C hV mi_X3_emit wl_X3_43 hk47 (c_X3_emit hM) ⟨by show 0 + 1 ≤ r + 1; omega, by show 48 * (0 + 1) ≤ 48 * (r + 1); omega⟩ rfl hl.1 (Nat.le_of_ble_eq_true rfl) dX3_at_44 ⟨Nat.zero_le _, Nat.zero_le _⟩) (fun S48 H locs hV hM => ?_)
    refine lv_iconst (v := 1) hx hb dX3_at_47 (by decide) ?_
    exact x_zret C hV (by decide) hM dX3_at_48
  have hM := ite_t c46 hM
  refine lv_iconst (v := 0) hx hb dX3_at_39 (by decide) ?_
  exact x_zret C hV (by decide) hM dX3_at_40

def wp_X3_at (N : Nat) : Nat → PS → Nat → Int32 → (Int32 → PS → Prop) → Prop
  | 0, _, _, _, _ => False
  | d + 1, S, a0, x1, K => wp_X3_atB N (fun S a0 x1 K => wp_X3_at N d S a0 x1 K) S a0 x1 K
theorem c_X3_at {l : Launch} {D : DX} {cA : Nat → ClassId} {z0 N : Nat} : ∀ (d : Nat) {S : PS} {a0 : Nat} {x1 : Int32} {K : Int32 → PS → Prop}, wp_X3_at N d S a0 x1 K → MetI l yX3_at cX3_at 3 (some .boolean) (8 + d) 0 0 D cA z0 [.ref a0, .int x1] S (fun r S => (r = 0 ∨ r = 1) ∧ K r S)
  | 0, _, _, _, _, h => absurd h id
  | d + 1, _, _, _, _, h => c_X3_atB (o := fun S a0 x1 K => wp_X3_at N d S a0 x1 K) (r := 8 + d) (by omega) (fun hM => c_X3_at d hM) h
def wq_X3_term_12 (N : Nat) (K : Int32 → PS → Prop) : Nat → PS → Nat → Int32 → Int32 → Prop
  | 0, _, _, _, _ => False
  | n + 1, S, a0, x1, x2 => if 200 ≤ x2 then (K 1 S) else (S.K a0 = 4 ∧ ∃ p8 : Nat, S.R 256 a0 = some p8 ∧ S.K p8 = 9 ∧ wp_X8_take N S p8 42 (fun r11 S10 => if r11 = 0 then (K 1 S10) else (S10.K a0 = 4 ∧ wp_X3_at N 6 S10 a0 x1 (fun r16 S15 => if r16 = 0 then (K 0 S15) else (S15.K a0 = 4 ∧ wp_X3_emit N S15 a0 (-10) (fun S20 => wq_X3_term_12 N K n S20 a0 x1 (x2 + 1)))))))
def wp_X3_term (N : Nat) (S : PS) (a0 : Nat) (x1 : Int32) (K : Int32 → PS → Prop) : Prop := S.K a0 = 4 ∧ wp_X3_at N 6 S a0 x1 (fun r3 S2 => if r3 = 0 then (K 0 S2) else (wq_X3_term_12 N K N S2 a0 x1 0))
set_option maxHeartbeats 4000000 in
set_option maxRecDepth 100000 in
theorem tq_X3_term_12 {p : Program} {l : Launch} {e : Env} {s : State} {m : MethodId} {args : Array Value} {below : List Frame} {meth : Method} {c : Code} {D : DX} {cA : Nat → ClassId} {z0 N : Nat} {K : Int32 → PS → Prop} (C : CX p s m args meth c cX3_term 3 RX3 (some .boolean) D cA z0) : ∀ (n : Nat) (S : PS) (a0 : Nat) (x1 : Int32) (x2 : Int32) (H : Heap) (locs : List Loc) (ls : Array Slot), wq_X3_term_12 N K n S a0 x1 x2 → XV D cA z0 s S H locs → lv_has ls 3 [(0, .ref a0), (1, .int x1), (2, .int x2)] → W p l e (rmd 15 0 0) s m args below meth c H locs 0 0 (MQ below (va_Qi (fun r S => (r = 0 ∨ r = 1) ∧ K r S) (XK D cA z0) (zA z0)) args s 0 0 (zA z0)) (F0 m 12 ls []) := by
  obtain ⟨hx, hb, hml, hown, hts, hK, hz, hlk, hr⟩ := id C
  intro n
  induction n with
  | zero => intro S a0 x1 x2 H locs ls hM; exact absurd hM id
  | succ n ih =>
    intro S a0 x1 x2 H locs ls hM hV hl
    rw [wq_X3_term_12.eq_2] at hM
    refine lv_iload_n hx hb dX3_term_12 rfl (lv_at hl 2 rfl) ?_
    refine lv_sipush (v := 200) hx hb dX3_term_13 (by decide) ?_
    refine lv_icmp_ge (tgt := 53) hx hb dX3_term_16 (by decide) (fun c6 => ?_) (fun c6 => ?_)
    · have hM := ite_t c6 hM
      refine lv_iconst (v := 1) hx hb dX3_term_53 (by decide) ?_
      exact x_zret C hV (by decide) hM dX3_term_54
    have hM := ite_f c6 hM
    refine lv_aload_n hx hb dX3_term_19 rfl (lv_at hl 0 rfl) ?_
    have hk7 := hM.1
    have hM := hM.2
    obtain ⟨p8, hp8, hM⟩ := hM
    refine x_getR C hV wf_X3_19 hk7 hp8 dX3_term_20 ?_
    refine lv_bipush (v := 42) hx hb dX3_term_23 (by decide) ?_
    have hk9 := hM.1
    have hM := hM.2
    refine x_ci hV (x_runV (As := [.int 42]) (rest := []) C hV mi_X8_take wl_X3_38 hk9 (c_X8_take hM) ⟨by decide, by decide⟩ rfl hl.1 (Nat.le_of_ble_eq_true rfl) dX3_term_25 ⟨Nat.zero_le _, Nat.zero_le _⟩) (fun r11 S10 H locs hV hM => ?_)
    have hz12 := hM.1
    have hM := hM.2
    refine lv_if_eq (tgt := 53) hx hb dX3_term_28 (by decide) (fun c13 => ?_) (fun c13 => ?_)
    · have hM := ite_t c13 hM
      refine lv_iconst (v := 1) hx hb dX3_term_53 (by decide) ?_
      exact x_zret C hV (by decide) hM dX3_term_54
    have hM := ite_f c13 hM
    refine lv_aload_n hx hb dX3_term_31 rfl (lv_at hl 0 rfl) ?_
    refine lv_iload_n hx hb dX3_term_32 rfl (lv_at hl 1 rfl) ?_
    have hk14 := hM.1
    have hM := hM.2
    refine x_ci hV (x_runV (As := [.int x1]) (rest := []) C hV mi_X3_at wl_X3_65 hk14 (c_X3_at 6 hM) ⟨by decide, by decide⟩ rfl hl.1 (Nat.le_of_ble_eq_true rfl) dX3_term_33 ⟨Nat.zero_le _, Nat.zero_le _⟩) (fun r16 S15 H locs hV hM => ?_)
    have hz17 := hM.1
    have hM := hM.2
    refine lv_if_ne (tgt := 41) hx hb dX3_term_36 (by decide) (fun c18 => ?_) (fun c18 => ?_)
    · have hM := ite_f c18 hM
      refine lv_aload_n hx hb dX3_term_41 rfl (lv_at hl 0 rfl) ?_
      refine lv_bipush (v := (-10)) hx hb dX3_term_42 (by decide) ?_
      have hk19 := hM.1
      have hM := hM.2
      refine x_cv hV (x_runV (As := [.int (-10)]) (rest := []) C hV mi_X3_emit wl_X3_43 hk19 (c_X3_emit hM) ⟨by decide, by decide⟩ rfl hl.1 (Nat.le_of_ble_eq_true rfl) dX3_term_44 ⟨Nat.zero_le _, Nat.zero_le _⟩) (fun S20 H locs hV hM => ?_)
      refine lv_iinc (v := (x2 + 1)) (lv' := [(2, .int (x2 + 1)), (0, .ref a0), (1, .int x1)]) hx hb dX3_term_47 hl (k := 2) rfl rfl (by decide) rfl (fun ls hl => ?_)
      refine lv_goto (tgt := 12) hx hb dX3_term_50 (by decide) ?_
      exact ih _ _ _ _ _ _ _ hM hV (lv_sub hl [1, 2, 0] rfl)
    have hM := ite_t c18 hM
    refine lv_iconst (v := 0) hx hb dX3_term_39 (by decide) ?_
    exact x_zret C hV (by decide) hM dX3_term_40
set_option maxHeartbeats 4000000 in
set_option maxRecDepth 100000 in
theorem c_X3_term {l : Launch} {D : DX} {cA : Nat → ClassId} {z0 N : Nat} {S : PS} {a0 : Nat} {x1 : Int32} {K : Int32 → PS → Prop} (hM : wp_X3_term N S a0 x1 K) : MetI l yX3_term cX3_term 3 (some .boolean) 15 0 0 D cA z0 [.ref a0, .int x1] S (fun r S => (r = 0 ∨ r = 1) ∧ K r S) := by
  refine x_met RX3 (by decide) rfl ?_
  intro p e s m below meth c C hin hV
  have hl := lv_entry ([.ref a0, .int x1]) (n := 3) (Nat.le_of_ble_eq_true rfl)
  rw [lg_entry_eq]
  generalize (lg_sl ([.ref a0, .int x1]) ++ List.replicate (3 - (lg_sl ([.ref a0, .int x1])).length) Slot.unset).toArray = ls at hl ⊢
  have hl : lv_has ls 3 [(0, .ref a0), (1, .int x1)] := hl
  obtain ⟨hx, hb, hml, hown, hts, hK, hz, hlk, hr⟩ := id C
  unfold wp_X3_term at hM
  refine lv_aload_n hx hb dX3_term_0 rfl (lv_at hl 0 rfl) ?_
  refine lv_iload_n hx hb dX3_term_1 rfl (lv_at hl 1 rfl) ?_
  have hk1 := hM.1
  have hM := hM.2
  refine x_ci hV (x_runV (As := [.int x1]) (rest := []) C hV mi_X3_at wl_X3_65 hk1 (c_X3_at 6 hM) ⟨by decide, by decide⟩ rfl hl.1 (Nat.le_of_ble_eq_true rfl) dX3_term_2 ⟨Nat.zero_le _, Nat.zero_le _⟩) (fun r3 S2 H locs hV hM => ?_)
  have hz4 := hM.1
  have hM := hM.2
  refine lv_if_ne (tgt := 10) hx hb dX3_term_5 (by decide) (fun c5 => ?_) (fun c5 => ?_)
  · have hM := ite_f c5 hM
    refine lv_iconst (v := 0) hx hb dX3_term_10 (by decide) ?_
    refine lv_istore_n (lv' := [(2, .int 0), (0, .ref a0), (1, .int x1)]) hx hb dX3_term_11 rfl hl (by decide) rfl (fun ls hl => ?_)
    exact tq_X3_term_12 C N _ _ _ _ _ _ _ hM hV (lv_sub hl [1, 2, 0] rfl)
  have hM := ite_t c5 hM
  refine lv_iconst (v := 0) hx hb dX3_term_8 (by decide) ?_
  exact x_zret C hV (by decide) hM dX3_term_9

def wq_X3_sum_78 (N : Nat) (K : Int32 → PS → Prop) (k_12 : PS → Nat → Int32 → Int32 → Prop) (S : PS) (a0 : Nat) (x1 : Int32) (x2 : Int32) (b0 : Nat) (t1 : Int32) : Prop := S.K b0 = 4 ∧ wp_X3_emit N S b0 t1 (fun S26 => k_12 S26 a0 x1 (x2 + 1))
def wq_X3_sum_54 (N : Nat) (K : Int32 → PS → Prop) (k_12 : PS → Nat → Int32 → Int32 → Prop) (S : PS) (a0 : Nat) (x1 : Int32) (x2 : Int32) (x3 : Int32) : Prop := S.K a0 = 4 ∧ wp_X3_term N S a0 x1 (fun r21 S20 => if r21 = 0 then (K 0 S20) else (if x3 = 43 then (wq_X3_sum_78 N K k_12 S20 a0 x1 x2 a0 (-11)) else (wq_X3_sum_78 N K k_12 S20 a0 x1 x2 a0 (-12))))
def wq_X3_sum_12 (N : Nat) (K : Int32 → PS → Prop) : Nat → PS → Nat → Int32 → Int32 → Prop
  | 0, _, _, _, _ => False
  | n + 1, S, a0, x1, x2 => if 200 ≤ x2 then (K 1 S) else (S.K a0 = 4 ∧ ∃ p8 : Nat, S.R 256 a0 = some p8 ∧ S.K p8 = 9 ∧ wp_X8_code N S p8 (fun r11 S10 => S10.K a0 = 4 ∧ ∃ p13 : Nat, S10.R 256 a0 = some p13 ∧ S10.K p13 = 9 ∧ wp_X8_take N S10 p13 43 (fun r16 S15 => if r16 = 0 then (S15.K a0 = 4 ∧ ∃ p29 : Nat, S15.R 256 a0 = some p29 ∧ S15.K p29 = 9 ∧ wp_X8_take N S15 p29 45 (fun r32 S31 => if r32 = 0 then (K 1 S31) else (wq_X3_sum_54 N K (fun S a0 x1 x2 => wq_X3_sum_12 N K n S a0 x1 x2) S31 a0 x1 x2 r11))) else (wq_X3_sum_54 N K (fun S a0 x1 x2 => wq_X3_sum_12 N K n S a0 x1 x2) S15 a0 x1 x2 r11))))
def wp_X3_sum (N : Nat) (S : PS) (a0 : Nat) (x1 : Int32) (K : Int32 → PS → Prop) : Prop := S.K a0 = 4 ∧ wp_X3_term N S a0 x1 (fun r3 S2 => if r3 = 0 then (K 0 S2) else (wq_X3_sum_12 N K N S2 a0 x1 0))
set_option maxHeartbeats 4000000 in
set_option maxRecDepth 100000 in
theorem tq_X3_sum_78 {p : Program} {l : Launch} {e : Env} {s : State} {m : MethodId} {args : Array Value} {below : List Frame} {meth : Method} {c : Code} {D : DX} {cA : Nat → ClassId} {z0 N : Nat} {K : Int32 → PS → Prop} {k_12 : PS → Nat → Int32 → Int32 → Prop} (C : CX p s m args meth c cX3_sum 4 RX3 (some .boolean) D cA z0) (H_12 : ∀ (S : PS) (a0 : Nat) (x1 : Int32) (x2 : Int32) (H : Heap) (locs : List Loc) (ls : Array Slot), k_12 S a0 x1 x2 → XV D cA z0 s S H locs → lv_has ls 4 [(0, .ref a0), (1, .int x1), (2, .int x2)] → W p l e (rmd 16 0 0) s m args below meth c H locs 0 0 (MQ below (va_Qi (fun r S => (r = 0 ∨ r = 1) ∧ K r S) (XK D cA z0) (zA z0)) args s 0 0 (zA z0)) (F0 m 12 ls [])) : ∀ (S : PS) (a0 : Nat) (x1 : Int32) (x2 : Int32) (b0 : Nat) (t1 : Int32) (H : Heap) (locs : List Loc) (ls : Array Slot), wq_X3_sum_78 N K k_12 S a0 x1 x2 b0 t1 → XV D cA z0 s S H locs → lv_has ls 4 [(0, .ref a0), (1, .int x1), (2, .int x2)] → W p l e (rmd 16 0 0) s m args below meth c H locs 0 0 (MQ below (va_Qi (fun r S => (r = 0 ∨ r = 1) ∧ K r S) (XK D cA z0) (zA z0)) args s 0 0 (zA z0)) (F0 m 78 ls [.int t1, .ref b0]) := by
  obtain ⟨hx, hb, hml, hown, hts, hK, hz, hlk, hr⟩ := id C
  intro S a0 x1 x2 b0 t1 H locs ls hM hV hl
  unfold wq_X3_sum_78 at hM
  have hk25 := hM.1
  have hM := hM.2
  refine x_cv hV (x_runV (As := [.int t1]) (rest := []) C hV mi_X3_emit wl_X3_43 hk25 (c_X3_emit hM) ⟨by decide, by decide⟩ rfl hl.1 (Nat.le_of_ble_eq_true rfl) dX3_sum_78 ⟨Nat.zero_le _, Nat.zero_le _⟩) (fun S26 H locs hV hM => ?_)
  refine lv_iinc (v := (x2 + 1)) (lv' := [(2, .int (x2 + 1)), (0, .ref a0), (1, .int x1)]) hx hb dX3_sum_81 hl (k := 2) rfl rfl (by decide) rfl (fun ls hl => ?_)
  refine lv_goto (tgt := 12) hx hb dX3_sum_84 (by decide) ?_
  exact H_12 _ _ _ _ _ _ _ hM hV (lv_sub hl [1, 2, 0] rfl)
set_option maxHeartbeats 4000000 in
set_option maxRecDepth 100000 in
theorem tq_X3_sum_54 {p : Program} {l : Launch} {e : Env} {s : State} {m : MethodId} {args : Array Value} {below : List Frame} {meth : Method} {c : Code} {D : DX} {cA : Nat → ClassId} {z0 N : Nat} {K : Int32 → PS → Prop} {k_12 : PS → Nat → Int32 → Int32 → Prop} (C : CX p s m args meth c cX3_sum 4 RX3 (some .boolean) D cA z0) (H_12 : ∀ (S : PS) (a0 : Nat) (x1 : Int32) (x2 : Int32) (H : Heap) (locs : List Loc) (ls : Array Slot), k_12 S a0 x1 x2 → XV D cA z0 s S H locs → lv_has ls 4 [(0, .ref a0), (1, .int x1), (2, .int x2)] → W p l e (rmd 16 0 0) s m args below meth c H locs 0 0 (MQ below (va_Qi (fun r S => (r = 0 ∨ r = 1) ∧ K r S) (XK D cA z0) (zA z0)) args s 0 0 (zA z0)) (F0 m 12 ls [])) : ∀ (S : PS) (a0 : Nat) (x1 : Int32) (x2 : Int32) (x3 : Int32) (H : Heap) (locs : List Loc) (ls : Array Slot), wq_X3_sum_54 N K k_12 S a0 x1 x2 x3 → XV D cA z0 s S H locs → lv_has ls 4 [(0, .ref a0), (1, .int x1), (2, .int x2), (3, .int x3)] → W p l e (rmd 16 0 0) s m args below meth c H locs 0 0 (MQ below (va_Qi (fun r S => (r = 0 ∨ r = 1) ∧ K r S) (XK D cA z0) (zA z0)) args s 0 0 (zA z0)) (F0 m 54 ls []) := by
  obtain ⟨hx, hb, hml, hown, hts, hK, hz, hlk, hr⟩ := id C
  intro S a0 x1 x2 x3 H locs ls hM hV hl
  unfold wq_X3_sum_54 at hM
  refine lv_aload_n hx hb dX3_sum_54 rfl (lv_at hl 0 rfl) ?_
  refine lv_iload_n hx hb dX3_sum_55 rfl (lv_at hl 1 rfl) ?_
  have hk19 := hM.1
  have hM := hM.2
  refine x_ci hV (x_runV (As := [.int x1]) (rest := []) C hV mi_X3_term wl_X3_62 hk19 (c_X3_term hM) ⟨by decide, by decide⟩ rfl hl.1 (Nat.le_of_ble_eq_true rfl) dX3_sum_56 ⟨Nat.zero_le _, Nat.zero_le _⟩) (fun r21 S20 H locs hV hM => ?_)
  have hz22 := hM.1
  have hM := hM.2
  refine lv_if_ne (tgt := 64) hx hb dX3_sum_59 (by decide) (fun c23 => ?_) (fun c23 => ?_)
  · have hM := ite_f c23 hM
    refine lv_aload_n hx hb dX3_sum_64 rfl (lv_at hl 0 rfl) ?_
    refine lv_iload_n hx hb dX3_sum_65 rfl (lv_at hl 3 rfl) ?_
    refine lv_bipush (v := 43) hx hb dX3_sum_66 (by decide) ?_
    refine lv_icmp_ne (tgt := 76) hx hb dX3_sum_68 (by decide) (fun c24 => ?_) (fun c24 => ?_)
    · have hM := ite_f c24 hM
      refine lv_bipush (v := (-12)) hx hb dX3_sum_76 (by decide) ?_
      exact tq_X3_sum_78 C H_12 _ _ _ _ _ _ _ _ _ hM hV (lv_sub hl [0, 1, 2] rfl)
    have hM := ite_t c24 hM
    refine lv_bipush (v := (-11)) hx hb dX3_sum_71 (by decide) ?_
    refine lv_goto (tgt := 78) hx hb dX3_sum_73 (by decide) ?_
    exact tq_X3_sum_78 C H_12 _ _ _ _ _ _ _ _ _ hM hV (lv_sub hl [0, 1, 2] rfl)
  have hM := ite_t c23 hM
  refine lv_iconst (v := 0) hx hb dX3_sum_62 (by decide) ?_
  exact x_zret C hV (by decide) hM dX3_sum_63
set_option maxHeartbeats 4000000 in
set_option maxRecDepth 100000 in
theorem tq_X3_sum_12 {p : Program} {l : Launch} {e : Env} {s : State} {m : MethodId} {args : Array Value} {below : List Frame} {meth : Method} {c : Code} {D : DX} {cA : Nat → ClassId} {z0 N : Nat} {K : Int32 → PS → Prop} (C : CX p s m args meth c cX3_sum 4 RX3 (some .boolean) D cA z0) : ∀ (n : Nat) (S : PS) (a0 : Nat) (x1 : Int32) (x2 : Int32) (H : Heap) (locs : List Loc) (ls : Array Slot), wq_X3_sum_12 N K n S a0 x1 x2 → XV D cA z0 s S H locs → lv_has ls 4 [(0, .ref a0), (1, .int x1), (2, .int x2)] → W p l e (rmd 16 0 0) s m args below meth c H locs 0 0 (MQ below (va_Qi (fun r S => (r = 0 ∨ r = 1) ∧ K r S) (XK D cA z0) (zA z0)) args s 0 0 (zA z0)) (F0 m 12 ls []) := by
  obtain ⟨hx, hb, hml, hown, hts, hK, hz, hlk, hr⟩ := id C
  intro n
  induction n with
  | zero => intro S a0 x1 x2 H locs ls hM; exact absurd hM id
  | succ n ih =>
    intro S a0 x1 x2 H locs ls hM hV hl
    rw [wq_X3_sum_12.eq_2] at hM
    refine lv_iload_n hx hb dX3_sum_12 rfl (lv_at hl 2 rfl) ?_
    refine lv_sipush (v := 200) hx hb dX3_sum_13 (by decide) ?_
    refine lv_icmp_ge (tgt := 87) hx hb dX3_sum_16 (by decide) (fun c6 => ?_) (fun c6 => ?_)
    · have hM := ite_t c6 hM
      refine lv_iconst (v := 1) hx hb dX3_sum_87 (by decide) ?_
      exact x_zret C hV (by decide) hM dX3_sum_88
    have hM := ite_f c6 hM
    refine lv_aload_n hx hb dX3_sum_19 rfl (lv_at hl 0 rfl) ?_
    have hk7 := hM.1
    have hM := hM.2
    obtain ⟨p8, hp8, hM⟩ := hM
    refine x_getR C hV wf_X3_19 hk7 hp8 dX3_sum_20 ?_
    have hk9 := hM.1
    have hM := hM.2
    refine x_ci hV (x_runV (As := []) (rest := []) C hV mi_X8_code wl_X3_59 hk9 (c_X8_code hM) ⟨by decide, by decide⟩ rfl hl.1 (Nat.le_of_ble_eq_true rfl) dX3_sum_23 ⟨Nat.zero_le _, Nat.zero_le _⟩) (fun r11 S10 H locs hV hM => ?_)
    refine lv_istore_n (lv' := [(3, .int r11), (0, .ref a0), (1, .int x1), (2, .int x2)]) hx hb dX3_sum_26 rfl hl (by decide) rfl (fun ls hl => ?_)
    refine lv_aload_n hx hb dX3_sum_27 rfl (lv_at hl 1 rfl) ?_
    have hk12 := hM.1
    have hM := hM.2
    obtain ⟨p13, hp13, hM⟩ := hM
    refine x_getR C hV wf_X3_19 hk12 hp13 dX3_sum_28 ?_
    refine lv_bipush (v := 43) hx hb dX3_sum_31 (by decide) ?_
    have hk14 := hM.1
    have hM := hM.2
    refine x_ci hV (x_runV (As := [.int 43]) (rest := []) C hV mi_X8_take wl_X3_38 hk14 (c_X8_take hM) ⟨by decide, by decide⟩ rfl hl.1 (Nat.le_of_ble_eq_true rfl) dX3_sum_33 ⟨Nat.zero_le _, Nat.zero_le _⟩) (fun r16 S15 H locs hV hM => ?_)
    have hz17 := hM.1
    have hM := hM.2
    refine lv_if_ne (tgt := 54) hx hb dX3_sum_36 (by decide) (fun c18 => ?_) (fun c18 => ?_)
    · have hM := ite_f c18 hM
      exact tq_X3_sum_54 C ih _ _ _ _ _ _ _ _ hM hV (lv_sub hl [1, 2, 3, 0] rfl)
    have hM := ite_t c18 hM
    refine lv_aload_n hx hb dX3_sum_39 rfl (lv_at hl 1 rfl) ?_
    have hk28 := hM.1
    have hM := hM.2
    obtain ⟨p29, hp29, hM⟩ := hM
    refine x_getR C hV wf_X3_19 hk28 hp29 dX3_sum_40 ?_
    refine lv_bipush (v := 45) hx hb dX3_sum_43 (by decide) ?_
    have hk30 := hM.1
    have hM := hM.2
    refine x_ci hV (x_runV (As := [.int 45]) (rest := []) C hV mi_X8_take wl_X3_38 hk30 (c_X8_take hM) ⟨by decide, by decide⟩ rfl hl.1 (Nat.le_of_ble_eq_true rfl) dX3_sum_45 ⟨Nat.zero_le _, Nat.zero_le _⟩) (fun r32 S31 H locs hV hM => ?_)
    have hz33 := hM.1
    have hM := hM.2
    refine lv_if_ne (tgt := 54) hx hb dX3_sum_48 (by decide) (fun c34 => ?_) (fun c34 => ?_)
    · have hM := ite_f c34 hM
      exact tq_X3_sum_54 C ih _ _ _ _ _ _ _ _ hM hV (lv_sub hl [1, 2, 3, 0] rfl)
    have hM := ite_t c34 hM
    refine lv_goto (tgt := 87) hx hb dX3_sum_51 (by decide) ?_
    refine lv_iconst (v := 1) hx hb dX3_sum_87 (by decide) ?_
    exact x_zret C hV (by decide) hM dX3_sum_88
set_option maxHeartbeats 4000000 in
set_option maxRecDepth 100000 in
theorem c_X3_sum {l : Launch} {D : DX} {cA : Nat → ClassId} {z0 N : Nat} {S : PS} {a0 : Nat} {x1 : Int32} {K : Int32 → PS → Prop} (hM : wp_X3_sum N S a0 x1 K) : MetI l yX3_sum cX3_sum 4 (some .boolean) 16 0 0 D cA z0 [.ref a0, .int x1] S (fun r S => (r = 0 ∨ r = 1) ∧ K r S) := by
  refine x_met RX3 (by decide) rfl ?_
  intro p e s m below meth c C hin hV
  have hl := lv_entry ([.ref a0, .int x1]) (n := 4) (Nat.le_of_ble_eq_true rfl)
  rw [lg_entry_eq]
  generalize (lg_sl ([.ref a0, .int x1]) ++ List.replicate (4 - (lg_sl ([.ref a0, .int x1])).length) Slot.unset).toArray = ls at hl ⊢
  have hl : lv_has ls 4 [(0, .ref a0), (1, .int x1)] := hl
  obtain ⟨hx, hb, hml, hown, hts, hK, hz, hlk, hr⟩ := id C
  unfold wp_X3_sum at hM
  refine lv_aload_n hx hb dX3_sum_0 rfl (lv_at hl 0 rfl) ?_
  refine lv_iload_n hx hb dX3_sum_1 rfl (lv_at hl 1 rfl) ?_
  have hk1 := hM.1
  have hM := hM.2
  refine x_ci hV (x_runV (As := [.int x1]) (rest := []) C hV mi_X3_term wl_X3_62 hk1 (c_X3_term hM) ⟨by decide, by decide⟩ rfl hl.1 (Nat.le_of_ble_eq_true rfl) dX3_sum_2 ⟨Nat.zero_le _, Nat.zero_le _⟩) (fun r3 S2 H locs hV hM => ?_)
  have hz4 := hM.1
  have hM := hM.2
  refine lv_if_ne (tgt := 10) hx hb dX3_sum_5 (by decide) (fun c5 => ?_) (fun c5 => ?_)
  · have hM := ite_f c5 hM
    refine lv_iconst (v := 0) hx hb dX3_sum_10 (by decide) ?_
    refine lv_istore_n (lv' := [(2, .int 0), (0, .ref a0), (1, .int x1)]) hx hb dX3_sum_11 rfl hl (by decide) rfl (fun ls hl => ?_)
    exact tq_X3_sum_12 C N _ _ _ _ _ _ _ hM hV (lv_sub hl [1, 2, 0] rfl)
  have hM := ite_t c5 hM
  refine lv_iconst (v := 0) hx hb dX3_sum_8 (by decide) ?_
  exact x_zret C hV (by decide) hM dX3_sum_9

def wq_X3_both_12 (N : Nat) (o : PS → Nat → Int32 → (Int32 → PS → Prop) → Prop) (K : Int32 → PS → Prop) : Nat → PS → Nat → Int32 → Int32 → Prop
  | 0, _, _, _, _ => False
  | n + 1, S, a0, x1, x2 => if 200 ≤ x2 then (K 1 S) else (S.K a0 = 4 ∧ ∃ p8 : Nat, S.R 256 a0 = some p8 ∧ S.K p8 = 9 ∧ wp_X8_take N S p8 305 (fun r11 S10 => if r11 = 0 then (K 1 S10) else (S10.K a0 = 4 ∧ o S10 a0 x1 (fun r16 S15 => if r16 = 0 then (K 0 S15) else (S15.K a0 = 4 ∧ wp_X3_emit N S15 a0 (-16) (fun S20 => wq_X3_both_12 N o K n S20 a0 x1 (x2 + 1)))))))
def wp_X3_both (N : Nat) (o : PS → Nat → Int32 → (Int32 → PS → Prop) → Prop) (S : PS) (a0 : Nat) (x1 : Int32) (K : Int32 → PS → Prop) : Prop := S.K a0 = 4 ∧ o S a0 x1 (fun r3 S2 => if r3 = 0 then (K 0 S2) else (wq_X3_both_12 N o K N S2 a0 x1 0))
set_option maxHeartbeats 4000000 in
set_option maxRecDepth 100000 in
theorem tq_X3_both_12 {p : Program} {l : Launch} {e : Env} {s : State} {m : MethodId} {args : Array Value} {below : List Frame} {meth : Method} {c : Code} {D : DX} {cA : Nat → ClassId} {z0 N : Nat} {o : PS → Nat → Int32 → (Int32 → PS → Prop) → Prop} {r : Nat} {K : Int32 → PS → Prop} (C : CX p s m args meth c cX3_both 3 RX3 (some .boolean) D cA z0) (hro : 17 ≤ r) (hO : ∀ {S : PS} {a0 : Nat} {x1 : Int32} {K : Int32 → PS → Prop}, o S a0 x1 K → MetI l yX3_one cX3_one 4 (some .boolean) r 0 0 D cA z0 [.ref a0, .int x1] S (fun r S => (r = 0 ∨ r = 1) ∧ K r S)) : ∀ (n : Nat) (S : PS) (a0 : Nat) (x1 : Int32) (x2 : Int32) (H : Heap) (locs : List Loc) (ls : Array Slot), wq_X3_both_12 N o K n S a0 x1 x2 → XV D cA z0 s S H locs → lv_has ls 3 [(0, .ref a0), (1, .int x1), (2, .int x2)] → W p l e (rmd (r + 1) 0 0) s m args below meth c H locs 0 0 (MQ below (va_Qi (fun r S => (r = 0 ∨ r = 1) ∧ K r S) (XK D cA z0) (zA z0)) args s 0 0 (zA z0)) (F0 m 12 ls []) := by
  obtain ⟨hx, hb, hml, hown, hts, hK, hz, hlk, hr⟩ := id C
  intro n
  induction n with
  | zero => intro S a0 x1 x2 H locs ls hM; exact absurd hM id
  | succ n ih =>
    intro S a0 x1 x2 H locs ls hM hV hl
    rw [wq_X3_both_12.eq_2] at hM
    refine lv_iload_n hx hb dX3_both_12 rfl (lv_at hl 2 rfl) ?_
    refine lv_sipush (v := 200) hx hb dX3_both_13 (by decide) ?_
    refine lv_icmp_ge (tgt := 54) hx hb dX3_both_16 (by decide) (fun c6 => ?_) (fun c6 => ?_)
    · have hM := ite_t c6 hM
      refine lv_iconst (v := 1) hx hb dX3_both_54 (by decide) ?_
      exact x_zret C hV (by decide) hM dX3_both_55
    have hM := ite_f c6 hM
    refine lv_aload_n hx hb dX3_both_19 rfl (lv_at hl 0 rfl) ?_
    have hk7 := hM.1
    have hM := hM.2
    obtain ⟨p8, hp8, hM⟩ := hM
    refine x_getR C hV wf_X3_19 hk7 hp8 dX3_both_20 ?_
    refine lv_sipush (v := 305) hx hb dX3_both_23 (by decide) ?_
    have hk9 := hM.1
    have hM := hM.2
    refine x_ci hV (x_runV (As := [.int 305]) (rest := []) C hV mi_X8_take wl_X3_38 hk9 (c_X8_take hM) ⟨by show 0 + 1 ≤ r + 1; omega, by show 48 * (0 + 1) ≤ 48 * (r + 1); omega⟩ rfl hl.1 (Nat.le_of_ble_eq_true rfl) dX3_both_26 ⟨Nat.zero_le _, Nat.zero_le _⟩) (fun r11 S10 H locs hV hM => ?_)
    have hz12 := hM.1
    have hM := hM.2
    refine lv_if_eq (tgt := 54) hx hb dX3_both_29 (by decide) (fun c13 => ?_) (fun c13 => ?_)
    · have hM := ite_t c13 hM
      refine lv_iconst (v := 1) hx hb dX3_both_54 (by decide) ?_
      exact x_zret C hV (by decide) hM dX3_both_55
    have hM := ite_f c13 hM
    refine lv_aload_n hx hb dX3_both_32 rfl (lv_at hl 0 rfl) ?_
    refine lv_iload_n hx hb dX3_both_33 rfl (lv_at hl 1 rfl) ?_
    have hk14 := hM.1
    have hM := hM.2
    refine x_ci hV (x_runV (As := [.int x1]) (rest := []) C hV mi_X3_one wl_X3_47 hk14 (hO hM) ⟨by show r + 1 ≤ r + 1; omega, by show 48 * (r + 1) ≤ 48 * (r + 1); omega⟩ rfl hl.1 (Nat.le_of_ble_eq_true rfl) dX3_both_34 ⟨Nat.zero_le _, Nat.zero_le _⟩) (fun r16 S15 H locs hV hM => ?_)
    have hz17 := hM.1
    have hM := hM.2
    refine lv_if_ne (tgt := 42) hx hb dX3_both_37 (by decide) (fun c18 => ?_) (fun c18 => ?_)
    · have hM := ite_f c18 hM
      refine lv_aload_n hx hb dX3_both_42 rfl (lv_at hl 0 rfl) ?_
      refine lv_bipush (v := (-16)) hx hb dX3_both_43 (by decide) ?_
      have hk19 := hM.1
      have hM := hM.2
      refine x_cv hV (x_runV (As := [.int (-16)]) (rest := []) C hV mi_X3_emit wl_X3_43 hk19 (c_X3_emit hM) ⟨by show 0 + 1 ≤ r + 1; omega, by show 48 * (0 + 1) ≤ 48 * (r + 1); omega⟩ rfl hl.1 (Nat.le_of_ble_eq_true rfl) dX3_both_45 ⟨Nat.zero_le _, Nat.zero_le _⟩) (fun S20 H locs hV hM => ?_)
      refine lv_iinc (v := (x2 + 1)) (lv' := [(2, .int (x2 + 1)), (0, .ref a0), (1, .int x1)]) hx hb dX3_both_48 hl (k := 2) rfl rfl (by decide) rfl (fun ls hl => ?_)
      refine lv_goto (tgt := 12) hx hb dX3_both_51 (by decide) ?_
      exact ih _ _ _ _ _ _ _ hM hV (lv_sub hl [1, 2, 0] rfl)
    have hM := ite_t c18 hM
    refine lv_iconst (v := 0) hx hb dX3_both_40 (by decide) ?_
    exact x_zret C hV (by decide) hM dX3_both_41
set_option maxHeartbeats 4000000 in
set_option maxRecDepth 100000 in
theorem c_X3_both {l : Launch} {D : DX} {cA : Nat → ClassId} {z0 N : Nat} {o : PS → Nat → Int32 → (Int32 → PS → Prop) → Prop} {r : Nat} {S : PS} {a0 : Nat} {x1 : Int32} {K : Int32 → PS → Prop} (hro : 17 ≤ r) (hO : ∀ {S : PS} {a0 : Nat} {x1 : Int32} {K : Int32 → PS → Prop}, o S a0 x1 K → MetI l yX3_one cX3_one 4 (some .boolean) r 0 0 D cA z0 [.ref a0, .int x1] S (fun r S => (r = 0 ∨ r = 1) ∧ K r S)) (hM : wp_X3_both N o S a0 x1 K) : MetI l yX3_both cX3_both 3 (some .boolean) (r + 1) 0 0 D cA z0 [.ref a0, .int x1] S (fun r S => (r = 0 ∨ r = 1) ∧ K r S) := by
  refine x_met RX3 (by decide) rfl ?_
  intro p e s m below meth c C hin hV
  have hl := lv_entry ([.ref a0, .int x1]) (n := 3) (Nat.le_of_ble_eq_true rfl)
  rw [lg_entry_eq]
  generalize (lg_sl ([.ref a0, .int x1]) ++ List.replicate (3 - (lg_sl ([.ref a0, .int x1])).length) Slot.unset).toArray = ls at hl ⊢
  have hl : lv_has ls 3 [(0, .ref a0), (1, .int x1)] := hl
  obtain ⟨hx, hb, hml, hown, hts, hK, hz, hlk, hr⟩ := id C
  unfold wp_X3_both at hM
  refine lv_aload_n hx hb dX3_both_0 rfl (lv_at hl 0 rfl) ?_
  refine lv_iload_n hx hb dX3_both_1 rfl (lv_at hl 1 rfl) ?_
  have hk1 := hM.1
  have hM := hM.2
  refine x_ci hV (x_runV (As := [.int x1]) (rest := []) C hV mi_X3_one wl_X3_47 hk1 (hO hM) ⟨by show r + 1 ≤ r + 1; omega, by show 48 * (r + 1) ≤ 48 * (r + 1); omega⟩ rfl hl.1 (Nat.le_of_ble_eq_true rfl) dX3_both_2 ⟨Nat.zero_le _, Nat.zero_le _⟩) (fun r3 S2 H locs hV hM => ?_)
  have hz4 := hM.1
  have hM := hM.2
  refine lv_if_ne (tgt := 10) hx hb dX3_both_5 (by decide) (fun c5 => ?_) (fun c5 => ?_)
  · have hM := ite_f c5 hM
    refine lv_iconst (v := 0) hx hb dX3_both_10 (by decide) ?_
    refine lv_istore_n (lv' := [(2, .int 0), (0, .ref a0), (1, .int x1)]) hx hb dX3_both_11 rfl hl (by decide) rfl (fun ls hl => ?_)
    exact tq_X3_both_12 C hro hO N _ _ _ _ _ _ _ hM hV (lv_sub hl [1, 2, 0] rfl)
  have hM := ite_t c5 hM
  refine lv_iconst (v := 0) hx hb dX3_both_8 (by decide) ?_
  exact x_zret C hV (by decide) hM dX3_both_9

def wq_X3_either_12 (N : Nat) (o : PS → Nat → Int32 → (Int32 → PS → Prop) → Prop) (K : Int32 → PS → Prop) : Nat → PS → Nat → Int32 → Int32 → Prop
  | 0, _, _, _, _ => False
  | n + 1, S, a0, x1, x2 => if 200 ≤ x2 then (K 1 S) else (S.K a0 = 4 ∧ ∃ p8 : Nat, S.R 256 a0 = some p8 ∧ S.K p8 = 9 ∧ wp_X8_take N S p8 306 (fun r11 S10 => if r11 = 0 then (K 1 S10) else (S10.K a0 = 4 ∧ wp_X3_both N o S10 a0 x1 (fun r16 S15 => if r16 = 0 then (K 0 S15) else (S15.K a0 = 4 ∧ wp_X3_emit N S15 a0 (-17) (fun S20 => wq_X3_either_12 N o K n S20 a0 x1 (x2 + 1)))))))
def wp_X3_either (N : Nat) (o : PS → Nat → Int32 → (Int32 → PS → Prop) → Prop) (S : PS) (a0 : Nat) (x1 : Int32) (K : Int32 → PS → Prop) : Prop := S.K a0 = 4 ∧ wp_X3_both N o S a0 x1 (fun r3 S2 => if r3 = 0 then (K 0 S2) else (wq_X3_either_12 N o K N S2 a0 x1 0))
set_option maxHeartbeats 4000000 in
set_option maxRecDepth 100000 in
theorem tq_X3_either_12 {p : Program} {l : Launch} {e : Env} {s : State} {m : MethodId} {args : Array Value} {below : List Frame} {meth : Method} {c : Code} {D : DX} {cA : Nat → ClassId} {z0 N : Nat} {o : PS → Nat → Int32 → (Int32 → PS → Prop) → Prop} {r : Nat} {K : Int32 → PS → Prop} (C : CX p s m args meth c cX3_either 3 RX3 (some .boolean) D cA z0) (hro : 17 ≤ r) (hO : ∀ {S : PS} {a0 : Nat} {x1 : Int32} {K : Int32 → PS → Prop}, o S a0 x1 K → MetI l yX3_one cX3_one 4 (some .boolean) r 0 0 D cA z0 [.ref a0, .int x1] S (fun r S => (r = 0 ∨ r = 1) ∧ K r S)) : ∀ (n : Nat) (S : PS) (a0 : Nat) (x1 : Int32) (x2 : Int32) (H : Heap) (locs : List Loc) (ls : Array Slot), wq_X3_either_12 N o K n S a0 x1 x2 → XV D cA z0 s S H locs → lv_has ls 3 [(0, .ref a0), (1, .int x1), (2, .int x2)] → W p l e (rmd (r + 2) 0 0) s m args below meth c H locs 0 0 (MQ below (va_Qi (fun r S => (r = 0 ∨ r = 1) ∧ K r S) (XK D cA z0) (zA z0)) args s 0 0 (zA z0)) (F0 m 12 ls []) := by
  obtain ⟨hx, hb, hml, hown, hts, hK, hz, hlk, hr⟩ := id C
  intro n
  induction n with
  | zero => intro S a0 x1 x2 H locs ls hM; exact absurd hM id
  | succ n ih =>
    intro S a0 x1 x2 H locs ls hM hV hl
    rw [wq_X3_either_12.eq_2] at hM
    refine lv_iload_n hx hb dX3_either_12 rfl (lv_at hl 2 rfl) ?_
    refine lv_sipush (v := 200) hx hb dX3_either_13 (by decide) ?_
    refine lv_icmp_ge (tgt := 54) hx hb dX3_either_16 (by decide) (fun c6 => ?_) (fun c6 => ?_)
    · have hM := ite_t c6 hM
      refine lv_iconst (v := 1) hx hb dX3_either_54 (by decide) ?_
      exact x_zret C hV (by decide) hM dX3_either_55
    have hM := ite_f c6 hM
    refine lv_aload_n hx hb dX3_either_19 rfl (lv_at hl 0 rfl) ?_
    have hk7 := hM.1
    have hM := hM.2
    obtain ⟨p8, hp8, hM⟩ := hM
    refine x_getR C hV wf_X3_19 hk7 hp8 dX3_either_20 ?_
    refine lv_sipush (v := 306) hx hb dX3_either_23 (by decide) ?_
    have hk9 := hM.1
    have hM := hM.2
    refine x_ci hV (x_runV (As := [.int 306]) (rest := []) C hV mi_X8_take wl_X3_38 hk9 (c_X8_take hM) ⟨by show 0 + 1 ≤ r + 2; omega, by show 48 * (0 + 1) ≤ 48 * (r + 2); omega⟩ rfl hl.1 (Nat.le_of_ble_eq_true rfl) dX3_either_26 ⟨Nat.zero_le _, Nat.zero_le _⟩) (fun r11 S10 H locs hV hM => ?_)
    have hz12 := hM.1
    have hM := hM.2
    refine lv_if_eq (tgt := 54) hx hb dX3_either_29 (by decide) (fun c13 => ?_) (fun c13 => ?_)
    · have hM := ite_t c13 hM
      refine lv_iconst (v := 1) hx hb dX3_either_54 (by decide) ?_
      exact x_zret C hV (by decide) hM dX3_either_55
    have hM := ite_f c13 hM
    refine lv_aload_n hx hb dX3_either_32 rfl (lv_at hl 0 rfl) ?_
    refine lv_iload_n hx hb dX3_either_33 rfl (lv_at hl 1 rfl) ?_
    have hk14 := hM.1
    have hM := hM.2
    refine x_ci hV (x_runV (As := [.int x1]) (rest := []) C hV mi_X3_both wl_X3_34 hk14 (c_X3_both hro hO hM) ⟨by show r + 1 + 1 ≤ r + 2; omega, by show 48 * (r + 1 + 1) ≤ 48 * (r + 2); omega⟩ rfl hl.1 (Nat.le_of_ble_eq_true rfl) dX3_either_34 ⟨Nat.zero_le _, Nat.zero_le _⟩) (fun r16 S15 H locs hV hM => ?_)
    have hz17 := hM.1
    have hM := hM.2
    refine lv_if_ne (tgt := 42) hx hb dX3_either_37 (by decide) (fun c18 => ?_) (fun c18 => ?_)
    · have hM := ite_f c18 hM
      refine lv_aload_n hx hb dX3_either_42 rfl (lv_at hl 0 rfl) ?_
      refine lv_bipush (v := (-17)) hx hb dX3_either_43 (by decide) ?_
      have hk19 := hM.1
      have hM := hM.2
      refine x_cv hV (x_runV (As := [.int (-17)]) (rest := []) C hV mi_X3_emit wl_X3_43 hk19 (c_X3_emit hM) ⟨by show 0 + 1 ≤ r + 2; omega, by show 48 * (0 + 1) ≤ 48 * (r + 2); omega⟩ rfl hl.1 (Nat.le_of_ble_eq_true rfl) dX3_either_45 ⟨Nat.zero_le _, Nat.zero_le _⟩) (fun S20 H locs hV hM => ?_)
      refine lv_iinc (v := (x2 + 1)) (lv' := [(2, .int (x2 + 1)), (0, .ref a0), (1, .int x1)]) hx hb dX3_either_48 hl (k := 2) rfl rfl (by decide) rfl (fun ls hl => ?_)
      refine lv_goto (tgt := 12) hx hb dX3_either_51 (by decide) ?_
      exact ih _ _ _ _ _ _ _ hM hV (lv_sub hl [1, 2, 0] rfl)
    have hM := ite_t c18 hM
    refine lv_iconst (v := 0) hx hb dX3_either_40 (by decide) ?_
    exact x_zret C hV (by decide) hM dX3_either_41
set_option maxHeartbeats 4000000 in
set_option maxRecDepth 100000 in
theorem c_X3_either {l : Launch} {D : DX} {cA : Nat → ClassId} {z0 N : Nat} {o : PS → Nat → Int32 → (Int32 → PS → Prop) → Prop} {r : Nat} {S : PS} {a0 : Nat} {x1 : Int32} {K : Int32 → PS → Prop} (hro : 17 ≤ r) (hO : ∀ {S : PS} {a0 : Nat} {x1 : Int32} {K : Int32 → PS → Prop}, o S a0 x1 K → MetI l yX3_one cX3_one 4 (some .boolean) r 0 0 D cA z0 [.ref a0, .int x1] S (fun r S => (r = 0 ∨ r = 1) ∧ K r S)) (hM : wp_X3_either N o S a0 x1 K) : MetI l yX3_either cX3_either 3 (some .boolean) (r + 2) 0 0 D cA z0 [.ref a0, .int x1] S (fun r S => (r = 0 ∨ r = 1) ∧ K r S) := by
  refine x_met RX3 (by decide) rfl ?_
  intro p e s m below meth c C hin hV
  have hl := lv_entry ([.ref a0, .int x1]) (n := 3) (Nat.le_of_ble_eq_true rfl)
  rw [lg_entry_eq]
  generalize (lg_sl ([.ref a0, .int x1]) ++ List.replicate (3 - (lg_sl ([.ref a0, .int x1])).length) Slot.unset).toArray = ls at hl ⊢
  have hl : lv_has ls 3 [(0, .ref a0), (1, .int x1)] := hl
  obtain ⟨hx, hb, hml, hown, hts, hK, hz, hlk, hr⟩ := id C
  unfold wp_X3_either at hM
  refine lv_aload_n hx hb dX3_either_0 rfl (lv_at hl 0 rfl) ?_
  refine lv_iload_n hx hb dX3_either_1 rfl (lv_at hl 1 rfl) ?_
  have hk1 := hM.1
  have hM := hM.2
  refine x_ci hV (x_runV (As := [.int x1]) (rest := []) C hV mi_X3_both wl_X3_34 hk1 (c_X3_both hro hO hM) ⟨by show r + 1 + 1 ≤ r + 2; omega, by show 48 * (r + 1 + 1) ≤ 48 * (r + 2); omega⟩ rfl hl.1 (Nat.le_of_ble_eq_true rfl) dX3_either_2 ⟨Nat.zero_le _, Nat.zero_le _⟩) (fun r3 S2 H locs hV hM => ?_)
  have hz4 := hM.1
  have hM := hM.2
  refine lv_if_ne (tgt := 10) hx hb dX3_either_5 (by decide) (fun c5 => ?_) (fun c5 => ?_)
  · have hM := ite_f c5 hM
    refine lv_iconst (v := 0) hx hb dX3_either_10 (by decide) ?_
    refine lv_istore_n (lv' := [(2, .int 0), (0, .ref a0), (1, .int x1)]) hx hb dX3_either_11 rfl hl (by decide) rfl (fun ls hl => ?_)
    exact tq_X3_either_12 C hro hO N _ _ _ _ _ _ _ hM hV (lv_sub hl [1, 2, 0] rfl)
  have hM := ite_t c5 hM
  refine lv_iconst (v := 0) hx hb dX3_either_8 (by decide) ?_
  exact x_zret C hV (by decide) hM dX3_either_9

def wq_X3_one_25 (N : Nat) (o : PS → Nat → Int32 → (Int32 → PS → Prop) → Prop) (K : Int32 → PS → Prop) (S : PS) (a0 : Nat) (x1 : Int32) : Prop := if x1 < 4 then (S.K a0 = 4 ∧ ∃ p10 : Nat, S.R 256 a0 = some p10 ∧ S.K p10 = 9 ∧ wp_X8_take N S p10 40 (fun r13 S12 => if r13 = 0 then (S12.K a0 = 4 ∧ ∃ p17 : Nat, S12.R 256 a0 = some p17 ∧ S12.K p17 = 9 ∧ wp_X8_take N S12 p17 307 (fun r20 S19 => if r20 = 0 then (K 0 S19) else (S19.K a0 = 4 ∧ o S19 a0 (x1 + 1) (fun r25 S24 => if r25 = 0 then (K 0 S24) else (S24.K a0 = 4 ∧ wp_X3_emit N S24 a0 (-9) (fun S29 => K 1 S29)))))) else (S12.K a0 = 4 ∧ wp_X3_either N o S12 a0 (x1 + 1) (fun r33 S32 => if r33 = 0 then (K 0 S32) else (S32.K a0 = 4 ∧ ∃ p37 : Nat, S32.R 256 a0 = some p37 ∧ S32.K p37 = 9 ∧ wp_X8_take N S32 p37 41 (fun r40 S39 => if r40 = 0 then (K 0 S39) else (K 1 S39))))))) else (K 0 S)
def wq_X3_one_204 (N : Nat) (o : PS → Nat → Int32 → (Int32 → PS → Prop) → Prop) (K : Int32 → PS → Prop) (S : PS) (b0 : Nat) (t1 : Int32) : Prop := S.K b0 = 4 ∧ wp_X3_emit N S b0 t1 (fun S76 => K 1 S76)
def wq_X3_one_164 (N : Nat) (o : PS → Nat → Int32 → (Int32 → PS → Prop) → Prop) (K : Int32 → PS → Prop) (S : PS) (a0 : Nat) (x1 : Int32) (x2 : Int32) (t0 : Int32) : Prop := if t0 = 0 then (K 0 S) else (S.K a0 = 4 ∧ wp_X3_sum N S a0 x1 (fun r70 S69 => if r70 = 0 then (K 0 S69) else (if x2 = 60 then (wq_X3_one_204 N o K S69 a0 (-13)) else (if x2 = 61 then (wq_X3_one_204 N o K S69 a0 (-14)) else (wq_X3_one_204 N o K S69 a0 (-15))))))
def wq_X3_one_159 (N : Nat) (o : PS → Nat → Int32 → (Int32 → PS → Prop) → Prop) (K : Int32 → PS → Prop) (S : PS) (a0 : Nat) (x1 : Int32) (x2 : Int32) : Prop := wq_X3_one_164 N o K S a0 x1 x2 1
def wp_X3_oneB (N : Nat) (o : PS → Nat → Int32 → (Int32 → PS → Prop) → Prop) (S : PS) (a0 : Nat) (x1 : Int32) (K : Int32 → PS → Prop) : Prop := S.K a0 = 4 ∧ ∃ p2 : Nat, S.R 256 a0 = some p2 ∧ S.K p2 = 9 ∧ wp_X8_isNow N S p2 307 (fun r5 S4 => if r5 = 0 then (S4.K a0 = 4 ∧ ∃ p44 : Nat, S4.R 256 a0 = some p44 ∧ S4.K p44 = 9 ∧ wp_X8_isNow N S4 p44 40 (fun r47 S46 => if r47 = 0 then (S46.K a0 = 4 ∧ wp_X3_sum N S46 a0 x1 (fun r52 S51 => if r52 = 0 then (K 0 S51) else (S51.K a0 = 4 ∧ ∃ p56 : Nat, S51.R 256 a0 = some p56 ∧ S51.K p56 = 9 ∧ wp_X8_code N S51 p56 (fun r59 S58 => S58.K a0 = 4 ∧ ∃ p61 : Nat, S58.R 256 a0 = some p61 ∧ S58.K p61 = 9 ∧ wp_X8_take N S58 p61 60 (fun r64 S63 => if r64 = 0 then (S63.K a0 = 4 ∧ ∃ p79 : Nat, S63.R 256 a0 = some p79 ∧ S63.K p79 = 9 ∧ wp_X8_take N S63 p79 61 (fun r82 S81 => if r82 = 0 then (S81.K a0 = 4 ∧ ∃ p86 : Nat, S81.R 256 a0 = some p86 ∧ S81.K p86 = 9 ∧ wp_X8_take N S81 p86 62 (fun r89 S88 => if r89 = 0 then (wq_X3_one_164 N o K S88 a0 x1 r59 0) else (wq_X3_one_159 N o K S88 a0 x1 r59))) else (wq_X3_one_159 N o K S81 a0 x1 r59))) else (wq_X3_one_159 N o K S63 a0 x1 r59)))))) else (wq_X3_one_25 N o K S46 a0 x1))) else (wq_X3_one_25 N o K S4 a0 x1))
set_option maxHeartbeats 4000000 in
set_option maxRecDepth 100000 in
theorem tq_X3_one_25 {p : Program} {l : Launch} {e : Env} {s : State} {m : MethodId} {args : Array Value} {below : List Frame} {meth : Method} {c : Code} {D : DX} {cA : Nat → ClassId} {z0 N : Nat} {o : PS → Nat → Int32 → (Int32 → PS → Prop) → Prop} {r : Nat} {K : Int32 → PS → Prop} (C : CX p s m args meth c cX3_one 4 RX3 (some .boolean) D cA z0) (hro : 17 ≤ r) (hO : ∀ {S : PS} {a0 : Nat} {x1 : Int32} {K : Int32 → PS → Prop}, o S a0 x1 K → MetI l yX3_one cX3_one 4 (some .boolean) r 0 0 D cA z0 [.ref a0, .int x1] S (fun r S => (r = 0 ∨ r = 1) ∧ K r S)) : ∀ (S : PS) (a0 : Nat) (x1 : Int32) (H : Heap) (locs : List Loc) (ls : Array Slot), wq_X3_one_25 N o K S a0 x1 → XV D cA z0 s S H locs → lv_has ls 4 [(0, .ref a0), (1, .int x1)] → W p l e (rmd (r + 3) 0 0) s m args below meth c H locs 0 0 (MQ below (va_Qi (fun r S => (r = 0 ∨ r = 1) ∧ K r S) (XK D cA z0) (zA z0)) args s 0 0 (zA z0)) (F0 m 25 ls []) := by
  obtain ⟨hx, hb, hml, hown, hts, hK, hz, hlk, hr⟩ := id C
  intro S a0 x1 H locs ls hM hV hl
  unfold wq_X3_one_25 at hM
  refine lv_iload_n hx hb dX3_one_25 rfl (lv_at hl 1 rfl) ?_
  refine lv_iconst (v := 4) hx hb dX3_one_26 (by decide) ?_
  refine lv_icmp_lt (tgt := 32) hx hb dX3_one_27 (by decide) (fun c8 => ?_) (fun c8 => ?_)
  · have hM := ite_t c8 hM
    refine lv_aload_n hx hb dX3_one_32 rfl (lv_at hl 0 rfl) ?_
    have hk9 := hM.1
    have hM := hM.2
    obtain ⟨p10, hp10, hM⟩ := hM
    refine x_getR C hV wf_X3_19 hk9 hp10 dX3_one_33 ?_
    refine lv_bipush (v := 40) hx hb dX3_one_36 (by decide) ?_
    have hk11 := hM.1
    have hM := hM.2
    refine x_ci hV (x_runV (As := [.int 40]) (rest := []) C hV mi_X8_take wl_X3_38 hk11 (c_X8_take hM) ⟨by show 0 + 1 ≤ r + 3; omega, by show 48 * (0 + 1) ≤ 48 * (r + 3); omega⟩ rfl hl.1 (Nat.le_of_ble_eq_true rfl) dX3_one_38 ⟨Nat.zero_le _, Nat.zero_le _⟩) (fun r13 S12 H locs hV hM => ?_)
    have hz14 := hM.1
    have hM := hM.2
    refine lv_if_eq (tgt := 72) hx hb dX3_one_41 (by decide) (fun c15 => ?_) (fun c15 => ?_)
    · have hM := ite_t c15 hM
      refine lv_aload_n hx hb dX3_one_72 rfl (lv_at hl 0 rfl) ?_
      have hk16 := hM.1
      have hM := hM.2
      obtain ⟨p17, hp17, hM⟩ := hM
      refine x_getR C hV wf_X3_19 hk16 hp17 dX3_one_73 ?_
      refine lv_sipush (v := 307) hx hb dX3_one_76 (by decide) ?_
      have hk18 := hM.1
      have hM := hM.2
      refine x_ci hV (x_runV (As := [.int 307]) (rest := []) C hV mi_X8_take wl_X3_38 hk18 (c_X8_take hM) ⟨by show 0 + 1 ≤ r + 3; omega, by show 48 * (0 + 1) ≤ 48 * (r + 3); omega⟩ rfl hl.1 (Nat.le_of_ble_eq_true rfl) dX3_one_79 ⟨Nat.zero_le _, Nat.zero_le _⟩) (fun r20 S19 H locs hV hM => ?_)
      have hz21 := hM.1
      have hM := hM.2
      refine lv_if_eq (tgt := 95) hx hb dX3_one_82 (by decide) (fun c22 => ?_) (fun c22 => ?_)
      · have hM := ite_t c22 hM
        refine lv_iconst (v := 0) hx hb dX3_one_95 (by decide) ?_
        exact x_zret C hV (by decide) hM dX3_one_96
      have hM := ite_f c22 hM
      refine lv_aload_n hx hb dX3_one_85 rfl (lv_at hl 0 rfl) ?_
      refine lv_iload_n hx hb dX3_one_86 rfl (lv_at hl 1 rfl) ?_
      refine lv_iconst (v := 1) hx hb dX3_one_87 (by decide) ?_
      refine lv_iadd hx hb dX3_one_88 ?_
      have hk23 := hM.1
      have hM := hM.2
      refine x_ci hV (x_runV (As := [.int (x1 + 1)]) (rest := []) C hV mi_X3_one wl_X3_47 hk23 (hO hM) ⟨by show r + 1 ≤ r + 3; omega, by show 48 * (r + 1) ≤ 48 * (r + 3); omega⟩ rfl hl.1 (Nat.le_of_ble_eq_true rfl) dX3_one_89 ⟨Nat.zero_le _, Nat.zero_le _⟩) (fun r25 S24 H locs hV hM => ?_)
      have hz26 := hM.1
      have hM := hM.2
      refine lv_if_ne (tgt := 97) hx hb dX3_one_92 (by decide) (fun c27 => ?_) (fun c27 => ?_)
      · have hM := ite_f c27 hM
        refine lv_aload_n hx hb dX3_one_97 rfl (lv_at hl 0 rfl) ?_
        refine lv_bipush (v := (-9)) hx hb dX3_one_98 (by decide) ?_
        have hk28 := hM.1
        have hM := hM.2
        refine x_cv hV (x_runV (As := [.int (-9)]) (rest := []) C hV mi_X3_emit wl_X3_43 hk28 (c_X3_emit hM) ⟨by show 0 + 1 ≤ r + 3; omega, by show 48 * (0 + 1) ≤ 48 * (r + 3); omega⟩ rfl hl.1 (Nat.le_of_ble_eq_true rfl) dX3_one_100 ⟨Nat.zero_le _, Nat.zero_le _⟩) (fun S29 H locs hV hM => ?_)
        refine lv_iconst (v := 1) hx hb dX3_one_103 (by decide) ?_
        exact x_zret C hV (by decide) hM dX3_one_104
      have hM := ite_t c27 hM
      refine lv_iconst (v := 0) hx hb dX3_one_95 (by decide) ?_
      exact x_zret C hV (by decide) hM dX3_one_96
    have hM := ite_f c15 hM
    refine lv_aload_n hx hb dX3_one_44 rfl (lv_at hl 0 rfl) ?_
    refine lv_iload_n hx hb dX3_one_45 rfl (lv_at hl 1 rfl) ?_
    refine lv_iconst (v := 1) hx hb dX3_one_46 (by decide) ?_
    refine lv_iadd hx hb dX3_one_47 ?_
    have hk31 := hM.1
    have hM := hM.2
    refine x_ci hV (x_runV (As := [.int (x1 + 1)]) (rest := []) C hV mi_X3_either wl_X3_53 hk31 (c_X3_either hro hO hM) ⟨by show r + 2 + 1 ≤ r + 3; omega, by show 48 * (r + 2 + 1) ≤ 48 * (r + 3); omega⟩ rfl hl.1 (Nat.le_of_ble_eq_true rfl) dX3_one_48 ⟨Nat.zero_le _, Nat.zero_le _⟩) (fun r33 S32 H locs hV hM => ?_)
    have hz34 := hM.1
    have hM := hM.2
    refine lv_if_eq (tgt := 70) hx hb dX3_one_51 (by decide) (fun c35 => ?_) (fun c35 => ?_)
    · have hM := ite_t c35 hM
      refine lv_iconst (v := 0) hx hb dX3_one_70 (by decide) ?_
      exact x_zret C hV (by decide) hM dX3_one_71
    have hM := ite_f c35 hM
    refine lv_aload_n hx hb dX3_one_54 rfl (lv_at hl 0 rfl) ?_
    have hk36 := hM.1
    have hM := hM.2
    obtain ⟨p37, hp37, hM⟩ := hM
    refine x_getR C hV wf_X3_19 hk36 hp37 dX3_one_55 ?_
    refine lv_bipush (v := 41) hx hb dX3_one_58 (by decide) ?_
    have hk38 := hM.1
    have hM := hM.2
    refine x_ci hV (x_runV (As := [.int 41]) (rest := []) C hV mi_X8_take wl_X3_38 hk38 (c_X8_take hM) ⟨by show 0 + 1 ≤ r + 3; omega, by show 48 * (0 + 1) ≤ 48 * (r + 3); omega⟩ rfl hl.1 (Nat.le_of_ble_eq_true rfl) dX3_one_60 ⟨Nat.zero_le _, Nat.zero_le _⟩) (fun r40 S39 H locs hV hM => ?_)
    have hz41 := hM.1
    have hM := hM.2
    refine lv_if_eq (tgt := 70) hx hb dX3_one_63 (by decide) (fun c42 => ?_) (fun c42 => ?_)
    · have hM := ite_t c42 hM
      refine lv_iconst (v := 0) hx hb dX3_one_70 (by decide) ?_
      exact x_zret C hV (by decide) hM dX3_one_71
    have hM := ite_f c42 hM
    refine lv_iconst (v := 1) hx hb dX3_one_66 (by decide) ?_
    refine lv_goto (tgt := 71) hx hb dX3_one_67 (by decide) ?_
    exact x_zret C hV (by decide) hM dX3_one_71
  have hM := ite_f c8 hM
  refine lv_iconst (v := 0) hx hb dX3_one_30 (by decide) ?_
  exact x_zret C hV (by decide) hM dX3_one_31
set_option maxHeartbeats 4000000 in
set_option maxRecDepth 100000 in
theorem tq_X3_one_204 {p : Program} {l : Launch} {e : Env} {s : State} {m : MethodId} {args : Array Value} {below : List Frame} {meth : Method} {c : Code} {D : DX} {cA : Nat → ClassId} {z0 N : Nat} {o : PS → Nat → Int32 → (Int32 → PS → Prop) → Prop} {r : Nat} {K : Int32 → PS → Prop} (C : CX p s m args meth c cX3_one 4 RX3 (some .boolean) D cA z0) (hro : 17 ≤ r) (hO : ∀ {S : PS} {a0 : Nat} {x1 : Int32} {K : Int32 → PS → Prop}, o S a0 x1 K → MetI l yX3_one cX3_one 4 (some .boolean) r 0 0 D cA z0 [.ref a0, .int x1] S (fun r S => (r = 0 ∨ r = 1) ∧ K r S)) : ∀ (S : PS) (b0 : Nat) (t1 : Int32) (H : Heap) (locs : List Loc) (ls : Array Slot), wq_X3_one_204 N o K S b0 t1 → XV D cA z0 s S H locs → lv_has ls 4 [] → W p l e (rmd (r + 3) 0 0) s m args below meth c H locs 0 0 (MQ below (va_Qi (fun r S => (r = 0 ∨ r = 1) ∧ K r S) (XK D cA z0) (zA z0)) args s 0 0 (zA z0)) (F0 m 204 ls [.int t1, .ref b0]) := by
  obtain ⟨hx, hb, hml, hown, hts, hK, hz, hlk, hr⟩ := id C
  intro S b0 t1 H locs ls hM hV hl
  unfold wq_X3_one_204 at hM
  have hk75 := hM.1
  have hM := hM.2
  refine x_cv hV (x_runV (As := [.int t1]) (rest := []) C hV mi_X3_emit wl_X3_43 hk75 (c_X3_emit hM) ⟨by show 0 + 1 ≤ r + 3; omega, by show 48 * (0 + 1) ≤ 48 * (r + 3); omega⟩ rfl hl.1 (Nat.le_of_ble_eq_true rfl) dX3_one_204 ⟨Nat.zero_le _, Nat.zero_le _⟩) (fun S76 H locs hV hM => ?_)
  refine lv_iconst (v := 1) hx hb dX3_one_207 (by decide) ?_
  exact x_zret C hV (by decide) hM dX3_one_208
set_option maxHeartbeats 4000000 in
set_option maxRecDepth 100000 in
theorem tq_X3_one_164 {p : Program} {l : Launch} {e : Env} {s : State} {m : MethodId} {args : Array Value} {below : List Frame} {meth : Method} {c : Code} {D : DX} {cA : Nat → ClassId} {z0 N : Nat} {o : PS → Nat → Int32 → (Int32 → PS → Prop) → Prop} {r : Nat} {K : Int32 → PS → Prop} (C : CX p s m args meth c cX3_one 4 RX3 (some .boolean) D cA z0) (hro : 17 ≤ r) (hO : ∀ {S : PS} {a0 : Nat} {x1 : Int32} {K : Int32 → PS → Prop}, o S a0 x1 K → MetI l yX3_one cX3_one 4 (some .boolean) r 0 0 D cA z0 [.ref a0, .int x1] S (fun r S => (r = 0 ∨ r = 1) ∧ K r S)) : ∀ (S : PS) (a0 : Nat) (x1 : Int32) (x2 : Int32) (t0 : Int32) (H : Heap) (locs : List Loc) (ls : Array Slot), wq_X3_one_164 N o K S a0 x1 x2 t0 → XV D cA z0 s S H locs → lv_has ls 4 [(0, .ref a0), (1, .int x1), (2, .int x2)] → W p l e (rmd (r + 3) 0 0) s m args below meth c H locs 0 0 (MQ below (va_Qi (fun r S => (r = 0 ∨ r = 1) ∧ K r S) (XK D cA z0) (zA z0)) args s 0 0 (zA z0)) (F0 m 164 ls [.int t0]) := by
  obtain ⟨hx, hb, hml, hown, hts, hK, hz, hlk, hr⟩ := id C
  intro S a0 x1 x2 t0 H locs ls hM hV hl
  unfold wq_X3_one_164 at hM
  refine lv_istore_n (lv' := [(3, .int t0), (0, .ref a0), (1, .int x1), (2, .int x2)]) hx hb dX3_one_164 rfl hl (by decide) rfl (fun ls hl => ?_)
  refine lv_iload_n hx hb dX3_one_165 rfl (lv_at hl 0 rfl) ?_
  refine lv_if_eq (tgt := 177) hx hb dX3_one_166 (by decide) (fun c67 => ?_) (fun c67 => ?_)
  · have hM := ite_t c67 hM
    refine lv_iconst (v := 0) hx hb dX3_one_177 (by decide) ?_
    exact x_zret C hV (by decide) hM dX3_one_178
  have hM := ite_f c67 hM
  refine lv_aload_n hx hb dX3_one_169 rfl (lv_at hl 1 rfl) ?_
  refine lv_iload_n hx hb dX3_one_170 rfl (lv_at hl 2 rfl) ?_
  have hk68 := hM.1
  have hM := hM.2
  refine x_ci hV (x_runV (As := [.int x1]) (rest := []) C hV mi_X3_sum wl_X3_56 hk68 (c_X3_sum hM) ⟨by show 16 + 1 ≤ r + 3; omega, by show 48 * (16 + 1) ≤ 48 * (r + 3); omega⟩ rfl hl.1 (Nat.le_of_ble_eq_true rfl) dX3_one_171 ⟨Nat.zero_le _, Nat.zero_le _⟩) (fun r70 S69 H locs hV hM => ?_)
  have hz71 := hM.1
  have hM := hM.2
  refine lv_if_ne (tgt := 179) hx hb dX3_one_174 (by decide) (fun c72 => ?_) (fun c72 => ?_)
  · have hM := ite_f c72 hM
    refine lv_aload_n hx hb dX3_one_179 rfl (lv_at hl 1 rfl) ?_
    refine lv_iload_n hx hb dX3_one_180 rfl (lv_at hl 3 rfl) ?_
    refine lv_bipush (v := 60) hx hb dX3_one_181 (by decide) ?_
    refine lv_icmp_ne (tgt := 191) hx hb dX3_one_183 (by decide) (fun c73 => ?_) (fun c73 => ?_)
    · have hM := ite_f c73 hM
      refine lv_iload_n hx hb dX3_one_191 rfl (lv_at hl 3 rfl) ?_
      refine lv_bipush (v := 61) hx hb dX3_one_192 (by decide) ?_
      refine lv_icmp_ne (tgt := 202) hx hb dX3_one_194 (by decide) (fun c74 => ?_) (fun c74 => ?_)
      · have hM := ite_f c74 hM
        refine lv_bipush (v := (-15)) hx hb dX3_one_202 (by decide) ?_
        exact tq_X3_one_204 C hro hO _ _ _ _ _ _ hM hV (lv_sub hl [] rfl)
      have hM := ite_t c74 hM
      refine lv_bipush (v := (-14)) hx hb dX3_one_197 (by decide) ?_
      refine lv_goto (tgt := 204) hx hb dX3_one_199 (by decide) ?_
      exact tq_X3_one_204 C hro hO _ _ _ _ _ _ hM hV (lv_sub hl [] rfl)
    have hM := ite_t c73 hM
    refine lv_bipush (v := (-13)) hx hb dX3_one_186 (by decide) ?_
    refine lv_goto (tgt := 204) hx hb dX3_one_188 (by decide) ?_
    exact tq_X3_one_204 C hro hO _ _ _ _ _ _ hM hV (lv_sub hl [] rfl)
  have hM := ite_t c72 hM
  refine lv_iconst (v := 0) hx hb dX3_one_177 (by decide) ?_
  exact x_zret C hV (by decide) hM dX3_one_178
set_option maxHeartbeats 4000000 in
set_option maxRecDepth 100000 in
theorem tq_X3_one_159 {p : Program} {l : Launch} {e : Env} {s : State} {m : MethodId} {args : Array Value} {below : List Frame} {meth : Method} {c : Code} {D : DX} {cA : Nat → ClassId} {z0 N : Nat} {o : PS → Nat → Int32 → (Int32 → PS → Prop) → Prop} {r : Nat} {K : Int32 → PS → Prop} (C : CX p s m args meth c cX3_one 4 RX3 (some .boolean) D cA z0) (hro : 17 ≤ r) (hO : ∀ {S : PS} {a0 : Nat} {x1 : Int32} {K : Int32 → PS → Prop}, o S a0 x1 K → MetI l yX3_one cX3_one 4 (some .boolean) r 0 0 D cA z0 [.ref a0, .int x1] S (fun r S => (r = 0 ∨ r = 1) ∧ K r S)) : ∀ (S : PS) (a0 : Nat) (x1 : Int32) (x2 : Int32) (H : Heap) (locs : List Loc) (ls : Array Slot), wq_X3_one_159 N o K S a0 x1 x2 → XV D cA z0 s S H locs → lv_has ls 4 [(0, .ref a0), (1, .int x1), (2, .int x2)] → W p l e (rmd (r + 3) 0 0) s m args below meth c H locs 0 0 (MQ below (va_Qi (fun r S => (r = 0 ∨ r = 1) ∧ K r S) (XK D cA z0) (zA z0)) args s 0 0 (zA z0)) (F0 m 159 ls []) := by
  obtain ⟨hx, hb, hml, hown, hts, hK, hz, hlk, hr⟩ := id C
  intro S a0 x1 x2 H locs ls hM hV hl
  unfold wq_X3_one_159 at hM
  refine lv_iconst (v := 1) hx hb dX3_one_159 (by decide) ?_
  refine lv_goto (tgt := 164) hx hb dX3_one_160 (by decide) ?_
  exact tq_X3_one_164 C hro hO _ _ _ _ _ _ _ _ hM hV (lv_sub hl [0, 1, 2] rfl)
set_option maxHeartbeats 4000000 in
set_option maxRecDepth 100000 in
theorem c_X3_oneB {l : Launch} {D : DX} {cA : Nat → ClassId} {z0 N : Nat} {o : PS → Nat → Int32 → (Int32 → PS → Prop) → Prop} {r : Nat} {S : PS} {a0 : Nat} {x1 : Int32} {K : Int32 → PS → Prop} (hro : 17 ≤ r) (hO : ∀ {S : PS} {a0 : Nat} {x1 : Int32} {K : Int32 → PS → Prop}, o S a0 x1 K → MetI l yX3_one cX3_one 4 (some .boolean) r 0 0 D cA z0 [.ref a0, .int x1] S (fun r S => (r = 0 ∨ r = 1) ∧ K r S)) (hM : wp_X3_oneB N o S a0 x1 K) : MetI l yX3_one cX3_one 4 (some .boolean) (r + 3) 0 0 D cA z0 [.ref a0, .int x1] S (fun r S => (r = 0 ∨ r = 1) ∧ K r S) := by
  refine x_met RX3 (by decide) rfl ?_
  intro p e s m below meth c C hin hV
  have hl := lv_entry ([.ref a0, .int x1]) (n := 4) (Nat.le_of_ble_eq_true rfl)
  rw [lg_entry_eq]
  generalize (lg_sl ([.ref a0, .int x1]) ++ List.replicate (4 - (lg_sl ([.ref a0, .int x1])).length) Slot.unset).toArray = ls at hl ⊢
  have hl : lv_has ls 4 [(0, .ref a0), (1, .int x1)] := hl
  obtain ⟨hx, hb, hml, hown, hts, hK, hz, hlk, hr⟩ := id C
  unfold wp_X3_oneB at hM
  refine lv_aload_n hx hb dX3_one_0 rfl (lv_at hl 0 rfl) ?_
  have hk1 := hM.1
  have hM := hM.2
  obtain ⟨p2, hp2, hM⟩ := hM
  refine x_getR C hV wf_X3_19 hk1 hp2 dX3_one_1 ?_
  refine lv_sipush (v := 307) hx hb dX3_one_4 (by decide) ?_
  have hk3 := hM.1
  have hM := hM.2
  refine x_ci hV (x_runV (As := [.int 307]) (rest := []) C hV mi_X8_isNow wl_X3_50 hk3 (c_X8_isNow hM) ⟨by show 0 + 1 ≤ r + 3; omega, by show 48 * (0 + 1) ≤ 48 * (r + 3); omega⟩ rfl hl.1 (Nat.le_of_ble_eq_true rfl) dX3_one_7 ⟨Nat.zero_le _, Nat.zero_le _⟩) (fun r5 S4 H locs hV hM => ?_)
  have hz6 := hM.1
  have hM := hM.2
  refine lv_if_ne (tgt := 25) hx hb dX3_one_10 (by decide) (fun c7 => ?_) (fun c7 => ?_)
  · have hM := ite_f c7 hM
    exact tq_X3_one_25 C hro hO _ _ _ _ _ _ hM hV (lv_sub hl [0, 1] rfl)
  have hM := ite_t c7 hM
  refine lv_aload_n hx hb dX3_one_13 rfl (lv_at hl 0 rfl) ?_
  have hk43 := hM.1
  have hM := hM.2
  obtain ⟨p44, hp44, hM⟩ := hM
  refine x_getR C hV wf_X3_19 hk43 hp44 dX3_one_14 ?_
  refine lv_bipush (v := 40) hx hb dX3_one_17 (by decide) ?_
  have hk45 := hM.1
  have hM := hM.2
  refine x_ci hV (x_runV (As := [.int 40]) (rest := []) C hV mi_X8_isNow wl_X3_50 hk45 (c_X8_isNow hM) ⟨by show 0 + 1 ≤ r + 3; omega, by show 48 * (0 + 1) ≤ 48 * (r + 3); omega⟩ rfl hl.1 (Nat.le_of_ble_eq_true rfl) dX3_one_19 ⟨Nat.zero_le _, Nat.zero_le _⟩) (fun r47 S46 H locs hV hM => ?_)
  have hz48 := hM.1
  have hM := hM.2
  refine lv_if_eq (tgt := 105) hx hb dX3_one_22 (by decide) (fun c49 => ?_) (fun c49 => ?_)
  · have hM := ite_t c49 hM
    refine lv_aload_n hx hb dX3_one_105 rfl (lv_at hl 0 rfl) ?_
    refine lv_iload_n hx hb dX3_one_106 rfl (lv_at hl 1 rfl) ?_
    have hk50 := hM.1
    have hM := hM.2
    refine x_ci hV (x_runV (As := [.int x1]) (rest := []) C hV mi_X3_sum wl_X3_56 hk50 (c_X3_sum hM) ⟨by show 16 + 1 ≤ r + 3; omega, by show 48 * (16 + 1) ≤ 48 * (r + 3); omega⟩ rfl hl.1 (Nat.le_of_ble_eq_true rfl) dX3_one_107 ⟨Nat.zero_le _, Nat.zero_le _⟩) (fun r52 S51 H locs hV hM => ?_)
    have hz53 := hM.1
    have hM := hM.2
    refine lv_if_ne (tgt := 115) hx hb dX3_one_110 (by decide) (fun c54 => ?_) (fun c54 => ?_)
    · have hM := ite_f c54 hM
      refine lv_aload_n hx hb dX3_one_115 rfl (lv_at hl 0 rfl) ?_
      have hk55 := hM.1
      have hM := hM.2
      obtain ⟨p56, hp56, hM⟩ := hM
      refine x_getR C hV wf_X3_19 hk55 hp56 dX3_one_116 ?_
      have hk57 := hM.1
      have hM := hM.2
      refine x_ci hV (x_runV (As := []) (rest := []) C hV mi_X8_code wl_X3_59 hk57 (c_X8_code hM) ⟨by show 0 + 1 ≤ r + 3; omega, by show 48 * (0 + 1) ≤ 48 * (r + 3); omega⟩ rfl hl.1 (Nat.le_of_ble_eq_true rfl) dX3_one_119 ⟨Nat.zero_le _, Nat.zero_le _⟩) (fun r59 S58 H locs hV hM => ?_)
      refine lv_istore_n (lv' := [(2, .int r59), (0, .ref a0), (1, .int x1)]) hx hb dX3_one_122 rfl hl (by decide) rfl (fun ls hl => ?_)
      refine lv_aload_n hx hb dX3_one_123 rfl (lv_at hl 1 rfl) ?_
      have hk60 := hM.1
      have hM := hM.2
      obtain ⟨p61, hp61, hM⟩ := hM
      refine x_getR C hV wf_X3_19 hk60 hp61 dX3_one_124 ?_
      refine lv_bipush (v := 60) hx hb dX3_one_127 (by decide) ?_
      have hk62 := hM.1
      have hM := hM.2
      refine x_ci hV (x_runV (As := [.int 60]) (rest := []) C hV mi_X8_take wl_X3_38 hk62 (c_X8_take hM) ⟨by show 0 + 1 ≤ r + 3; omega, by show 48 * (0 + 1) ≤ 48 * (r + 3); omega⟩ rfl hl.1 (Nat.le_of_ble_eq_true rfl) dX3_one_129 ⟨Nat.zero_le _, Nat.zero_le _⟩) (fun r64 S63 H locs hV hM => ?_)
      have hz65 := hM.1
      have hM := hM.2
      refine lv_if_ne (tgt := 159) hx hb dX3_one_132 (by decide) (fun c66 => ?_) (fun c66 => ?_)
      · have hM := ite_f c66 hM
        exact tq_X3_one_159 C hro hO _ _ _ _ _ _ _ hM hV (lv_sub hl [1, 2, 0] rfl)
      have hM := ite_t c66 hM
      refine lv_aload_n hx hb dX3_one_135 rfl (lv_at hl 1 rfl) ?_
      have hk78 := hM.1
      have hM := hM.2
      obtain ⟨p79, hp79, hM⟩ := hM
      refine x_getR C hV wf_X3_19 hk78 hp79 dX3_one_136 ?_
      refine lv_bipush (v := 61) hx hb dX3_one_139 (by decide) ?_
      have hk80 := hM.1
      have hM := hM.2
      refine x_ci hV (x_runV (As := [.int 61]) (rest := []) C hV mi_X8_take wl_X3_38 hk80 (c_X8_take hM) ⟨by show 0 + 1 ≤ r + 3; omega, by show 48 * (0 + 1) ≤ 48 * (r + 3); omega⟩ rfl hl.1 (Nat.le_of_ble_eq_true rfl) dX3_one_141 ⟨Nat.zero_le _, Nat.zero_le _⟩) (fun r82 S81 H locs hV hM => ?_)
      have hz83 := hM.1
      have hM := hM.2
      refine lv_if_ne (tgt := 159) hx hb dX3_one_144 (by decide) (fun c84 => ?_) (fun c84 => ?_)
      · have hM := ite_f c84 hM
        exact tq_X3_one_159 C hro hO _ _ _ _ _ _ _ hM hV (lv_sub hl [1, 2, 0] rfl)
      have hM := ite_t c84 hM
      refine lv_aload_n hx hb dX3_one_147 rfl (lv_at hl 1 rfl) ?_
      have hk85 := hM.1
      have hM := hM.2
      obtain ⟨p86, hp86, hM⟩ := hM
      refine x_getR C hV wf_X3_19 hk85 hp86 dX3_one_148 ?_
      refine lv_bipush (v := 62) hx hb dX3_one_151 (by decide) ?_
      have hk87 := hM.1
      have hM := hM.2
      refine x_ci hV (x_runV (As := [.int 62]) (rest := []) C hV mi_X8_take wl_X3_38 hk87 (c_X8_take hM) ⟨by show 0 + 1 ≤ r + 3; omega, by show 48 * (0 + 1) ≤ 48 * (r + 3); omega⟩ rfl hl.1 (Nat.le_of_ble_eq_true rfl) dX3_one_153 ⟨Nat.zero_le _, Nat.zero_le _⟩) (fun r89 S88 H locs hV hM => ?_)
      have hz90 := hM.1
      have hM := hM.2
      refine lv_if_eq (tgt := 163) hx hb dX3_one_156 (by decide) (fun c91 => ?_) (fun c91 => ?_)
      · have hM := ite_t c91 hM
        refine lv_iconst (v := 0) hx hb dX3_one_163 (by decide) ?_
        exact tq_X3_one_164 C hro hO _ _ _ _ _ _ _ _ hM hV (lv_sub hl [1, 2, 0] rfl)
      have hM := ite_f c91 hM
      exact tq_X3_one_159 C hro hO _ _ _ _ _ _ _ hM hV (lv_sub hl [1, 2, 0] rfl)
    have hM := ite_t c54 hM
    refine lv_iconst (v := 0) hx hb dX3_one_113 (by decide) ?_
    exact x_zret C hV (by decide) hM dX3_one_114
  have hM := ite_f c49 hM
  exact tq_X3_one_25 C hro hO _ _ _ _ _ _ hM hV (lv_sub hl [0, 1] rfl)

def wp_X3_one (N : Nat) : Nat → PS → Nat → Int32 → (Int32 → PS → Prop) → Prop
  | 0, _, _, _, _ => False
  | d + 1, S, a0, x1, K => wp_X3_oneB N (fun S a0 x1 K => wp_X3_one N d S a0 x1 K) S a0 x1 K
theorem c_X3_one {l : Launch} {D : DX} {cA : Nat → ClassId} {z0 N : Nat} : ∀ (d : Nat) {S : PS} {a0 : Nat} {x1 : Int32} {K : Int32 → PS → Prop}, wp_X3_one N d S a0 x1 K → MetI l yX3_one cX3_one 4 (some .boolean) (17 + 3 * d) 0 0 D cA z0 [.ref a0, .int x1] S (fun r S => (r = 0 ∨ r = 1) ∧ K r S)
  | 0, _, _, _, _, h => absurd h id
  | d + 1, _, _, _, _, h => c_X3_oneB (o := fun S a0 x1 K => wp_X3_one N d S a0 x1 K) (r := 17 + 3 * d) (by omega) (fun hM => c_X3_one d hM) h
def wq_X10_house_50 (N : Nat) (K : Int32 → PS → Prop) (S : PS) (a0 : Nat) : Prop := S.K a0 = 11 ∧ ∃ p20 : Nat, S.R 709 a0 = some p20 ∧ S.K p20 = 9 ∧ wp_X8_place N S p20 (fun r23 S22 => K ((-100) - r23) S22)
def wp_X10_house (N : Nat) (S : PS) (a0 : Nat) (K : Int32 → PS → Prop) : Prop := S.K a0 = 11 ∧ ∃ p2 : Nat, S.R 704 a0 = some p2 ∧ S.K p2 = 10 ∧ if (S.I 647 p2) < 8 then (wp_X10_useTape N S a0 (fun S5 => S5.K a0 = 11 ∧ ∃ p8 : Nat, S5.R 711 a0 = some p8 ∧ S5.K p8 = 4 ∧ wp_X3_begin N S5 p8 (fun S10 => S10.K a0 = 11 ∧ ∃ p13 : Nat, S10.R 711 a0 = some p13 ∧ S10.K p13 = 4 ∧ wp_X3_either N (fun S a0 x1 K => wp_X3_one N 6 S a0 x1 K) S10 p13 0 (fun r16 S15 => if r16 = 0 then (wq_X10_house_50 N K S15 a0) else (S15.K a0 = 11 ∧ ∃ p25 : Nat, S15.R 709 a0 = some p25 ∧ S15.K p25 = 9 ∧ wp_X8_isNow N S15 p25 258 (fun r28 S27 => if r28 = 0 then (wq_X10_house_50 N K S27 a0) else (S27.K a0 = 11 ∧ ∃ p32 : Nat, S27.R 704 a0 = some p32 ∧ S27.K p32 = 10 ∧ ∃ p34 : Nat, S27.R 653 p32 = some p34 ∧ ∃ p35 : Nat, S27.R 704 a0 = some p35 ∧ S27.K p35 = 10 ∧ ∃ p37 : Nat, S27.R 711 a0 = some p37 ∧ S27.K p37 = 4 ∧ wp_X3_told N S27 p37 (fun r40 S39 => S39.K p34 = 24 ∧ S39.K r40 = 3 ∧ vp_in (S27.I 647 p35) (S39.ln p34) ∧ ∀ S44 : PS, S44 = S39.setQ p34 (S27.I 647 p35).toNatClampNeg (some r40) → S44.K a0 = 11 ∧ ∃ p46 : Nat, S44.R 704 a0 = some p46 ∧ S44.K p46 = 10 ∧ ∀ S48 : PS, S48 = S44.setI 647 p46 ((S44.I 647 p46) + 1) → ∃ p50 : Nat, S48.R 704 a0 = some p50 ∧ S48.K p50 = 10 ∧ K ((S48.I 647 p50) - 1) S48)))))))) else (K (-2) S)
set_option maxHeartbeats 4000000 in
set_option maxRecDepth 100000 in
theorem tq_X10_house_50 {p : Program} {l : Launch} {e : Env} {s : State} {m : MethodId} {args : Array Value} {below : List Frame} {meth : Method} {c : Code} {D : DX} {cA : Nat → ClassId} {z0 N : Nat} {K : Int32 → PS → Prop} (C : CX p s m args meth c cX10_house 1 RX10 (some .int) D cA z0) : ∀ (S : PS) (a0 : Nat) (H : Heap) (locs : List Loc) (ls : Array Slot), wq_X10_house_50 N K S a0 → XV D cA z0 s S H locs → lv_has ls 1 [(0, .ref a0)] → W p l e (rmd 38 2 201) s m args below meth c H locs 0 0 (MQ below (va_Qi K (XK D cA z0) (zA z0)) args s 2 201 (zA z0)) (F0 m 50 ls []) := by
  obtain ⟨hx, hb, hml, hown, hts, hK, hz, hlk, hr⟩ := id C
  intro S a0 H locs ls hM hV hl
  unfold wq_X10_house_50 at hM
  refine lv_bipush (v := (-100)) hx hb dX10_house_50 (by decide) ?_
  refine lv_aload_n hx hb dX10_house_52 rfl (lv_at hl 0 rfl) ?_
  have hk19 := hM.1
  have hM := hM.2
  obtain ⟨p20, hp20, hM⟩ := hM
  refine x_getR C hV wf_X10_34 hk19 hp20 dX10_house_53 ?_
  have hk21 := hM.1
  have hM := hM.2
  refine x_ci hV (x_runV (As := []) (rest := [.int (-100)]) C hV mi_X8_place wl_X10_203 hk21 (c_X8_place hM) ⟨by decide, by decide⟩ rfl hl.1 (Nat.le_of_ble_eq_true rfl) dX10_house_56 ⟨Nat.le_of_ble_eq_true rfl, Nat.le_of_ble_eq_true rfl⟩) (fun r23 S22 H locs hV hM => ?_)
  refine lv_isub hx hb dX10_house_59 ?_
  refine W.widen (k := 2) (n := 201) (Nat.le_of_ble_eq_true rfl) (Nat.le_of_ble_eq_true rfl) ?_
  exact x_iret C hV hM dX10_house_60
set_option maxHeartbeats 4000000 in
set_option maxRecDepth 100000 in
theorem c_X10_house {l : Launch} {D : DX} {cA : Nat → ClassId} {z0 N : Nat} {S : PS} {a0 : Nat} {K : Int32 → PS → Prop} (hM : wp_X10_house N S a0 K) : MetI l yX10_house cX10_house 1 (some .int) 38 2 201 D cA z0 [.ref a0] S K := by
  refine x_met RX10 (by decide) rfl ?_
  intro p e s m below meth c C hin hV
  have hl := lv_entry ([.ref a0]) (n := 1) (Nat.le_of_ble_eq_true rfl)
  rw [lg_entry_eq]
  generalize (lg_sl ([.ref a0]) ++ List.replicate (1 - (lg_sl ([.ref a0])).length) Slot.unset).toArray = ls at hl ⊢
  have hl : lv_has ls 1 [(0, .ref a0)] := hl
  obtain ⟨hx, hb, hml, hown, hts, hK, hz, hlk, hr⟩ := id C
  unfold wp_X10_house at hM
  refine lv_aload_n hx hb dX10_house_0 rfl (lv_at hl 0 rfl) ?_
  have hk1 := hM.1
  have hM := hM.2
  obtain ⟨p2, hp2, hM⟩ := hM
  refine x_getR C hV wf_X10_10 hk1 hp2 dX10_house_1 ?_
  have hk3 := hM.1
  have hM := hM.2
  refine x_getI C hV wf_X10_287 hk3 dX10_house_4 ?_
  refine lv_bipush (v := 8) hx hb dX10_house_7 (by decide) ?_
  refine lv_icmp_lt (tgt := 15) hx hb dX10_house_9 (by decide) (fun c4 => ?_) (fun c4 => ?_)
  · have hM := ite_t c4 hM
    refine lv_aload_n hx hb dX10_house_15 rfl (lv_at hl 0 rfl) ?_
    refine x_cv hV (x_runV (As := []) (rest := []) C hV mi_X10_useTape wl_X10_196 hk1 (c_X10_useTape hM) ⟨by decide, by decide⟩ rfl hl.1 (Nat.le_of_ble_eq_true rfl) dX10_house_16 ⟨Nat.le_of_ble_eq_true rfl, Nat.le_of_ble_eq_true rfl⟩) (fun S5 H locs hV hM => ?_)
    refine lv_aload_n hx hb dX10_house_19 rfl (lv_at hl 0 rfl) ?_
    have hk7 := hM.1
    have hM := hM.2
    obtain ⟨p8, hp8, hM⟩ := hM
    refine x_getR C hV wf_X10_50 hk7 hp8 dX10_house_20 ?_
    have hk9 := hM.1
    have hM := hM.2
    refine x_cv hV (x_runV (As := []) (rest := []) C hV mi_X3_begin wl_X10_290 hk9 (c_X3_begin hM) ⟨by decide, by decide⟩ rfl hl.1 (Nat.le_of_ble_eq_true rfl) dX10_house_23 ⟨Nat.le_of_ble_eq_true rfl, Nat.le_of_ble_eq_true rfl⟩) (fun S10 H locs hV hM => ?_)
    refine lv_aload_n hx hb dX10_house_26 rfl (lv_at hl 0 rfl) ?_
    have hk12 := hM.1
    have hM := hM.2
    obtain ⟨p13, hp13, hM⟩ := hM
    refine x_getR C hV wf_X10_50 hk12 hp13 dX10_house_27 ?_
    refine lv_iconst (v := 0) hx hb dX10_house_30 (by decide) ?_
    have hk14 := hM.1
    have hM := hM.2
    refine x_ci hV (x_runV (As := [.int 0]) (rest := []) C hV mi_X3_either wl_X10_292 hk14 (c_X3_either (o := fun S a0 x1 K => wp_X3_one N 6 S a0 x1 K) (r := 17 + 3 * 6) (by decide) (fun hM => c_X3_one 6 hM) hM) ⟨by decide, by decide⟩ rfl hl.1 (Nat.le_of_ble_eq_true rfl) dX10_house_31 ⟨Nat.le_of_ble_eq_true rfl, Nat.le_of_ble_eq_true rfl⟩) (fun r16 S15 H locs hV hM => ?_)
    have hz17 := hM.1
    have hM := hM.2
    refine lv_if_eq (tgt := 50) hx hb dX10_house_34 (by decide) (fun c18 => ?_) (fun c18 => ?_)
    · have hM := ite_t c18 hM
      exact tq_X10_house_50 C _ _ _ _ _ hM hV (lv_sub hl [0] rfl)
    have hM := ite_f c18 hM
    refine lv_aload_n hx hb dX10_house_37 rfl (lv_at hl 0 rfl) ?_
    have hk24 := hM.1
    have hM := hM.2
    obtain ⟨p25, hp25, hM⟩ := hM
    refine x_getR C hV wf_X10_34 hk24 hp25 dX10_house_38 ?_
    refine lv_sipush (v := 258) hx hb dX10_house_41 (by decide) ?_
    have hk26 := hM.1
    have hM := hM.2
    refine x_ci hV (x_runV (As := [.int 258]) (rest := []) C hV mi_X8_isNow wl_X10_295 hk26 (c_X8_isNow hM) ⟨by decide, by decide⟩ rfl hl.1 (Nat.le_of_ble_eq_true rfl) dX10_house_44 ⟨Nat.le_of_ble_eq_true rfl, Nat.le_of_ble_eq_true rfl⟩) (fun r28 S27 H locs hV hM => ?_)
    have hz29 := hM.1
    have hM := hM.2
    refine lv_if_ne (tgt := 61) hx hb dX10_house_47 (by decide) (fun c30 => ?_) (fun c30 => ?_)
    · have hM := ite_f c30 hM
      refine lv_aload_n hx hb dX10_house_61 rfl (lv_at hl 0 rfl) ?_
      have hk31 := hM.1
      have hM := hM.2
      obtain ⟨p32, hp32, hM⟩ := hM
      refine x_getR C hV wf_X10_10 hk31 hp32 dX10_house_62 ?_
      have hk33 := hM.1
      have hM := hM.2
      obtain ⟨p34, hp34, hM⟩ := hM
      refine x_getR C hV wf_X10_298 hk33 hp34 dX10_house_65 ?_
      refine lv_aload_n hx hb dX10_house_68 rfl (lv_at hl 0 rfl) ?_
      obtain ⟨p35, hp35, hM⟩ := hM
      refine x_getR C hV wf_X10_10 hk31 hp35 dX10_house_69 ?_
      have hk36 := hM.1
      have hM := hM.2
      refine x_getI C hV wf_X10_287 hk36 dX10_house_72 ?_
      refine lv_aload_n hx hb dX10_house_75 rfl (lv_at hl 0 rfl) ?_
      obtain ⟨p37, hp37, hM⟩ := hM
      refine x_getR C hV wf_X10_50 hk31 hp37 dX10_house_76 ?_
      have hk38 := hM.1
      have hM := hM.2
      refine x_cr hV (x_runV (As := []) (rest := [.int (S27.I 647 p35), .ref p34]) C hV mi_X3_told wl_X10_302 hk38 (c_X3_told hM) ⟨by decide, by decide⟩ rfl hl.1 (Nat.le_of_ble_eq_true rfl) dX10_house_79 ⟨Nat.le_of_ble_eq_true rfl, Nat.le_of_ble_eq_true rfl⟩) (fun r40 S39 H locs hV hM => ?_)
      have hk41 := hM.1
      have hM := hM.2
      have hk42 := hM.1
      have hM := hM.2
      have hi43 := hM.1
      have hM := hM.2
      obtain ⟨S44, eS44⟩ : ∃ z : PS, z = S39.setQ p34 (S27.I 647 p35).toNatClampNeg (some r40) := ⟨_, rfl⟩
      have hM := hM S44 eS44
      refine x_aast C hV hk41 (by decide) rfl rfl (by decide) hk42 hi43 eS44 dX10_house_82 (fun H locs hV => ?_)
      refine lv_aload_n hx hb dX10_house_83 rfl (lv_at hl 0 rfl) ?_
      have hk45 := hM.1
      have hM := hM.2
      obtain ⟨p46, hp46, hM⟩ := hM
      refine x_getR C hV wf_X10_10 hk45 hp46 dX10_house_84 ?_
      refine lv_dup hx hb dX10_house_87 rfl ?_
      have hk47 := hM.1
      have hM := hM.2
      refine x_getI C hV wf_X10_287 hk47 dX10_house_88 ?_
      refine lv_iconst (v := 1) hx hb dX10_house_91 (by decide) ?_
      refine lv_iadd hx hb dX10_house_92 ?_
      obtain ⟨S48, eS48⟩ : ∃ z : PS, z = S44.setI 647 p46 ((S44.I 647 p46) + 1) := ⟨_, rfl⟩
      have hM := hM S48 eS48
      refine x_putI C hV wp_X10_287 hk47 ⟨rfl, rfl⟩ eS48 dX10_house_93 (fun H locs hV => ?_)
      refine lv_aload_n hx hb dX10_house_96 rfl (lv_at hl 0 rfl) ?_
      have hk49 := kp_I eS48 hk45
      obtain ⟨p50, hp50, hM⟩ := hM
      refine x_getR C hV wf_X10_10 hk49 hp50 dX10_house_97 ?_
      have hk51 := hM.1
      have hM := hM.2
      refine x_getI C hV wf_X10_287 hk51 dX10_house_100 ?_
      refine lv_iconst (v := 1) hx hb dX10_house_103 (by decide) ?_
      refine lv_isub hx hb dX10_house_104 ?_
      refine W.widen (k := 2) (n := 201) (Nat.le_of_ble_eq_true rfl) (Nat.le_of_ble_eq_true rfl) ?_
      exact x_iret C hV hM dX10_house_105
    have hM := ite_t c30 hM
    exact tq_X10_house_50 C _ _ _ _ _ hM hV (lv_sub hl [0] rfl)
  have hM := ite_f c4 hM
  refine lv_bipush (v := (-2)) hx hb dX10_house_12 (by decide) ?_
  refine W.widen (k := 2) (n := 201) (Nat.le_of_ble_eq_true rfl) (Nat.le_of_ble_eq_true rfl) ?_
  exact x_iret C hV hM dX10_house_14

