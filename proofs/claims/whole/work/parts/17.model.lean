def wp_X11_isOn (N : Nat) (S : PS) (a0 : Nat) (x1 : Int32) (x2 : Int32) (K : Int32 → PS → Prop) : Prop := S.K a0 = 12 ∧ wp_X11_its N S a0 x1 1 (fun r3 S2 => if ((r3 >>> (x2 &&& 31)) &&& 1) = 1 then (K 1 S2) else (K 0 S2))
set_option maxHeartbeats 4000000 in
set_option maxRecDepth 100000 in
theorem c_X11_isOn {l : Launch} {D : DX} {cA : Nat → ClassId} {z0 N : Nat} {S : PS} {a0 : Nat} {x1 : Int32} {x2 : Int32} {K : Int32 → PS → Prop} (hM : wp_X11_isOn N S a0 x1 x2 K) : MetI l yX11_isOn cX11_isOn 3 (some .boolean) 1 0 0 D cA z0 [.ref a0, .int x1, .int x2] S (fun r S => (r = 0 ∨ r = 1) ∧ K r S) := by
  refine x_met RX11 (by decide) rfl ?_
  intro p e s m below meth c C hin hV
  have hl := lv_entry ([.ref a0, .int x1, .int x2]) (n := 3) (Nat.le_of_ble_eq_true rfl)
  rw [lg_entry_eq]
  generalize (lg_sl ([.ref a0, .int x1, .int x2]) ++ List.replicate (3 - (lg_sl ([.ref a0, .int x1, .int x2])).length) Slot.unset).toArray = ls at hl ⊢
  have hl : lv_has ls 3 [(0, .ref a0), (1, .int x1), (2, .int x2)] := hl
  obtain ⟨hx, hb, hml, hown, hts, hK, hz, hlk, hr⟩ := id C
  unfold wp_X11_isOn at hM
  refine lv_aload_n hx hb dX11_isOn_0 rfl (lv_at hl 0 rfl) ?_
  refine lv_iload_n hx hb dX11_isOn_1 rfl (lv_at hl 1 rfl) ?_
  refine lv_iconst (v := 1) hx hb dX11_isOn_2 (by decide) ?_
  have hk1 := hM.1
  have hM := hM.2
  refine x_ci hV (x_runV (As := [.int x1, .int 1]) (rest := []) C hV mi_X11_its wl_X11_94 hk1 (c_X11_its hM) ⟨by decide, by decide⟩ rfl hl.1 (Nat.le_of_ble_eq_true rfl) dX11_isOn_3 ⟨Nat.zero_le _, Nat.zero_le _⟩) (fun r3 S2 H locs hV hM => ?_)
  refine lv_iload_n hx hb dX11_isOn_6 rfl (lv_at hl 2 rfl) ?_
  refine lv_ishr hx hb dX11_isOn_7 ?_
  refine lv_iconst (v := 1) hx hb dX11_isOn_8 (by decide) ?_
  refine lv_iand hx hb dX11_isOn_9 ?_
  refine lv_iconst (v := 1) hx hb dX11_isOn_10 (by decide) ?_
  refine lv_icmp_ne (tgt := 18) hx hb dX11_isOn_11 (by decide) (fun c4 => ?_) (fun c4 => ?_)
  · have hM := ite_f c4 hM
    refine lv_iconst (v := 0) hx hb dX11_isOn_18 (by decide) ?_
    exact x_zret C hV (by decide) hM dX11_isOn_19
  have hM := ite_t c4 hM
  refine lv_iconst (v := 1) hx hb dX11_isOn_14 (by decide) ?_
  refine lv_goto (tgt := 19) hx hb dX11_isOn_15 (by decide) ?_
  exact x_zret C hV (by decide) hM dX11_isOn_19

def wp_X11_isSide (N : Nat) (S : PS) (x0 : Int32) (K : Int32 → PS → Prop) : Prop := wp_X11_in N S x0 0 1 (fun r2 S1 => (r2 = 0 ∨ r2 = 1) ∧ K r2 S1)
set_option maxHeartbeats 4000000 in
set_option maxRecDepth 100000 in
theorem c_X11_isSide {l : Launch} {D : DX} {cA : Nat → ClassId} {z0 N : Nat} {S : PS} {x0 : Int32} {K : Int32 → PS → Prop} (hM : wp_X11_isSide N S x0 K) : MetI l yX11_isSide cX11_isSide 1 (some .boolean) 1 0 0 D cA z0 [.int x0] S (fun r S => (r = 0 ∨ r = 1) ∧ K r S) := by
  refine x_met RX11 (by decide) rfl ?_
  intro p e s m below meth c C hin hV
  have hl := lv_entry ([.int x0]) (n := 1) (Nat.le_of_ble_eq_true rfl)
  rw [lg_entry_eq]
  generalize (lg_sl ([.int x0]) ++ List.replicate (1 - (lg_sl ([.int x0])).length) Slot.unset).toArray = ls at hl ⊢
  have hl : lv_has ls 1 [(0, .int x0)] := hl
  obtain ⟨hx, hb, hml, hown, hts, hK, hz, hlk, hr⟩ := id C
  unfold wp_X11_isSide at hM
  refine lv_iload_n hx hb dX11_isSide_0 rfl (lv_at hl 0 rfl) ?_
  refine lv_iconst (v := 0) hx hb dX11_isSide_1 (by decide) ?_
  refine lv_iconst (v := 1) hx hb dX11_isSide_2 (by decide) ?_
  refine x_ci hV (x_runS (As := [.int x0, .int 0, .int 1]) (rest := []) C hV ms_X11_in wl_X11_87 (c_X11_in hM) ⟨by decide, by decide⟩ rfl hl.1 (Nat.le_of_ble_eq_true rfl) dX11_isSide_3 ⟨Nat.zero_le _, Nat.zero_le _⟩) (fun r2 S1 H locs hV hM => ?_)
  have hz3 := hM.1
  have hM := hM.2
  have hz4 := hM.1
  have hM := hM.2
  exact x_zret C hV hz4 hM dX11_isSide_6

def wp_X11_size (N : Nat) (S : PS) (x0 : Int32) (K : Int32 → PS → Prop) : Prop := if 0 ≤ x0 then (K x0 S) else (K (-x0) S)
set_option maxHeartbeats 4000000 in
set_option maxRecDepth 100000 in
theorem c_X11_size {l : Launch} {D : DX} {cA : Nat → ClassId} {z0 N : Nat} {S : PS} {x0 : Int32} {K : Int32 → PS → Prop} (hM : wp_X11_size N S x0 K) : MetI l yX11_size cX11_size 1 (some .int) 0 0 0 D cA z0 [.int x0] S K := by
  refine x_met RX11 (by decide) rfl ?_
  intro p e s m below meth c C hin hV
  have hl := lv_entry ([.int x0]) (n := 1) (Nat.le_of_ble_eq_true rfl)
  rw [lg_entry_eq]
  generalize (lg_sl ([.int x0]) ++ List.replicate (1 - (lg_sl ([.int x0])).length) Slot.unset).toArray = ls at hl ⊢
  have hl : lv_has ls 1 [(0, .int x0)] := hl
  obtain ⟨hx, hb, hml, hown, hts, hK, hz, hlk, hr⟩ := id C
  unfold wp_X11_size at hM
  refine lv_iload_n hx hb dX11_size_0 rfl (lv_at hl 0 rfl) ?_
  refine lv_if_ge (tgt := 9) hx hb dX11_size_1 (by decide) (fun c1 => ?_) (fun c1 => ?_)
  · have hM := ite_t c1 hM
    refine lv_iload_n hx hb dX11_size_9 rfl (lv_at hl 0 rfl) ?_
    exact x_iret C hV hM dX11_size_10
  have hM := ite_f c1 hM
  refine lv_iload_n hx hb dX11_size_4 rfl (lv_at hl 0 rfl) ?_
  refine lv_ineg hx hb dX11_size_5 ?_
  refine lv_goto (tgt := 10) hx hb dX11_size_6 (by decide) ?_
  exact x_iret C hV hM dX11_size_10

def wq_X11_could_63 (N : Nat) (K : Int32 → PS → Prop) (k_21 : PS → Nat → Int32 → Int32 → Int32 → Int32 → Prop) (S : PS) (a0 : Nat) (x1 : Int32) (x2 : Int32) (x4 : Int32) (t0 : Int32) (t1 : Int32) : Prop := ∀ v15 : Int32, v15 = (t0 ||| t1) → k_21 S a0 x1 x2 v15 (x4 + 1)
def wq_X11_could_62 (N : Nat) (K : Int32 → PS → Prop) (k_21 : PS → Nat → Int32 → Int32 → Int32 → Int32 → Prop) (S : PS) (a0 : Nat) (x1 : Int32) (x2 : Int32) (x4 : Int32) (t0 : Int32) : Prop := wq_X11_could_63 N K k_21 S a0 x1 x2 x4 t0 0
def wq_X11_could_21 (N : Nat) (K : Int32 → PS → Prop) : Nat → PS → Nat → Int32 → Int32 → Int32 → Int32 → Prop
  | 0, _, _, _, _, _, _ => False
  | n + 1, S, a0, x1, x2, x3, x4 => S.K a0 = 12 ∧ if (S.I 772 a0) ≤ x4 then (K x3 S) else (wp_X11_isOn N S a0 x4 x1 (fun r12 S11 => if r12 = 0 then (wq_X11_could_62 N K (fun S a0 x1 x2 x3 x4 => wq_X11_could_21 N K n S a0 x1 x2 x3 x4) S11 a0 x1 x2 x4 x3) else (S11.K a0 = 12 ∧ wp_X11_its N S11 a0 x4 3 (fun r18 S17 => wp_X11_size N S17 x2 (fun r20 S19 => if r18 < r20 then (wq_X11_could_62 N K (fun S a0 x1 x2 x3 x4 => wq_X11_could_21 N K n S a0 x1 x2 x3 x4) S19 a0 x1 x2 x4 x3) else (wq_X11_could_63 N K (fun S a0 x1 x2 x3 x4 => wq_X11_could_21 N K n S a0 x1 x2 x3 x4) S19 a0 x1 x2 x4 x3 ((1 : Int32) <<< (x4 &&& 31))))))))
def wp_X11_could (N : Nat) (S : PS) (a0 : Nat) (x1 : Int32) (x2 : Int32) (K : Int32 → PS → Prop) : Prop := wp_X11_isSide N S x1 (fun r2 S1 => if r2 = 0 then (K (-1) S1) else (wp_X11_isFar N S1 x2 (fun r6 S5 => if r6 = 0 then (K (-1) S5) else (wq_X11_could_21 N K N S5 a0 x1 x2 0 0))))
set_option maxHeartbeats 4000000 in
set_option maxRecDepth 100000 in
theorem tq_X11_could_63 {p : Program} {l : Launch} {e : Env} {s : State} {m : MethodId} {args : Array Value} {below : List Frame} {meth : Method} {c : Code} {D : DX} {cA : Nat → ClassId} {z0 N : Nat} {K : Int32 → PS → Prop} {k_21 : PS → Nat → Int32 → Int32 → Int32 → Int32 → Prop} (C : CX p s m args meth c cX11_could 5 RX11 (some .int) D cA z0) (H_21 : ∀ (S : PS) (a0 : Nat) (x1 : Int32) (x2 : Int32) (x3 : Int32) (x4 : Int32) (H : Heap) (locs : List Loc) (ls : Array Slot), k_21 S a0 x1 x2 x3 x4 → XV D cA z0 s S H locs → lv_has ls 5 [(0, .ref a0), (1, .int x1), (2, .int x2), (3, .int x3), (4, .int x4)] → W p l e (rmd 2 0 0) s m args below meth c H locs 0 0 (MQ below (va_Qi K (XK D cA z0) (zA z0)) args s 0 0 (zA z0)) (F0 m 21 ls [])) : ∀ (S : PS) (a0 : Nat) (x1 : Int32) (x2 : Int32) (x4 : Int32) (t0 : Int32) (t1 : Int32) (H : Heap) (locs : List Loc) (ls : Array Slot), wq_X11_could_63 N K k_21 S a0 x1 x2 x4 t0 t1 → XV D cA z0 s S H locs → lv_has ls 5 [(0, .ref a0), (1, .int x1), (2, .int x2), (4, .int x4)] → W p l e (rmd 2 0 0) s m args below meth c H locs 0 0 (MQ below (va_Qi K (XK D cA z0) (zA z0)) args s 0 0 (zA z0)) (F0 m 63 ls [.int t1, .int t0]) := by
  obtain ⟨hx, hb, hml, hown, hts, hK, hz, hlk, hr⟩ := id C
  intro S a0 x1 x2 x4 t0 t1 H locs ls hM hV hl
  unfold wq_X11_could_63 at hM
  refine lv_ior hx hb dX11_could_63 ?_
  refine lv_topi (fun v15 ev15 => ?_)
  have hM := hM v15 ev15
  refine lv_istore_n (lv' := [(3, .int v15), (0, .ref a0), (1, .int x1), (2, .int x2), (4, .int x4)]) hx hb dX11_could_64 rfl hl (by decide) rfl (fun ls hl => ?_)
  refine lv_iinc (v := (x4 + 1)) (lv' := [(4, .int (x4 + 1)), (3, .int v15), (0, .ref a0), (1, .int x1), (2, .int x2)]) hx hb dX11_could_65 hl (k := 4) rfl rfl (by decide) rfl (fun ls hl => ?_)
  refine lv_goto (tgt := 21) hx hb dX11_could_68 (by decide) ?_
  exact H_21 _ _ _ _ _ _ _ _ _ hM hV (lv_sub hl [2, 3, 4, 1, 0] rfl)
set_option maxHeartbeats 4000000 in
set_option maxRecDepth 100000 in
theorem tq_X11_could_62 {p : Program} {l : Launch} {e : Env} {s : State} {m : MethodId} {args : Array Value} {below : List Frame} {meth : Method} {c : Code} {D : DX} {cA : Nat → ClassId} {z0 N : Nat} {K : Int32 → PS → Prop} {k_21 : PS → Nat → Int32 → Int32 → Int32 → Int32 → Prop} (C : CX p s m args meth c cX11_could 5 RX11 (some .int) D cA z0) (H_21 : ∀ (S : PS) (a0 : Nat) (x1 : Int32) (x2 : Int32) (x3 : Int32) (x4 : Int32) (H : Heap) (locs : List Loc) (ls : Array Slot), k_21 S a0 x1 x2 x3 x4 → XV D cA z0 s S H locs → lv_has ls 5 [(0, .ref a0), (1, .int x1), (2, .int x2), (3, .int x3), (4, .int x4)] → W p l e (rmd 2 0 0) s m args below meth c H locs 0 0 (MQ below (va_Qi K (XK D cA z0) (zA z0)) args s 0 0 (zA z0)) (F0 m 21 ls [])) : ∀ (S : PS) (a0 : Nat) (x1 : Int32) (x2 : Int32) (x4 : Int32) (t0 : Int32) (H : Heap) (locs : List Loc) (ls : Array Slot), wq_X11_could_62 N K k_21 S a0 x1 x2 x4 t0 → XV D cA z0 s S H locs → lv_has ls 5 [(0, .ref a0), (1, .int x1), (2, .int x2), (4, .int x4)] → W p l e (rmd 2 0 0) s m args below meth c H locs 0 0 (MQ below (va_Qi K (XK D cA z0) (zA z0)) args s 0 0 (zA z0)) (F0 m 62 ls [.int t0]) := by
  obtain ⟨hx, hb, hml, hown, hts, hK, hz, hlk, hr⟩ := id C
  intro S a0 x1 x2 x4 t0 H locs ls hM hV hl
  unfold wq_X11_could_62 at hM
  refine lv_iconst (v := 0) hx hb dX11_could_62 (by decide) ?_
  exact tq_X11_could_63 C H_21 _ _ _ _ _ _ _ _ _ _ hM hV (lv_sub hl [0, 1, 2, 3] rfl)
set_option maxHeartbeats 4000000 in
set_option maxRecDepth 100000 in
theorem tq_X11_could_21 {p : Program} {l : Launch} {e : Env} {s : State} {m : MethodId} {args : Array Value} {below : List Frame} {meth : Method} {c : Code} {D : DX} {cA : Nat → ClassId} {z0 N : Nat} {K : Int32 → PS → Prop} (C : CX p s m args meth c cX11_could 5 RX11 (some .int) D cA z0) : ∀ (n : Nat) (S : PS) (a0 : Nat) (x1 : Int32) (x2 : Int32) (x3 : Int32) (x4 : Int32) (H : Heap) (locs : List Loc) (ls : Array Slot), wq_X11_could_21 N K n S a0 x1 x2 x3 x4 → XV D cA z0 s S H locs → lv_has ls 5 [(0, .ref a0), (1, .int x1), (2, .int x2), (3, .int x3), (4, .int x4)] → W p l e (rmd 2 0 0) s m args below meth c H locs 0 0 (MQ below (va_Qi K (XK D cA z0) (zA z0)) args s 0 0 (zA z0)) (F0 m 21 ls []) := by
  obtain ⟨hx, hb, hml, hown, hts, hK, hz, hlk, hr⟩ := id C
  intro n
  induction n with
  | zero => intro S a0 x1 x2 x3 x4 H locs ls hM; exact absurd hM id
  | succ n ih =>
    intro S a0 x1 x2 x3 x4 H locs ls hM hV hl
    rw [wq_X11_could_21.eq_2] at hM
    refine lv_iload hx hb dX11_could_21 (lv_at hl 4 rfl) ?_
    refine lv_aload_n hx hb dX11_could_23 rfl (lv_at hl 0 rfl) ?_
    have hk9 := hM.1
    have hM := hM.2
    refine x_getI C hV wf_X11_84 hk9 dX11_could_24 ?_
    refine lv_icmp_ge (tgt := 71) hx hb dX11_could_27 (by decide) (fun c10 => ?_) (fun c10 => ?_)
    · have hM := ite_t c10 hM
      refine lv_iload_n hx hb dX11_could_71 rfl (lv_at hl 3 rfl) ?_
      exact x_iret C hV hM dX11_could_72
    have hM := ite_f c10 hM
    refine lv_iload_n hx hb dX11_could_30 rfl (lv_at hl 3 rfl) ?_
    refine lv_aload_n hx hb dX11_could_31 rfl (lv_at hl 0 rfl) ?_
    refine lv_iload hx hb dX11_could_32 (lv_at hl 4 rfl) ?_
    refine lv_iload_n hx hb dX11_could_34 rfl (lv_at hl 1 rfl) ?_
    refine x_ci hV (x_runV (As := [.int x4, .int x1]) (rest := [.int x3]) C hV mi_X11_isOn wl_X11_123 hk9 (c_X11_isOn hM) ⟨by decide, by decide⟩ rfl hl.1 (Nat.le_of_ble_eq_true rfl) dX11_could_35 ⟨Nat.zero_le _, Nat.zero_le _⟩) (fun r12 S11 H locs hV hM => ?_)
    have hz13 := hM.1
    have hM := hM.2
    refine lv_if_eq (tgt := 62) hx hb dX11_could_38 (by decide) (fun c14 => ?_) (fun c14 => ?_)
    · have hM := ite_t c14 hM
      exact tq_X11_could_62 C ih _ _ _ _ _ _ _ _ _ hM hV (lv_sub hl [0, 1, 2, 4] rfl)
    have hM := ite_f c14 hM
    refine lv_aload_n hx hb dX11_could_41 rfl (lv_at hl 0 rfl) ?_
    refine lv_iload hx hb dX11_could_42 (lv_at hl 4 rfl) ?_
    refine lv_iconst (v := 3) hx hb dX11_could_44 (by decide) ?_
    have hk16 := hM.1
    have hM := hM.2
    refine x_ci hV (x_runV (As := [.int x4, .int 3]) (rest := [.int x3]) C hV mi_X11_its wl_X11_94 hk16 (c_X11_its hM) ⟨by decide, by decide⟩ rfl hl.1 (Nat.le_of_ble_eq_true rfl) dX11_could_45 ⟨Nat.zero_le _, Nat.zero_le _⟩) (fun r18 S17 H locs hV hM => ?_)
    refine lv_iload_n hx hb dX11_could_48 rfl (lv_at hl 2 rfl) ?_
    refine x_ci hV (x_runS (As := [.int x2]) (rest := [.int r18, .int x3]) C hV ms_X11_size wl_X11_229 (c_X11_size hM) ⟨by decide, by decide⟩ rfl hl.1 (Nat.le_of_ble_eq_true rfl) dX11_could_49 ⟨Nat.zero_le _, Nat.zero_le _⟩) (fun r20 S19 H locs hV hM => ?_)
    refine lv_icmp_lt (tgt := 62) hx hb dX11_could_52 (by decide) (fun c21 => ?_) (fun c21 => ?_)
    · have hM := ite_t c21 hM
      exact tq_X11_could_62 C ih _ _ _ _ _ _ _ _ _ hM hV (lv_sub hl [0, 1, 2, 4] rfl)
    have hM := ite_f c21 hM
    refine lv_iconst (v := 1) hx hb dX11_could_55 (by decide) ?_
    refine lv_iload hx hb dX11_could_56 (lv_at hl 4 rfl) ?_
    refine lv_ishl hx hb dX11_could_58 ?_
    refine lv_goto (tgt := 63) hx hb dX11_could_59 (by decide) ?_
    exact tq_X11_could_63 C ih _ _ _ _ _ _ _ _ _ _ hM hV (lv_sub hl [0, 1, 2, 4] rfl)
set_option maxHeartbeats 4000000 in
set_option maxRecDepth 100000 in
theorem c_X11_could {l : Launch} {D : DX} {cA : Nat → ClassId} {z0 N : Nat} {S : PS} {a0 : Nat} {x1 : Int32} {x2 : Int32} {K : Int32 → PS → Prop} (hM : wp_X11_could N S a0 x1 x2 K) : MetI l yX11_could cX11_could 5 (some .int) 2 0 0 D cA z0 [.ref a0, .int x1, .int x2] S K := by
  refine x_met RX11 (by decide) rfl ?_
  intro p e s m below meth c C hin hV
  have hl := lv_entry ([.ref a0, .int x1, .int x2]) (n := 5) (Nat.le_of_ble_eq_true rfl)
  rw [lg_entry_eq]
  generalize (lg_sl ([.ref a0, .int x1, .int x2]) ++ List.replicate (5 - (lg_sl ([.ref a0, .int x1, .int x2])).length) Slot.unset).toArray = ls at hl ⊢
  have hl : lv_has ls 5 [(0, .ref a0), (1, .int x1), (2, .int x2)] := hl
  obtain ⟨hx, hb, hml, hown, hts, hK, hz, hlk, hr⟩ := id C
  unfold wp_X11_could at hM
  refine lv_iload_n hx hb dX11_could_0 rfl (lv_at hl 1 rfl) ?_
  refine x_ci hV (x_runS (As := [.int x1]) (rest := []) C hV ms_X11_isSide wl_X11_119 (c_X11_isSide hM) ⟨by decide, by decide⟩ rfl hl.1 (Nat.le_of_ble_eq_true rfl) dX11_could_1 ⟨Nat.zero_le _, Nat.zero_le _⟩) (fun r2 S1 H locs hV hM => ?_)
  have hz3 := hM.1
  have hM := hM.2
  refine lv_if_eq (tgt := 14) hx hb dX11_could_4 (by decide) (fun c4 => ?_) (fun c4 => ?_)
  · have hM := ite_t c4 hM
    refine lv_iconst (v := (-1)) hx hb dX11_could_14 (by decide) ?_
    exact x_iret C hV hM dX11_could_15
  have hM := ite_f c4 hM
  refine lv_iload_n hx hb dX11_could_7 rfl (lv_at hl 2 rfl) ?_
  refine x_ci hV (x_runS (As := [.int x2]) (rest := []) C hV ms_X11_isFar wl_X11_282 (c_X11_isFar hM) ⟨by decide, by decide⟩ rfl hl.1 (Nat.le_of_ble_eq_true rfl) dX11_could_8 ⟨Nat.zero_le _, Nat.zero_le _⟩) (fun r6 S5 H locs hV hM => ?_)
  have hz7 := hM.1
  have hM := hM.2
  refine lv_if_ne (tgt := 16) hx hb dX11_could_11 (by decide) (fun c8 => ?_) (fun c8 => ?_)
  · have hM := ite_f c8 hM
    refine lv_iconst (v := 0) hx hb dX11_could_16 (by decide) ?_
    refine lv_istore_n (lv' := [(3, .int 0), (0, .ref a0), (1, .int x1), (2, .int x2)]) hx hb dX11_could_17 rfl hl (by decide) rfl (fun ls hl => ?_)
    refine lv_iconst (v := 0) hx hb dX11_could_18 (by decide) ?_
    refine lv_istore (lv' := [(4, .int 0), (3, .int 0), (0, .ref a0), (1, .int x1), (2, .int x2)]) hx hb dX11_could_19 hl (by decide) rfl (fun ls hl => ?_)
    exact tq_X11_could_21 C N _ _ _ _ _ _ _ _ _ hM hV (lv_sub hl [2, 3, 4, 1, 0] rfl)
  have hM := ite_t c8 hM
  refine lv_iconst (v := (-1)) hx hb dX11_could_14 (by decide) ?_
  exact x_iret C hV hM dX11_could_15

def wq_X11_givesBy_143 (N : Nat) (K : Int32 → PS → Prop) (k_36 : PS → Nat → Int32 → Int32 → Int32 → Int32 → Int32 → Int32 → Prop) (S : PS) (a0 : Nat) (x1 : Int32) (x2 : Int32) (x3 : Int32) (x4 : Int32) (x6 : Int32) (t0 : Int32) (t1 : Int32) : Prop := ∀ v18 : Int32, v18 = (t0 + t1) → k_36 S a0 x1 x2 x3 x4 v18 (x6 + 1)
def wq_X11_givesBy_121 (N : Nat) (K : Int32 → PS → Prop) (k_36 : PS → Nat → Int32 → Int32 → Int32 → Int32 → Int32 → Int32 → Prop) (S : PS) (a0 : Nat) (x1 : Int32) (x2 : Int32) (x3 : Int32) (x4 : Int32) (x5 : Int32) (x6 : Int32) (x7 : Int32) (t0 : Int32) : Prop := if t0 = 0 then (wq_X11_givesBy_143 N K k_36 S a0 x1 x2 x3 x4 x6 x5 0) else (S.K a0 = 12 ∧ ∃ p20 : Nat, S.R 777 a0 = some p20 ∧ S.K p20 = 20 ∧ vp_in (x7 + 1) (S.ln p20) ∧ wq_X11_givesBy_143 N K k_36 S a0 x1 x2 x3 x4 x6 x5 (S.A p20 (x7 + 1).toNatClampNeg))
def wq_X11_givesBy_120 (N : Nat) (K : Int32 → PS → Prop) (k_36 : PS → Nat → Int32 → Int32 → Int32 → Int32 → Int32 → Int32 → Prop) (S : PS) (a0 : Nat) (x1 : Int32) (x2 : Int32) (x3 : Int32) (x4 : Int32) (x5 : Int32) (x6 : Int32) (x7 : Int32) : Prop := wq_X11_givesBy_121 N K k_36 S a0 x1 x2 x3 x4 x5 x6 x7 0
def wq_X11_givesBy_96 (N : Nat) (K : Int32 → PS → Prop) (k_36 : PS → Nat → Int32 → Int32 → Int32 → Int32 → Int32 → Int32 → Prop) (S : PS) (a0 : Nat) (x1 : Int32) (x2 : Int32) (x3 : Int32) (x4 : Int32) (x5 : Int32) (x6 : Int32) (x7 : Int32) (b0 : Nat) (t1 : Int32) : Prop := S.K b0 = 12 ∧ wp_X11_isOn N S b0 t1 x2 (fun r33 S32 => if r33 = 0 then (wq_X11_givesBy_120 N K k_36 S32 a0 x1 x2 x3 x4 x5 x6 x7) else (S32.K a0 = 12 ∧ ∃ p37 : Nat, S32.R 777 a0 = some p37 ∧ S32.K p37 = 20 ∧ vp_in (x7 + 2) (S32.ln p37) ∧ if x3 < (S32.A p37 (x7 + 2).toNatClampNeg) then (wq_X11_givesBy_120 N K k_36 S32 a0 x1 x2 x3 x4 x5 x6 x7) else (wq_X11_givesBy_121 N K k_36 S32 a0 x1 x2 x3 x4 x5 x6 x7 1)))
def wq_X11_givesBy_36 (N : Nat) (K : Int32 → PS → Prop) : Nat → PS → Nat → Int32 → Int32 → Int32 → Int32 → Int32 → Int32 → Prop
  | 0, _, _, _, _, _, _, _, _ => False
  | n + 1, S, a0, x1, x2, x3, x4, x5, x6 => if x4 ≤ x6 then (K x5 S) else (∀ v8 : Int32, v8 = (((16 * x1) + 2) + (3 * x6)) → S.K a0 = 12 ∧ ∃ p10 : Nat, S.R 777 a0 = some p10 ∧ S.K p10 = 20 ∧ vp_in v8 (S.ln p10) ∧ wp_X11_isPart N S a0 (S.A p10 v8.toNatClampNeg) (fun r14 S13 => if r14 = 0 then (wq_X11_givesBy_120 N K (fun S a0 x1 x2 x3 x4 x5 x6 => wq_X11_givesBy_36 N K n S a0 x1 x2 x3 x4 x5 x6) S13 a0 x1 x2 x3 x4 x5 x6 v8) else (S13.K a0 = 12 ∧ ∃ p24 : Nat, S13.R 777 a0 = some p24 ∧ S13.K p24 = 20 ∧ vp_in v8 (S13.ln p24) ∧ wp_X11_isPart N S13 a0 (S13.A p24 v8.toNatClampNeg) (fun r28 S27 => if r28 = 0 then (wq_X11_givesBy_96 N K (fun S a0 x1 x2 x3 x4 x5 x6 => wq_X11_givesBy_36 N K n S a0 x1 x2 x3 x4 x5 x6) S27 a0 x1 x2 x3 x4 x5 x6 v8 a0 0) else (S27.K a0 = 12 ∧ ∃ p42 : Nat, S27.R 777 a0 = some p42 ∧ S27.K p42 = 20 ∧ vp_in v8 (S27.ln p42) ∧ wq_X11_givesBy_96 N K (fun S a0 x1 x2 x3 x4 x5 x6 => wq_X11_givesBy_36 N K n S a0 x1 x2 x3 x4 x5 x6) S27 a0 x1 x2 x3 x4 x5 x6 v8 a0 (S27.A p42 v8.toNatClampNeg))))))
def wp_X11_givesBy (N : Nat) (S : PS) (a0 : Nat) (x1 : Int32) (x2 : Int32) (x3 : Int32) (K : Int32 → PS → Prop) : Prop := S.K a0 = 12 ∧ ∃ p2 : Nat, S.R 777 a0 = some p2 ∧ S.K p2 = 20 ∧ vp_in ((16 * x1) + 1) (S.ln p2) ∧ ∀ v5 : Int32, v5 = (S.A p2 ((16 * x1) + 1).toNatClampNeg) → if 0 ≤ v5 then (wq_X11_givesBy_36 N K N S a0 x1 x2 x3 v5 0 0) else (∃ p45 : Nat, S.R 777 a0 = some p45 ∧ S.K p45 = 20 ∧ vp_in ((16 * x1) + 2) (S.ln p45) ∧ K (S.A p45 ((16 * x1) + 2).toNatClampNeg) S)
set_option maxHeartbeats 4000000 in
set_option maxRecDepth 100000 in
theorem tq_X11_givesBy_143 {p : Program} {l : Launch} {e : Env} {s : State} {m : MethodId} {args : Array Value} {below : List Frame} {meth : Method} {c : Code} {D : DX} {cA : Nat → ClassId} {z0 N : Nat} {K : Int32 → PS → Prop} {k_36 : PS → Nat → Int32 → Int32 → Int32 → Int32 → Int32 → Int32 → Prop} (C : CX p s m args meth c cX11_givesBy 9 RX11 (some .int) D cA z0) (H_36 : ∀ (S : PS) (a0 : Nat) (x1 : Int32) (x2 : Int32) (x3 : Int32) (x4 : Int32) (x5 : Int32) (x6 : Int32) (H : Heap) (locs : List Loc) (ls : Array Slot), k_36 S a0 x1 x2 x3 x4 x5 x6 → XV D cA z0 s S H locs → lv_has ls 9 [(0, .ref a0), (1, .int x1), (2, .int x2), (3, .int x3), (4, .int x4), (5, .int x5), (6, .int x6)] → W p l e (rmd 2 0 0) s m args below meth c H locs 0 0 (MQ below (va_Qi K (XK D cA z0) (zA z0)) args s 0 0 (zA z0)) (F0 m 36 ls [])) : ∀ (S : PS) (a0 : Nat) (x1 : Int32) (x2 : Int32) (x3 : Int32) (x4 : Int32) (x6 : Int32) (t0 : Int32) (t1 : Int32) (H : Heap) (locs : List Loc) (ls : Array Slot), wq_X11_givesBy_143 N K k_36 S a0 x1 x2 x3 x4 x6 t0 t1 → XV D cA z0 s S H locs → lv_has ls 9 [(0, .ref a0), (1, .int x1), (2, .int x2), (3, .int x3), (4, .int x4), (6, .int x6)] → W p l e (rmd 2 0 0) s m args below meth c H locs 0 0 (MQ below (va_Qi K (XK D cA z0) (zA z0)) args s 0 0 (zA z0)) (F0 m 143 ls [.int t1, .int t0]) := by
  obtain ⟨hx, hb, hml, hown, hts, hK, hz, hlk, hr⟩ := id C
  intro S a0 x1 x2 x3 x4 x6 t0 t1 H locs ls hM hV hl
  unfold wq_X11_givesBy_143 at hM
  refine lv_iadd hx hb dX11_givesBy_143 ?_
  refine lv_topi (fun v18 ev18 => ?_)
  have hM := hM v18 ev18
  refine lv_istore (lv' := [(5, .int v18), (0, .ref a0), (1, .int x1), (2, .int x2), (3, .int x3), (4, .int x4), (6, .int x6)]) hx hb dX11_givesBy_144 hl (by decide) rfl (fun ls hl => ?_)
  refine lv_iinc (v := (x6 + 1)) (lv' := [(6, .int (x6 + 1)), (5, .int v18), (0, .ref a0), (1, .int x1), (2, .int x2), (3, .int x3), (4, .int x4)]) hx hb dX11_givesBy_146 hl (k := 6) rfl rfl (by decide) rfl (fun ls hl => ?_)
  refine lv_goto (tgt := 36) hx hb dX11_givesBy_149 (by decide) ?_
  exact H_36 _ _ _ _ _ _ _ _ _ _ _ hM hV (lv_sub hl [2, 3, 4, 5, 6, 1, 0] rfl)
set_option maxHeartbeats 4000000 in
set_option maxRecDepth 100000 in
theorem tq_X11_givesBy_121 {p : Program} {l : Launch} {e : Env} {s : State} {m : MethodId} {args : Array Value} {below : List Frame} {meth : Method} {c : Code} {D : DX} {cA : Nat → ClassId} {z0 N : Nat} {K : Int32 → PS → Prop} {k_36 : PS → Nat → Int32 → Int32 → Int32 → Int32 → Int32 → Int32 → Prop} (C : CX p s m args meth c cX11_givesBy 9 RX11 (some .int) D cA z0) (H_36 : ∀ (S : PS) (a0 : Nat) (x1 : Int32) (x2 : Int32) (x3 : Int32) (x4 : Int32) (x5 : Int32) (x6 : Int32) (H : Heap) (locs : List Loc) (ls : Array Slot), k_36 S a0 x1 x2 x3 x4 x5 x6 → XV D cA z0 s S H locs → lv_has ls 9 [(0, .ref a0), (1, .int x1), (2, .int x2), (3, .int x3), (4, .int x4), (5, .int x5), (6, .int x6)] → W p l e (rmd 2 0 0) s m args below meth c H locs 0 0 (MQ below (va_Qi K (XK D cA z0) (zA z0)) args s 0 0 (zA z0)) (F0 m 36 ls [])) : ∀ (S : PS) (a0 : Nat) (x1 : Int32) (x2 : Int32) (x3 : Int32) (x4 : Int32) (x5 : Int32) (x6 : Int32) (x7 : Int32) (t0 : Int32) (H : Heap) (locs : List Loc) (ls : Array Slot), wq_X11_givesBy_121 N K k_36 S a0 x1 x2 x3 x4 x5 x6 x7 t0 → XV D cA z0 s S H locs → lv_has ls 9 [(0, .ref a0), (1, .int x1), (2, .int x2), (3, .int x3), (4, .int x4), (5, .int x5), (6, .int x6), (7, .int x7)] → W p l e (rmd 2 0 0) s m args below meth c H locs 0 0 (MQ below (va_Qi K (XK D cA z0) (zA z0)) args s 0 0 (zA z0)) (F0 m 121 ls [.int t0]) := by
  obtain ⟨hx, hb, hml, hown, hts, hK, hz, hlk, hr⟩ := id C
  intro S a0 x1 x2 x3 x4 x5 x6 x7 t0 H locs ls hM hV hl
  unfold wq_X11_givesBy_121 at hM
  refine lv_istore (lv' := [(8, .int t0), (0, .ref a0), (1, .int x1), (2, .int x2), (3, .int x3), (4, .int x4), (5, .int x5), (6, .int x6), (7, .int x7)]) hx hb dX11_givesBy_121 hl (by decide) rfl (fun ls hl => ?_)
  refine lv_iload hx hb dX11_givesBy_123 (lv_at hl 6 rfl) ?_
  refine lv_iload hx hb dX11_givesBy_125 (lv_at hl 0 rfl) ?_
  refine lv_if_eq (tgt := 142) hx hb dX11_givesBy_127 (by decide) (fun c17 => ?_) (fun c17 => ?_)
  · have hM := ite_t c17 hM
    refine lv_iconst (v := 0) hx hb dX11_givesBy_142 (by decide) ?_
    exact tq_X11_givesBy_143 C H_36 _ _ _ _ _ _ _ _ _ _ _ _ hM hV (lv_sub hl [1, 2, 3, 4, 5, 7] rfl)
  have hM := ite_f c17 hM
  refine lv_aload_n hx hb dX11_givesBy_130 rfl (lv_at hl 1 rfl) ?_
  have hk19 := hM.1
  have hM := hM.2
  obtain ⟨p20, hp20, hM⟩ := hM
  refine x_getR C hV wf_X11_20 hk19 hp20 dX11_givesBy_131 ?_
  refine lv_iload hx hb dX11_givesBy_134 (lv_at hl 8 rfl) ?_
  refine lv_iconst (v := 1) hx hb dX11_givesBy_136 (by decide) ?_
  refine lv_iadd hx hb dX11_givesBy_137 ?_
  have hk21 := hM.1
  have hM := hM.2
  have hi22 := hM.1
  have hM := hM.2
  refine x_iald C hV hk21 hi22 dX11_givesBy_138 ?_
  refine lv_goto (tgt := 143) hx hb dX11_givesBy_139 (by decide) ?_
  exact tq_X11_givesBy_143 C H_36 _ _ _ _ _ _ _ _ _ _ _ _ hM hV (lv_sub hl [1, 2, 3, 4, 5, 7] rfl)
set_option maxHeartbeats 4000000 in
set_option maxRecDepth 100000 in
theorem tq_X11_givesBy_120 {p : Program} {l : Launch} {e : Env} {s : State} {m : MethodId} {args : Array Value} {below : List Frame} {meth : Method} {c : Code} {D : DX} {cA : Nat → ClassId} {z0 N : Nat} {K : Int32 → PS → Prop} {k_36 : PS → Nat → Int32 → Int32 → Int32 → Int32 → Int32 → Int32 → Prop} (C : CX p s m args meth c cX11_givesBy 9 RX11 (some .int) D cA z0) (H_36 : ∀ (S : PS) (a0 : Nat) (x1 : Int32) (x2 : Int32) (x3 : Int32) (x4 : Int32) (x5 : Int32) (x6 : Int32) (H : Heap) (locs : List Loc) (ls : Array Slot), k_36 S a0 x1 x2 x3 x4 x5 x6 → XV D cA z0 s S H locs → lv_has ls 9 [(0, .ref a0), (1, .int x1), (2, .int x2), (3, .int x3), (4, .int x4), (5, .int x5), (6, .int x6)] → W p l e (rmd 2 0 0) s m args below meth c H locs 0 0 (MQ below (va_Qi K (XK D cA z0) (zA z0)) args s 0 0 (zA z0)) (F0 m 36 ls [])) : ∀ (S : PS) (a0 : Nat) (x1 : Int32) (x2 : Int32) (x3 : Int32) (x4 : Int32) (x5 : Int32) (x6 : Int32) (x7 : Int32) (H : Heap) (locs : List Loc) (ls : Array Slot), wq_X11_givesBy_120 N K k_36 S a0 x1 x2 x3 x4 x5 x6 x7 → XV D cA z0 s S H locs → lv_has ls 9 [(0, .ref a0), (1, .int x1), (2, .int x2), (3, .int x3), (4, .int x4), (5, .int x5), (6, .int x6), (7, .int x7)] → W p l e (rmd 2 0 0) s m args below meth c H locs 0 0 (MQ below (va_Qi K (XK D cA z0) (zA z0)) args s 0 0 (zA z0)) (F0 m 120 ls []) := by
  obtain ⟨hx, hb, hml, hown, hts, hK, hz, hlk, hr⟩ := id C
  intro S a0 x1 x2 x3 x4 x5 x6 x7 H locs ls hM hV hl
  unfold wq_X11_givesBy_120 at hM
  refine lv_iconst (v := 0) hx hb dX11_givesBy_120 (by decide) ?_
  exact tq_X11_givesBy_121 C H_36 _ _ _ _ _ _ _ _ _ _ _ _ _ hM hV (lv_sub hl [0, 1, 2, 3, 4, 5, 6, 7] rfl)
set_option maxHeartbeats 4000000 in
set_option maxRecDepth 100000 in
theorem tq_X11_givesBy_96 {p : Program} {l : Launch} {e : Env} {s : State} {m : MethodId} {args : Array Value} {below : List Frame} {meth : Method} {c : Code} {D : DX} {cA : Nat → ClassId} {z0 N : Nat} {K : Int32 → PS → Prop} {k_36 : PS → Nat → Int32 → Int32 → Int32 → Int32 → Int32 → Int32 → Prop} (C : CX p s m args meth c cX11_givesBy 9 RX11 (some .int) D cA z0) (H_36 : ∀ (S : PS) (a0 : Nat) (x1 : Int32) (x2 : Int32) (x3 : Int32) (x4 : Int32) (x5 : Int32) (x6 : Int32) (H : Heap) (locs : List Loc) (ls : Array Slot), k_36 S a0 x1 x2 x3 x4 x5 x6 → XV D cA z0 s S H locs → lv_has ls 9 [(0, .ref a0), (1, .int x1), (2, .int x2), (3, .int x3), (4, .int x4), (5, .int x5), (6, .int x6)] → W p l e (rmd 2 0 0) s m args below meth c H locs 0 0 (MQ below (va_Qi K (XK D cA z0) (zA z0)) args s 0 0 (zA z0)) (F0 m 36 ls [])) : ∀ (S : PS) (a0 : Nat) (x1 : Int32) (x2 : Int32) (x3 : Int32) (x4 : Int32) (x5 : Int32) (x6 : Int32) (x7 : Int32) (b0 : Nat) (t1 : Int32) (H : Heap) (locs : List Loc) (ls : Array Slot), wq_X11_givesBy_96 N K k_36 S a0 x1 x2 x3 x4 x5 x6 x7 b0 t1 → XV D cA z0 s S H locs → lv_has ls 9 [(0, .ref a0), (1, .int x1), (2, .int x2), (3, .int x3), (4, .int x4), (5, .int x5), (6, .int x6), (7, .int x7)] → W p l e (rmd 2 0 0) s m args below meth c H locs 0 0 (MQ below (va_Qi K (XK D cA z0) (zA z0)) args s 0 0 (zA z0)) (F0 m 96 ls [.int t1, .ref b0]) := by
  obtain ⟨hx, hb, hml, hown, hts, hK, hz, hlk, hr⟩ := id C
  intro S a0 x1 x2 x3 x4 x5 x6 x7 b0 t1 H locs ls hM hV hl
  unfold wq_X11_givesBy_96 at hM
  refine lv_iload_n hx hb dX11_givesBy_96 rfl (lv_at hl 2 rfl) ?_
  have hk31 := hM.1
  have hM := hM.2
  refine x_ci hV (x_runV (As := [.int t1, .int x2]) (rest := []) C hV mi_X11_isOn wl_X11_123 hk31 (c_X11_isOn hM) ⟨by decide, by decide⟩ rfl hl.1 (Nat.le_of_ble_eq_true rfl) dX11_givesBy_97 ⟨Nat.zero_le _, Nat.zero_le _⟩) (fun r33 S32 H locs hV hM => ?_)
  have hz34 := hM.1
  have hM := hM.2
  refine lv_if_eq (tgt := 120) hx hb dX11_givesBy_100 (by decide) (fun c35 => ?_) (fun c35 => ?_)
  · have hM := ite_t c35 hM
    exact tq_X11_givesBy_120 C H_36 _ _ _ _ _ _ _ _ _ _ _ _ hM hV (lv_sub hl [0, 1, 2, 3, 4, 5, 6, 7] rfl)
  have hM := ite_f c35 hM
  refine lv_aload_n hx hb dX11_givesBy_103 rfl (lv_at hl 0 rfl) ?_
  have hk36 := hM.1
  have hM := hM.2
  obtain ⟨p37, hp37, hM⟩ := hM
  refine x_getR C hV wf_X11_20 hk36 hp37 dX11_givesBy_104 ?_
  refine lv_iload hx hb dX11_givesBy_107 (lv_at hl 7 rfl) ?_
  refine lv_iconst (v := 2) hx hb dX11_givesBy_109 (by decide) ?_
  refine lv_iadd hx hb dX11_givesBy_110 ?_
  have hk38 := hM.1
  have hM := hM.2
  have hi39 := hM.1
  have hM := hM.2
  refine x_iald C hV hk38 hi39 dX11_givesBy_111 ?_
  refine lv_iload_n hx hb dX11_givesBy_112 rfl (lv_at hl 3 rfl) ?_
  refine lv_icmp_gt (tgt := 120) hx hb dX11_givesBy_113 (by decide) (fun c40 => ?_) (fun c40 => ?_)
  · have hM := ite_t c40 hM
    exact tq_X11_givesBy_120 C H_36 _ _ _ _ _ _ _ _ _ _ _ _ hM hV (lv_sub hl [0, 1, 2, 3, 4, 5, 6, 7] rfl)
  have hM := ite_f c40 hM
  refine lv_iconst (v := 1) hx hb dX11_givesBy_116 (by decide) ?_
  refine lv_goto (tgt := 121) hx hb dX11_givesBy_117 (by decide) ?_
  exact tq_X11_givesBy_121 C H_36 _ _ _ _ _ _ _ _ _ _ _ _ _ hM hV (lv_sub hl [0, 1, 2, 3, 4, 5, 6, 7] rfl)
set_option maxHeartbeats 4000000 in
set_option maxRecDepth 100000 in
theorem tq_X11_givesBy_36 {p : Program} {l : Launch} {e : Env} {s : State} {m : MethodId} {args : Array Value} {below : List Frame} {meth : Method} {c : Code} {D : DX} {cA : Nat → ClassId} {z0 N : Nat} {K : Int32 → PS → Prop} (C : CX p s m args meth c cX11_givesBy 9 RX11 (some .int) D cA z0) : ∀ (n : Nat) (S : PS) (a0 : Nat) (x1 : Int32) (x2 : Int32) (x3 : Int32) (x4 : Int32) (x5 : Int32) (x6 : Int32) (H : Heap) (locs : List Loc) (ls : Array Slot), wq_X11_givesBy_36 N K n S a0 x1 x2 x3 x4 x5 x6 → XV D cA z0 s S H locs → lv_has ls 9 [(0, .ref a0), (1, .int x1), (2, .int x2), (3, .int x3), (4, .int x4), (5, .int x5), (6, .int x6)] → W p l e (rmd 2 0 0) s m args below meth c H locs 0 0 (MQ below (va_Qi K (XK D cA z0) (zA z0)) args s 0 0 (zA z0)) (F0 m 36 ls []) := by
  obtain ⟨hx, hb, hml, hown, hts, hK, hz, hlk, hr⟩ := id C
  intro n
  induction n with
  | zero => intro S a0 x1 x2 x3 x4 x5 x6 H locs ls hM; exact absurd hM id
  | succ n ih =>
    intro S a0 x1 x2 x3 x4 x5 x6 H locs ls hM hV hl
    rw [wq_X11_givesBy_36.eq_2] at hM
    refine lv_iload hx hb dX11_givesBy_36 (lv_at hl 6 rfl) ?_
    refine lv_iload hx hb dX11_givesBy_38 (lv_at hl 4 rfl) ?_
    refine lv_icmp_ge (tgt := 152) hx hb dX11_givesBy_40 (by decide) (fun c7 => ?_) (fun c7 => ?_)
    · have hM := ite_t c7 hM
      refine lv_iload hx hb dX11_givesBy_152 (lv_at hl 5 rfl) ?_
      exact x_iret C hV hM dX11_givesBy_154
    have hM := ite_f c7 hM
    refine lv_bipush (v := 16) hx hb dX11_givesBy_43 (by decide) ?_
    refine lv_iload_n hx hb dX11_givesBy_45 rfl (lv_at hl 1 rfl) ?_
    refine lv_imul hx hb dX11_givesBy_46 ?_
    refine lv_iconst (v := 2) hx hb dX11_givesBy_47 (by decide) ?_
    refine lv_iadd hx hb dX11_givesBy_48 ?_
    refine lv_iconst (v := 3) hx hb dX11_givesBy_49 (by decide) ?_
    refine lv_iload hx hb dX11_givesBy_50 (lv_at hl 6 rfl) ?_
    refine lv_imul hx hb dX11_givesBy_52 ?_
    refine lv_iadd hx hb dX11_givesBy_53 ?_
    refine lv_topi (fun v8 ev8 => ?_)
    have hM := hM v8 ev8
    refine lv_istore (lv' := [(7, .int v8), (0, .ref a0), (1, .int x1), (2, .int x2), (3, .int x3), (4, .int x4), (5, .int x5), (6, .int x6)]) hx hb dX11_givesBy_54 hl (by decide) rfl (fun ls hl => ?_)
    refine lv_aload_n hx hb dX11_givesBy_56 rfl (lv_at hl 1 rfl) ?_
    refine lv_aload_n hx hb dX11_givesBy_57 rfl (lv_at hl 1 rfl) ?_
    have hk9 := hM.1
    have hM := hM.2
    obtain ⟨p10, hp10, hM⟩ := hM
    refine x_getR C hV wf_X11_20 hk9 hp10 dX11_givesBy_58 ?_
    refine lv_iload hx hb dX11_givesBy_61 (lv_at hl 0 rfl) ?_
    have hk11 := hM.1
    have hM := hM.2
    have hi12 := hM.1
    have hM := hM.2
    refine x_iald C hV hk11 hi12 dX11_givesBy_63 ?_
    refine x_ci hV (x_runV (As := [.int (S.A p10 v8.toNatClampNeg)]) (rest := []) C hV mi_X11_isPart wl_X11_98 hk9 (c_X11_isPart hM) ⟨by decide, by decide⟩ rfl hl.1 (Nat.le_of_ble_eq_true rfl) dX11_givesBy_64 ⟨Nat.zero_le _, Nat.zero_le _⟩) (fun r14 S13 H locs hV hM => ?_)
    have hz15 := hM.1
    have hM := hM.2
    refine lv_if_eq (tgt := 120) hx hb dX11_givesBy_67 (by decide) (fun c16 => ?_) (fun c16 => ?_)
    · have hM := ite_t c16 hM
      exact tq_X11_givesBy_120 C ih _ _ _ _ _ _ _ _ _ _ _ _ hM hV (lv_sub hl [1, 2, 3, 4, 5, 6, 7, 0] rfl)
    have hM := ite_f c16 hM
    refine lv_aload_n hx hb dX11_givesBy_70 rfl (lv_at hl 1 rfl) ?_
    refine lv_aload_n hx hb dX11_givesBy_71 rfl (lv_at hl 1 rfl) ?_
    refine lv_aload_n hx hb dX11_givesBy_72 rfl (lv_at hl 1 rfl) ?_
    have hk23 := hM.1
    have hM := hM.2
    obtain ⟨p24, hp24, hM⟩ := hM
    refine x_getR C hV wf_X11_20 hk23 hp24 dX11_givesBy_73 ?_
    refine lv_iload hx hb dX11_givesBy_76 (lv_at hl 0 rfl) ?_
    have hk25 := hM.1
    have hM := hM.2
    have hi26 := hM.1
    have hM := hM.2
    refine x_iald C hV hk25 hi26 dX11_givesBy_78 ?_
    refine x_ci hV (x_runV (As := [.int (S13.A p24 v8.toNatClampNeg)]) (rest := [.ref a0]) C hV mi_X11_isPart wl_X11_98 hk23 (c_X11_isPart hM) ⟨by decide, by decide⟩ rfl hl.1 (Nat.le_of_ble_eq_true rfl) dX11_givesBy_79 ⟨Nat.zero_le _, Nat.zero_le _⟩) (fun r28 S27 H locs hV hM => ?_)
    have hz29 := hM.1
    have hM := hM.2
    refine lv_if_eq (tgt := 95) hx hb dX11_givesBy_82 (by decide) (fun c30 => ?_) (fun c30 => ?_)
    · have hM := ite_t c30 hM
      refine lv_iconst (v := 0) hx hb dX11_givesBy_95 (by decide) ?_
      exact tq_X11_givesBy_96 C ih _ _ _ _ _ _ _ _ _ _ _ _ _ _ hM hV (lv_sub hl [1, 2, 3, 4, 5, 6, 7, 0] rfl)
    have hM := ite_f c30 hM
    refine lv_aload_n hx hb dX11_givesBy_85 rfl (lv_at hl 1 rfl) ?_
    have hk41 := hM.1
    have hM := hM.2
    obtain ⟨p42, hp42, hM⟩ := hM
    refine x_getR C hV wf_X11_20 hk41 hp42 dX11_givesBy_86 ?_
    refine lv_iload hx hb dX11_givesBy_89 (lv_at hl 0 rfl) ?_
    have hk43 := hM.1
    have hM := hM.2
    have hi44 := hM.1
    have hM := hM.2
    refine x_iald C hV hk43 hi44 dX11_givesBy_91 ?_
    refine lv_goto (tgt := 96) hx hb dX11_givesBy_92 (by decide) ?_
    exact tq_X11_givesBy_96 C ih _ _ _ _ _ _ _ _ _ _ _ _ _ _ hM hV (lv_sub hl [1, 2, 3, 4, 5, 6, 7, 0] rfl)
set_option maxHeartbeats 4000000 in
set_option maxRecDepth 100000 in
theorem c_X11_givesBy {l : Launch} {D : DX} {cA : Nat → ClassId} {z0 N : Nat} {S : PS} {a0 : Nat} {x1 : Int32} {x2 : Int32} {x3 : Int32} {K : Int32 → PS → Prop} (hM : wp_X11_givesBy N S a0 x1 x2 x3 K) : MetI l yX11_givesBy cX11_givesBy 9 (some .int) 2 0 0 D cA z0 [.ref a0, .int x1, .int x2, .int x3] S K := by
  refine x_met RX11 (by decide) rfl ?_
  intro p e s m below meth c C hin hV
  have hl := lv_entry ([.ref a0, .int x1, .int x2, .int x3]) (n := 9) (Nat.le_of_ble_eq_true rfl)
  rw [lg_entry_eq]
  generalize (lg_sl ([.ref a0, .int x1, .int x2, .int x3]) ++ List.replicate (9 - (lg_sl ([.ref a0, .int x1, .int x2, .int x3])).length) Slot.unset).toArray = ls at hl ⊢
  have hl : lv_has ls 9 [(0, .ref a0), (1, .int x1), (2, .int x2), (3, .int x3)] := hl
  obtain ⟨hx, hb, hml, hown, hts, hK, hz, hlk, hr⟩ := id C
  unfold wp_X11_givesBy at hM
  refine lv_aload_n hx hb dX11_givesBy_0 rfl (lv_at hl 0 rfl) ?_
  have hk1 := hM.1
  have hM := hM.2
  obtain ⟨p2, hp2, hM⟩ := hM
  refine x_getR C hV wf_X11_20 hk1 hp2 dX11_givesBy_1 ?_
  refine lv_bipush (v := 16) hx hb dX11_givesBy_4 (by decide) ?_
  refine lv_iload_n hx hb dX11_givesBy_6 rfl (lv_at hl 1 rfl) ?_
  refine lv_imul hx hb dX11_givesBy_7 ?_
  refine lv_iconst (v := 1) hx hb dX11_givesBy_8 (by decide) ?_
  refine lv_iadd hx hb dX11_givesBy_9 ?_
  have hk3 := hM.1
  have hM := hM.2
  have hi4 := hM.1
  have hM := hM.2
  refine x_iald C hV hk3 hi4 dX11_givesBy_10 ?_
  refine lv_topi (fun v5 ev5 => ?_)
  have hM := hM v5 ev5
  refine lv_istore (lv' := [(4, .int v5), (0, .ref a0), (1, .int x1), (2, .int x2), (3, .int x3)]) hx hb dX11_givesBy_11 hl (by decide) rfl (fun ls hl => ?_)
  refine lv_iload hx hb dX11_givesBy_13 (lv_at hl 0 rfl) ?_
  refine lv_if_ge (tgt := 30) hx hb dX11_givesBy_15 (by decide) (fun c6 => ?_) (fun c6 => ?_)
  · have hM := ite_t c6 hM
    refine lv_iconst (v := 0) hx hb dX11_givesBy_30 (by decide) ?_
    refine lv_istore (lv' := [(5, .int 0), (4, .int v5), (0, .ref a0), (1, .int x1), (2, .int x2), (3, .int x3)]) hx hb dX11_givesBy_31 hl (by decide) rfl (fun ls hl => ?_)
    refine lv_iconst (v := 0) hx hb dX11_givesBy_33 (by decide) ?_
    refine lv_istore (lv' := [(6, .int 0), (5, .int 0), (4, .int v5), (0, .ref a0), (1, .int x1), (2, .int x2), (3, .int x3)]) hx hb dX11_givesBy_34 hl (by decide) rfl (fun ls hl => ?_)
    exact tq_X11_givesBy_36 C N _ _ _ _ _ _ _ _ _ _ _ hM hV (lv_sub hl [3, 4, 5, 6, 2, 1, 0] rfl)
  have hM := ite_f c6 hM
  refine lv_aload_n hx hb dX11_givesBy_18 rfl (lv_at hl 1 rfl) ?_
  obtain ⟨p45, hp45, hM⟩ := hM
  refine x_getR C hV wf_X11_20 hk1 hp45 dX11_givesBy_19 ?_
  refine lv_bipush (v := 16) hx hb dX11_givesBy_22 (by decide) ?_
  refine lv_iload_n hx hb dX11_givesBy_24 rfl (lv_at hl 2 rfl) ?_
  refine lv_imul hx hb dX11_givesBy_25 ?_
  refine lv_iconst (v := 2) hx hb dX11_givesBy_26 (by decide) ?_
  refine lv_iadd hx hb dX11_givesBy_27 ?_
  have hk46 := hM.1
  have hM := hM.2
  have hi47 := hM.1
  have hM := hM.2
  refine x_iald C hV hk46 hi47 dX11_givesBy_28 ?_
  exact x_iret C hV hM dX11_givesBy_29

def wp_X11_far (N : Nat) (S : PS) (a0 : Nat) (x1 : Int32) (x2 : Int32) (K : Int32 → PS → Prop) : Prop := S.K a0 = 12 ∧ ∃ p2 : Nat, S.R 775 a0 = some p2 ∧ S.K p2 = 20 ∧ vp_in ((3 * x2) + 2) (S.ln p2) ∧ ∃ p5 : Nat, S.R 775 a0 = some p5 ∧ S.K p5 = 20 ∧ vp_in ((3 * x2) + 1) (S.ln p5) ∧ ∃ p8 : Nat, S.R 775 a0 = some p8 ∧ S.K p8 = 20 ∧ vp_in (3 * x2) (S.ln p8) ∧ wp_X11_givesBy N S a0 x1 (S.A p5 ((3 * x2) + 1).toNatClampNeg) (S.A p8 (3 * x2).toNatClampNeg) (fun r12 S11 => wp_X11_size N S11 ((S.A p2 ((3 * x2) + 2).toNatClampNeg) - r12) (fun r14 S13 => K r14 S13))
set_option maxHeartbeats 4000000 in
set_option maxRecDepth 100000 in
theorem c_X11_far {l : Launch} {D : DX} {cA : Nat → ClassId} {z0 N : Nat} {S : PS} {a0 : Nat} {x1 : Int32} {x2 : Int32} {K : Int32 → PS → Prop} (hM : wp_X11_far N S a0 x1 x2 K) : MetI l yX11_far cX11_far 3 (some .int) 3 0 0 D cA z0 [.ref a0, .int x1, .int x2] S K := by
  refine x_met RX11 (by decide) rfl ?_
  intro p e s m below meth c C hin hV
  have hl := lv_entry ([.ref a0, .int x1, .int x2]) (n := 3) (Nat.le_of_ble_eq_true rfl)
  rw [lg_entry_eq]
  generalize (lg_sl ([.ref a0, .int x1, .int x2]) ++ List.replicate (3 - (lg_sl ([.ref a0, .int x1, .int x2])).length) Slot.unset).toArray = ls at hl ⊢
  have hl : lv_has ls 3 [(0, .ref a0), (1, .int x1), (2, .int x2)] := hl
  obtain ⟨hx, hb, hml, hown, hts, hK, hz, hlk, hr⟩ := id C
  unfold wp_X11_far at hM
  refine lv_aload_n hx hb dX11_far_0 rfl (lv_at hl 0 rfl) ?_
  have hk1 := hM.1
  have hM := hM.2
  obtain ⟨p2, hp2, hM⟩ := hM
  refine x_getR C hV wf_X11_17 hk1 hp2 dX11_far_1 ?_
  refine lv_iconst (v := 3) hx hb dX11_far_4 (by decide) ?_
  refine lv_iload_n hx hb dX11_far_5 rfl (lv_at hl 2 rfl) ?_
  refine lv_imul hx hb dX11_far_6 ?_
  refine lv_iconst (v := 2) hx hb dX11_far_7 (by decide) ?_
  refine lv_iadd hx hb dX11_far_8 ?_
  have hk3 := hM.1
  have hM := hM.2
  have hi4 := hM.1
  have hM := hM.2
  refine x_iald C hV hk3 hi4 dX11_far_9 ?_
  refine lv_aload_n hx hb dX11_far_10 rfl (lv_at hl 0 rfl) ?_
  refine lv_iload_n hx hb dX11_far_11 rfl (lv_at hl 1 rfl) ?_
  refine lv_aload_n hx hb dX11_far_12 rfl (lv_at hl 0 rfl) ?_
  obtain ⟨p5, hp5, hM⟩ := hM
  refine x_getR C hV wf_X11_17 hk1 hp5 dX11_far_13 ?_
  refine lv_iconst (v := 3) hx hb dX11_far_16 (by decide) ?_
  refine lv_iload_n hx hb dX11_far_17 rfl (lv_at hl 2 rfl) ?_
  refine lv_imul hx hb dX11_far_18 ?_
  refine lv_iconst (v := 1) hx hb dX11_far_19 (by decide) ?_
  refine lv_iadd hx hb dX11_far_20 ?_
  have hk6 := hM.1
  have hM := hM.2
  have hi7 := hM.1
  have hM := hM.2
  refine x_iald C hV hk6 hi7 dX11_far_21 ?_
  refine lv_aload_n hx hb dX11_far_22 rfl (lv_at hl 0 rfl) ?_
  obtain ⟨p8, hp8, hM⟩ := hM
  refine x_getR C hV wf_X11_17 hk1 hp8 dX11_far_23 ?_
  refine lv_iconst (v := 3) hx hb dX11_far_26 (by decide) ?_
  refine lv_iload_n hx hb dX11_far_27 rfl (lv_at hl 2 rfl) ?_
  refine lv_imul hx hb dX11_far_28 ?_
  have hk9 := hM.1
  have hM := hM.2
  have hi10 := hM.1
  have hM := hM.2
  refine x_iald C hV hk9 hi10 dX11_far_29 ?_
  refine x_ci hV (x_runV (As := [.int x1, .int (S.A p5 ((3 * x2) + 1).toNatClampNeg), .int (S.A p8 (3 * x2).toNatClampNeg)]) (rest := [.int (S.A p2 ((3 * x2) + 2).toNatClampNeg)]) C hV mi_X11_givesBy wl_X11_223 hk1 (c_X11_givesBy hM) ⟨by decide, by decide⟩ rfl hl.1 (Nat.le_of_ble_eq_true rfl) dX11_far_30 ⟨Nat.zero_le _, Nat.zero_le _⟩) (fun r12 S11 H locs hV hM => ?_)
  refine lv_isub hx hb dX11_far_33 ?_
  refine x_ci hV (x_runS (As := [.int ((S.A p2 ((3 * x2) + 2).toNatClampNeg) - r12)]) (rest := []) C hV ms_X11_size wl_X11_229 (c_X11_size hM) ⟨by decide, by decide⟩ rfl hl.1 (Nat.le_of_ble_eq_true rfl) dX11_far_34 ⟨Nat.zero_le _, Nat.zero_le _⟩) (fun r14 S13 H locs hV hM => ?_)
  exact x_iret C hV hM dX11_far_37

def wq_X11_missOf_4 (N : Nat) (K : Int32 → PS → Prop) : Nat → PS → Nat → Int32 → Int32 → Int32 → Prop
  | 0, _, _, _, _, _ => False
  | n + 1, S, a0, x1, x2, x3 => S.K a0 = 12 ∧ if (S.I 774 a0) ≤ x3 then (K x2 S) else (wp_X11_far N S a0 x1 x3 (fun r4 S3 => ∀ v5 : Int32, v5 = (x2 + r4) → wq_X11_missOf_4 N K n S3 a0 x1 v5 (x3 + 1)))
def wp_X11_missOf (N : Nat) (S : PS) (a0 : Nat) (x1 : Int32) (K : Int32 → PS → Prop) : Prop := wq_X11_missOf_4 N K N S a0 x1 0 0
set_option maxHeartbeats 4000000 in
set_option maxRecDepth 100000 in
theorem tq_X11_missOf_4 {p : Program} {l : Launch} {e : Env} {s : State} {m : MethodId} {args : Array Value} {below : List Frame} {meth : Method} {c : Code} {D : DX} {cA : Nat → ClassId} {z0 N : Nat} {K : Int32 → PS → Prop} (C : CX p s m args meth c cX11_missOf 4 RX11 (some .int) D cA z0) : ∀ (n : Nat) (S : PS) (a0 : Nat) (x1 : Int32) (x2 : Int32) (x3 : Int32) (H : Heap) (locs : List Loc) (ls : Array Slot), wq_X11_missOf_4 N K n S a0 x1 x2 x3 → XV D cA z0 s S H locs → lv_has ls 4 [(0, .ref a0), (1, .int x1), (2, .int x2), (3, .int x3)] → W p l e (rmd 4 0 0) s m args below meth c H locs 0 0 (MQ below (va_Qi K (XK D cA z0) (zA z0)) args s 0 0 (zA z0)) (F0 m 4 ls []) := by
  obtain ⟨hx, hb, hml, hown, hts, hK, hz, hlk, hr⟩ := id C
  intro n
  induction n with
  | zero => intro S a0 x1 x2 x3 H locs ls hM; exact absurd hM id
  | succ n ih =>
    intro S a0 x1 x2 x3 H locs ls hM hV hl
    rw [wq_X11_missOf_4.eq_2] at hM
    refine lv_iload_n hx hb dX11_missOf_4 rfl (lv_at hl 3 rfl) ?_
    refine lv_aload_n hx hb dX11_missOf_5 rfl (lv_at hl 0 rfl) ?_
    have hk1 := hM.1
    have hM := hM.2
    refine x_getI C hV wf_X11_116 hk1 dX11_missOf_6 ?_
    refine lv_icmp_ge (tgt := 27) hx hb dX11_missOf_9 (by decide) (fun c2 => ?_) (fun c2 => ?_)
    · have hM := ite_t c2 hM
      refine lv_iload_n hx hb dX11_missOf_27 rfl (lv_at hl 2 rfl) ?_
      exact x_iret C hV hM dX11_missOf_28
    have hM := ite_f c2 hM
    refine lv_iload_n hx hb dX11_missOf_12 rfl (lv_at hl 2 rfl) ?_
    refine lv_aload_n hx hb dX11_missOf_13 rfl (lv_at hl 0 rfl) ?_
    refine lv_iload_n hx hb dX11_missOf_14 rfl (lv_at hl 1 rfl) ?_
    refine lv_iload_n hx hb dX11_missOf_15 rfl (lv_at hl 3 rfl) ?_
    refine x_ci hV (x_runV (As := [.int x1, .int x3]) (rest := [.int x2]) C hV mi_X11_far wl_X11_232 hk1 (c_X11_far hM) ⟨by decide, by decide⟩ rfl hl.1 (Nat.le_of_ble_eq_true rfl) dX11_missOf_16 ⟨Nat.zero_le _, Nat.zero_le _⟩) (fun r4 S3 H locs hV hM => ?_)
    refine lv_iadd hx hb dX11_missOf_19 ?_
    refine lv_topi (fun v5 ev5 => ?_)
    have hM := hM v5 ev5
    refine lv_istore_n (lv' := [(2, .int v5), (0, .ref a0), (1, .int x1), (3, .int x3)]) hx hb dX11_missOf_20 rfl hl (by decide) rfl (fun ls hl => ?_)
    refine lv_iinc (v := (x3 + 1)) (lv' := [(3, .int (x3 + 1)), (2, .int v5), (0, .ref a0), (1, .int x1)]) hx hb dX11_missOf_21 hl (k := 3) rfl rfl (by decide) rfl (fun ls hl => ?_)
    refine lv_goto (tgt := 4) hx hb dX11_missOf_24 (by decide) ?_
    exact ih _ _ _ _ _ _ _ _ hM hV (lv_sub hl [2, 3, 1, 0] rfl)
set_option maxHeartbeats 4000000 in
set_option maxRecDepth 100000 in
theorem c_X11_missOf {l : Launch} {D : DX} {cA : Nat → ClassId} {z0 N : Nat} {S : PS} {a0 : Nat} {x1 : Int32} {K : Int32 → PS → Prop} (hM : wp_X11_missOf N S a0 x1 K) : MetI l yX11_missOf cX11_missOf 4 (some .int) 4 0 0 D cA z0 [.ref a0, .int x1] S K := by
  refine x_met RX11 (by decide) rfl ?_
  intro p e s m below meth c C hin hV
  have hl := lv_entry ([.ref a0, .int x1]) (n := 4) (Nat.le_of_ble_eq_true rfl)
  rw [lg_entry_eq]
  generalize (lg_sl ([.ref a0, .int x1]) ++ List.replicate (4 - (lg_sl ([.ref a0, .int x1])).length) Slot.unset).toArray = ls at hl ⊢
  have hl : lv_has ls 4 [(0, .ref a0), (1, .int x1)] := hl
  obtain ⟨hx, hb, hml, hown, hts, hK, hz, hlk, hr⟩ := id C
  unfold wp_X11_missOf at hM
  refine lv_iconst (v := 0) hx hb dX11_missOf_0 (by decide) ?_
  refine lv_istore_n (lv' := [(2, .int 0), (0, .ref a0), (1, .int x1)]) hx hb dX11_missOf_1 rfl hl (by decide) rfl (fun ls hl => ?_)
  refine lv_iconst (v := 0) hx hb dX11_missOf_2 (by decide) ?_
  refine lv_istore_n (lv' := [(3, .int 0), (2, .int 0), (0, .ref a0), (1, .int x1)]) hx hb dX11_missOf_3 rfl hl (by decide) rfl (fun ls hl => ?_)
  exact tq_X11_missOf_4 C N _ _ _ _ _ _ _ _ hM hV (lv_sub hl [2, 3, 1, 0] rfl)

def wq_X11_likelyOne_32 (N : Nat) (K : Int32 → PS → Prop) (k_7 : PS → Nat → Int32 → Int32 → Int32 → Prop) (S : PS) (a0 : Nat) (x3 : Int32) (x4 : Int32) : Prop := k_7 S a0 x3 x4 (x3 + 1)
def wq_X11_likelyOne_7 (N : Nat) (K : Int32 → PS → Prop) : Nat → PS → Nat → Int32 → Int32 → Int32 → Prop
  | 0, _, _, _, _, _ => False
  | n + 1, S, a0, x1, x2, x3 => S.K a0 = 12 ∧ if (S.I 776 a0) ≤ x3 then (K x1 S) else (wp_X11_missOf N S a0 x3 (fun r4 S3 => if x1 < 0 then (wq_X11_likelyOne_32 N K (fun S a0 x1 x2 x3 => wq_X11_likelyOne_7 N K n S a0 x1 x2 x3) S3 a0 x3 r4) else (if x2 ≤ r4 then (wq_X11_likelyOne_7 N K n S3 a0 x1 x2 (x3 + 1)) else (wq_X11_likelyOne_32 N K (fun S a0 x1 x2 x3 => wq_X11_likelyOne_7 N K n S a0 x1 x2 x3) S3 a0 x3 r4))))
def wp_X11_likelyOne (N : Nat) (S : PS) (a0 : Nat) (K : Int32 → PS → Prop) : Prop := wq_X11_likelyOne_7 N K N S a0 (-3) 0 0
set_option maxHeartbeats 4000000 in
set_option maxRecDepth 100000 in
theorem tq_X11_likelyOne_32 {p : Program} {l : Launch} {e : Env} {s : State} {m : MethodId} {args : Array Value} {below : List Frame} {meth : Method} {c : Code} {D : DX} {cA : Nat → ClassId} {z0 N : Nat} {K : Int32 → PS → Prop} {k_7 : PS → Nat → Int32 → Int32 → Int32 → Prop} (C : CX p s m args meth c cX11_likelyOne 5 RX11 (some .int) D cA z0) (H_7 : ∀ (S : PS) (a0 : Nat) (x1 : Int32) (x2 : Int32) (x3 : Int32) (H : Heap) (locs : List Loc) (ls : Array Slot), k_7 S a0 x1 x2 x3 → XV D cA z0 s S H locs → lv_has ls 5 [(0, .ref a0), (1, .int x1), (2, .int x2), (3, .int x3)] → W p l e (rmd 5 0 0) s m args below meth c H locs 0 0 (MQ below (va_Qi K (XK D cA z0) (zA z0)) args s 0 0 (zA z0)) (F0 m 7 ls [])) : ∀ (S : PS) (a0 : Nat) (x3 : Int32) (x4 : Int32) (H : Heap) (locs : List Loc) (ls : Array Slot), wq_X11_likelyOne_32 N K k_7 S a0 x3 x4 → XV D cA z0 s S H locs → lv_has ls 5 [(0, .ref a0), (3, .int x3), (4, .int x4)] → W p l e (rmd 5 0 0) s m args below meth c H locs 0 0 (MQ below (va_Qi K (XK D cA z0) (zA z0)) args s 0 0 (zA z0)) (F0 m 32 ls []) := by
  obtain ⟨hx, hb, hml, hown, hts, hK, hz, hlk, hr⟩ := id C
  intro S a0 x3 x4 H locs ls hM hV hl
  unfold wq_X11_likelyOne_32 at hM
  refine lv_iload hx hb dX11_likelyOne_32 (lv_at hl 2 rfl) ?_
  refine lv_istore_n (lv' := [(2, .int x4), (0, .ref a0), (3, .int x3), (4, .int x4)]) hx hb dX11_likelyOne_34 rfl hl (by decide) rfl (fun ls hl => ?_)
  refine lv_iload_n hx hb dX11_likelyOne_35 rfl (lv_at hl 2 rfl) ?_
  refine lv_istore_n (lv' := [(1, .int x3), (2, .int x4), (0, .ref a0), (3, .int x3), (4, .int x4)]) hx hb dX11_likelyOne_36 rfl hl (by decide) rfl (fun ls hl => ?_)
  refine lv_iinc (v := (x3 + 1)) (lv' := [(3, .int (x3 + 1)), (1, .int x3), (2, .int x4), (0, .ref a0), (4, .int x4)]) hx hb dX11_likelyOne_37 hl (k := 3) rfl rfl (by decide) rfl (fun ls hl => ?_)
  refine lv_goto (tgt := 7) hx hb dX11_likelyOne_40 (by decide) ?_
  exact H_7 _ _ _ _ _ _ _ _ hM hV (lv_sub hl [3, 1, 2, 0] rfl)
set_option maxHeartbeats 4000000 in
set_option maxRecDepth 100000 in
theorem tq_X11_likelyOne_7 {p : Program} {l : Launch} {e : Env} {s : State} {m : MethodId} {args : Array Value} {below : List Frame} {meth : Method} {c : Code} {D : DX} {cA : Nat → ClassId} {z0 N : Nat} {K : Int32 → PS → Prop} (C : CX p s m args meth c cX11_likelyOne 5 RX11 (some .int) D cA z0) : ∀ (n : Nat) (S : PS) (a0 : Nat) (x1 : Int32) (x2 : Int32) (x3 : Int32) (H : Heap) (locs : List Loc) (ls : Array Slot), wq_X11_likelyOne_7 N K n S a0 x1 x2 x3 → XV D cA z0 s S H locs → lv_has ls 5 [(0, .ref a0), (1, .int x1), (2, .int x2), (3, .int x3)] → W p l e (rmd 5 0 0) s m args below meth c H locs 0 0 (MQ below (va_Qi K (XK D cA z0) (zA z0)) args s 0 0 (zA z0)) (F0 m 7 ls []) := by
  obtain ⟨hx, hb, hml, hown, hts, hK, hz, hlk, hr⟩ := id C
  intro n
  induction n with
  | zero => intro S a0 x1 x2 x3 H locs ls hM; exact absurd hM id
  | succ n ih =>
    intro S a0 x1 x2 x3 H locs ls hM hV hl
    rw [wq_X11_likelyOne_7.eq_2] at hM
    refine lv_iload_n hx hb dX11_likelyOne_7 rfl (lv_at hl 3 rfl) ?_
    refine lv_aload_n hx hb dX11_likelyOne_8 rfl (lv_at hl 0 rfl) ?_
    have hk1 := hM.1
    have hM := hM.2
    refine x_getI C hV wf_X11_91 hk1 dX11_likelyOne_9 ?_
    refine lv_icmp_ge (tgt := 43) hx hb dX11_likelyOne_12 (by decide) (fun c2 => ?_) (fun c2 => ?_)
    · have hM := ite_t c2 hM
      refine lv_iload_n hx hb dX11_likelyOne_43 rfl (lv_at hl 1 rfl) ?_
      exact x_iret C hV hM dX11_likelyOne_44
    have hM := ite_f c2 hM
    refine lv_aload_n hx hb dX11_likelyOne_15 rfl (lv_at hl 0 rfl) ?_
    refine lv_iload_n hx hb dX11_likelyOne_16 rfl (lv_at hl 3 rfl) ?_
    refine x_ci hV (x_runV (As := [.int x3]) (rest := []) C hV mi_X11_missOf wl_X11_235 hk1 (c_X11_missOf hM) ⟨by decide, by decide⟩ rfl hl.1 (Nat.le_of_ble_eq_true rfl) dX11_likelyOne_17 ⟨Nat.zero_le _, Nat.zero_le _⟩) (fun r4 S3 H locs hV hM => ?_)
    refine lv_istore (lv' := [(4, .int r4), (0, .ref a0), (1, .int x1), (2, .int x2), (3, .int x3)]) hx hb dX11_likelyOne_20 hl (by decide) rfl (fun ls hl => ?_)
    refine lv_iload_n hx hb dX11_likelyOne_22 rfl (lv_at hl 2 rfl) ?_
    refine lv_if_lt (tgt := 32) hx hb dX11_likelyOne_23 (by decide) (fun c5 => ?_) (fun c5 => ?_)
    · have hM := ite_t c5 hM
      exact tq_X11_likelyOne_32 C ih _ _ _ _ _ _ _ hM hV (lv_sub hl [1, 4, 0] rfl)
    have hM := ite_f c5 hM
    refine lv_iload hx hb dX11_likelyOne_26 (lv_at hl 0 rfl) ?_
    refine lv_iload_n hx hb dX11_likelyOne_28 rfl (lv_at hl 3 rfl) ?_
    refine lv_icmp_ge (tgt := 37) hx hb dX11_likelyOne_29 (by decide) (fun c6 => ?_) (fun c6 => ?_)
    · have hM := ite_t c6 hM
      refine lv_iinc (v := (x3 + 1)) (lv' := [(3, .int (x3 + 1)), (4, .int r4), (0, .ref a0), (1, .int x1), (2, .int x2)]) hx hb dX11_likelyOne_37 hl (k := 4) rfl rfl (by decide) rfl (fun ls hl => ?_)
      refine lv_goto (tgt := 7) hx hb dX11_likelyOne_40 (by decide) ?_
      exact ih _ _ _ _ _ _ _ _ hM hV (lv_sub hl [2, 3, 4, 0] rfl)
    have hM := ite_f c6 hM
    exact tq_X11_likelyOne_32 C ih _ _ _ _ _ _ _ hM hV (lv_sub hl [1, 4, 0] rfl)
set_option maxHeartbeats 4000000 in
set_option maxRecDepth 100000 in
theorem c_X11_likelyOne {l : Launch} {D : DX} {cA : Nat → ClassId} {z0 N : Nat} {S : PS} {a0 : Nat} {K : Int32 → PS → Prop} (hM : wp_X11_likelyOne N S a0 K) : MetI l yX11_likelyOne cX11_likelyOne 5 (some .int) 5 0 0 D cA z0 [.ref a0] S K := by
  refine x_met RX11 (by decide) rfl ?_
  intro p e s m below meth c C hin hV
  have hl := lv_entry ([.ref a0]) (n := 5) (Nat.le_of_ble_eq_true rfl)
  rw [lg_entry_eq]
  generalize (lg_sl ([.ref a0]) ++ List.replicate (5 - (lg_sl ([.ref a0])).length) Slot.unset).toArray = ls at hl ⊢
  have hl : lv_has ls 5 [(0, .ref a0)] := hl
  obtain ⟨hx, hb, hml, hown, hts, hK, hz, hlk, hr⟩ := id C
  unfold wp_X11_likelyOne at hM
  refine lv_bipush (v := (-3)) hx hb dX11_likelyOne_0 (by decide) ?_
  refine lv_istore_n (lv' := [(1, .int (-3)), (0, .ref a0)]) hx hb dX11_likelyOne_2 rfl hl (by decide) rfl (fun ls hl => ?_)
  refine lv_iconst (v := 0) hx hb dX11_likelyOne_3 (by decide) ?_
  refine lv_istore_n (lv' := [(2, .int 0), (1, .int (-3)), (0, .ref a0)]) hx hb dX11_likelyOne_4 rfl hl (by decide) rfl (fun ls hl => ?_)
  refine lv_iconst (v := 0) hx hb dX11_likelyOne_5 (by decide) ?_
  refine lv_istore_n (lv' := [(3, .int 0), (2, .int 0), (1, .int (-3)), (0, .ref a0)]) hx hb dX11_likelyOne_6 rfl hl (by decide) rfl (fun ls hl => ?_)
  exact tq_X11_likelyOne_7 C N _ _ _ _ _ _ _ _ hM hV (lv_sub hl [3, 2, 1, 0] rfl)

def wq_X11_sumOf_11 (N : Nat) (K : Int32 → PS → Prop) : Nat → PS → Nat → Int32 → Int32 → Int32 → Int32 → Int32 → Prop
  | 0, _, _, _, _, _, _, _ => False
  | n + 1, S, a0, x1, x2, x3, x4, x5 => S.K a0 = 12 ∧ if (S.I 774 a0) ≤ x5 then (K x4 S) else (∃ p5 : Nat, S.R 775 a0 = some p5 ∧ S.K p5 = 20 ∧ vp_in ((3 * x5) + 1) (S.ln p5) ∧ if (S.A p5 ((3 * x5) + 1).toNatClampNeg) = x1 then (∃ p9 : Nat, S.R 775 a0 = some p9 ∧ S.K p9 = 20 ∧ vp_in (3 * x5) (S.ln p9) ∧ wp_X11_in N S (S.A p9 (3 * x5).toNatClampNeg) x2 x3 (fun r13 S12 => if r13 = 0 then (wq_X11_sumOf_11 N K n S12 a0 x1 x2 x3 x4 (x5 + 1)) else (S12.K a0 = 12 ∧ ∃ p17 : Nat, S12.R 775 a0 = some p17 ∧ S12.K p17 = 20 ∧ vp_in ((3 * x5) + 2) (S12.ln p17) ∧ ∀ v20 : Int32, v20 = (x4 + (S12.A p17 ((3 * x5) + 2).toNatClampNeg)) → ∀ S21 : PS, S21 = S12.setI 793 a0 ((S12.I 793 a0) + 1) → wq_X11_sumOf_11 N K n S21 a0 x1 x2 x3 v20 (x5 + 1)))) else (wq_X11_sumOf_11 N K n S a0 x1 x2 x3 x4 (x5 + 1)))
def wp_X11_sumOf (N : Nat) (S : PS) (a0 : Nat) (x1 : Int32) (x2 : Int32) (x3 : Int32) (K : Int32 → PS → Prop) : Prop := S.K a0 = 12 ∧ ∀ S2 : PS, S2 = S.setI 793 a0 0 → wq_X11_sumOf_11 N K N S2 a0 x1 x2 x3 0 0
set_option maxHeartbeats 4000000 in
set_option maxRecDepth 100000 in
theorem tq_X11_sumOf_11 {p : Program} {l : Launch} {e : Env} {s : State} {m : MethodId} {args : Array Value} {below : List Frame} {meth : Method} {c : Code} {D : DX} {cA : Nat → ClassId} {z0 N : Nat} {K : Int32 → PS → Prop} (C : CX p s m args meth c cX11_sumOf 6 RX11 (some .int) D cA z0) : ∀ (n : Nat) (S : PS) (a0 : Nat) (x1 : Int32) (x2 : Int32) (x3 : Int32) (x4 : Int32) (x5 : Int32) (H : Heap) (locs : List Loc) (ls : Array Slot), wq_X11_sumOf_11 N K n S a0 x1 x2 x3 x4 x5 → XV D cA z0 s S H locs → lv_has ls 6 [(0, .ref a0), (1, .int x1), (2, .int x2), (3, .int x3), (4, .int x4), (5, .int x5)] → W p l e (rmd 1 0 0) s m args below meth c H locs 0 0 (MQ below (va_Qi K (XK D cA z0) (zA z0)) args s 0 0 (zA z0)) (F0 m 11 ls []) := by
  obtain ⟨hx, hb, hml, hown, hts, hK, hz, hlk, hr⟩ := id C
  intro n
  induction n with
  | zero => intro S a0 x1 x2 x3 x4 x5 H locs ls hM; exact absurd hM id
  | succ n ih =>
    intro S a0 x1 x2 x3 x4 x5 H locs ls hM hV hl
    rw [wq_X11_sumOf_11.eq_2] at hM
    refine lv_iload hx hb dX11_sumOf_11 (lv_at hl 5 rfl) ?_
    refine lv_aload_n hx hb dX11_sumOf_13 rfl (lv_at hl 0 rfl) ?_
    have hk3 := hM.1
    have hM := hM.2
    refine x_getI C hV wf_X11_116 hk3 dX11_sumOf_14 ?_
    refine lv_icmp_ge (tgt := 84) hx hb dX11_sumOf_17 (by decide) (fun c4 => ?_) (fun c4 => ?_)
    · have hM := ite_t c4 hM
      refine lv_iload hx hb dX11_sumOf_84 (lv_at hl 4 rfl) ?_
      exact x_iret C hV hM dX11_sumOf_86
    have hM := ite_f c4 hM
    refine lv_aload_n hx hb dX11_sumOf_20 rfl (lv_at hl 0 rfl) ?_
    obtain ⟨p5, hp5, hM⟩ := hM
    refine x_getR C hV wf_X11_17 hk3 hp5 dX11_sumOf_21 ?_
    refine lv_iconst (v := 3) hx hb dX11_sumOf_24 (by decide) ?_
    refine lv_iload hx hb dX11_sumOf_25 (lv_at hl 5 rfl) ?_
    refine lv_imul hx hb dX11_sumOf_27 ?_
    refine lv_iconst (v := 1) hx hb dX11_sumOf_28 (by decide) ?_
    refine lv_iadd hx hb dX11_sumOf_29 ?_
    have hk6 := hM.1
    have hM := hM.2
    have hi7 := hM.1
    have hM := hM.2
    refine x_iald C hV hk6 hi7 dX11_sumOf_30 ?_
    refine lv_iload_n hx hb dX11_sumOf_31 rfl (lv_at hl 1 rfl) ?_
    refine lv_icmp_ne (tgt := 78) hx hb dX11_sumOf_32 (by decide) (fun c8 => ?_) (fun c8 => ?_)
    · have hM := ite_f c8 hM
      refine lv_iinc (v := (x5 + 1)) (lv' := [(5, .int (x5 + 1)), (0, .ref a0), (1, .int x1), (2, .int x2), (3, .int x3), (4, .int x4)]) hx hb dX11_sumOf_78 hl (k := 5) rfl rfl (by decide) rfl (fun ls hl => ?_)
      refine lv_goto (tgt := 11) hx hb dX11_sumOf_81 (by decide) ?_
      exact ih _ _ _ _ _ _ _ _ _ _ hM hV (lv_sub hl [1, 2, 3, 4, 5, 0] rfl)
    have hM := ite_t c8 hM
    refine lv_aload_n hx hb dX11_sumOf_35 rfl (lv_at hl 0 rfl) ?_
    obtain ⟨p9, hp9, hM⟩ := hM
    refine x_getR C hV wf_X11_17 hk3 hp9 dX11_sumOf_36 ?_
    refine lv_iconst (v := 3) hx hb dX11_sumOf_39 (by decide) ?_
    refine lv_iload hx hb dX11_sumOf_40 (lv_at hl 5 rfl) ?_
    refine lv_imul hx hb dX11_sumOf_42 ?_
    have hk10 := hM.1
    have hM := hM.2
    have hi11 := hM.1
    have hM := hM.2
    refine x_iald C hV hk10 hi11 dX11_sumOf_43 ?_
    refine lv_iload_n hx hb dX11_sumOf_44 rfl (lv_at hl 2 rfl) ?_
    refine lv_iload_n hx hb dX11_sumOf_45 rfl (lv_at hl 3 rfl) ?_
    refine x_ci hV (x_runS (As := [.int (S.A p9 (3 * x5).toNatClampNeg), .int x2, .int x3]) (rest := []) C hV ms_X11_in wl_X11_87 (c_X11_in hM) ⟨by decide, by decide⟩ rfl hl.1 (Nat.le_of_ble_eq_true rfl) dX11_sumOf_46 ⟨Nat.zero_le _, Nat.zero_le _⟩) (fun r13 S12 H locs hV hM => ?_)
    have hz14 := hM.1
    have hM := hM.2
    refine lv_if_eq (tgt := 78) hx hb dX11_sumOf_49 (by decide) (fun c15 => ?_) (fun c15 => ?_)
    · have hM := ite_t c15 hM
      refine lv_iinc (v := (x5 + 1)) (lv' := [(5, .int (x5 + 1)), (0, .ref a0), (1, .int x1), (2, .int x2), (3, .int x3), (4, .int x4)]) hx hb dX11_sumOf_78 hl (k := 5) rfl rfl (by decide) rfl (fun ls hl => ?_)
      refine lv_goto (tgt := 11) hx hb dX11_sumOf_81 (by decide) ?_
      exact ih _ _ _ _ _ _ _ _ _ _ hM hV (lv_sub hl [1, 2, 3, 4, 5, 0] rfl)
    have hM := ite_f c15 hM
    refine lv_iload hx hb dX11_sumOf_52 (lv_at hl 4 rfl) ?_
    refine lv_aload_n hx hb dX11_sumOf_54 rfl (lv_at hl 0 rfl) ?_
    have hk16 := hM.1
    have hM := hM.2
    obtain ⟨p17, hp17, hM⟩ := hM
    refine x_getR C hV wf_X11_17 hk16 hp17 dX11_sumOf_55 ?_
    refine lv_iconst (v := 3) hx hb dX11_sumOf_58 (by decide) ?_
    refine lv_iload hx hb dX11_sumOf_59 (lv_at hl 5 rfl) ?_
    refine lv_imul hx hb dX11_sumOf_61 ?_
    refine lv_iconst (v := 2) hx hb dX11_sumOf_62 (by decide) ?_
    refine lv_iadd hx hb dX11_sumOf_63 ?_
    have hk18 := hM.1
    have hM := hM.2
    have hi19 := hM.1
    have hM := hM.2
    refine x_iald C hV hk18 hi19 dX11_sumOf_64 ?_
    refine lv_iadd hx hb dX11_sumOf_65 ?_
    refine lv_topi (fun v20 ev20 => ?_)
    have hM := hM v20 ev20
    refine lv_istore (lv' := [(4, .int v20), (0, .ref a0), (1, .int x1), (2, .int x2), (3, .int x3), (5, .int x5)]) hx hb dX11_sumOf_66 hl (by decide) rfl (fun ls hl => ?_)
    refine lv_aload_n hx hb dX11_sumOf_68 rfl (lv_at hl 1 rfl) ?_
    refine lv_dup hx hb dX11_sumOf_69 rfl ?_
    refine x_getI C hV wf_X11_276 hk16 dX11_sumOf_70 ?_
    refine lv_iconst (v := 1) hx hb dX11_sumOf_73 (by decide) ?_
    refine lv_iadd hx hb dX11_sumOf_74 ?_
    obtain ⟨S21, eS21⟩ : ∃ z : PS, z = S12.setI 793 a0 ((S12.I 793 a0) + 1) := ⟨_, rfl⟩
    have hM := hM S21 eS21
    refine x_putI C hV wp_X11_276 hk16 ⟨rfl, rfl⟩ eS21 dX11_sumOf_75 (fun H locs hV => ?_)
    refine lv_iinc (v := (x5 + 1)) (lv' := [(5, .int (x5 + 1)), (4, .int v20), (0, .ref a0), (1, .int x1), (2, .int x2), (3, .int x3)]) hx hb dX11_sumOf_78 hl (k := 5) rfl rfl (by decide) rfl (fun ls hl => ?_)
    refine lv_goto (tgt := 11) hx hb dX11_sumOf_81 (by decide) ?_
    exact ih _ _ _ _ _ _ _ _ _ _ hM hV (lv_sub hl [2, 3, 4, 5, 1, 0] rfl)
set_option maxHeartbeats 4000000 in
set_option maxRecDepth 100000 in
theorem c_X11_sumOf {l : Launch} {D : DX} {cA : Nat → ClassId} {z0 N : Nat} {S : PS} {a0 : Nat} {x1 : Int32} {x2 : Int32} {x3 : Int32} {K : Int32 → PS → Prop} (hM : wp_X11_sumOf N S a0 x1 x2 x3 K) : MetI l yX11_sumOf cX11_sumOf 6 (some .int) 1 0 0 D cA z0 [.ref a0, .int x1, .int x2, .int x3] S K := by
  refine x_met RX11 (by decide) rfl ?_
  intro p e s m below meth c C hin hV
  have hl := lv_entry ([.ref a0, .int x1, .int x2, .int x3]) (n := 6) (Nat.le_of_ble_eq_true rfl)
  rw [lg_entry_eq]
  generalize (lg_sl ([.ref a0, .int x1, .int x2, .int x3]) ++ List.replicate (6 - (lg_sl ([.ref a0, .int x1, .int x2, .int x3])).length) Slot.unset).toArray = ls at hl ⊢
  have hl : lv_has ls 6 [(0, .ref a0), (1, .int x1), (2, .int x2), (3, .int x3)] := hl
  obtain ⟨hx, hb, hml, hown, hts, hK, hz, hlk, hr⟩ := id C
  unfold wp_X11_sumOf at hM
  refine lv_iconst (v := 0) hx hb dX11_sumOf_0 (by decide) ?_
  refine lv_istore (lv' := [(4, .int 0), (0, .ref a0), (1, .int x1), (2, .int x2), (3, .int x3)]) hx hb dX11_sumOf_1 hl (by decide) rfl (fun ls hl => ?_)
  refine lv_aload_n hx hb dX11_sumOf_3 rfl (lv_at hl 1 rfl) ?_
  refine lv_iconst (v := 0) hx hb dX11_sumOf_4 (by decide) ?_
  have hk1 := hM.1
  have hM := hM.2
  obtain ⟨S2, eS2⟩ : ∃ z : PS, z = S.setI 793 a0 0 := ⟨_, rfl⟩
  have hM := hM S2 eS2
  refine x_putI C hV wp_X11_276 hk1 ⟨rfl, rfl⟩ eS2 dX11_sumOf_5 (fun H locs hV => ?_)
  refine lv_iconst (v := 0) hx hb dX11_sumOf_8 (by decide) ?_
  refine lv_istore (lv' := [(5, .int 0), (4, .int 0), (0, .ref a0), (1, .int x1), (2, .int x2), (3, .int x3)]) hx hb dX11_sumOf_9 hl (by decide) rfl (fun ls hl => ?_)
  exact tq_X11_sumOf_11 C N _ _ _ _ _ _ _ _ _ _ hM hV (lv_sub hl [2, 3, 4, 5, 1, 0] rfl)

def wq_X11_factOf_83 (N : Nat) (K : Int32 → PS → Prop) : Nat → PS → Nat → Int32 → Int32 → Prop
  | 0, _, _, _, _ => False
  | n + 1, S, a0, x3, x4 => S.K a0 = 12 ∧ if (S.I 772 a0) ≤ x4 then (K x3 S) else (wp_X11_its N S a0 x4 6 (fun r16 S15 => ∀ v17 : Int32, v17 = (x3 + r16) → wq_X11_factOf_83 N K n S15 a0 v17 (x4 + 1)))
def wp_X11_factOf (N : Nat) (S : PS) (a0 : Nat) (x1 : Int32) (K : Int32 → PS → Prop) : Prop := if x1 = 0 then (S.K a0 = 12 ∧ K (S.I 768 a0) S) else if x1 = 1 then (S.K a0 = 12 ∧ K (S.I 774 a0) S) else if x1 = 2 then (S.K a0 = 12 ∧ wp_X11_sumOf N S a0 0 0 999 (fun r8 S7 => S7.K a0 = 12 ∧ if (S7.I 793 a0) = 0 then (K 0 S7) else ((¬ (S7.I 793 a0) = 0) ∧ K (r8 / (S7.I 793 a0)) S7))) else if x1 = 3 then (wq_X11_factOf_83 N K N S a0 0 0) else if x1 = 4 then (S.K a0 = 12 ∧ K (S.I 771 a0) S) else if x1 = 5 then (S.K a0 = 12 ∧ wp_X11_likelyOne N S a0 (fun r23 S22 => if 0 ≤ r23 then (S22.K a0 = 12 ∧ wp_X11_missOf N S22 a0 r23 (fun r27 S26 => K r27 S26)) else (K 0 S22))) else K 0 S
set_option maxHeartbeats 4000000 in
set_option maxRecDepth 100000 in
theorem tq_X11_factOf_83 {p : Program} {l : Launch} {e : Env} {s : State} {m : MethodId} {args : Array Value} {below : List Frame} {meth : Method} {c : Code} {D : DX} {cA : Nat → ClassId} {z0 N : Nat} {K : Int32 → PS → Prop} (C : CX p s m args meth c cX11_factOf 5 RX11 (some .int) D cA z0) : ∀ (n : Nat) (S : PS) (a0 : Nat) (x3 : Int32) (x4 : Int32) (H : Heap) (locs : List Loc) (ls : Array Slot), wq_X11_factOf_83 N K n S a0 x3 x4 → XV D cA z0 s S H locs → lv_has ls 5 [(0, .ref a0), (3, .int x3), (4, .int x4)] → W p l e (rmd 6 0 0) s m args below meth c H locs 0 0 (MQ below (va_Qi K (XK D cA z0) (zA z0)) args s 0 0 (zA z0)) (F0 m 83 ls []) := by
  obtain ⟨hx, hb, hml, hown, hts, hK, hz, hlk, hr⟩ := id C
  intro n
  induction n with
  | zero => intro S a0 x3 x4 H locs ls hM; exact absurd hM id
  | succ n ih =>
    intro S a0 x3 x4 H locs ls hM hV hl
    rw [wq_X11_factOf_83.eq_2] at hM
    refine lv_iload hx hb dX11_factOf_83 (lv_at hl 2 rfl) ?_
    refine lv_aload_n hx hb dX11_factOf_85 rfl (lv_at hl 0 rfl) ?_
    have hk13 := hM.1
    have hM := hM.2
    refine x_getI C hV wf_X11_84 hk13 dX11_factOf_86 ?_
    refine lv_icmp_ge (tgt := 109) hx hb dX11_factOf_89 (by decide) (fun c14 => ?_) (fun c14 => ?_)
    · have hM := ite_t c14 hM
      refine lv_iload_n hx hb dX11_factOf_109 rfl (lv_at hl 1 rfl) ?_
      exact x_iret C hV hM dX11_factOf_110
    have hM := ite_f c14 hM
    refine lv_iload_n hx hb dX11_factOf_92 rfl (lv_at hl 1 rfl) ?_
    refine lv_aload_n hx hb dX11_factOf_93 rfl (lv_at hl 0 rfl) ?_
    refine lv_iload hx hb dX11_factOf_94 (lv_at hl 2 rfl) ?_
    refine lv_bipush (v := 6) hx hb dX11_factOf_96 (by decide) ?_
    refine x_ci hV (x_runV (As := [.int x4, .int 6]) (rest := [.int x3]) C hV mi_X11_its wl_X11_94 hk13 (c_X11_its hM) ⟨by decide, by decide⟩ rfl hl.1 (Nat.le_of_ble_eq_true rfl) dX11_factOf_98 ⟨Nat.zero_le _, Nat.zero_le _⟩) (fun r16 S15 H locs hV hM => ?_)
    refine lv_iadd hx hb dX11_factOf_101 ?_
    refine lv_topi (fun v17 ev17 => ?_)
    have hM := hM v17 ev17
    refine lv_istore_n (lv' := [(3, .int v17), (0, .ref a0), (4, .int x4)]) hx hb dX11_factOf_102 rfl hl (by decide) rfl (fun ls hl => ?_)
    refine lv_iinc (v := (x4 + 1)) (lv' := [(4, .int (x4 + 1)), (3, .int v17), (0, .ref a0)]) hx hb dX11_factOf_103 hl (k := 2) rfl rfl (by decide) rfl (fun ls hl => ?_)
    refine lv_goto (tgt := 83) hx hb dX11_factOf_106 (by decide) ?_
    exact ih _ _ _ _ _ _ _ hM hV (lv_sub hl [2, 1, 0] rfl)
set_option maxHeartbeats 4000000 in
set_option maxRecDepth 100000 in
theorem c_X11_factOf {l : Launch} {D : DX} {cA : Nat → ClassId} {z0 N : Nat} {S : PS} {a0 : Nat} {x1 : Int32} {K : Int32 → PS → Prop} (hM : wp_X11_factOf N S a0 x1 K) : MetI l yX11_factOf cX11_factOf 5 (some .int) 6 0 0 D cA z0 [.ref a0, .int x1] S K := by
  refine x_met RX11 (by decide) rfl ?_
  intro p e s m below meth c C hin hV
  have hl := lv_entry ([.ref a0, .int x1]) (n := 5) (Nat.le_of_ble_eq_true rfl)
  rw [lg_entry_eq]
  generalize (lg_sl ([.ref a0, .int x1]) ++ List.replicate (5 - (lg_sl ([.ref a0, .int x1])).length) Slot.unset).toArray = ls at hl ⊢
  have hl : lv_has ls 5 [(0, .ref a0), (1, .int x1)] := hl
  obtain ⟨hx, hb, hml, hown, hts, hK, hz, hlk, hr⟩ := id C
  unfold wp_X11_factOf at hM
  refine lv_iload_n hx hb dX11_factOf_0 rfl (lv_at hl 1 rfl) ?_
  by_cases c1 : x1 = 0
  · have hM := ite_t c1 hM
    refine lv_tableIn (tgt := 40) (off := 39) hx hb dX11_factOf_1 (by rw [c1]; decide) (by rw [c1]; decide) (by rw [c1]; decide) (by decide) ?_
    refine lv_aload_n hx hb dX11_factOf_40 rfl (lv_at hl 0 rfl) ?_
    have hk2 := hM.1
    have hM := hM.2
    refine x_getI C hV wf_X11_103 hk2 dX11_factOf_41 ?_
    exact x_iret C hV hM dX11_factOf_44
  have hM := ite_f c1 hM
  by_cases c3 : x1 = 1
  · have hM := ite_t c3 hM
    refine lv_tableIn (tgt := 45) (off := 44) hx hb dX11_factOf_1 (by rw [c3]; decide) (by rw [c3]; decide) (by rw [c3]; decide) (by decide) ?_
    refine lv_aload_n hx hb dX11_factOf_45 rfl (lv_at hl 0 rfl) ?_
    have hk4 := hM.1
    have hM := hM.2
    refine x_getI C hV wf_X11_116 hk4 dX11_factOf_46 ?_
    exact x_iret C hV hM dX11_factOf_49
  have hM := ite_f c3 hM
  by_cases c5 : x1 = 2
  · have hM := ite_t c5 hM
    refine lv_tableIn (tgt := 50) (off := 49) hx hb dX11_factOf_1 (by rw [c5]; decide) (by rw [c5]; decide) (by rw [c5]; decide) (by decide) ?_
    refine lv_aload_n hx hb dX11_factOf_50 rfl (lv_at hl 0 rfl) ?_
    refine lv_iconst (v := 0) hx hb dX11_factOf_51 (by decide) ?_
    refine lv_iconst (v := 0) hx hb dX11_factOf_52 (by decide) ?_
    refine lv_sipush (v := 999) hx hb dX11_factOf_53 (by decide) ?_
    have hk6 := hM.1
    have hM := hM.2
    refine x_ci hV (x_runV (As := [.int 0, .int 0, .int 999]) (rest := []) C hV mi_X11_sumOf wl_X11_279 hk6 (c_X11_sumOf hM) ⟨by decide, by decide⟩ rfl hl.1 (Nat.le_of_ble_eq_true rfl) dX11_factOf_56 ⟨Nat.zero_le _, Nat.zero_le _⟩) (fun r8 S7 H locs hV hM => ?_)
    refine lv_istore_n (lv' := [(2, .int r8), (0, .ref a0), (1, .int x1)]) hx hb dX11_factOf_59 rfl hl (by decide) rfl (fun ls hl => ?_)
    refine lv_aload_n hx hb dX11_factOf_60 rfl (lv_at hl 1 rfl) ?_
    have hk9 := hM.1
    have hM := hM.2
    refine x_getI C hV wf_X11_276 hk9 dX11_factOf_61 ?_
    refine lv_if_ne (tgt := 71) hx hb dX11_factOf_64 (by decide) (fun c10 => ?_) (fun c10 => ?_)
    · have hM := ite_f c10 hM
      refine lv_iload_n hx hb dX11_factOf_71 rfl (lv_at hl 0 rfl) ?_
      refine lv_aload_n hx hb dX11_factOf_72 rfl (lv_at hl 1 rfl) ?_
      refine x_getI C hV wf_X11_276 hk9 dX11_factOf_73 ?_
      have hne11 := hM.1
      have hM := hM.2
      refine lv_idiv hx hb dX11_factOf_76 hne11 ?_
      exact x_iret C hV hM dX11_factOf_77
    have hM := ite_t c10 hM
    refine lv_iconst (v := 0) hx hb dX11_factOf_67 (by decide) ?_
    refine lv_goto (tgt := 77) hx hb dX11_factOf_68 (by decide) ?_
    exact x_iret C hV hM dX11_factOf_77
  have hM := ite_f c5 hM
  by_cases c12 : x1 = 3
  · have hM := ite_t c12 hM
    refine lv_tableIn (tgt := 78) (off := 77) hx hb dX11_factOf_1 (by rw [c12]; decide) (by rw [c12]; decide) (by rw [c12]; decide) (by decide) ?_
    refine lv_iconst (v := 0) hx hb dX11_factOf_78 (by decide) ?_
    refine lv_istore_n (lv' := [(3, .int 0), (0, .ref a0), (1, .int x1)]) hx hb dX11_factOf_79 rfl hl (by decide) rfl (fun ls hl => ?_)
    refine lv_iconst (v := 0) hx hb dX11_factOf_80 (by decide) ?_
    refine lv_istore (lv' := [(4, .int 0), (3, .int 0), (0, .ref a0), (1, .int x1)]) hx hb dX11_factOf_81 hl (by decide) rfl (fun ls hl => ?_)
    exact tq_X11_factOf_83 C N _ _ _ _ _ _ _ hM hV (lv_sub hl [2, 1, 0] rfl)
  have hM := ite_f c12 hM
  by_cases c18 : x1 = 4
  · have hM := ite_t c18 hM
    refine lv_tableIn (tgt := 111) (off := 110) hx hb dX11_factOf_1 (by rw [c18]; decide) (by rw [c18]; decide) (by rw [c18]; decide) (by decide) ?_
    refine lv_aload_n hx hb dX11_factOf_111 rfl (lv_at hl 0 rfl) ?_
    have hk19 := hM.1
    have hM := hM.2
    refine x_getI C hV wf_X11_134 hk19 dX11_factOf_112 ?_
    exact x_iret C hV hM dX11_factOf_115
  have hM := ite_f c18 hM
  by_cases c20 : x1 = 5
  · have hM := ite_t c20 hM
    refine lv_tableIn (tgt := 116) (off := 115) hx hb dX11_factOf_1 (by rw [c20]; decide) (by rw [c20]; decide) (by rw [c20]; decide) (by decide) ?_
    refine lv_aload_n hx hb dX11_factOf_116 rfl (lv_at hl 0 rfl) ?_
    have hk21 := hM.1
    have hM := hM.2
    refine x_ci hV (x_runV (As := []) (rest := []) C hV mi_X11_likelyOne wl_X11_238 hk21 (c_X11_likelyOne hM) ⟨by decide, by decide⟩ rfl hl.1 (Nat.le_of_ble_eq_true rfl) dX11_factOf_117 ⟨Nat.zero_le _, Nat.zero_le _⟩) (fun r23 S22 H locs hV hM => ?_)
    refine lv_istore (lv' := [(4, .int r23), (0, .ref a0), (1, .int x1)]) hx hb dX11_factOf_120 hl (by decide) rfl (fun ls hl => ?_)
    refine lv_iload hx hb dX11_factOf_122 (lv_at hl 0 rfl) ?_
    refine lv_if_ge (tgt := 131) hx hb dX11_factOf_124 (by decide) (fun c24 => ?_) (fun c24 => ?_)
    · have hM := ite_t c24 hM
      refine lv_aload_n hx hb dX11_factOf_131 rfl (lv_at hl 1 rfl) ?_
      refine lv_iload hx hb dX11_factOf_132 (lv_at hl 0 rfl) ?_
      have hk25 := hM.1
      have hM := hM.2
      refine x_ci hV (x_runV (As := [.int r23]) (rest := []) C hV mi_X11_missOf wl_X11_235 hk25 (c_X11_missOf hM) ⟨by decide, by decide⟩ rfl hl.1 (Nat.le_of_ble_eq_true rfl) dX11_factOf_134 ⟨Nat.zero_le _, Nat.zero_le _⟩) (fun r27 S26 H locs hV hM => ?_)
      exact x_iret C hV hM dX11_factOf_137
    have hM := ite_f c24 hM
    refine lv_iconst (v := 0) hx hb dX11_factOf_127 (by decide) ?_
    refine lv_goto (tgt := 137) hx hb dX11_factOf_128 (by decide) ?_
    exact x_iret C hV hM dX11_factOf_137
  have hM := ite_f c20 hM
  refine lv_tableOut (tgt := 138) hx hb dX11_factOf_1 (by have q0 := lv_neT c1 (a := 0) (by decide); have q1 := lv_neT c3 (a := 1) (by decide); have q2 := lv_neT c5 (a := 2) (by decide); have q3 := lv_neT c12 (a := 3) (by decide); have q4 := lv_neT c18 (a := 4) (by decide); have q5 := lv_neT c20 (a := 5) (by decide); omega) (by decide) ?_
  refine lv_iconst (v := 0) hx hb dX11_factOf_138 (by decide) ?_
  exact x_iret C hV hM dX11_factOf_139

def wp_X11_fact (N : Nat) (S : PS) (a0 : Nat) (x1 : Int32) (K : Int32 → PS → Prop) : Prop := wp_X11_in N S x1 0 6 (fun r2 S1 => if r2 = 0 then (K (-2147483648) S1) else (S1.K a0 = 12 ∧ wp_X11_factOf N S1 a0 x1 (fun r7 S6 => K r7 S6)))
set_option maxHeartbeats 4000000 in
set_option maxRecDepth 100000 in
theorem c_X11_fact {l : Launch} {D : DX} {cA : Nat → ClassId} {z0 N : Nat} {S : PS} {a0 : Nat} {x1 : Int32} {K : Int32 → PS → Prop} (hM : wp_X11_fact N S a0 x1 K) : MetI l yX11_fact cX11_fact 2 (some .int) 7 0 0 D cA z0 [.ref a0, .int x1] S K := by
  refine x_met RX11 (by decide) rfl ?_
  intro p e s m below meth c C hin hV
  have hl := lv_entry ([.ref a0, .int x1]) (n := 2) (Nat.le_of_ble_eq_true rfl)
  rw [lg_entry_eq]
  generalize (lg_sl ([.ref a0, .int x1]) ++ List.replicate (2 - (lg_sl ([.ref a0, .int x1])).length) Slot.unset).toArray = ls at hl ⊢
  have hl : lv_has ls 2 [(0, .ref a0), (1, .int x1)] := hl
  obtain ⟨hx, hb, hml, hown, hts, hK, hz, hlk, hr⟩ := id C
  unfold wp_X11_fact at hM
  refine lv_iload_n hx hb dX11_fact_0 rfl (lv_at hl 1 rfl) ?_
  refine lv_iconst (v := 0) hx hb dX11_fact_1 (by decide) ?_
  refine lv_bipush (v := 6) hx hb dX11_fact_2 (by decide) ?_
  refine x_ci hV (x_runS (As := [.int x1, .int 0, .int 6]) (rest := []) C hV ms_X11_in wl_X11_87 (c_X11_in hM) ⟨by decide, by decide⟩ rfl hl.1 (Nat.le_of_ble_eq_true rfl) dX11_fact_4 ⟨Nat.zero_le _, Nat.zero_le _⟩) (fun r2 S1 H locs hV hM => ?_)
  have hz3 := hM.1
  have hM := hM.2
  refine lv_if_eq (tgt := 18) hx hb dX11_fact_7 (by decide) (fun c4 => ?_) (fun c4 => ?_)
  · have hM := ite_t c4 hM
    refine lv_ldc hx hb hown (hts _ wc_X11_102) dX11_fact_18 ?_
    exact x_iret C hV hM dX11_fact_20
  have hM := ite_f c4 hM
  refine lv_aload_n hx hb dX11_fact_10 rfl (lv_at hl 0 rfl) ?_
  refine lv_iload_n hx hb dX11_fact_11 rfl (lv_at hl 1 rfl) ?_
  have hk5 := hM.1
  have hM := hM.2
  refine x_ci hV (x_runV (As := [.int x1]) (rest := []) C hV mi_X11_factOf wl_X11_370 hk5 (c_X11_factOf hM) ⟨by decide, by decide⟩ rfl hl.1 (Nat.le_of_ble_eq_true rfl) dX11_fact_12 ⟨Nat.zero_le _, Nat.zero_le _⟩) (fun r7 S6 H locs hV hM => ?_)
  refine lv_goto (tgt := 20) hx hb dX11_fact_15 (by decide) ?_
  exact x_iret C hV hM dX11_fact_20

def wp_X11_isDay (N : Nat) (S : PS) (x0 : Int32) (K : Int32 → PS → Prop) : Prop := wp_X11_in N S x0 0 999 (fun r2 S1 => (r2 = 0 ∨ r2 = 1) ∧ K r2 S1)
set_option maxHeartbeats 4000000 in
set_option maxRecDepth 100000 in
theorem c_X11_isDay {l : Launch} {D : DX} {cA : Nat → ClassId} {z0 N : Nat} {S : PS} {x0 : Int32} {K : Int32 → PS → Prop} (hM : wp_X11_isDay N S x0 K) : MetI l yX11_isDay cX11_isDay 1 (some .boolean) 1 0 0 D cA z0 [.int x0] S (fun r S => (r = 0 ∨ r = 1) ∧ K r S) := by
  refine x_met RX11 (by decide) rfl ?_
  intro p e s m below meth c C hin hV
  have hl := lv_entry ([.int x0]) (n := 1) (Nat.le_of_ble_eq_true rfl)
  rw [lg_entry_eq]
  generalize (lg_sl ([.int x0]) ++ List.replicate (1 - (lg_sl ([.int x0])).length) Slot.unset).toArray = ls at hl ⊢
  have hl : lv_has ls 1 [(0, .int x0)] := hl
  obtain ⟨hx, hb, hml, hown, hts, hK, hz, hlk, hr⟩ := id C
  unfold wp_X11_isDay at hM
  refine lv_iload_n hx hb dX11_isDay_0 rfl (lv_at hl 0 rfl) ?_
  refine lv_iconst (v := 0) hx hb dX11_isDay_1 (by decide) ?_
  refine lv_sipush (v := 999) hx hb dX11_isDay_2 (by decide) ?_
  refine x_ci hV (x_runS (As := [.int x0, .int 0, .int 999]) (rest := []) C hV ms_X11_in wl_X11_87 (c_X11_in hM) ⟨by decide, by decide⟩ rfl hl.1 (Nat.le_of_ble_eq_true rfl) dX11_isDay_5 ⟨Nat.zero_le _, Nat.zero_le _⟩) (fun r2 S1 H locs hV hM => ?_)
  have hz3 := hM.1
  have hM := hM.2
  have hz4 := hM.1
  have hM := hM.2
  exact x_zret C hV hz4 hM dX11_isDay_8

def wq_X11_takes_62 (N : Nat) (K : Int32 → PS → Prop) (S : PS) (t0 : Int32) (t1 : Int32) : Prop := K (t0 + t1) S
def wp_X11_takes (N : Nat) (S : PS) (a0 : Nat) (x1 : Int32) (K : Int32 → PS → Prop) : Prop := S.K a0 = 12 ∧ wp_X11_its N S a0 x1 8 (fun r3 S2 => ∀ v4 : Int32, v4 = ((S.I 768 a0) - r3) → if 0 ≤ v4 then (S2.K a0 = 12 ∧ wp_X11_its N S2 a0 x1 2 (fun r8 S7 => S7.K a0 = 12 ∧ wp_X11_its N S7 a0 x1 0 (fun r11 S10 => if r11 = 3 then (S10.K a0 = 12 ∧ wp_X11_its N S10 a0 x1 7 (fun r18 S17 => wq_X11_takes_62 N K S17 r8 ((r18 * v4) / 10))) else (S10.K a0 = 12 ∧ wp_X11_its N S10 a0 x1 7 (fun r15 S14 => wq_X11_takes_62 N K S14 r8 r15))))) else (S2.K a0 = 12 ∧ wp_X11_its N S2 a0 x1 2 (fun r21 S20 => K r21 S20)))
set_option maxHeartbeats 4000000 in
set_option maxRecDepth 100000 in
theorem tq_X11_takes_62 {p : Program} {l : Launch} {e : Env} {s : State} {m : MethodId} {args : Array Value} {below : List Frame} {meth : Method} {c : Code} {D : DX} {cA : Nat → ClassId} {z0 N : Nat} {K : Int32 → PS → Prop} (C : CX p s m args meth c cX11_takes 3 RX11 (some .int) D cA z0) : ∀ (S : PS) (t0 : Int32) (t1 : Int32) (H : Heap) (locs : List Loc) (ls : Array Slot), wq_X11_takes_62 N K S t0 t1 → XV D cA z0 s S H locs → lv_has ls 3 [] → W p l e (rmd 1 0 0) s m args below meth c H locs 0 0 (MQ below (va_Qi K (XK D cA z0) (zA z0)) args s 0 0 (zA z0)) (F0 m 62 ls [.int t1, .int t0]) := by
  obtain ⟨hx, hb, hml, hown, hts, hK, hz, hlk, hr⟩ := id C
  intro S t0 t1 H locs ls hM hV hl
  unfold wq_X11_takes_62 at hM
  refine lv_iadd hx hb dX11_takes_62 ?_
  exact x_iret C hV hM dX11_takes_63
set_option maxHeartbeats 4000000 in
set_option maxRecDepth 100000 in
theorem c_X11_takes {l : Launch} {D : DX} {cA : Nat → ClassId} {z0 N : Nat} {S : PS} {a0 : Nat} {x1 : Int32} {K : Int32 → PS → Prop} (hM : wp_X11_takes N S a0 x1 K) : MetI l yX11_takes cX11_takes 3 (some .int) 1 0 0 D cA z0 [.ref a0, .int x1] S K := by
  refine x_met RX11 (by decide) rfl ?_
  intro p e s m below meth c C hin hV
  have hl := lv_entry ([.ref a0, .int x1]) (n := 3) (Nat.le_of_ble_eq_true rfl)
  rw [lg_entry_eq]
  generalize (lg_sl ([.ref a0, .int x1]) ++ List.replicate (3 - (lg_sl ([.ref a0, .int x1])).length) Slot.unset).toArray = ls at hl ⊢
  have hl : lv_has ls 3 [(0, .ref a0), (1, .int x1)] := hl
  obtain ⟨hx, hb, hml, hown, hts, hK, hz, hlk, hr⟩ := id C
  unfold wp_X11_takes at hM
  refine lv_aload_n hx hb dX11_takes_0 rfl (lv_at hl 0 rfl) ?_
  have hk1 := hM.1
  have hM := hM.2
  refine x_getI C hV wf_X11_103 hk1 dX11_takes_1 ?_
  refine lv_aload_n hx hb dX11_takes_4 rfl (lv_at hl 0 rfl) ?_
  refine lv_iload_n hx hb dX11_takes_5 rfl (lv_at hl 1 rfl) ?_
  refine lv_bipush (v := 8) hx hb dX11_takes_6 (by decide) ?_
  refine x_ci hV (x_runV (As := [.int x1, .int 8]) (rest := [.int (S.I 768 a0)]) C hV mi_X11_its wl_X11_94 hk1 (c_X11_its hM) ⟨by decide, by decide⟩ rfl hl.1 (Nat.le_of_ble_eq_true rfl) dX11_takes_8 ⟨Nat.zero_le _, Nat.zero_le _⟩) (fun r3 S2 H locs hV hM => ?_)
  refine lv_isub hx hb dX11_takes_11 ?_
  refine lv_topi (fun v4 ev4 => ?_)
  have hM := hM v4 ev4
  refine lv_istore_n (lv' := [(2, .int v4), (0, .ref a0), (1, .int x1)]) hx hb dX11_takes_12 rfl hl (by decide) rfl (fun ls hl => ?_)
  refine lv_iload_n hx hb dX11_takes_13 rfl (lv_at hl 0 rfl) ?_
  refine lv_if_ge (tgt := 24) hx hb dX11_takes_14 (by decide) (fun c5 => ?_) (fun c5 => ?_)
  · have hM := ite_t c5 hM
    refine lv_aload_n hx hb dX11_takes_24 rfl (lv_at hl 1 rfl) ?_
    refine lv_iload_n hx hb dX11_takes_25 rfl (lv_at hl 2 rfl) ?_
    refine lv_iconst (v := 2) hx hb dX11_takes_26 (by decide) ?_
    have hk6 := hM.1
    have hM := hM.2
    refine x_ci hV (x_runV (As := [.int x1, .int 2]) (rest := []) C hV mi_X11_its wl_X11_94 hk6 (c_X11_its hM) ⟨by decide, by decide⟩ rfl hl.1 (Nat.le_of_ble_eq_true rfl) dX11_takes_27 ⟨Nat.zero_le _, Nat.zero_le _⟩) (fun r8 S7 H locs hV hM => ?_)
    refine lv_aload_n hx hb dX11_takes_30 rfl (lv_at hl 1 rfl) ?_
    refine lv_iload_n hx hb dX11_takes_31 rfl (lv_at hl 2 rfl) ?_
    refine lv_iconst (v := 0) hx hb dX11_takes_32 (by decide) ?_
    have hk9 := hM.1
    have hM := hM.2
    refine x_ci hV (x_runV (As := [.int x1, .int 0]) (rest := [.int r8]) C hV mi_X11_its wl_X11_94 hk9 (c_X11_its hM) ⟨by decide, by decide⟩ rfl hl.1 (Nat.le_of_ble_eq_true rfl) dX11_takes_33 ⟨Nat.zero_le _, Nat.zero_le _⟩) (fun r11 S10 H locs hV hM => ?_)
    refine lv_iconst (v := 3) hx hb dX11_takes_36 (by decide) ?_
    refine lv_icmp_ne (tgt := 55) hx hb dX11_takes_37 (by decide) (fun c12 => ?_) (fun c12 => ?_)
    · have hM := ite_f c12 hM
      refine lv_aload_n hx hb dX11_takes_55 rfl (lv_at hl 1 rfl) ?_
      refine lv_iload_n hx hb dX11_takes_56 rfl (lv_at hl 2 rfl) ?_
      refine lv_bipush (v := 7) hx hb dX11_takes_57 (by decide) ?_
      have hk13 := hM.1
      have hM := hM.2
      refine x_ci hV (x_runV (As := [.int x1, .int 7]) (rest := [.int r8]) C hV mi_X11_its wl_X11_94 hk13 (c_X11_its hM) ⟨by decide, by decide⟩ rfl hl.1 (Nat.le_of_ble_eq_true rfl) dX11_takes_59 ⟨Nat.zero_le _, Nat.zero_le _⟩) (fun r15 S14 H locs hV hM => ?_)
      exact tq_X11_takes_62 C _ _ _ _ _ _ hM hV (lv_sub hl [] rfl)
    have hM := ite_t c12 hM
    refine lv_aload_n hx hb dX11_takes_40 rfl (lv_at hl 1 rfl) ?_
    refine lv_iload_n hx hb dX11_takes_41 rfl (lv_at hl 2 rfl) ?_
    refine lv_bipush (v := 7) hx hb dX11_takes_42 (by decide) ?_
    have hk16 := hM.1
    have hM := hM.2
    refine x_ci hV (x_runV (As := [.int x1, .int 7]) (rest := [.int r8]) C hV mi_X11_its wl_X11_94 hk16 (c_X11_its hM) ⟨by decide, by decide⟩ rfl hl.1 (Nat.le_of_ble_eq_true rfl) dX11_takes_44 ⟨Nat.zero_le _, Nat.zero_le _⟩) (fun r18 S17 H locs hV hM => ?_)
    refine lv_iload_n hx hb dX11_takes_47 rfl (lv_at hl 0 rfl) ?_
    refine lv_imul hx hb dX11_takes_48 ?_
    refine lv_bipush (v := 10) hx hb dX11_takes_49 (by decide) ?_
    refine lv_idiv hx hb dX11_takes_51 (by decide) ?_
    refine lv_goto (tgt := 62) hx hb dX11_takes_52 (by decide) ?_
    exact tq_X11_takes_62 C _ _ _ _ _ _ hM hV (lv_sub hl [] rfl)
  have hM := ite_f c5 hM
  refine lv_aload_n hx hb dX11_takes_17 rfl (lv_at hl 1 rfl) ?_
  refine lv_iload_n hx hb dX11_takes_18 rfl (lv_at hl 2 rfl) ?_
  refine lv_iconst (v := 2) hx hb dX11_takes_19 (by decide) ?_
  have hk19 := hM.1
  have hM := hM.2
  refine x_ci hV (x_runV (As := [.int x1, .int 2]) (rest := []) C hV mi_X11_its wl_X11_94 hk19 (c_X11_its hM) ⟨by decide, by decide⟩ rfl hl.1 (Nat.le_of_ble_eq_true rfl) dX11_takes_20 ⟨Nat.zero_le _, Nat.zero_le _⟩) (fun r21 S20 H locs hV hM => ?_)
  exact x_iret C hV hM dX11_takes_23

def wp_X11_fail (N : Nat) (S : PS) (a0 : Nat) (x1 : Int32) (x2 : Int32) (x3 : Int32) (K : Int32 → PS → Prop) : Prop := S.K a0 = 12 ∧ wp_X11_isPart N S a0 x1 (fun r3 S2 => if r3 = 0 then (K (-2147483648) S2) else (wp_X11_in N S2 x2 (-500) 500 (fun r7 S6 => if r7 = 0 then (K (-2147483648) S6) else (wp_X11_isDay N S6 x3 (fun r11 S10 => if r11 = 0 then (K (-2147483648) S10) else (S10.K a0 = 12 ∧ ∃ p15 : Nat, S10.R 773 a0 = some p15 ∧ S10.K p15 = 20 ∧ vp_in ((9 * x1) + 7) (S10.ln p15) ∧ ∀ S18 : PS, S18 = S10.setA p15 ((9 * x1) + 7).toNatClampNeg x2 → ∃ p20 : Nat, S18.R 773 a0 = some p20 ∧ S18.K p20 = 20 ∧ vp_in ((9 * x1) + 8) (S18.ln p20) ∧ ∀ S23 : PS, S23 = S18.setA p20 ((9 * x1) + 8).toNatClampNeg x3 → wp_X11_takes N S23 a0 x1 (fun r26 S25 => K r26 S25)))))))
set_option maxHeartbeats 4000000 in
set_option maxRecDepth 100000 in
theorem c_X11_fail {l : Launch} {D : DX} {cA : Nat → ClassId} {z0 N : Nat} {S : PS} {a0 : Nat} {x1 : Int32} {x2 : Int32} {x3 : Int32} {K : Int32 → PS → Prop} (hM : wp_X11_fail N S a0 x1 x2 x3 K) : MetI l yX11_fail cX11_fail 4 (some .int) 2 0 0 D cA z0 [.ref a0, .int x1, .int x2, .int x3] S K := by
  refine x_met RX11 (by decide) rfl ?_
  intro p e s m below meth c C hin hV
  have hl := lv_entry ([.ref a0, .int x1, .int x2, .int x3]) (n := 4) (Nat.le_of_ble_eq_true rfl)
  rw [lg_entry_eq]
  generalize (lg_sl ([.ref a0, .int x1, .int x2, .int x3]) ++ List.replicate (4 - (lg_sl ([.ref a0, .int x1, .int x2, .int x3])).length) Slot.unset).toArray = ls at hl ⊢
  have hl : lv_has ls 4 [(0, .ref a0), (1, .int x1), (2, .int x2), (3, .int x3)] := hl
  obtain ⟨hx, hb, hml, hown, hts, hK, hz, hlk, hr⟩ := id C
  unfold wp_X11_fail at hM
  refine lv_aload_n hx hb dX11_fail_0 rfl (lv_at hl 0 rfl) ?_
  refine lv_iload_n hx hb dX11_fail_1 rfl (lv_at hl 1 rfl) ?_
  have hk1 := hM.1
  have hM := hM.2
  refine x_ci hV (x_runV (As := [.int x1]) (rest := []) C hV mi_X11_isPart wl_X11_98 hk1 (c_X11_isPart hM) ⟨by decide, by decide⟩ rfl hl.1 (Nat.le_of_ble_eq_true rfl) dX11_fail_2 ⟨Nat.zero_le _, Nat.zero_le _⟩) (fun r3 S2 H locs hV hM => ?_)
  have hz4 := hM.1
  have hM := hM.2
  refine lv_if_eq (tgt := 28) hx hb dX11_fail_5 (by decide) (fun c5 => ?_) (fun c5 => ?_)
  · have hM := ite_t c5 hM
    refine lv_ldc hx hb hown (hts _ wc_X11_102) dX11_fail_28 ?_
    exact x_iret C hV hM dX11_fail_30
  have hM := ite_f c5 hM
  refine lv_iload_n hx hb dX11_fail_8 rfl (lv_at hl 2 rfl) ?_
  refine lv_sipush (v := (-500)) hx hb dX11_fail_9 (by decide) ?_
  refine lv_sipush (v := 500) hx hb dX11_fail_12 (by decide) ?_
  refine x_ci hV (x_runS (As := [.int x2, .int (-500), .int 500]) (rest := []) C hV ms_X11_in wl_X11_87 (c_X11_in hM) ⟨by decide, by decide⟩ rfl hl.1 (Nat.le_of_ble_eq_true rfl) dX11_fail_15 ⟨Nat.zero_le _, Nat.zero_le _⟩) (fun r7 S6 H locs hV hM => ?_)
  have hz8 := hM.1
  have hM := hM.2
  refine lv_if_eq (tgt := 28) hx hb dX11_fail_18 (by decide) (fun c9 => ?_) (fun c9 => ?_)
  · have hM := ite_t c9 hM
    refine lv_ldc hx hb hown (hts _ wc_X11_102) dX11_fail_28 ?_
    exact x_iret C hV hM dX11_fail_30
  have hM := ite_f c9 hM
  refine lv_iload_n hx hb dX11_fail_21 rfl (lv_at hl 3 rfl) ?_
  refine x_ci hV (x_runS (As := [.int x3]) (rest := []) C hV ms_X11_isDay wl_X11_110 (c_X11_isDay hM) ⟨by decide, by decide⟩ rfl hl.1 (Nat.le_of_ble_eq_true rfl) dX11_fail_22 ⟨Nat.zero_le _, Nat.zero_le _⟩) (fun r11 S10 H locs hV hM => ?_)
  have hz12 := hM.1
  have hM := hM.2
  refine lv_if_ne (tgt := 31) hx hb dX11_fail_25 (by decide) (fun c13 => ?_) (fun c13 => ?_)
  · have hM := ite_f c13 hM
    refine lv_aload_n hx hb dX11_fail_31 rfl (lv_at hl 0 rfl) ?_
    have hk14 := hM.1
    have hM := hM.2
    obtain ⟨p15, hp15, hM⟩ := hM
    refine x_getR C hV wf_X11_13 hk14 hp15 dX11_fail_32 ?_
    refine lv_bipush (v := 9) hx hb dX11_fail_35 (by decide) ?_
    refine lv_iload_n hx hb dX11_fail_37 rfl (lv_at hl 1 rfl) ?_
    refine lv_imul hx hb dX11_fail_38 ?_
    refine lv_bipush (v := 7) hx hb dX11_fail_39 (by decide) ?_
    refine lv_iadd hx hb dX11_fail_41 ?_
    refine lv_iload_n hx hb dX11_fail_42 rfl (lv_at hl 2 rfl) ?_
    have hk16 := hM.1
    have hM := hM.2
    have hi17 := hM.1
    have hM := hM.2
    obtain ⟨S18, eS18⟩ : ∃ z : PS, z = S10.setA p15 ((9 * x1) + 7).toNatClampNeg x2 := ⟨_, rfl⟩
    have hM := hM S18 eS18
    refine x_iast C hV hk16 hi17 eS18 dX11_fail_43 (fun H locs hV => ?_)
    refine lv_aload_n hx hb dX11_fail_44 rfl (lv_at hl 0 rfl) ?_
    have hk19 := kp_A eS18 hk14
    obtain ⟨p20, hp20, hM⟩ := hM
    refine x_getR C hV wf_X11_13 hk19 hp20 dX11_fail_45 ?_
    refine lv_bipush (v := 9) hx hb dX11_fail_48 (by decide) ?_
    refine lv_iload_n hx hb dX11_fail_50 rfl (lv_at hl 1 rfl) ?_
    refine lv_imul hx hb dX11_fail_51 ?_
    refine lv_bipush (v := 8) hx hb dX11_fail_52 (by decide) ?_
    refine lv_iadd hx hb dX11_fail_54 ?_
    refine lv_iload_n hx hb dX11_fail_55 rfl (lv_at hl 3 rfl) ?_
    have hk21 := hM.1
    have hM := hM.2
    have hi22 := hM.1
    have hM := hM.2
    obtain ⟨S23, eS23⟩ : ∃ z : PS, z = S18.setA p20 ((9 * x1) + 8).toNatClampNeg x3 := ⟨_, rfl⟩
    have hM := hM S23 eS23
    refine x_iast C hV hk21 hi22 eS23 dX11_fail_56 (fun H locs hV => ?_)
    refine lv_aload_n hx hb dX11_fail_57 rfl (lv_at hl 0 rfl) ?_
    refine lv_iload_n hx hb dX11_fail_58 rfl (lv_at hl 1 rfl) ?_
    have hk24 := kp_A eS23 hk19
    refine x_ci hV (x_runV (As := [.int x1]) (rest := []) C hV mi_X11_takes wl_X11_106 hk24 (c_X11_takes hM) ⟨by decide, by decide⟩ rfl hl.1 (Nat.le_of_ble_eq_true rfl) dX11_fail_59 ⟨Nat.zero_le _, Nat.zero_le _⟩) (fun r26 S25 H locs hV hM => ?_)
    exact x_iret C hV hM dX11_fail_62
  have hM := ite_t c13 hM
  refine lv_ldc hx hb hown (hts _ wc_X11_102) dX11_fail_28 ?_
  exact x_iret C hV hM dX11_fail_30

def wq_X11_feed_30 (N : Nat) (K : Int32 → PS → Prop) : Nat → PS → Nat → Int64 → Int32 → Int32 → Prop
  | 0, _, _, _, _, _ => False
  | n + 1, S, a0, j1, x3, x4 => if x3 ≤ x4 then (S.K a0 = 12 ∧ K (S.I 782 a0) S) else (S.K a0 = 12 ∧ ∃ p10 : Nat, S.R 781 a0 = some p10 ∧ S.K p10 = 20 ∧ vp_in (S.I 782 a0) (S.ln p10) ∧ ∀ S13 : PS, S13 = S.setA p10 (S.I 782 a0).toNatClampNeg (((j1 >>> ((8 * x4).toInt64 &&& 63)) &&& (255 : Int64)).toInt32) → ∀ S15 : PS, S15 = S13.setI 782 a0 ((S13.I 782 a0) + 1) → wq_X11_feed_30 N K n S15 a0 j1 x3 (x4 + 1))
def wp_X11_feed (N : Nat) (S : PS) (a0 : Nat) (j1 : Int64) (x3 : Int32) (K : Int32 → PS → Prop) : Prop := wp_X11_in N S x3 1 8 (fun r2 S1 => if r2 = 0 then (K (-1) S1) else (S1.K a0 = 12 ∧ if ((S1.I 782 a0) + x3) ≤ 200 then (wq_X11_feed_30 N K N S1 a0 j1 x3 0) else (K (-2) S1)))
set_option maxHeartbeats 4000000 in
set_option maxRecDepth 100000 in
theorem tq_X11_feed_30 {p : Program} {l : Launch} {e : Env} {s : State} {m : MethodId} {args : Array Value} {below : List Frame} {meth : Method} {c : Code} {D : DX} {cA : Nat → ClassId} {z0 N : Nat} {K : Int32 → PS → Prop} (C : CX p s m args meth c cX11_feed 5 RX11 (some .int) D cA z0) : ∀ (n : Nat) (S : PS) (a0 : Nat) (j1 : Int64) (x3 : Int32) (x4 : Int32) (H : Heap) (locs : List Loc) (ls : Array Slot), wq_X11_feed_30 N K n S a0 j1 x3 x4 → XV D cA z0 s S H locs → lv_has ls 5 [(0, .ref a0), (1, .long j1), (3, .int x3), (4, .int x4)] → W p l e (rmd 1 0 0) s m args below meth c H locs 0 0 (MQ below (va_Qi K (XK D cA z0) (zA z0)) args s 0 0 (zA z0)) (F0 m 30 ls []) := by
  obtain ⟨hx, hb, hml, hown, hts, hK, hz, hlk, hr⟩ := id C
  intro n
  induction n with
  | zero => intro S a0 j1 x3 x4 H locs ls hM; exact absurd hM id
  | succ n ih =>
    intro S a0 j1 x3 x4 H locs ls hM hV hl
    rw [wq_X11_feed_30.eq_2] at hM
    refine lv_iload hx hb dX11_feed_30 (lv_at hl 3 rfl) ?_
    refine lv_iload_n hx hb dX11_feed_32 rfl (lv_at hl 2 rfl) ?_
    refine lv_icmp_ge (tgt := 73) hx hb dX11_feed_33 (by decide) (fun c7 => ?_) (fun c7 => ?_)
    · have hM := ite_t c7 hM
      refine lv_aload_n hx hb dX11_feed_73 rfl (lv_at hl 0 rfl) ?_
      have hk8 := hM.1
      have hM := hM.2
      refine x_getI C hV wf_X11_137 hk8 dX11_feed_74 ?_
      exact x_iret C hV hM dX11_feed_77
    have hM := ite_f c7 hM
    refine lv_aload_n hx hb dX11_feed_36 rfl (lv_at hl 0 rfl) ?_
    have hk9 := hM.1
    have hM := hM.2
    obtain ⟨p10, hp10, hM⟩ := hM
    refine x_getR C hV wf_X11_29 hk9 hp10 dX11_feed_37 ?_
    refine lv_aload_n hx hb dX11_feed_40 rfl (lv_at hl 0 rfl) ?_
    refine x_getI C hV wf_X11_137 hk9 dX11_feed_41 ?_
    refine lv_lload_n hx hb dX11_feed_44 rfl (lv_at hl 1 rfl) ?_
    refine lv_bipush (v := 8) hx hb dX11_feed_45 (by decide) ?_
    refine lv_iload hx hb dX11_feed_47 (lv_at hl 3 rfl) ?_
    refine lv_imul hx hb dX11_feed_49 ?_
    refine lv_lshr hx hb dX11_feed_50 rfl ?_
    refine lv_ldc2 hx hb hown (hts _ wc_X11_140) dX11_feed_51 ?_
    refine lv_land hx hb dX11_feed_54 ?_
    refine lv_l2i hx hb dX11_feed_55 rfl ?_
    have hk11 := hM.1
    have hM := hM.2
    have hi12 := hM.1
    have hM := hM.2
    obtain ⟨S13, eS13⟩ : ∃ z : PS, z = S.setA p10 (S.I 782 a0).toNatClampNeg (((j1 >>> ((8 * x4).toInt64 &&& 63)) &&& (255 : Int64)).toInt32) := ⟨_, rfl⟩
    have hM := hM S13 eS13
    refine x_iast C hV hk11 hi12 eS13 dX11_feed_56 (fun H locs hV => ?_)
    refine lv_aload_n hx hb dX11_feed_57 rfl (lv_at hl 0 rfl) ?_
    refine lv_dup hx hb dX11_feed_58 rfl ?_
    have hk14 := kp_A eS13 hk9
    refine x_getI C hV wf_X11_137 hk14 dX11_feed_59 ?_
    refine lv_iconst (v := 1) hx hb dX11_feed_62 (by decide) ?_
    refine lv_iadd hx hb dX11_feed_63 ?_
    obtain ⟨S15, eS15⟩ : ∃ z : PS, z = S13.setI 782 a0 ((S13.I 782 a0) + 1) := ⟨_, rfl⟩
    have hM := hM S15 eS15
    refine x_putI C hV wp_X11_137 hk14 ⟨rfl, rfl⟩ eS15 dX11_feed_64 (fun H locs hV => ?_)
    refine lv_iinc (v := (x4 + 1)) (lv' := [(4, .int (x4 + 1)), (0, .ref a0), (1, .long j1), (3, .int x3)]) hx hb dX11_feed_67 hl (k := 3) rfl rfl (by decide) rfl (fun ls hl => ?_)
    refine lv_goto (tgt := 30) hx hb dX11_feed_70 (by decide) ?_
    exact ih _ _ _ _ _ _ _ _ hM hV (lv_sub hl [1, 2, 3, 0] rfl)
set_option maxHeartbeats 4000000 in
set_option maxRecDepth 100000 in
theorem c_X11_feed {l : Launch} {D : DX} {cA : Nat → ClassId} {z0 N : Nat} {S : PS} {a0 : Nat} {j1 : Int64} {x3 : Int32} {K : Int32 → PS → Prop} (hM : wp_X11_feed N S a0 j1 x3 K) : MetI l yX11_feed cX11_feed 5 (some .int) 1 0 0 D cA z0 [.ref a0, .long j1, .int x3] S K := by
  refine x_met RX11 (by decide) rfl ?_
  intro p e s m below meth c C hin hV
  have hl := lv_entry ([.ref a0, .long j1, .int x3]) (n := 5) (Nat.le_of_ble_eq_true rfl)
  rw [lg_entry_eq]
  generalize (lg_sl ([.ref a0, .long j1, .int x3]) ++ List.replicate (5 - (lg_sl ([.ref a0, .long j1, .int x3])).length) Slot.unset).toArray = ls at hl ⊢
  have hl : lv_has ls 5 [(0, .ref a0), (1, .long j1), (3, .int x3)] := hl
  obtain ⟨hx, hb, hml, hown, hts, hK, hz, hlk, hr⟩ := id C
  unfold wp_X11_feed at hM
  refine lv_iload_n hx hb dX11_feed_0 rfl (lv_at hl 2 rfl) ?_
  refine lv_iconst (v := 1) hx hb dX11_feed_1 (by decide) ?_
  refine lv_bipush (v := 8) hx hb dX11_feed_2 (by decide) ?_
  refine x_ci hV (x_runS (As := [.int x3, .int 1, .int 8]) (rest := []) C hV ms_X11_in wl_X11_87 (c_X11_in hM) ⟨by decide, by decide⟩ rfl hl.1 (Nat.le_of_ble_eq_true rfl) dX11_feed_4 ⟨Nat.zero_le _, Nat.zero_le _⟩) (fun r2 S1 H locs hV hM => ?_)
  have hz3 := hM.1
  have hM := hM.2
  refine lv_if_ne (tgt := 12) hx hb dX11_feed_7 (by decide) (fun c4 => ?_) (fun c4 => ?_)
  · have hM := ite_f c4 hM
    refine lv_aload_n hx hb dX11_feed_12 rfl (lv_at hl 0 rfl) ?_
    have hk5 := hM.1
    have hM := hM.2
    refine x_getI C hV wf_X11_137 hk5 dX11_feed_13 ?_
    refine lv_iload_n hx hb dX11_feed_16 rfl (lv_at hl 2 rfl) ?_
    refine lv_iadd hx hb dX11_feed_17 ?_
    refine lv_sipush (v := 200) hx hb dX11_feed_18 (by decide) ?_
    refine lv_icmp_le (tgt := 27) hx hb dX11_feed_21 (by decide) (fun c6 => ?_) (fun c6 => ?_)
    · have hM := ite_t c6 hM
      refine lv_iconst (v := 0) hx hb dX11_feed_27 (by decide) ?_
      refine lv_istore (lv' := [(4, .int 0), (0, .ref a0), (1, .long j1), (3, .int x3)]) hx hb dX11_feed_28 hl (by decide) rfl (fun ls hl => ?_)
      exact tq_X11_feed_30 C N _ _ _ _ _ _ _ _ hM hV (lv_sub hl [1, 2, 3, 0] rfl)
    have hM := ite_f c6 hM
    refine lv_bipush (v := (-2)) hx hb dX11_feed_24 (by decide) ?_
    exact x_iret C hV hM dX11_feed_26
  have hM := ite_t c4 hM
  refine lv_iconst (v := (-1)) hx hb dX11_feed_10 (by decide) ?_
  exact x_iret C hV hM dX11_feed_11

def wq_X11_findFacts_2 (N : Nat) (K : PS → Prop) : Nat → PS → Nat → Int32 → Prop
  | 0, _, _, _ => False
  | n + 1, S, a0, x1 => if 7 ≤ x1 then (K S) else (S.K a0 = 12 ∧ ∃ p3 : Nat, S.R 803 a0 = some p3 ∧ wp_X11_factOf N S a0 x1 (fun r5 S4 => S4.K p3 = 20 ∧ vp_in x1 (S4.ln p3) ∧ ∀ S8 : PS, S8 = S4.setA p3 x1.toNatClampNeg r5 → wq_X11_findFacts_2 N K n S8 a0 (x1 + 1)))
def wp_X11_findFacts (N : Nat) (S : PS) (a0 : Nat) (K : PS → Prop) : Prop := wq_X11_findFacts_2 N K N S a0 0
set_option maxHeartbeats 4000000 in
set_option maxRecDepth 100000 in
theorem tq_X11_findFacts_2 {p : Program} {l : Launch} {e : Env} {s : State} {m : MethodId} {args : Array Value} {below : List Frame} {meth : Method} {c : Code} {D : DX} {cA : Nat → ClassId} {z0 N : Nat} {K : PS → Prop} (C : CX p s m args meth c cX11_findFacts 2 RX11 none D cA z0) : ∀ (n : Nat) (S : PS) (a0 : Nat) (x1 : Int32) (H : Heap) (locs : List Loc) (ls : Array Slot), wq_X11_findFacts_2 N K n S a0 x1 → XV D cA z0 s S H locs → lv_has ls 2 [(0, .ref a0), (1, .int x1)] → W p l e (rmd 7 0 0) s m args below meth c H locs 0 0 (MQ below (va_Qv K (XK D cA z0) (zA z0)) args s 0 0 (zA z0)) (F0 m 2 ls []) := by
  obtain ⟨hx, hb, hml, hown, hts, hK, hz, hlk, hr⟩ := id C
  intro n
  induction n with
  | zero => intro S a0 x1 H locs ls hM; exact absurd hM id
  | succ n ih =>
    intro S a0 x1 H locs ls hM hV hl
    rw [wq_X11_findFacts_2.eq_2] at hM
    refine lv_iload_n hx hb dX11_findFacts_2 rfl (lv_at hl 1 rfl) ?_
    refine lv_bipush (v := 7) hx hb dX11_findFacts_3 (by decide) ?_
    refine lv_icmp_ge (tgt := 25) hx hb dX11_findFacts_5 (by decide) (fun c1 => ?_) (fun c1 => ?_)
    · have hM := ite_t c1 hM
      exact x_vret C hV hM dX11_findFacts_25
    have hM := ite_f c1 hM
    refine lv_aload_n hx hb dX11_findFacts_8 rfl (lv_at hl 0 rfl) ?_
    have hk2 := hM.1
    have hM := hM.2
    obtain ⟨p3, hp3, hM⟩ := hM
    refine x_getR C hV wf_X11_50 hk2 hp3 dX11_findFacts_9 ?_
    refine lv_iload_n hx hb dX11_findFacts_12 rfl (lv_at hl 1 rfl) ?_
    refine lv_aload_n hx hb dX11_findFacts_13 rfl (lv_at hl 0 rfl) ?_
    refine lv_iload_n hx hb dX11_findFacts_14 rfl (lv_at hl 1 rfl) ?_
    refine x_ci hV (x_runV (As := [.int x1]) (rest := [.int x1, .ref p3]) C hV mi_X11_factOf wl_X11_370 hk2 (c_X11_factOf hM) ⟨by decide, by decide⟩ rfl hl.1 (Nat.le_of_ble_eq_true rfl) dX11_findFacts_15 ⟨Nat.zero_le _, Nat.zero_le _⟩) (fun r5 S4 H locs hV hM => ?_)
    have hk6 := hM.1
    have hM := hM.2
    have hi7 := hM.1
    have hM := hM.2
    obtain ⟨S8, eS8⟩ : ∃ z : PS, z = S4.setA p3 x1.toNatClampNeg r5 := ⟨_, rfl⟩
    have hM := hM S8 eS8
    refine x_iast C hV hk6 hi7 eS8 dX11_findFacts_18 (fun H locs hV => ?_)
    refine lv_iinc (v := (x1 + 1)) (lv' := [(1, .int (x1 + 1)), (0, .ref a0)]) hx hb dX11_findFacts_19 hl (k := 1) rfl rfl (by decide) rfl (fun ls hl => ?_)
    refine lv_goto (tgt := 2) hx hb dX11_findFacts_22 (by decide) ?_
    exact ih _ _ _ _ _ _ hM hV (lv_sub hl [1, 0] rfl)
set_option maxHeartbeats 4000000 in
set_option maxRecDepth 100000 in
theorem c_X11_findFacts {l : Launch} {D : DX} {cA : Nat → ClassId} {z0 N : Nat} {S : PS} {a0 : Nat} {K : PS → Prop} (hM : wp_X11_findFacts N S a0 K) : MetV l yX11_findFacts cX11_findFacts 2 none 7 0 0 D cA z0 [.ref a0] S K := by
  refine x_met RX11 (by decide) rfl ?_
  intro p e s m below meth c C hin hV
  have hl := lv_entry ([.ref a0]) (n := 2) (Nat.le_of_ble_eq_true rfl)
  rw [lg_entry_eq]
  generalize (lg_sl ([.ref a0]) ++ List.replicate (2 - (lg_sl ([.ref a0])).length) Slot.unset).toArray = ls at hl ⊢
  have hl : lv_has ls 2 [(0, .ref a0)] := hl
  obtain ⟨hx, hb, hml, hown, hts, hK, hz, hlk, hr⟩ := id C
  unfold wp_X11_findFacts at hM
  refine lv_iconst (v := 0) hx hb dX11_findFacts_0 (by decide) ?_
  refine lv_istore_n (lv' := [(1, .int 0), (0, .ref a0)]) hx hb dX11_findFacts_1 rfl hl (by decide) rfl (fun ls hl => ?_)
  exact tq_X11_findFacts_2 C N _ _ _ _ _ _ hM hV (lv_sub hl [1, 0] rfl)

def wq_X11_findsBy_75 (N : Nat) (K : Int32 → PS → Prop) (k_5 : PS → Nat → Int32 → Int32 → Int32 → Int32 → Prop) (S : PS) (a0 : Nat) (x1 : Int32) (x2 : Int32) (x4 : Int32) (t0 : Int32) (t1 : Int32) : Prop := ∀ v11 : Int32, v11 = (t0 + t1) → k_5 S a0 x1 x2 v11 (x4 + 1)
def wq_X11_findsBy_74 (N : Nat) (K : Int32 → PS → Prop) (k_5 : PS → Nat → Int32 → Int32 → Int32 → Int32 → Prop) (S : PS) (a0 : Nat) (x1 : Int32) (x2 : Int32) (x4 : Int32) (t0 : Int32) : Prop := wq_X11_findsBy_75 N K k_5 S a0 x1 x2 x4 t0 0
def wq_X11_findsBy_5 (N : Nat) (K : Int32 → PS → Prop) : Nat → PS → Nat → Int32 → Int32 → Int32 → Int32 → Prop
  | 0, _, _, _, _, _, _ => False
  | n + 1, S, a0, x1, x2, x3, x4 => S.K a0 = 12 ∧ ∃ p2 : Nat, S.R 777 a0 = some p2 ∧ S.K p2 = 20 ∧ vp_in ((16 * x1) + 1) (S.ln p2) ∧ if (S.A p2 ((16 * x1) + 1).toNatClampNeg) ≤ x4 then (K x3 S) else (∀ v6 : Int32, v6 = (((16 * x1) + 2) + (3 * x4)) → ∃ p7 : Nat, S.R 777 a0 = some p7 ∧ S.K p7 = 20 ∧ vp_in v6 (S.ln p7) ∧ if (S.A p7 v6.toNatClampNeg) = x2 then (∃ p12 : Nat, S.R 777 a0 = some p12 ∧ S.K p12 = 20 ∧ vp_in (v6 + 2) (S.ln p12) ∧ if (S.I 768 a0) < (S.A p12 (v6 + 2).toNatClampNeg) then (wq_X11_findsBy_74 N K (fun S a0 x1 x2 x3 x4 => wq_X11_findsBy_5 N K n S a0 x1 x2 x3 x4) S a0 x1 x2 x4 x3) else (∃ p16 : Nat, S.R 777 a0 = some p16 ∧ S.K p16 = 20 ∧ vp_in (v6 + 1) (S.ln p16) ∧ wq_X11_findsBy_75 N K (fun S a0 x1 x2 x3 x4 => wq_X11_findsBy_5 N K n S a0 x1 x2 x3 x4) S a0 x1 x2 x4 x3 (S.A p16 (v6 + 1).toNatClampNeg))) else (wq_X11_findsBy_74 N K (fun S a0 x1 x2 x3 x4 => wq_X11_findsBy_5 N K n S a0 x1 x2 x3 x4) S a0 x1 x2 x4 x3))
def wp_X11_findsBy (N : Nat) (S : PS) (a0 : Nat) (x1 : Int32) (x2 : Int32) (K : Int32 → PS → Prop) : Prop := wq_X11_findsBy_5 N K N S a0 x1 x2 0 0
set_option maxHeartbeats 4000000 in
set_option maxRecDepth 100000 in
theorem tq_X11_findsBy_75 {p : Program} {l : Launch} {e : Env} {s : State} {m : MethodId} {args : Array Value} {below : List Frame} {meth : Method} {c : Code} {D : DX} {cA : Nat → ClassId} {z0 N : Nat} {K : Int32 → PS → Prop} {k_5 : PS → Nat → Int32 → Int32 → Int32 → Int32 → Prop} (C : CX p s m args meth c cX11_findsBy 6 RX11 (some .int) D cA z0) (H_5 : ∀ (S : PS) (a0 : Nat) (x1 : Int32) (x2 : Int32) (x3 : Int32) (x4 : Int32) (H : Heap) (locs : List Loc) (ls : Array Slot), k_5 S a0 x1 x2 x3 x4 → XV D cA z0 s S H locs → lv_has ls 6 [(0, .ref a0), (1, .int x1), (2, .int x2), (3, .int x3), (4, .int x4)] → W p l e (rmd 0 0 0) s m args below meth c H locs 0 0 (MQ below (va_Qi K (XK D cA z0) (zA z0)) args s 0 0 (zA z0)) (F0 m 5 ls [])) : ∀ (S : PS) (a0 : Nat) (x1 : Int32) (x2 : Int32) (x4 : Int32) (t0 : Int32) (t1 : Int32) (H : Heap) (locs : List Loc) (ls : Array Slot), wq_X11_findsBy_75 N K k_5 S a0 x1 x2 x4 t0 t1 → XV D cA z0 s S H locs → lv_has ls 6 [(0, .ref a0), (1, .int x1), (2, .int x2), (4, .int x4)] → W p l e (rmd 0 0 0) s m args below meth c H locs 0 0 (MQ below (va_Qi K (XK D cA z0) (zA z0)) args s 0 0 (zA z0)) (F0 m 75 ls [.int t1, .int t0]) := by
  obtain ⟨hx, hb, hml, hown, hts, hK, hz, hlk, hr⟩ := id C
  intro S a0 x1 x2 x4 t0 t1 H locs ls hM hV hl
  unfold wq_X11_findsBy_75 at hM
  refine lv_iadd hx hb dX11_findsBy_75 ?_
  refine lv_topi (fun v11 ev11 => ?_)
  have hM := hM v11 ev11
  refine lv_istore_n (lv' := [(3, .int v11), (0, .ref a0), (1, .int x1), (2, .int x2), (4, .int x4)]) hx hb dX11_findsBy_76 rfl hl (by decide) rfl (fun ls hl => ?_)
  refine lv_iinc (v := (x4 + 1)) (lv' := [(4, .int (x4 + 1)), (3, .int v11), (0, .ref a0), (1, .int x1), (2, .int x2)]) hx hb dX11_findsBy_77 hl (k := 4) rfl rfl (by decide) rfl (fun ls hl => ?_)
  refine lv_goto (tgt := 5) hx hb dX11_findsBy_80 (by decide) ?_
  exact H_5 _ _ _ _ _ _ _ _ _ hM hV (lv_sub hl [2, 3, 4, 1, 0] rfl)
set_option maxHeartbeats 4000000 in
set_option maxRecDepth 100000 in
theorem tq_X11_findsBy_74 {p : Program} {l : Launch} {e : Env} {s : State} {m : MethodId} {args : Array Value} {below : List Frame} {meth : Method} {c : Code} {D : DX} {cA : Nat → ClassId} {z0 N : Nat} {K : Int32 → PS → Prop} {k_5 : PS → Nat → Int32 → Int32 → Int32 → Int32 → Prop} (C : CX p s m args meth c cX11_findsBy 6 RX11 (some .int) D cA z0) (H_5 : ∀ (S : PS) (a0 : Nat) (x1 : Int32) (x2 : Int32) (x3 : Int32) (x4 : Int32) (H : Heap) (locs : List Loc) (ls : Array Slot), k_5 S a0 x1 x2 x3 x4 → XV D cA z0 s S H locs → lv_has ls 6 [(0, .ref a0), (1, .int x1), (2, .int x2), (3, .int x3), (4, .int x4)] → W p l e (rmd 0 0 0) s m args below meth c H locs 0 0 (MQ below (va_Qi K (XK D cA z0) (zA z0)) args s 0 0 (zA z0)) (F0 m 5 ls [])) : ∀ (S : PS) (a0 : Nat) (x1 : Int32) (x2 : Int32) (x4 : Int32) (t0 : Int32) (H : Heap) (locs : List Loc) (ls : Array Slot), wq_X11_findsBy_74 N K k_5 S a0 x1 x2 x4 t0 → XV D cA z0 s S H locs → lv_has ls 6 [(0, .ref a0), (1, .int x1), (2, .int x2), (4, .int x4)] → W p l e (rmd 0 0 0) s m args below meth c H locs 0 0 (MQ below (va_Qi K (XK D cA z0) (zA z0)) args s 0 0 (zA z0)) (F0 m 74 ls [.int t0]) := by
  obtain ⟨hx, hb, hml, hown, hts, hK, hz, hlk, hr⟩ := id C
  intro S a0 x1 x2 x4 t0 H locs ls hM hV hl
  unfold wq_X11_findsBy_74 at hM
  refine lv_iconst (v := 0) hx hb dX11_findsBy_74 (by decide) ?_
  exact tq_X11_findsBy_75 C H_5 _ _ _ _ _ _ _ _ _ _ hM hV (lv_sub hl [0, 1, 2, 3] rfl)
set_option maxHeartbeats 4000000 in
set_option maxRecDepth 100000 in
theorem tq_X11_findsBy_5 {p : Program} {l : Launch} {e : Env} {s : State} {m : MethodId} {args : Array Value} {below : List Frame} {meth : Method} {c : Code} {D : DX} {cA : Nat → ClassId} {z0 N : Nat} {K : Int32 → PS → Prop} (C : CX p s m args meth c cX11_findsBy 6 RX11 (some .int) D cA z0) : ∀ (n : Nat) (S : PS) (a0 : Nat) (x1 : Int32) (x2 : Int32) (x3 : Int32) (x4 : Int32) (H : Heap) (locs : List Loc) (ls : Array Slot), wq_X11_findsBy_5 N K n S a0 x1 x2 x3 x4 → XV D cA z0 s S H locs → lv_has ls 6 [(0, .ref a0), (1, .int x1), (2, .int x2), (3, .int x3), (4, .int x4)] → W p l e (rmd 0 0 0) s m args below meth c H locs 0 0 (MQ below (va_Qi K (XK D cA z0) (zA z0)) args s 0 0 (zA z0)) (F0 m 5 ls []) := by
  obtain ⟨hx, hb, hml, hown, hts, hK, hz, hlk, hr⟩ := id C
  intro n
  induction n with
  | zero => intro S a0 x1 x2 x3 x4 H locs ls hM; exact absurd hM id
  | succ n ih =>
    intro S a0 x1 x2 x3 x4 H locs ls hM hV hl
    rw [wq_X11_findsBy_5.eq_2] at hM
    refine lv_iload hx hb dX11_findsBy_5 (lv_at hl 4 rfl) ?_
    refine lv_aload_n hx hb dX11_findsBy_7 rfl (lv_at hl 0 rfl) ?_
    have hk1 := hM.1
    have hM := hM.2
    obtain ⟨p2, hp2, hM⟩ := hM
    refine x_getR C hV wf_X11_20 hk1 hp2 dX11_findsBy_8 ?_
    refine lv_bipush (v := 16) hx hb dX11_findsBy_11 (by decide) ?_
    refine lv_iload_n hx hb dX11_findsBy_13 rfl (lv_at hl 1 rfl) ?_
    refine lv_imul hx hb dX11_findsBy_14 ?_
    refine lv_iconst (v := 1) hx hb dX11_findsBy_15 (by decide) ?_
    refine lv_iadd hx hb dX11_findsBy_16 ?_
    have hk3 := hM.1
    have hM := hM.2
    have hi4 := hM.1
    have hM := hM.2
    refine x_iald C hV hk3 hi4 dX11_findsBy_17 ?_
    refine lv_icmp_ge (tgt := 83) hx hb dX11_findsBy_18 (by decide) (fun c5 => ?_) (fun c5 => ?_)
    · have hM := ite_t c5 hM
      refine lv_iload_n hx hb dX11_findsBy_83 rfl (lv_at hl 3 rfl) ?_
      exact x_iret C hV hM dX11_findsBy_84
    have hM := ite_f c5 hM
    refine lv_bipush (v := 16) hx hb dX11_findsBy_21 (by decide) ?_
    refine lv_iload_n hx hb dX11_findsBy_23 rfl (lv_at hl 1 rfl) ?_
    refine lv_imul hx hb dX11_findsBy_24 ?_
    refine lv_iconst (v := 2) hx hb dX11_findsBy_25 (by decide) ?_
    refine lv_iadd hx hb dX11_findsBy_26 ?_
    refine lv_iconst (v := 3) hx hb dX11_findsBy_27 (by decide) ?_
    refine lv_iload hx hb dX11_findsBy_28 (lv_at hl 4 rfl) ?_
    refine lv_imul hx hb dX11_findsBy_30 ?_
    refine lv_iadd hx hb dX11_findsBy_31 ?_
    refine lv_topi (fun v6 ev6 => ?_)
    have hM := hM v6 ev6
    refine lv_istore (lv' := [(5, .int v6), (0, .ref a0), (1, .int x1), (2, .int x2), (3, .int x3), (4, .int x4)]) hx hb dX11_findsBy_32 hl (by decide) rfl (fun ls hl => ?_)
    refine lv_iload_n hx hb dX11_findsBy_34 rfl (lv_at hl 4 rfl) ?_
    refine lv_aload_n hx hb dX11_findsBy_35 rfl (lv_at hl 1 rfl) ?_
    obtain ⟨p7, hp7, hM⟩ := hM
    refine x_getR C hV wf_X11_20 hk1 hp7 dX11_findsBy_36 ?_
    refine lv_iload hx hb dX11_findsBy_39 (lv_at hl 0 rfl) ?_
    have hk8 := hM.1
    have hM := hM.2
    have hi9 := hM.1
    have hM := hM.2
    refine x_iald C hV hk8 hi9 dX11_findsBy_41 ?_
    refine lv_iload_n hx hb dX11_findsBy_42 rfl (lv_at hl 3 rfl) ?_
    refine lv_icmp_ne (tgt := 74) hx hb dX11_findsBy_43 (by decide) (fun c10 => ?_) (fun c10 => ?_)
    · have hM := ite_f c10 hM
      exact tq_X11_findsBy_74 C ih _ _ _ _ _ _ _ _ _ hM hV (lv_sub hl [1, 2, 3, 5] rfl)
    have hM := ite_t c10 hM
    refine lv_aload_n hx hb dX11_findsBy_46 rfl (lv_at hl 1 rfl) ?_
    obtain ⟨p12, hp12, hM⟩ := hM
    refine x_getR C hV wf_X11_20 hk1 hp12 dX11_findsBy_47 ?_
    refine lv_iload hx hb dX11_findsBy_50 (lv_at hl 0 rfl) ?_
    refine lv_iconst (v := 2) hx hb dX11_findsBy_52 (by decide) ?_
    refine lv_iadd hx hb dX11_findsBy_53 ?_
    have hk13 := hM.1
    have hM := hM.2
    have hi14 := hM.1
    have hM := hM.2
    refine x_iald C hV hk13 hi14 dX11_findsBy_54 ?_
    refine lv_aload_n hx hb dX11_findsBy_55 rfl (lv_at hl 1 rfl) ?_
    refine x_getI C hV wf_X11_103 hk1 dX11_findsBy_56 ?_
    refine lv_icmp_gt (tgt := 74) hx hb dX11_findsBy_59 (by decide) (fun c15 => ?_) (fun c15 => ?_)
    · have hM := ite_t c15 hM
      exact tq_X11_findsBy_74 C ih _ _ _ _ _ _ _ _ _ hM hV (lv_sub hl [1, 2, 3, 5] rfl)
    have hM := ite_f c15 hM
    refine lv_aload_n hx hb dX11_findsBy_62 rfl (lv_at hl 1 rfl) ?_
    obtain ⟨p16, hp16, hM⟩ := hM
    refine x_getR C hV wf_X11_20 hk1 hp16 dX11_findsBy_63 ?_
    refine lv_iload hx hb dX11_findsBy_66 (lv_at hl 0 rfl) ?_
    refine lv_iconst (v := 1) hx hb dX11_findsBy_68 (by decide) ?_
    refine lv_iadd hx hb dX11_findsBy_69 ?_
    have hk17 := hM.1
    have hM := hM.2
    have hi18 := hM.1
    have hM := hM.2
    refine x_iald C hV hk17 hi18 dX11_findsBy_70 ?_
    refine lv_goto (tgt := 75) hx hb dX11_findsBy_71 (by decide) ?_
    exact tq_X11_findsBy_75 C ih _ _ _ _ _ _ _ _ _ _ hM hV (lv_sub hl [1, 2, 3, 5] rfl)
set_option maxHeartbeats 4000000 in
set_option maxRecDepth 100000 in
theorem c_X11_findsBy {l : Launch} {D : DX} {cA : Nat → ClassId} {z0 N : Nat} {S : PS} {a0 : Nat} {x1 : Int32} {x2 : Int32} {K : Int32 → PS → Prop} (hM : wp_X11_findsBy N S a0 x1 x2 K) : MetI l yX11_findsBy cX11_findsBy 6 (some .int) 0 0 0 D cA z0 [.ref a0, .int x1, .int x2] S K := by
  refine x_met RX11 (by decide) rfl ?_
  intro p e s m below meth c C hin hV
  have hl := lv_entry ([.ref a0, .int x1, .int x2]) (n := 6) (Nat.le_of_ble_eq_true rfl)
  rw [lg_entry_eq]
  generalize (lg_sl ([.ref a0, .int x1, .int x2]) ++ List.replicate (6 - (lg_sl ([.ref a0, .int x1, .int x2])).length) Slot.unset).toArray = ls at hl ⊢
  have hl : lv_has ls 6 [(0, .ref a0), (1, .int x1), (2, .int x2)] := hl
  obtain ⟨hx, hb, hml, hown, hts, hK, hz, hlk, hr⟩ := id C
  unfold wp_X11_findsBy at hM
  refine lv_iconst (v := 0) hx hb dX11_findsBy_0 (by decide) ?_
  refine lv_istore_n (lv' := [(3, .int 0), (0, .ref a0), (1, .int x1), (2, .int x2)]) hx hb dX11_findsBy_1 rfl hl (by decide) rfl (fun ls hl => ?_)
  refine lv_iconst (v := 0) hx hb dX11_findsBy_2 (by decide) ?_
  refine lv_istore (lv' := [(4, .int 0), (3, .int 0), (0, .ref a0), (1, .int x1), (2, .int x2)]) hx hb dX11_findsBy_3 hl (by decide) rfl (fun ls hl => ?_)
  exact tq_X11_findsBy_5 C N _ _ _ _ _ _ _ _ _ hM hV (lv_sub hl [2, 3, 4, 1, 0] rfl)

def wp_X11_isStory (N : Nat) (S : PS) (a0 : Nat) (x1 : Int32) (K : Int32 → PS → Prop) : Prop := S.K a0 = 12 ∧ wp_X11_in N S x1 0 ((S.I 776 a0) - 1) (fun r3 S2 => (r3 = 0 ∨ r3 = 1) ∧ K r3 S2)
set_option maxHeartbeats 4000000 in
set_option maxRecDepth 100000 in
theorem c_X11_isStory {l : Launch} {D : DX} {cA : Nat → ClassId} {z0 N : Nat} {S : PS} {a0 : Nat} {x1 : Int32} {K : Int32 → PS → Prop} (hM : wp_X11_isStory N S a0 x1 K) : MetI l yX11_isStory cX11_isStory 2 (some .boolean) 1 0 0 D cA z0 [.ref a0, .int x1] S (fun r S => (r = 0 ∨ r = 1) ∧ K r S) := by
  refine x_met RX11 (by decide) rfl ?_
  intro p e s m below meth c C hin hV
  have hl := lv_entry ([.ref a0, .int x1]) (n := 2) (Nat.le_of_ble_eq_true rfl)
  rw [lg_entry_eq]
  generalize (lg_sl ([.ref a0, .int x1]) ++ List.replicate (2 - (lg_sl ([.ref a0, .int x1])).length) Slot.unset).toArray = ls at hl ⊢
  have hl : lv_has ls 2 [(0, .ref a0), (1, .int x1)] := hl
  obtain ⟨hx, hb, hml, hown, hts, hK, hz, hlk, hr⟩ := id C
  unfold wp_X11_isStory at hM
  refine lv_iload_n hx hb dX11_isStory_0 rfl (lv_at hl 1 rfl) ?_
  refine lv_iconst (v := 0) hx hb dX11_isStory_1 (by decide) ?_
  refine lv_aload_n hx hb dX11_isStory_2 rfl (lv_at hl 0 rfl) ?_
  have hk1 := hM.1
  have hM := hM.2
  refine x_getI C hV wf_X11_91 hk1 dX11_isStory_3 ?_
  refine lv_iconst (v := 1) hx hb dX11_isStory_6 (by decide) ?_
  refine lv_isub hx hb dX11_isStory_7 ?_
  refine x_ci hV (x_runS (As := [.int x1, .int 0, .int ((S.I 776 a0) - 1)]) (rest := []) C hV ms_X11_in wl_X11_87 (c_X11_in hM) ⟨by decide, by decide⟩ rfl hl.1 (Nat.le_of_ble_eq_true rfl) dX11_isStory_8 ⟨Nat.zero_le _, Nat.zero_le _⟩) (fun r3 S2 H locs hV hM => ?_)
  have hz4 := hM.1
  have hM := hM.2
  have hz5 := hM.1
  have hM := hM.2
  exact x_zret C hV hz5 hM dX11_isStory_11

def wp_X11_finds (N : Nat) (S : PS) (a0 : Nat) (x1 : Int32) (x2 : Int32) (K : Int32 → PS → Prop) : Prop := S.K a0 = 12 ∧ wp_X11_isStory N S a0 x1 (fun r3 S2 => if r3 = 0 then (K (-2147483648) S2) else (S2.K a0 = 12 ∧ wp_X11_isPart N S2 a0 x2 (fun r8 S7 => if r8 = 0 then (K (-2147483648) S7) else (S7.K a0 = 12 ∧ wp_X11_findsBy N S7 a0 x1 x2 (fun r13 S12 => K r13 S12)))))
set_option maxHeartbeats 4000000 in
set_option maxRecDepth 100000 in
theorem c_X11_finds {l : Launch} {D : DX} {cA : Nat → ClassId} {z0 N : Nat} {S : PS} {a0 : Nat} {x1 : Int32} {x2 : Int32} {K : Int32 → PS → Prop} (hM : wp_X11_finds N S a0 x1 x2 K) : MetI l yX11_finds cX11_finds 3 (some .int) 2 0 0 D cA z0 [.ref a0, .int x1, .int x2] S K := by
  refine x_met RX11 (by decide) rfl ?_
  intro p e s m below meth c C hin hV
  have hl := lv_entry ([.ref a0, .int x1, .int x2]) (n := 3) (Nat.le_of_ble_eq_true rfl)
  rw [lg_entry_eq]
  generalize (lg_sl ([.ref a0, .int x1, .int x2]) ++ List.replicate (3 - (lg_sl ([.ref a0, .int x1, .int x2])).length) Slot.unset).toArray = ls at hl ⊢
  have hl : lv_has ls 3 [(0, .ref a0), (1, .int x1), (2, .int x2)] := hl
  obtain ⟨hx, hb, hml, hown, hts, hK, hz, hlk, hr⟩ := id C
  unfold wp_X11_finds at hM
  refine lv_aload_n hx hb dX11_finds_0 rfl (lv_at hl 0 rfl) ?_
  refine lv_iload_n hx hb dX11_finds_1 rfl (lv_at hl 1 rfl) ?_
  have hk1 := hM.1
  have hM := hM.2
  refine x_ci hV (x_runV (As := [.int x1]) (rest := []) C hV mi_X11_isStory wl_X11_220 hk1 (c_X11_isStory hM) ⟨by decide, by decide⟩ rfl hl.1 (Nat.le_of_ble_eq_true rfl) dX11_finds_2 ⟨Nat.zero_le _, Nat.zero_le _⟩) (fun r3 S2 H locs hV hM => ?_)
  have hz4 := hM.1
  have hM := hM.2
  refine lv_if_eq (tgt := 25) hx hb dX11_finds_5 (by decide) (fun c5 => ?_) (fun c5 => ?_)
  · have hM := ite_t c5 hM
    refine lv_ldc hx hb hown (hts _ wc_X11_102) dX11_finds_25 ?_
    exact x_iret C hV hM dX11_finds_27
  have hM := ite_f c5 hM
  refine lv_aload_n hx hb dX11_finds_8 rfl (lv_at hl 0 rfl) ?_
  refine lv_iload_n hx hb dX11_finds_9 rfl (lv_at hl 2 rfl) ?_
  have hk6 := hM.1
  have hM := hM.2
  refine x_ci hV (x_runV (As := [.int x2]) (rest := []) C hV mi_X11_isPart wl_X11_98 hk6 (c_X11_isPart hM) ⟨by decide, by decide⟩ rfl hl.1 (Nat.le_of_ble_eq_true rfl) dX11_finds_10 ⟨Nat.zero_le _, Nat.zero_le _⟩) (fun r8 S7 H locs hV hM => ?_)
  have hz9 := hM.1
  have hM := hM.2
  refine lv_if_eq (tgt := 25) hx hb dX11_finds_13 (by decide) (fun c10 => ?_) (fun c10 => ?_)
  · have hM := ite_t c10 hM
    refine lv_ldc hx hb hown (hts _ wc_X11_102) dX11_finds_25 ?_
    exact x_iret C hV hM dX11_finds_27
  have hM := ite_f c10 hM
  refine lv_aload_n hx hb dX11_finds_16 rfl (lv_at hl 0 rfl) ?_
  refine lv_iload_n hx hb dX11_finds_17 rfl (lv_at hl 1 rfl) ?_
  refine lv_iload_n hx hb dX11_finds_18 rfl (lv_at hl 2 rfl) ?_
  have hk11 := hM.1
  have hM := hM.2
  refine x_ci hV (x_runV (As := [.int x1, .int x2]) (rest := []) C hV mi_X11_findsBy wl_X11_226 hk11 (c_X11_findsBy hM) ⟨by decide, by decide⟩ rfl hl.1 (Nat.le_of_ble_eq_true rfl) dX11_finds_19 ⟨Nat.zero_le _, Nat.zero_le _⟩) (fun r13 S12 H locs hV hM => ?_)
  refine lv_goto (tgt := 27) hx hb dX11_finds_22 (by decide) ?_
  exact x_iret C hV hM dX11_finds_27

def wq_X11_fits_121 (N : Nat) (K : Int32 → PS → Prop) (k_21 : PS → Nat → Int32 → Int32 → Int32 → Int32 → Prop) (k_36 : PS → Nat → Int32 → Int32 → Int32 → Int32 → Int32 → Prop) (k_55 : PS → Nat → Int32 → Int32 → Int32 → Int32 → Int32 → Int32 → Prop) (S : PS) (a0 : Nat) (x1 : Int32) (x2 : Int32) (x4 : Int32) (x5 : Int32) (x6 : Int32) (t0 : Int32) (t1 : Int32) : Prop := ∀ v32 : Int32, v32 = (t0 + t1) → k_55 S a0 x1 x2 v32 x4 x5 (x6 + 1)
def wq_X11_fits_120 (N : Nat) (K : Int32 → PS → Prop) (k_21 : PS → Nat → Int32 → Int32 → Int32 → Int32 → Prop) (k_36 : PS → Nat → Int32 → Int32 → Int32 → Int32 → Int32 → Prop) (k_55 : PS → Nat → Int32 → Int32 → Int32 → Int32 → Int32 → Int32 → Prop) (S : PS) (a0 : Nat) (x1 : Int32) (x2 : Int32) (x4 : Int32) (x5 : Int32) (x6 : Int32) (t0 : Int32) : Prop := wq_X11_fits_121 N K k_21 k_36 k_55 S a0 x1 x2 x4 x5 x6 t0 0
def wq_X11_fits_55 (N : Nat) (K : Int32 → PS → Prop) (k_21 : PS → Nat → Int32 → Int32 → Int32 → Int32 → Prop) (k_36 : PS → Nat → Int32 → Int32 → Int32 → Int32 → Int32 → Prop) : Nat → PS → Nat → Int32 → Int32 → Int32 → Int32 → Int32 → Int32 → Prop
  | 0, _, _, _, _, _, _, _, _ => False
  | n + 1, S, a0, x1, x2, x3, x4, x5, x6 => S.K a0 = 12 ∧ wp_X11_its N S a0 x4 3 (fun r19 S18 => if r19 < x6 then (k_36 S18 a0 x1 x2 x3 x4 (x5 + 1)) else (S18.K a0 = 12 ∧ wp_X11_isOn N S18 a0 x4 x1 (fun r23 S22 => if r23 = 0 then (k_36 S22 a0 x1 x2 x3 x4 (x5 + 1)) else (S22.K a0 = 12 ∧ wp_X11_isOn N S22 a0 x5 x1 (fun r28 S27 => if r28 = 0 then (k_36 S27 a0 x1 x2 x3 x4 (x5 + 1)) else (if x6 = 0 then (wq_X11_fits_120 N K k_21 k_36 (fun S a0 x1 x2 x3 x4 x5 x6 => wq_X11_fits_55 N K k_21 k_36 n S a0 x1 x2 x3 x4 x5 x6) S27 a0 x1 x2 x4 x5 x6 x3) else (if x2 = x6 then (wq_X11_fits_120 N K k_21 k_36 (fun S a0 x1 x2 x3 x4 x5 x6 => wq_X11_fits_55 N K k_21 k_36 n S a0 x1 x2 x3 x4 x5 x6) S27 a0 x1 x2 x4 x5 x6 x3) else (wp_X11_size N S27 (x2 - x6) (fun r35 S34 => S34.K a0 = 12 ∧ wp_X11_its N S34 a0 x5 3 (fun r38 S37 => if r38 < r35 then (wq_X11_fits_120 N K k_21 k_36 (fun S a0 x1 x2 x3 x4 x5 x6 => wq_X11_fits_55 N K k_21 k_36 n S a0 x1 x2 x3 x4 x5 x6) S37 a0 x1 x2 x4 x5 x6 x3) else (wq_X11_fits_121 N K k_21 k_36 (fun S a0 x1 x2 x3 x4 x5 x6 => wq_X11_fits_55 N K k_21 k_36 n S a0 x1 x2 x3 x4 x5 x6) S37 a0 x1 x2 x4 x5 x6 x3 1)))))))))))
def wq_X11_fits_36 (N : Nat) (K : Int32 → PS → Prop) (k_21 : PS → Nat → Int32 → Int32 → Int32 → Int32 → Prop) : Nat → PS → Nat → Int32 → Int32 → Int32 → Int32 → Int32 → Prop
  | 0, _, _, _, _, _, _, _ => False
  | n + 1, S, a0, x1, x2, x3, x4, x5 => S.K a0 = 12 ∧ if (S.I 772 a0) ≤ x5 then (k_21 S a0 x1 x2 x3 (x4 + 1)) else (wp_X11_its N S a0 x4 3 (fun r15 S14 => ∀ v16 : Int32, v16 = (-r15) → wq_X11_fits_55 N K k_21 (fun S a0 x1 x2 x3 x4 x5 => wq_X11_fits_36 N K k_21 n S a0 x1 x2 x3 x4 x5) N S14 a0 x1 x2 x3 x4 x5 v16))
def wq_X11_fits_21 (N : Nat) (K : Int32 → PS → Prop) : Nat → PS → Nat → Int32 → Int32 → Int32 → Int32 → Prop
  | 0, _, _, _, _, _, _ => False
  | n + 1, S, a0, x1, x2, x3, x4 => S.K a0 = 12 ∧ if (S.I 772 a0) ≤ x4 then (K x3 S) else (∀ v11 : Int32, v11 = (x4 + 1) → wq_X11_fits_36 N K (fun S a0 x1 x2 x3 x4 => wq_X11_fits_21 N K n S a0 x1 x2 x3 x4) N S a0 x1 x2 x3 x4 v11)
def wp_X11_fits (N : Nat) (S : PS) (a0 : Nat) (x1 : Int32) (x2 : Int32) (K : Int32 → PS → Prop) : Prop := wp_X11_isSide N S x1 (fun r2 S1 => if r2 = 0 then (K (-1) S1) else (wp_X11_isFar N S1 x2 (fun r6 S5 => if r6 = 0 then (K (-1) S5) else (wq_X11_fits_21 N K N S5 a0 x1 x2 0 0))))
set_option maxHeartbeats 4000000 in
set_option maxRecDepth 100000 in
theorem tq_X11_fits_121 {p : Program} {l : Launch} {e : Env} {s : State} {m : MethodId} {args : Array Value} {below : List Frame} {meth : Method} {c : Code} {D : DX} {cA : Nat → ClassId} {z0 N : Nat} {K : Int32 → PS → Prop} {k_21 : PS → Nat → Int32 → Int32 → Int32 → Int32 → Prop} {k_36 : PS → Nat → Int32 → Int32 → Int32 → Int32 → Int32 → Prop} {k_55 : PS → Nat → Int32 → Int32 → Int32 → Int32 → Int32 → Int32 → Prop} (C : CX p s m args meth c cX11_fits 7 RX11 (some .int) D cA z0) (H_21 : ∀ (S : PS) (a0 : Nat) (x1 : Int32) (x2 : Int32) (x3 : Int32) (x4 : Int32) (H : Heap) (locs : List Loc) (ls : Array Slot), k_21 S a0 x1 x2 x3 x4 → XV D cA z0 s S H locs → lv_has ls 7 [(0, .ref a0), (1, .int x1), (2, .int x2), (3, .int x3), (4, .int x4)] → W p l e (rmd 2 0 0) s m args below meth c H locs 0 0 (MQ below (va_Qi K (XK D cA z0) (zA z0)) args s 0 0 (zA z0)) (F0 m 21 ls [])) (H_36 : ∀ (S : PS) (a0 : Nat) (x1 : Int32) (x2 : Int32) (x3 : Int32) (x4 : Int32) (x5 : Int32) (H : Heap) (locs : List Loc) (ls : Array Slot), k_36 S a0 x1 x2 x3 x4 x5 → XV D cA z0 s S H locs → lv_has ls 7 [(0, .ref a0), (1, .int x1), (2, .int x2), (3, .int x3), (4, .int x4), (5, .int x5)] → W p l e (rmd 2 0 0) s m args below meth c H locs 0 0 (MQ below (va_Qi K (XK D cA z0) (zA z0)) args s 0 0 (zA z0)) (F0 m 36 ls [])) (H_55 : ∀ (S : PS) (a0 : Nat) (x1 : Int32) (x2 : Int32) (x3 : Int32) (x4 : Int32) (x5 : Int32) (x6 : Int32) (H : Heap) (locs : List Loc) (ls : Array Slot), k_55 S a0 x1 x2 x3 x4 x5 x6 → XV D cA z0 s S H locs → lv_has ls 7 [(0, .ref a0), (1, .int x1), (2, .int x2), (3, .int x3), (4, .int x4), (5, .int x5), (6, .int x6)] → W p l e (rmd 2 0 0) s m args below meth c H locs 0 0 (MQ below (va_Qi K (XK D cA z0) (zA z0)) args s 0 0 (zA z0)) (F0 m 55 ls [])) : ∀ (S : PS) (a0 : Nat) (x1 : Int32) (x2 : Int32) (x4 : Int32) (x5 : Int32) (x6 : Int32) (t0 : Int32) (t1 : Int32) (H : Heap) (locs : List Loc) (ls : Array Slot), wq_X11_fits_121 N K k_21 k_36 k_55 S a0 x1 x2 x4 x5 x6 t0 t1 → XV D cA z0 s S H locs → lv_has ls 7 [(0, .ref a0), (1, .int x1), (2, .int x2), (4, .int x4), (5, .int x5), (6, .int x6)] → W p l e (rmd 2 0 0) s m args below meth c H locs 0 0 (MQ below (va_Qi K (XK D cA z0) (zA z0)) args s 0 0 (zA z0)) (F0 m 121 ls [.int t1, .int t0]) := by
  obtain ⟨hx, hb, hml, hown, hts, hK, hz, hlk, hr⟩ := id C
  intro S a0 x1 x2 x4 x5 x6 t0 t1 H locs ls hM hV hl
  unfold wq_X11_fits_121 at hM
  refine lv_iadd hx hb dX11_fits_121 ?_
  refine lv_topi (fun v32 ev32 => ?_)
  have hM := hM v32 ev32
  refine lv_istore_n (lv' := [(3, .int v32), (0, .ref a0), (1, .int x1), (2, .int x2), (4, .int x4), (5, .int x5), (6, .int x6)]) hx hb dX11_fits_122 rfl hl (by decide) rfl (fun ls hl => ?_)
  refine lv_iinc (v := (x6 + 1)) (lv' := [(6, .int (x6 + 1)), (3, .int v32), (0, .ref a0), (1, .int x1), (2, .int x2), (4, .int x4), (5, .int x5)]) hx hb dX11_fits_123 hl (k := 6) rfl rfl (by decide) rfl (fun ls hl => ?_)
  refine lv_goto (tgt := 55) hx hb dX11_fits_126 (by decide) ?_
  exact H_55 _ _ _ _ _ _ _ _ _ _ _ hM hV (lv_sub hl [2, 3, 4, 1, 5, 6, 0] rfl)
set_option maxHeartbeats 4000000 in
set_option maxRecDepth 100000 in
theorem tq_X11_fits_120 {p : Program} {l : Launch} {e : Env} {s : State} {m : MethodId} {args : Array Value} {below : List Frame} {meth : Method} {c : Code} {D : DX} {cA : Nat → ClassId} {z0 N : Nat} {K : Int32 → PS → Prop} {k_21 : PS → Nat → Int32 → Int32 → Int32 → Int32 → Prop} {k_36 : PS → Nat → Int32 → Int32 → Int32 → Int32 → Int32 → Prop} {k_55 : PS → Nat → Int32 → Int32 → Int32 → Int32 → Int32 → Int32 → Prop} (C : CX p s m args meth c cX11_fits 7 RX11 (some .int) D cA z0) (H_21 : ∀ (S : PS) (a0 : Nat) (x1 : Int32) (x2 : Int32) (x3 : Int32) (x4 : Int32) (H : Heap) (locs : List Loc) (ls : Array Slot), k_21 S a0 x1 x2 x3 x4 → XV D cA z0 s S H locs → lv_has ls 7 [(0, .ref a0), (1, .int x1), (2, .int x2), (3, .int x3), (4, .int x4)] → W p l e (rmd 2 0 0) s m args below meth c H locs 0 0 (MQ below (va_Qi K (XK D cA z0) (zA z0)) args s 0 0 (zA z0)) (F0 m 21 ls [])) (H_36 : ∀ (S : PS) (a0 : Nat) (x1 : Int32) (x2 : Int32) (x3 : Int32) (x4 : Int32) (x5 : Int32) (H : Heap) (locs : List Loc) (ls : Array Slot), k_36 S a0 x1 x2 x3 x4 x5 → XV D cA z0 s S H locs → lv_has ls 7 [(0, .ref a0), (1, .int x1), (2, .int x2), (3, .int x3), (4, .int x4), (5, .int x5)] → W p l e (rmd 2 0 0) s m args below meth c H locs 0 0 (MQ below (va_Qi K (XK D cA z0) (zA z0)) args s 0 0 (zA z0)) (F0 m 36 ls [])) (H_55 : ∀ (S : PS) (a0 : Nat) (x1 : Int32) (x2 : Int32) (x3 : Int32) (x4 : Int32) (x5 : Int32) (x6 : Int32) (H : Heap) (locs : List Loc) (ls : Array Slot), k_55 S a0 x1 x2 x3 x4 x5 x6 → XV D cA z0 s S H locs → lv_has ls 7 [(0, .ref a0), (1, .int x1), (2, .int x2), (3, .int x3), (4, .int x4), (5, .int x5), (6, .int x6)] → W p l e (rmd 2 0 0) s m args below meth c H locs 0 0 (MQ below (va_Qi K (XK D cA z0) (zA z0)) args s 0 0 (zA z0)) (F0 m 55 ls [])) : ∀ (S : PS) (a0 : Nat) (x1 : Int32) (x2 : Int32) (x4 : Int32) (x5 : Int32) (x6 : Int32) (t0 : Int32) (H : Heap) (locs : List Loc) (ls : Array Slot), wq_X11_fits_120 N K k_21 k_36 k_55 S a0 x1 x2 x4 x5 x6 t0 → XV D cA z0 s S H locs → lv_has ls 7 [(0, .ref a0), (1, .int x1), (2, .int x2), (4, .int x4), (5, .int x5), (6, .int x6)] → W p l e (rmd 2 0 0) s m args below meth c H locs 0 0 (MQ below (va_Qi K (XK D cA z0) (zA z0)) args s 0 0 (zA z0)) (F0 m 120 ls [.int t0]) := by
  obtain ⟨hx, hb, hml, hown, hts, hK, hz, hlk, hr⟩ := id C
  intro S a0 x1 x2 x4 x5 x6 t0 H locs ls hM hV hl
  unfold wq_X11_fits_120 at hM
  refine lv_iconst (v := 0) hx hb dX11_fits_120 (by decide) ?_
  exact tq_X11_fits_121 C H_21 H_36 H_55 _ _ _ _ _ _ _ _ _ _ _ _ hM hV (lv_sub hl [0, 1, 2, 3, 4, 5] rfl)
set_option maxHeartbeats 4000000 in
set_option maxRecDepth 100000 in
theorem tq_X11_fits_55 {p : Program} {l : Launch} {e : Env} {s : State} {m : MethodId} {args : Array Value} {below : List Frame} {meth : Method} {c : Code} {D : DX} {cA : Nat → ClassId} {z0 N : Nat} {K : Int32 → PS → Prop} {k_21 : PS → Nat → Int32 → Int32 → Int32 → Int32 → Prop} {k_36 : PS → Nat → Int32 → Int32 → Int32 → Int32 → Int32 → Prop} (C : CX p s m args meth c cX11_fits 7 RX11 (some .int) D cA z0) (H_21 : ∀ (S : PS) (a0 : Nat) (x1 : Int32) (x2 : Int32) (x3 : Int32) (x4 : Int32) (H : Heap) (locs : List Loc) (ls : Array Slot), k_21 S a0 x1 x2 x3 x4 → XV D cA z0 s S H locs → lv_has ls 7 [(0, .ref a0), (1, .int x1), (2, .int x2), (3, .int x3), (4, .int x4)] → W p l e (rmd 2 0 0) s m args below meth c H locs 0 0 (MQ below (va_Qi K (XK D cA z0) (zA z0)) args s 0 0 (zA z0)) (F0 m 21 ls [])) (H_36 : ∀ (S : PS) (a0 : Nat) (x1 : Int32) (x2 : Int32) (x3 : Int32) (x4 : Int32) (x5 : Int32) (H : Heap) (locs : List Loc) (ls : Array Slot), k_36 S a0 x1 x2 x3 x4 x5 → XV D cA z0 s S H locs → lv_has ls 7 [(0, .ref a0), (1, .int x1), (2, .int x2), (3, .int x3), (4, .int x4), (5, .int x5)] → W p l e (rmd 2 0 0) s m args below meth c H locs 0 0 (MQ below (va_Qi K (XK D cA z0) (zA z0)) args s 0 0 (zA z0)) (F0 m 36 ls [])) : ∀ (n : Nat) (S : PS) (a0 : Nat) (x1 : Int32) (x2 : Int32) (x3 : Int32) (x4 : Int32) (x5 : Int32) (x6 : Int32) (H : Heap) (locs : List Loc) (ls : Array Slot), wq_X11_fits_55 N K k_21 k_36 n S a0 x1 x2 x3 x4 x5 x6 → XV D cA z0 s S H locs → lv_has ls 7 [(0, .ref a0), (1, .int x1), (2, .int x2), (3, .int x3), (4, .int x4), (5, .int x5), (6, .int x6)] → W p l e (rmd 2 0 0) s m args below meth c H locs 0 0 (MQ below (va_Qi K (XK D cA z0) (zA z0)) args s 0 0 (zA z0)) (F0 m 55 ls []) := by
  obtain ⟨hx, hb, hml, hown, hts, hK, hz, hlk, hr⟩ := id C
  intro n
  induction n with
  | zero => intro S a0 x1 x2 x3 x4 x5 x6 H locs ls hM; exact absurd hM id
  | succ n ih =>
    intro S a0 x1 x2 x3 x4 x5 x6 H locs ls hM hV hl
    rw [wq_X11_fits_55.eq_2] at hM
    refine lv_iload hx hb dX11_fits_55 (lv_at hl 6 rfl) ?_
    refine lv_aload_n hx hb dX11_fits_57 rfl (lv_at hl 0 rfl) ?_
    refine lv_iload hx hb dX11_fits_58 (lv_at hl 4 rfl) ?_
    refine lv_iconst (v := 3) hx hb dX11_fits_60 (by decide) ?_
    have hk17 := hM.1
    have hM := hM.2
    refine x_ci hV (x_runV (As := [.int x4, .int 3]) (rest := [.int x6]) C hV mi_X11_its wl_X11_94 hk17 (c_X11_its hM) ⟨by decide, by decide⟩ rfl hl.1 (Nat.le_of_ble_eq_true rfl) dX11_fits_61 ⟨Nat.zero_le _, Nat.zero_le _⟩) (fun r19 S18 H locs hV hM => ?_)
    refine lv_icmp_gt (tgt := 129) hx hb dX11_fits_64 (by decide) (fun c20 => ?_) (fun c20 => ?_)
    · have hM := ite_t c20 hM
      refine lv_iinc (v := (x5 + 1)) (lv' := [(5, .int (x5 + 1)), (0, .ref a0), (1, .int x1), (2, .int x2), (3, .int x3), (4, .int x4), (6, .int x6)]) hx hb dX11_fits_129 hl (k := 5) rfl rfl (by decide) rfl (fun ls hl => ?_)
      refine lv_goto (tgt := 36) hx hb dX11_fits_132 (by decide) ?_
      exact H_36 _ _ _ _ _ _ _ _ _ _ hM hV (lv_sub hl [1, 2, 3, 4, 5, 0] rfl)
    have hM := ite_f c20 hM
    refine lv_aload_n hx hb dX11_fits_67 rfl (lv_at hl 0 rfl) ?_
    refine lv_iload hx hb dX11_fits_68 (lv_at hl 4 rfl) ?_
    refine lv_iload_n hx hb dX11_fits_70 rfl (lv_at hl 1 rfl) ?_
    have hk21 := hM.1
    have hM := hM.2
    refine x_ci hV (x_runV (As := [.int x4, .int x1]) (rest := []) C hV mi_X11_isOn wl_X11_123 hk21 (c_X11_isOn hM) ⟨by decide, by decide⟩ rfl hl.1 (Nat.le_of_ble_eq_true rfl) dX11_fits_71 ⟨Nat.zero_le _, Nat.zero_le _⟩) (fun r23 S22 H locs hV hM => ?_)
    have hz24 := hM.1
    have hM := hM.2
    refine lv_if_eq (tgt := 129) hx hb dX11_fits_74 (by decide) (fun c25 => ?_) (fun c25 => ?_)
    · have hM := ite_t c25 hM
      refine lv_iinc (v := (x5 + 1)) (lv' := [(5, .int (x5 + 1)), (0, .ref a0), (1, .int x1), (2, .int x2), (3, .int x3), (4, .int x4), (6, .int x6)]) hx hb dX11_fits_129 hl (k := 5) rfl rfl (by decide) rfl (fun ls hl => ?_)
      refine lv_goto (tgt := 36) hx hb dX11_fits_132 (by decide) ?_
      exact H_36 _ _ _ _ _ _ _ _ _ _ hM hV (lv_sub hl [1, 2, 3, 4, 5, 0] rfl)
    have hM := ite_f c25 hM
    refine lv_aload_n hx hb dX11_fits_77 rfl (lv_at hl 0 rfl) ?_
    refine lv_iload hx hb dX11_fits_78 (lv_at hl 5 rfl) ?_
    refine lv_iload_n hx hb dX11_fits_80 rfl (lv_at hl 1 rfl) ?_
    have hk26 := hM.1
    have hM := hM.2
    refine x_ci hV (x_runV (As := [.int x5, .int x1]) (rest := []) C hV mi_X11_isOn wl_X11_123 hk26 (c_X11_isOn hM) ⟨by decide, by decide⟩ rfl hl.1 (Nat.le_of_ble_eq_true rfl) dX11_fits_81 ⟨Nat.zero_le _, Nat.zero_le _⟩) (fun r28 S27 H locs hV hM => ?_)
    have hz29 := hM.1
    have hM := hM.2
    refine lv_if_eq (tgt := 129) hx hb dX11_fits_84 (by decide) (fun c30 => ?_) (fun c30 => ?_)
    · have hM := ite_t c30 hM
      refine lv_iinc (v := (x5 + 1)) (lv' := [(5, .int (x5 + 1)), (0, .ref a0), (1, .int x1), (2, .int x2), (3, .int x3), (4, .int x4), (6, .int x6)]) hx hb dX11_fits_129 hl (k := 5) rfl rfl (by decide) rfl (fun ls hl => ?_)
      refine lv_goto (tgt := 36) hx hb dX11_fits_132 (by decide) ?_
      exact H_36 _ _ _ _ _ _ _ _ _ _ hM hV (lv_sub hl [1, 2, 3, 4, 5, 0] rfl)
    have hM := ite_f c30 hM
    refine lv_iload_n hx hb dX11_fits_87 rfl (lv_at hl 3 rfl) ?_
    refine lv_iload hx hb dX11_fits_88 (lv_at hl 6 rfl) ?_
    refine lv_if_eq (tgt := 120) hx hb dX11_fits_90 (by decide) (fun c31 => ?_) (fun c31 => ?_)
    · have hM := ite_t c31 hM
      exact tq_X11_fits_120 C H_21 H_36 ih _ _ _ _ _ _ _ _ _ _ _ hM hV (lv_sub hl [0, 1, 2, 4, 5, 6] rfl)
    have hM := ite_f c31 hM
    refine lv_iload_n hx hb dX11_fits_93 rfl (lv_at hl 2 rfl) ?_
    refine lv_iload hx hb dX11_fits_94 (lv_at hl 6 rfl) ?_
    refine lv_icmp_eq (tgt := 120) hx hb dX11_fits_96 (by decide) (fun c33 => ?_) (fun c33 => ?_)
    · have hM := ite_t c33 hM
      exact tq_X11_fits_120 C H_21 H_36 ih _ _ _ _ _ _ _ _ _ _ _ hM hV (lv_sub hl [0, 1, 2, 4, 5, 6] rfl)
    have hM := ite_f c33 hM
    refine lv_iload_n hx hb dX11_fits_99 rfl (lv_at hl 2 rfl) ?_
    refine lv_iload hx hb dX11_fits_100 (lv_at hl 6 rfl) ?_
    refine lv_isub hx hb dX11_fits_102 ?_
    refine x_ci hV (x_runS (As := [.int (x2 - x6)]) (rest := [.int x3]) C hV ms_X11_size wl_X11_229 (c_X11_size hM) ⟨by decide, by decide⟩ rfl hl.1 (Nat.le_of_ble_eq_true rfl) dX11_fits_103 ⟨Nat.zero_le _, Nat.zero_le _⟩) (fun r35 S34 H locs hV hM => ?_)
    refine lv_aload_n hx hb dX11_fits_106 rfl (lv_at hl 0 rfl) ?_
    refine lv_iload hx hb dX11_fits_107 (lv_at hl 5 rfl) ?_
    refine lv_iconst (v := 3) hx hb dX11_fits_109 (by decide) ?_
    have hk36 := hM.1
    have hM := hM.2
    refine x_ci hV (x_runV (As := [.int x5, .int 3]) (rest := [.int r35, .int x3]) C hV mi_X11_its wl_X11_94 hk36 (c_X11_its hM) ⟨by decide, by decide⟩ rfl hl.1 (Nat.le_of_ble_eq_true rfl) dX11_fits_110 ⟨Nat.zero_le _, Nat.zero_le _⟩) (fun r38 S37 H locs hV hM => ?_)
    refine lv_icmp_gt (tgt := 120) hx hb dX11_fits_113 (by decide) (fun c39 => ?_) (fun c39 => ?_)
    · have hM := ite_t c39 hM
      exact tq_X11_fits_120 C H_21 H_36 ih _ _ _ _ _ _ _ _ _ _ _ hM hV (lv_sub hl [0, 1, 2, 4, 5, 6] rfl)
    have hM := ite_f c39 hM
    refine lv_iconst (v := 1) hx hb dX11_fits_116 (by decide) ?_
    refine lv_goto (tgt := 121) hx hb dX11_fits_117 (by decide) ?_
    exact tq_X11_fits_121 C H_21 H_36 ih _ _ _ _ _ _ _ _ _ _ _ _ hM hV (lv_sub hl [0, 1, 2, 4, 5, 6] rfl)
set_option maxHeartbeats 4000000 in
set_option maxRecDepth 100000 in
theorem tq_X11_fits_36 {p : Program} {l : Launch} {e : Env} {s : State} {m : MethodId} {args : Array Value} {below : List Frame} {meth : Method} {c : Code} {D : DX} {cA : Nat → ClassId} {z0 N : Nat} {K : Int32 → PS → Prop} {k_21 : PS → Nat → Int32 → Int32 → Int32 → Int32 → Prop} (C : CX p s m args meth c cX11_fits 7 RX11 (some .int) D cA z0) (H_21 : ∀ (S : PS) (a0 : Nat) (x1 : Int32) (x2 : Int32) (x3 : Int32) (x4 : Int32) (H : Heap) (locs : List Loc) (ls : Array Slot), k_21 S a0 x1 x2 x3 x4 → XV D cA z0 s S H locs → lv_has ls 7 [(0, .ref a0), (1, .int x1), (2, .int x2), (3, .int x3), (4, .int x4)] → W p l e (rmd 2 0 0) s m args below meth c H locs 0 0 (MQ below (va_Qi K (XK D cA z0) (zA z0)) args s 0 0 (zA z0)) (F0 m 21 ls [])) : ∀ (n : Nat) (S : PS) (a0 : Nat) (x1 : Int32) (x2 : Int32) (x3 : Int32) (x4 : Int32) (x5 : Int32) (H : Heap) (locs : List Loc) (ls : Array Slot), wq_X11_fits_36 N K k_21 n S a0 x1 x2 x3 x4 x5 → XV D cA z0 s S H locs → lv_has ls 7 [(0, .ref a0), (1, .int x1), (2, .int x2), (3, .int x3), (4, .int x4), (5, .int x5)] → W p l e (rmd 2 0 0) s m args below meth c H locs 0 0 (MQ below (va_Qi K (XK D cA z0) (zA z0)) args s 0 0 (zA z0)) (F0 m 36 ls []) := by
  obtain ⟨hx, hb, hml, hown, hts, hK, hz, hlk, hr⟩ := id C
  intro n
  induction n with
  | zero => intro S a0 x1 x2 x3 x4 x5 H locs ls hM; exact absurd hM id
  | succ n ih =>
    intro S a0 x1 x2 x3 x4 x5 H locs ls hM hV hl
    rw [wq_X11_fits_36.eq_2] at hM
    refine lv_iload hx hb dX11_fits_36 (lv_at hl 5 rfl) ?_
    refine lv_aload_n hx hb dX11_fits_38 rfl (lv_at hl 0 rfl) ?_
    have hk12 := hM.1
    have hM := hM.2
    refine x_getI C hV wf_X11_84 hk12 dX11_fits_39 ?_
    refine lv_icmp_ge (tgt := 135) hx hb dX11_fits_42 (by decide) (fun c13 => ?_) (fun c13 => ?_)
    · have hM := ite_t c13 hM
      refine lv_iinc (v := (x4 + 1)) (lv' := [(4, .int (x4 + 1)), (0, .ref a0), (1, .int x1), (2, .int x2), (3, .int x3), (5, .int x5)]) hx hb dX11_fits_135 hl (k := 4) rfl rfl (by decide) rfl (fun ls hl => ?_)
      refine lv_goto (tgt := 21) hx hb dX11_fits_138 (by decide) ?_
      exact H_21 _ _ _ _ _ _ _ _ _ hM hV (lv_sub hl [1, 2, 3, 4, 0] rfl)
    have hM := ite_f c13 hM
    refine lv_aload_n hx hb dX11_fits_45 rfl (lv_at hl 0 rfl) ?_
    refine lv_iload hx hb dX11_fits_46 (lv_at hl 4 rfl) ?_
    refine lv_iconst (v := 3) hx hb dX11_fits_48 (by decide) ?_
    refine x_ci hV (x_runV (As := [.int x4, .int 3]) (rest := []) C hV mi_X11_its wl_X11_94 hk12 (c_X11_its hM) ⟨by decide, by decide⟩ rfl hl.1 (Nat.le_of_ble_eq_true rfl) dX11_fits_49 ⟨Nat.zero_le _, Nat.zero_le _⟩) (fun r15 S14 H locs hV hM => ?_)
    refine lv_ineg hx hb dX11_fits_52 ?_
    refine lv_topi (fun v16 ev16 => ?_)
    have hM := hM v16 ev16
    refine lv_istore (lv' := [(6, .int v16), (0, .ref a0), (1, .int x1), (2, .int x2), (3, .int x3), (4, .int x4), (5, .int x5)]) hx hb dX11_fits_53 hl (by decide) rfl (fun ls hl => ?_)
    exact tq_X11_fits_55 C H_21 ih N _ _ _ _ _ _ _ _ _ _ _ hM hV (lv_sub hl [1, 2, 3, 4, 5, 6, 0] rfl)
set_option maxHeartbeats 4000000 in
set_option maxRecDepth 100000 in
theorem tq_X11_fits_21 {p : Program} {l : Launch} {e : Env} {s : State} {m : MethodId} {args : Array Value} {below : List Frame} {meth : Method} {c : Code} {D : DX} {cA : Nat → ClassId} {z0 N : Nat} {K : Int32 → PS → Prop} (C : CX p s m args meth c cX11_fits 7 RX11 (some .int) D cA z0) : ∀ (n : Nat) (S : PS) (a0 : Nat) (x1 : Int32) (x2 : Int32) (x3 : Int32) (x4 : Int32) (H : Heap) (locs : List Loc) (ls : Array Slot), wq_X11_fits_21 N K n S a0 x1 x2 x3 x4 → XV D cA z0 s S H locs → lv_has ls 7 [(0, .ref a0), (1, .int x1), (2, .int x2), (3, .int x3), (4, .int x4)] → W p l e (rmd 2 0 0) s m args below meth c H locs 0 0 (MQ below (va_Qi K (XK D cA z0) (zA z0)) args s 0 0 (zA z0)) (F0 m 21 ls []) := by
  obtain ⟨hx, hb, hml, hown, hts, hK, hz, hlk, hr⟩ := id C
  intro n
  induction n with
  | zero => intro S a0 x1 x2 x3 x4 H locs ls hM; exact absurd hM id
  | succ n ih =>
    intro S a0 x1 x2 x3 x4 H locs ls hM hV hl
    rw [wq_X11_fits_21.eq_2] at hM
    refine lv_iload hx hb dX11_fits_21 (lv_at hl 4 rfl) ?_
    refine lv_aload_n hx hb dX11_fits_23 rfl (lv_at hl 0 rfl) ?_
    have hk9 := hM.1
    have hM := hM.2
    refine x_getI C hV wf_X11_84 hk9 dX11_fits_24 ?_
    refine lv_icmp_ge (tgt := 141) hx hb dX11_fits_27 (by decide) (fun c10 => ?_) (fun c10 => ?_)
    · have hM := ite_t c10 hM
      refine lv_iload_n hx hb dX11_fits_141 rfl (lv_at hl 3 rfl) ?_
      exact x_iret C hV hM dX11_fits_142
    have hM := ite_f c10 hM
    refine lv_iload hx hb dX11_fits_30 (lv_at hl 4 rfl) ?_
    refine lv_iconst (v := 1) hx hb dX11_fits_32 (by decide) ?_
    refine lv_iadd hx hb dX11_fits_33 ?_
    refine lv_topi (fun v11 ev11 => ?_)
    have hM := hM v11 ev11
    refine lv_istore (lv' := [(5, .int v11), (0, .ref a0), (1, .int x1), (2, .int x2), (3, .int x3), (4, .int x4)]) hx hb dX11_fits_34 hl (by decide) rfl (fun ls hl => ?_)
    exact tq_X11_fits_36 C ih N _ _ _ _ _ _ _ _ _ _ hM hV (lv_sub hl [1, 2, 3, 4, 5, 0] rfl)
set_option maxHeartbeats 4000000 in
set_option maxRecDepth 100000 in
theorem c_X11_fits {l : Launch} {D : DX} {cA : Nat → ClassId} {z0 N : Nat} {S : PS} {a0 : Nat} {x1 : Int32} {x2 : Int32} {K : Int32 → PS → Prop} (hM : wp_X11_fits N S a0 x1 x2 K) : MetI l yX11_fits cX11_fits 7 (some .int) 2 0 0 D cA z0 [.ref a0, .int x1, .int x2] S K := by
  refine x_met RX11 (by decide) rfl ?_
  intro p e s m below meth c C hin hV
  have hl := lv_entry ([.ref a0, .int x1, .int x2]) (n := 7) (Nat.le_of_ble_eq_true rfl)
  rw [lg_entry_eq]
  generalize (lg_sl ([.ref a0, .int x1, .int x2]) ++ List.replicate (7 - (lg_sl ([.ref a0, .int x1, .int x2])).length) Slot.unset).toArray = ls at hl ⊢
  have hl : lv_has ls 7 [(0, .ref a0), (1, .int x1), (2, .int x2)] := hl
  obtain ⟨hx, hb, hml, hown, hts, hK, hz, hlk, hr⟩ := id C
  unfold wp_X11_fits at hM
  refine lv_iload_n hx hb dX11_fits_0 rfl (lv_at hl 1 rfl) ?_
  refine x_ci hV (x_runS (As := [.int x1]) (rest := []) C hV ms_X11_isSide wl_X11_119 (c_X11_isSide hM) ⟨by decide, by decide⟩ rfl hl.1 (Nat.le_of_ble_eq_true rfl) dX11_fits_1 ⟨Nat.zero_le _, Nat.zero_le _⟩) (fun r2 S1 H locs hV hM => ?_)
  have hz3 := hM.1
  have hM := hM.2
  refine lv_if_eq (tgt := 14) hx hb dX11_fits_4 (by decide) (fun c4 => ?_) (fun c4 => ?_)
  · have hM := ite_t c4 hM
    refine lv_iconst (v := (-1)) hx hb dX11_fits_14 (by decide) ?_
    exact x_iret C hV hM dX11_fits_15
  have hM := ite_f c4 hM
  refine lv_iload_n hx hb dX11_fits_7 rfl (lv_at hl 2 rfl) ?_
  refine x_ci hV (x_runS (As := [.int x2]) (rest := []) C hV ms_X11_isFar wl_X11_282 (c_X11_isFar hM) ⟨by decide, by decide⟩ rfl hl.1 (Nat.le_of_ble_eq_true rfl) dX11_fits_8 ⟨Nat.zero_le _, Nat.zero_le _⟩) (fun r6 S5 H locs hV hM => ?_)
  have hz7 := hM.1
  have hM := hM.2
  refine lv_if_ne (tgt := 16) hx hb dX11_fits_11 (by decide) (fun c8 => ?_) (fun c8 => ?_)
  · have hM := ite_f c8 hM
    refine lv_iconst (v := 0) hx hb dX11_fits_16 (by decide) ?_
    refine lv_istore_n (lv' := [(3, .int 0), (0, .ref a0), (1, .int x1), (2, .int x2)]) hx hb dX11_fits_17 rfl hl (by decide) rfl (fun ls hl => ?_)
    refine lv_iconst (v := 0) hx hb dX11_fits_18 (by decide) ?_
    refine lv_istore (lv' := [(4, .int 0), (3, .int 0), (0, .ref a0), (1, .int x1), (2, .int x2)]) hx hb dX11_fits_19 hl (by decide) rfl (fun ls hl => ?_)
    exact tq_X11_fits_21 C N _ _ _ _ _ _ _ _ _ hM hV (lv_sub hl [2, 3, 4, 1, 0] rfl)
  have hM := ite_t c8 hM
  refine lv_iconst (v := (-1)) hx hb dX11_fits_14 (by decide) ?_
  exact x_iret C hV hM dX11_fits_15

def wp_X11_gives (N : Nat) (S : PS) (a0 : Nat) (x1 : Int32) (x2 : Int32) (x3 : Int32) (K : Int32 → PS → Prop) : Prop := S.K a0 = 12 ∧ wp_X11_isStory N S a0 x1 (fun r3 S2 => if r3 = 0 then (K (-2147483648) S2) else (wp_X11_isSide N S2 x2 (fun r7 S6 => if r7 = 0 then (K (-2147483648) S6) else (wp_X11_isDay N S6 x3 (fun r11 S10 => if r11 = 0 then (K (-2147483648) S10) else (S10.K a0 = 12 ∧ wp_X11_givesBy N S10 a0 x1 x2 x3 (fun r16 S15 => K r16 S15)))))))
set_option maxHeartbeats 4000000 in
set_option maxRecDepth 100000 in
theorem c_X11_gives {l : Launch} {D : DX} {cA : Nat → ClassId} {z0 N : Nat} {S : PS} {a0 : Nat} {x1 : Int32} {x2 : Int32} {x3 : Int32} {K : Int32 → PS → Prop} (hM : wp_X11_gives N S a0 x1 x2 x3 K) : MetI l yX11_gives cX11_gives 4 (some .int) 3 0 0 D cA z0 [.ref a0, .int x1, .int x2, .int x3] S K := by
  refine x_met RX11 (by decide) rfl ?_
  intro p e s m below meth c C hin hV
  have hl := lv_entry ([.ref a0, .int x1, .int x2, .int x3]) (n := 4) (Nat.le_of_ble_eq_true rfl)
  rw [lg_entry_eq]
  generalize (lg_sl ([.ref a0, .int x1, .int x2, .int x3]) ++ List.replicate (4 - (lg_sl ([.ref a0, .int x1, .int x2, .int x3])).length) Slot.unset).toArray = ls at hl ⊢
  have hl : lv_has ls 4 [(0, .ref a0), (1, .int x1), (2, .int x2), (3, .int x3)] := hl
  obtain ⟨hx, hb, hml, hown, hts, hK, hz, hlk, hr⟩ := id C
  unfold wp_X11_gives at hM
  refine lv_aload_n hx hb dX11_gives_0 rfl (lv_at hl 0 rfl) ?_
  refine lv_iload_n hx hb dX11_gives_1 rfl (lv_at hl 1 rfl) ?_
  have hk1 := hM.1
  have hM := hM.2
  refine x_ci hV (x_runV (As := [.int x1]) (rest := []) C hV mi_X11_isStory wl_X11_220 hk1 (c_X11_isStory hM) ⟨by decide, by decide⟩ rfl hl.1 (Nat.le_of_ble_eq_true rfl) dX11_gives_2 ⟨Nat.zero_le _, Nat.zero_le _⟩) (fun r3 S2 H locs hV hM => ?_)
  have hz4 := hM.1
  have hM := hM.2
  refine lv_if_eq (tgt := 32) hx hb dX11_gives_5 (by decide) (fun c5 => ?_) (fun c5 => ?_)
  · have hM := ite_t c5 hM
    refine lv_ldc hx hb hown (hts _ wc_X11_102) dX11_gives_32 ?_
    exact x_iret C hV hM dX11_gives_34
  have hM := ite_f c5 hM
  refine lv_iload_n hx hb dX11_gives_8 rfl (lv_at hl 2 rfl) ?_
  refine x_ci hV (x_runS (As := [.int x2]) (rest := []) C hV ms_X11_isSide wl_X11_119 (c_X11_isSide hM) ⟨by decide, by decide⟩ rfl hl.1 (Nat.le_of_ble_eq_true rfl) dX11_gives_9 ⟨Nat.zero_le _, Nat.zero_le _⟩) (fun r7 S6 H locs hV hM => ?_)
  have hz8 := hM.1
  have hM := hM.2
  refine lv_if_eq (tgt := 32) hx hb dX11_gives_12 (by decide) (fun c9 => ?_) (fun c9 => ?_)
  · have hM := ite_t c9 hM
    refine lv_ldc hx hb hown (hts _ wc_X11_102) dX11_gives_32 ?_
    exact x_iret C hV hM dX11_gives_34
  have hM := ite_f c9 hM
  refine lv_iload_n hx hb dX11_gives_15 rfl (lv_at hl 3 rfl) ?_
  refine x_ci hV (x_runS (As := [.int x3]) (rest := []) C hV ms_X11_isDay wl_X11_110 (c_X11_isDay hM) ⟨by decide, by decide⟩ rfl hl.1 (Nat.le_of_ble_eq_true rfl) dX11_gives_16 ⟨Nat.zero_le _, Nat.zero_le _⟩) (fun r11 S10 H locs hV hM => ?_)
  have hz12 := hM.1
  have hM := hM.2
  refine lv_if_eq (tgt := 32) hx hb dX11_gives_19 (by decide) (fun c13 => ?_) (fun c13 => ?_)
  · have hM := ite_t c13 hM
    refine lv_ldc hx hb hown (hts _ wc_X11_102) dX11_gives_32 ?_
    exact x_iret C hV hM dX11_gives_34
  have hM := ite_f c13 hM
  refine lv_aload_n hx hb dX11_gives_22 rfl (lv_at hl 0 rfl) ?_
  refine lv_iload_n hx hb dX11_gives_23 rfl (lv_at hl 1 rfl) ?_
  refine lv_iload_n hx hb dX11_gives_24 rfl (lv_at hl 2 rfl) ?_
  refine lv_iload_n hx hb dX11_gives_25 rfl (lv_at hl 3 rfl) ?_
  have hk14 := hM.1
  have hM := hM.2
  refine x_ci hV (x_runV (As := [.int x1, .int x2, .int x3]) (rest := []) C hV mi_X11_givesBy wl_X11_223 hk14 (c_X11_givesBy hM) ⟨by decide, by decide⟩ rfl hl.1 (Nat.le_of_ble_eq_true rfl) dX11_gives_26 ⟨Nat.zero_le _, Nat.zero_le _⟩) (fun r16 S15 H locs hV hM => ?_)
  refine lv_goto (tgt := 34) hx hb dX11_gives_29 (by decide) ?_
  exact x_iret C hV hM dX11_gives_34

def wq_X11_settle_0 (N : Nat) (K : PS → Prop) : Nat → PS → Nat → Int32 → Prop
  | 0, _, _, _ => False
  | n + 1, S, a0, x1 => S.K a0 = 12 ∧ wp_X11_top N S a0 (fun r3 S2 => wp_X11_binds N S2 r3 (fun r5 S4 => if r5 < x1 then (K S4) else (S4.K a0 = 12 ∧ wp_X11_top N S4 a0 (fun r9 S8 => S8.K a0 = 12 ∧ wp_X11_emit N S8 a0 r9 (fun S11 => S11.K a0 = 12 ∧ ∀ S14 : PS, S14 = S11.setI 798 a0 ((S11.I 798 a0) - 1) → wq_X11_settle_0 N K n S14 a0 x1)))))
def wp_X11_settle (N : Nat) (S : PS) (a0 : Nat) (x1 : Int32) (K : PS → Prop) : Prop := wq_X11_settle_0 N K N S a0 x1
set_option maxHeartbeats 4000000 in
set_option maxRecDepth 100000 in
theorem tq_X11_settle_0 {p : Program} {l : Launch} {e : Env} {s : State} {m : MethodId} {args : Array Value} {below : List Frame} {meth : Method} {c : Code} {D : DX} {cA : Nat → ClassId} {z0 N : Nat} {K : PS → Prop} (C : CX p s m args meth c cX11_settle 2 RX11 none D cA z0) : ∀ (n : Nat) (S : PS) (a0 : Nat) (x1 : Int32) (H : Heap) (locs : List Loc) (ls : Array Slot), wq_X11_settle_0 N K n S a0 x1 → XV D cA z0 s S H locs → lv_has ls 2 [(0, .ref a0), (1, .int x1)] → W p l e (rmd 1 0 0) s m args below meth c H locs 0 0 (MQ below (va_Qv K (XK D cA z0) (zA z0)) args s 0 0 (zA z0)) (F0 m 0 ls []) := by
  obtain ⟨hx, hb, hml, hown, hts, hK, hz, hlk, hr⟩ := id C
  intro n
  induction n with
  | zero => intro S a0 x1 H locs ls hM; exact absurd hM id
  | succ n ih =>
    intro S a0 x1 H locs ls hM hV hl
    rw [wq_X11_settle_0.eq_2] at hM
    refine lv_aload_n hx hb dX11_settle_0 rfl (lv_at hl 0 rfl) ?_
    have hk1 := hM.1
    have hM := hM.2
    refine x_ci hV (x_runV (As := []) (rest := []) C hV mi_X11_top wl_X11_296 hk1 (c_X11_top hM) ⟨by decide, by decide⟩ rfl hl.1 (Nat.le_of_ble_eq_true rfl) dX11_settle_1 ⟨Nat.zero_le _, Nat.zero_le _⟩) (fun r3 S2 H locs hV hM => ?_)
    refine x_ci hV (x_runS (As := [.int r3]) (rest := []) C hV ms_X11_binds wl_X11_299 (c_X11_binds hM) ⟨by decide, by decide⟩ rfl hl.1 (Nat.le_of_ble_eq_true rfl) dX11_settle_4 ⟨Nat.zero_le _, Nat.zero_le _⟩) (fun r5 S4 H locs hV hM => ?_)
    refine lv_iload_n hx hb dX11_settle_7 rfl (lv_at hl 1 rfl) ?_
    refine lv_icmp_lt (tgt := 32) hx hb dX11_settle_8 (by decide) (fun c6 => ?_) (fun c6 => ?_)
    · have hM := ite_t c6 hM
      exact x_vret C hV hM dX11_settle_32
    have hM := ite_f c6 hM
    refine lv_aload_n hx hb dX11_settle_11 rfl (lv_at hl 0 rfl) ?_
    refine lv_aload_n hx hb dX11_settle_12 rfl (lv_at hl 0 rfl) ?_
    have hk7 := hM.1
    have hM := hM.2
    refine x_ci hV (x_runV (As := []) (rest := [.ref a0]) C hV mi_X11_top wl_X11_296 hk7 (c_X11_top hM) ⟨by decide, by decide⟩ rfl hl.1 (Nat.le_of_ble_eq_true rfl) dX11_settle_13 ⟨Nat.zero_le _, Nat.zero_le _⟩) (fun r9 S8 H locs hV hM => ?_)
    have hk10 := hM.1
    have hM := hM.2
    refine x_cv hV (x_runV (As := [.int r9]) (rest := []) C hV mi_X11_emit wl_X11_302 hk10 (c_X11_emit hM) ⟨by decide, by decide⟩ rfl hl.1 (Nat.le_of_ble_eq_true rfl) dX11_settle_16 ⟨Nat.zero_le _, Nat.zero_le _⟩) (fun S11 H locs hV hM => ?_)
    refine lv_aload_n hx hb dX11_settle_19 rfl (lv_at hl 0 rfl) ?_
    refine lv_dup hx hb dX11_settle_20 rfl ?_
    have hk13 := hM.1
    have hM := hM.2
    refine x_getI C hV wf_X11_293 hk13 dX11_settle_21 ?_
    refine lv_iconst (v := 1) hx hb dX11_settle_24 (by decide) ?_
    refine lv_isub hx hb dX11_settle_25 ?_
    obtain ⟨S14, eS14⟩ : ∃ z : PS, z = S11.setI 798 a0 ((S11.I 798 a0) - 1) := ⟨_, rfl⟩
    have hM := hM S14 eS14
    refine x_putI C hV wp_X11_293 hk13 ⟨rfl, rfl⟩ eS14 dX11_settle_26 (fun H locs hV => ?_)
    refine lv_goto (tgt := 0) hx hb dX11_settle_29 (by decide) ?_
    exact ih _ _ _ _ _ _ hM hV (lv_sub hl [0, 1] rfl)
set_option maxHeartbeats 4000000 in
set_option maxRecDepth 100000 in
theorem c_X11_settle {l : Launch} {D : DX} {cA : Nat → ClassId} {z0 N : Nat} {S : PS} {a0 : Nat} {x1 : Int32} {K : PS → Prop} (hM : wp_X11_settle N S a0 x1 K) : MetV l yX11_settle cX11_settle 2 none 1 0 0 D cA z0 [.ref a0, .int x1] S K := by
  refine x_met RX11 (by decide) rfl ?_
  intro p e s m below meth c C hin hV
  have hl := lv_entry ([.ref a0, .int x1]) (n := 2) (Nat.le_of_ble_eq_true rfl)
  rw [lg_entry_eq]
  generalize (lg_sl ([.ref a0, .int x1]) ++ List.replicate (2 - (lg_sl ([.ref a0, .int x1])).length) Slot.unset).toArray = ls at hl ⊢
  have hl : lv_has ls 2 [(0, .ref a0), (1, .int x1)] := hl
  obtain ⟨hx, hb, hml, hown, hts, hK, hz, hlk, hr⟩ := id C
  unfold wp_X11_settle at hM
  exact tq_X11_settle_0 C N _ _ _ _ _ _ hM hV (lv_sub hl [0, 1] rfl)

def wq_X11_goOnAt_74 (N : Nat) (K : PS → Prop) (S : PS) (a0 : Nat) (b0 : Nat) (t1 : Int32) : Prop := S.K b0 = 12 ∧ (t1 = 0 ∨ t1 = 1) ∧ ∀ S12 : PS, S12 = S.setI 801 b0 t1 → S12.K a0 = 12 ∧ wp_X11_pend N S12 a0 (30000 + (S12.I 787 a0)) (fun S14 => S14.K a0 = 12 ∧ ∀ S17 : PS, S17 = S14.setI 800 a0 1 → wp_X11_advance N S17 a0 (fun S19 => K S19))
def wq_X11_goOnAt_69 (N : Nat) (K : PS → Prop) (S : PS) (a0 : Nat) (b0 : Nat) : Prop := wq_X11_goOnAt_74 N K S a0 b0 1
def wq_X11_goOnAt_53 (N : Nat) (K : PS → Prop) (S : PS) (a0 : Nat) (x1 : Int32) (b0 : Nat) (t1 : Int32) : Prop := S.K b0 = 12 ∧ wp_X11_settle N S b0 t1 (fun S6 => S6.K a0 = 12 ∧ if (S6.I 801 a0) = 0 then (if x1 = 3 then (wq_X11_goOnAt_69 N K S6 a0 a0) else (wq_X11_goOnAt_74 N K S6 a0 a0 0)) else (wq_X11_goOnAt_69 N K S6 a0 a0))
def wq_X11_goOnAt_42 (N : Nat) (K : PS → Prop) (S : PS) (a0 : Nat) (x1 : Int32) : Prop := if x1 = 3 then (wq_X11_goOnAt_53 N K S a0 x1 a0 4) else (wq_X11_goOnAt_53 N K S a0 x1 a0 x1)
def wq_X11_goOnAt_101 (N : Nat) (K : PS → Prop) (S : PS) (a0 : Nat) : Prop := S.K a0 = 12 ∧ if (S.I 800 a0) = 2 then (∀ S32 : PS, S32 = S.setI 788 a0 0 → K S32) else (wp_X11_settle N S a0 3 (fun S25 => S25.K a0 = 12 ∧ wp_X11_ends N S25 a0 40002 (fun S28 => S28.K a0 = 12 ∧ ∀ S31 : PS, S31 = S28.setI 800 a0 4 → K S31)))
def wq_X11_goOnAt_23 (N : Nat) (K : PS → Prop) (S : PS) (a0 : Nat) (t0 : Int32) : Prop := if 4 ≤ t0 then (wq_X11_goOnAt_42 N K S a0 t0) else (if t0 = 3 then (S.K a0 = 12 ∧ if (S.I 800 a0) = 2 then (wq_X11_goOnAt_42 N K S a0 t0) else (wq_X11_goOnAt_101 N K S a0)) else (wq_X11_goOnAt_101 N K S a0))
def wp_X11_goOnAt (N : Nat) (S : PS) (a0 : Nat) (K : PS → Prop) : Prop := S.K a0 = 12 ∧ if (S.I 783 a0) = 3 then (wp_X11_binds N S (30000 + (S.I 787 a0)) (fun r36 S35 => wq_X11_goOnAt_23 N K S35 a0 r36)) else (wq_X11_goOnAt_23 N K S a0 0)
set_option maxHeartbeats 4000000 in
set_option maxRecDepth 100000 in
theorem tq_X11_goOnAt_74 {p : Program} {l : Launch} {e : Env} {s : State} {m : MethodId} {args : Array Value} {below : List Frame} {meth : Method} {c : Code} {D : DX} {cA : Nat → ClassId} {z0 N : Nat} {K : PS → Prop} (C : CX p s m args meth c cX11_goOnAt 2 RX11 none D cA z0) : ∀ (S : PS) (a0 : Nat) (b0 : Nat) (t1 : Int32) (H : Heap) (locs : List Loc) (ls : Array Slot), wq_X11_goOnAt_74 N K S a0 b0 t1 → XV D cA z0 s S H locs → lv_has ls 2 [(0, .ref a0)] → W p l e (rmd 3 0 0) s m args below meth c H locs 0 0 (MQ below (va_Qv K (XK D cA z0) (zA z0)) args s 0 0 (zA z0)) (F0 m 74 ls [.int t1, .ref b0]) := by
  obtain ⟨hx, hb, hml, hown, hts, hK, hz, hlk, hr⟩ := id C
  intro S a0 b0 t1 H locs ls hM hV hl
  unfold wq_X11_goOnAt_74 at hM
  have hk10 := hM.1
  have hM := hM.2
  have hz11 := hM.1
  have hM := hM.2
  obtain ⟨S12, eS12⟩ : ∃ z : PS, z = S.setI 801 b0 t1 := ⟨_, rfl⟩
  have hM := hM S12 eS12
  refine x_putI C hV wp_X11_326 hk10 (nz_b hz11) eS12 dX11_goOnAt_74 (fun H locs hV => ?_)
  refine lv_aload_n hx hb dX11_goOnAt_77 rfl (lv_at hl 0 rfl) ?_
  refine lv_sipush (v := 30000) hx hb dX11_goOnAt_78 (by decide) ?_
  refine lv_aload_n hx hb dX11_goOnAt_81 rfl (lv_at hl 0 rfl) ?_
  have hk13 := hM.1
  have hM := hM.2
  refine x_getI C hV wf_X11_164 hk13 dX11_goOnAt_82 ?_
  refine lv_iadd hx hb dX11_goOnAt_85 ?_
  refine x_cv hV (x_runV (As := [.int (30000 + (S12.I 787 a0))]) (rest := []) C hV mi_X11_pend wl_X11_309 hk13 (c_X11_pend hM) ⟨by decide, by decide⟩ rfl hl.1 (Nat.le_of_ble_eq_true rfl) dX11_goOnAt_86 ⟨Nat.zero_le _, Nat.zero_le _⟩) (fun S14 H locs hV hM => ?_)
  refine lv_aload_n hx hb dX11_goOnAt_89 rfl (lv_at hl 0 rfl) ?_
  refine lv_iconst (v := 1) hx hb dX11_goOnAt_90 (by decide) ?_
  have hk16 := hM.1
  have hM := hM.2
  obtain ⟨S17, eS17⟩ : ∃ z : PS, z = S14.setI 800 a0 1 := ⟨_, rfl⟩
  have hM := hM S17 eS17
  refine x_putI C hV wp_X11_336 hk16 ⟨rfl, rfl⟩ eS17 dX11_goOnAt_91 (fun H locs hV => ?_)
  refine lv_aload_n hx hb dX11_goOnAt_94 rfl (lv_at hl 0 rfl) ?_
  have hk18 := kp_I eS17 hk16
  refine x_cv hV (x_runV (As := []) (rest := []) C hV mi_X11_advance wl_X11_177 hk18 (c_X11_advance hM) ⟨by decide, by decide⟩ rfl hl.1 (Nat.le_of_ble_eq_true rfl) dX11_goOnAt_95 ⟨Nat.zero_le _, Nat.zero_le _⟩) (fun S19 H locs hV hM => ?_)
  refine lv_goto (tgt := 134) hx hb dX11_goOnAt_98 (by decide) ?_
  exact x_vret C hV hM dX11_goOnAt_134
set_option maxHeartbeats 4000000 in
set_option maxRecDepth 100000 in
theorem tq_X11_goOnAt_69 {p : Program} {l : Launch} {e : Env} {s : State} {m : MethodId} {args : Array Value} {below : List Frame} {meth : Method} {c : Code} {D : DX} {cA : Nat → ClassId} {z0 N : Nat} {K : PS → Prop} (C : CX p s m args meth c cX11_goOnAt 2 RX11 none D cA z0) : ∀ (S : PS) (a0 : Nat) (b0 : Nat) (H : Heap) (locs : List Loc) (ls : Array Slot), wq_X11_goOnAt_69 N K S a0 b0 → XV D cA z0 s S H locs → lv_has ls 2 [(0, .ref a0)] → W p l e (rmd 3 0 0) s m args below meth c H locs 0 0 (MQ below (va_Qv K (XK D cA z0) (zA z0)) args s 0 0 (zA z0)) (F0 m 69 ls [.ref b0]) := by
  obtain ⟨hx, hb, hml, hown, hts, hK, hz, hlk, hr⟩ := id C
  intro S a0 b0 H locs ls hM hV hl
  unfold wq_X11_goOnAt_69 at hM
  refine lv_iconst (v := 1) hx hb dX11_goOnAt_69 (by decide) ?_
  refine lv_goto (tgt := 74) hx hb dX11_goOnAt_70 (by decide) ?_
  exact tq_X11_goOnAt_74 C _ _ _ _ _ _ _ hM hV (lv_sub hl [0] rfl)
set_option maxHeartbeats 4000000 in
set_option maxRecDepth 100000 in
theorem tq_X11_goOnAt_53 {p : Program} {l : Launch} {e : Env} {s : State} {m : MethodId} {args : Array Value} {below : List Frame} {meth : Method} {c : Code} {D : DX} {cA : Nat → ClassId} {z0 N : Nat} {K : PS → Prop} (C : CX p s m args meth c cX11_goOnAt 2 RX11 none D cA z0) : ∀ (S : PS) (a0 : Nat) (x1 : Int32) (b0 : Nat) (t1 : Int32) (H : Heap) (locs : List Loc) (ls : Array Slot), wq_X11_goOnAt_53 N K S a0 x1 b0 t1 → XV D cA z0 s S H locs → lv_has ls 2 [(0, .ref a0), (1, .int x1)] → W p l e (rmd 3 0 0) s m args below meth c H locs 0 0 (MQ below (va_Qv K (XK D cA z0) (zA z0)) args s 0 0 (zA z0)) (F0 m 53 ls [.int t1, .ref b0]) := by
  obtain ⟨hx, hb, hml, hown, hts, hK, hz, hlk, hr⟩ := id C
  intro S a0 x1 b0 t1 H locs ls hM hV hl
  unfold wq_X11_goOnAt_53 at hM
  have hk5 := hM.1
  have hM := hM.2
  refine x_cv hV (x_runV (As := [.int t1]) (rest := []) C hV mi_X11_settle wl_X11_345 hk5 (c_X11_settle hM) ⟨by decide, by decide⟩ rfl hl.1 (Nat.le_of_ble_eq_true rfl) dX11_goOnAt_53 ⟨Nat.zero_le _, Nat.zero_le _⟩) (fun S6 H locs hV hM => ?_)
  refine lv_aload_n hx hb dX11_goOnAt_56 rfl (lv_at hl 0 rfl) ?_
  refine lv_aload_n hx hb dX11_goOnAt_57 rfl (lv_at hl 0 rfl) ?_
  have hk8 := hM.1
  have hM := hM.2
  refine x_getI C hV wf_X11_326 hk8 dX11_goOnAt_58 ?_
  refine lv_if_ne (tgt := 69) hx hb dX11_goOnAt_61 (by decide) (fun c9 => ?_) (fun c9 => ?_)
  · have hM := ite_f c9 hM
    exact tq_X11_goOnAt_69 C _ _ _ _ _ _ hM hV (lv_sub hl [0] rfl)
  have hM := ite_t c9 hM
  refine lv_iload_n hx hb dX11_goOnAt_64 rfl (lv_at hl 1 rfl) ?_
  refine lv_iconst (v := 3) hx hb dX11_goOnAt_65 (by decide) ?_
  refine lv_icmp_ne (tgt := 73) hx hb dX11_goOnAt_66 (by decide) (fun c21 => ?_) (fun c21 => ?_)
  · have hM := ite_f c21 hM
    refine lv_iconst (v := 0) hx hb dX11_goOnAt_73 (by decide) ?_
    exact tq_X11_goOnAt_74 C _ _ _ _ _ _ _ hM hV (lv_sub hl [0] rfl)
  have hM := ite_t c21 hM
  exact tq_X11_goOnAt_69 C _ _ _ _ _ _ hM hV (lv_sub hl [0] rfl)
set_option maxHeartbeats 4000000 in
set_option maxRecDepth 100000 in
theorem tq_X11_goOnAt_42 {p : Program} {l : Launch} {e : Env} {s : State} {m : MethodId} {args : Array Value} {below : List Frame} {meth : Method} {c : Code} {D : DX} {cA : Nat → ClassId} {z0 N : Nat} {K : PS → Prop} (C : CX p s m args meth c cX11_goOnAt 2 RX11 none D cA z0) : ∀ (S : PS) (a0 : Nat) (x1 : Int32) (H : Heap) (locs : List Loc) (ls : Array Slot), wq_X11_goOnAt_42 N K S a0 x1 → XV D cA z0 s S H locs → lv_has ls 2 [(0, .ref a0), (1, .int x1)] → W p l e (rmd 3 0 0) s m args below meth c H locs 0 0 (MQ below (va_Qv K (XK D cA z0) (zA z0)) args s 0 0 (zA z0)) (F0 m 42 ls []) := by
  obtain ⟨hx, hb, hml, hown, hts, hK, hz, hlk, hr⟩ := id C
  intro S a0 x1 H locs ls hM hV hl
  unfold wq_X11_goOnAt_42 at hM
  refine lv_aload_n hx hb dX11_goOnAt_42 rfl (lv_at hl 0 rfl) ?_
  refine lv_iload_n hx hb dX11_goOnAt_43 rfl (lv_at hl 1 rfl) ?_
  refine lv_iconst (v := 3) hx hb dX11_goOnAt_44 (by decide) ?_
  refine lv_icmp_ne (tgt := 52) hx hb dX11_goOnAt_45 (by decide) (fun c4 => ?_) (fun c4 => ?_)
  · have hM := ite_f c4 hM
    refine lv_iload_n hx hb dX11_goOnAt_52 rfl (lv_at hl 1 rfl) ?_
    exact tq_X11_goOnAt_53 C _ _ _ _ _ _ _ _ hM hV (lv_sub hl [0, 1] rfl)
  have hM := ite_t c4 hM
  refine lv_iconst (v := 4) hx hb dX11_goOnAt_48 (by decide) ?_
  refine lv_goto (tgt := 53) hx hb dX11_goOnAt_49 (by decide) ?_
  exact tq_X11_goOnAt_53 C _ _ _ _ _ _ _ _ hM hV (lv_sub hl [0, 1] rfl)
set_option maxHeartbeats 4000000 in
set_option maxRecDepth 100000 in
theorem tq_X11_goOnAt_101 {p : Program} {l : Launch} {e : Env} {s : State} {m : MethodId} {args : Array Value} {below : List Frame} {meth : Method} {c : Code} {D : DX} {cA : Nat → ClassId} {z0 N : Nat} {K : PS → Prop} (C : CX p s m args meth c cX11_goOnAt 2 RX11 none D cA z0) : ∀ (S : PS) (a0 : Nat) (H : Heap) (locs : List Loc) (ls : Array Slot), wq_X11_goOnAt_101 N K S a0 → XV D cA z0 s S H locs → lv_has ls 2 [(0, .ref a0)] → W p l e (rmd 3 0 0) s m args below meth c H locs 0 0 (MQ below (va_Qv K (XK D cA z0) (zA z0)) args s 0 0 (zA z0)) (F0 m 101 ls []) := by
  obtain ⟨hx, hb, hml, hown, hts, hK, hz, hlk, hr⟩ := id C
  intro S a0 H locs ls hM hV hl
  unfold wq_X11_goOnAt_101 at hM
  refine lv_aload_n hx hb dX11_goOnAt_101 rfl (lv_at hl 0 rfl) ?_
  have hk23 := hM.1
  have hM := hM.2
  refine x_getI C hV wf_X11_336 hk23 dX11_goOnAt_102 ?_
  refine lv_iconst (v := 2) hx hb dX11_goOnAt_105 (by decide) ?_
  refine lv_icmp_ne (tgt := 117) hx hb dX11_goOnAt_106 (by decide) (fun c24 => ?_) (fun c24 => ?_)
  · have hM := ite_f c24 hM
    refine lv_aload_n hx hb dX11_goOnAt_117 rfl (lv_at hl 0 rfl) ?_
    refine lv_iconst (v := 3) hx hb dX11_goOnAt_118 (by decide) ?_
    refine x_cv hV (x_runV (As := [.int 3]) (rest := []) C hV mi_X11_settle wl_X11_345 hk23 (c_X11_settle hM) ⟨by decide, by decide⟩ rfl hl.1 (Nat.le_of_ble_eq_true rfl) dX11_goOnAt_119 ⟨Nat.zero_le _, Nat.zero_le _⟩) (fun S25 H locs hV hM => ?_)
    refine lv_aload_n hx hb dX11_goOnAt_122 rfl (lv_at hl 0 rfl) ?_
    refine lv_ldcw hx hb hown (hts _ wc_X11_331) dX11_goOnAt_123 ?_
    have hk27 := hM.1
    have hM := hM.2
    refine x_cv hV (x_runV (As := [.int 40002]) (rest := []) C hV mi_X11_ends wl_X11_343 hk27 (c_X11_ends hM) ⟨by decide, by decide⟩ rfl hl.1 (Nat.le_of_ble_eq_true rfl) dX11_goOnAt_126 ⟨Nat.zero_le _, Nat.zero_le _⟩) (fun S28 H locs hV hM => ?_)
    refine lv_aload_n hx hb dX11_goOnAt_129 rfl (lv_at hl 0 rfl) ?_
    refine lv_iconst (v := 4) hx hb dX11_goOnAt_130 (by decide) ?_
    have hk30 := hM.1
    have hM := hM.2
    obtain ⟨S31, eS31⟩ : ∃ z : PS, z = S28.setI 800 a0 4 := ⟨_, rfl⟩
    have hM := hM S31 eS31
    refine x_putI C hV wp_X11_336 hk30 ⟨rfl, rfl⟩ eS31 dX11_goOnAt_131 (fun H locs hV => ?_)
    exact x_vret C hV hM dX11_goOnAt_134
  have hM := ite_t c24 hM
  refine lv_aload_n hx hb dX11_goOnAt_109 rfl (lv_at hl 0 rfl) ?_
  refine lv_iconst (v := 0) hx hb dX11_goOnAt_110 (by decide) ?_
  obtain ⟨S32, eS32⟩ : ∃ z : PS, z = S.setI 788 a0 0 := ⟨_, rfl⟩
  have hM := hM S32 eS32
  refine x_putI C hV wp_X11_173 hk23 (nz_b (by decide)) eS32 dX11_goOnAt_111 (fun H locs hV => ?_)
  refine lv_goto (tgt := 134) hx hb dX11_goOnAt_114 (by decide) ?_
  exact x_vret C hV hM dX11_goOnAt_134
set_option maxHeartbeats 4000000 in
set_option maxRecDepth 100000 in
theorem tq_X11_goOnAt_23 {p : Program} {l : Launch} {e : Env} {s : State} {m : MethodId} {args : Array Value} {below : List Frame} {meth : Method} {c : Code} {D : DX} {cA : Nat → ClassId} {z0 N : Nat} {K : PS → Prop} (C : CX p s m args meth c cX11_goOnAt 2 RX11 none D cA z0) : ∀ (S : PS) (a0 : Nat) (t0 : Int32) (H : Heap) (locs : List Loc) (ls : Array Slot), wq_X11_goOnAt_23 N K S a0 t0 → XV D cA z0 s S H locs → lv_has ls 2 [(0, .ref a0)] → W p l e (rmd 3 0 0) s m args below meth c H locs 0 0 (MQ below (va_Qv K (XK D cA z0) (zA z0)) args s 0 0 (zA z0)) (F0 m 23 ls [.int t0]) := by
  obtain ⟨hx, hb, hml, hown, hts, hK, hz, hlk, hr⟩ := id C
  intro S a0 t0 H locs ls hM hV hl
  unfold wq_X11_goOnAt_23 at hM
  refine lv_istore_n (lv' := [(1, .int t0), (0, .ref a0)]) hx hb dX11_goOnAt_23 rfl hl (by decide) rfl (fun ls hl => ?_)
  refine lv_iload_n hx hb dX11_goOnAt_24 rfl (lv_at hl 0 rfl) ?_
  refine lv_iconst (v := 4) hx hb dX11_goOnAt_25 (by decide) ?_
  refine lv_icmp_ge (tgt := 42) hx hb dX11_goOnAt_26 (by decide) (fun c3 => ?_) (fun c3 => ?_)
  · have hM := ite_t c3 hM
    exact tq_X11_goOnAt_42 C _ _ _ _ _ _ hM hV (lv_sub hl [1, 0] rfl)
  have hM := ite_f c3 hM
  refine lv_iload_n hx hb dX11_goOnAt_29 rfl (lv_at hl 0 rfl) ?_
  refine lv_iconst (v := 3) hx hb dX11_goOnAt_30 (by decide) ?_
  refine lv_icmp_ne (tgt := 101) hx hb dX11_goOnAt_31 (by decide) (fun c22 => ?_) (fun c22 => ?_)
  · have hM := ite_f c22 hM
    exact tq_X11_goOnAt_101 C _ _ _ _ _ hM hV (lv_sub hl [1] rfl)
  have hM := ite_t c22 hM
  refine lv_aload_n hx hb dX11_goOnAt_34 rfl (lv_at hl 1 rfl) ?_
  have hk33 := hM.1
  have hM := hM.2
  refine x_getI C hV wf_X11_336 hk33 dX11_goOnAt_35 ?_
  refine lv_iconst (v := 2) hx hb dX11_goOnAt_38 (by decide) ?_
  refine lv_icmp_ne (tgt := 101) hx hb dX11_goOnAt_39 (by decide) (fun c34 => ?_) (fun c34 => ?_)
  · have hM := ite_f c34 hM
    exact tq_X11_goOnAt_101 C _ _ _ _ _ hM hV (lv_sub hl [1] rfl)
  have hM := ite_t c34 hM
  exact tq_X11_goOnAt_42 C _ _ _ _ _ _ hM hV (lv_sub hl [1, 0] rfl)
set_option maxHeartbeats 4000000 in
set_option maxRecDepth 100000 in
theorem c_X11_goOnAt {l : Launch} {D : DX} {cA : Nat → ClassId} {z0 N : Nat} {S : PS} {a0 : Nat} {K : PS → Prop} (hM : wp_X11_goOnAt N S a0 K) : MetV l yX11_goOnAt cX11_goOnAt 2 none 3 0 0 D cA z0 [.ref a0] S K := by
  refine x_met RX11 (by decide) rfl ?_
  intro p e s m below meth c C hin hV
  have hl := lv_entry ([.ref a0]) (n := 2) (Nat.le_of_ble_eq_true rfl)
  rw [lg_entry_eq]
  generalize (lg_sl ([.ref a0]) ++ List.replicate (2 - (lg_sl ([.ref a0])).length) Slot.unset).toArray = ls at hl ⊢
  have hl : lv_has ls 2 [(0, .ref a0)] := hl
  obtain ⟨hx, hb, hml, hown, hts, hK, hz, hlk, hr⟩ := id C
  unfold wp_X11_goOnAt at hM
  refine lv_aload_n hx hb dX11_goOnAt_0 rfl (lv_at hl 0 rfl) ?_
  have hk1 := hM.1
  have hM := hM.2
  refine x_getI C hV wf_X11_157 hk1 dX11_goOnAt_1 ?_
  refine lv_iconst (v := 3) hx hb dX11_goOnAt_4 (by decide) ?_
  refine lv_icmp_ne (tgt := 22) hx hb dX11_goOnAt_5 (by decide) (fun c2 => ?_) (fun c2 => ?_)
  · have hM := ite_f c2 hM
    refine lv_iconst (v := 0) hx hb dX11_goOnAt_22 (by decide) ?_
    exact tq_X11_goOnAt_23 C _ _ _ _ _ _ hM hV (lv_sub hl [0] rfl)
  have hM := ite_t c2 hM
  refine lv_sipush (v := 30000) hx hb dX11_goOnAt_8 (by decide) ?_
  refine lv_aload_n hx hb dX11_goOnAt_11 rfl (lv_at hl 0 rfl) ?_
  refine x_getI C hV wf_X11_164 hk1 dX11_goOnAt_12 ?_
  refine lv_iadd hx hb dX11_goOnAt_15 ?_
  refine x_ci hV (x_runS (As := [.int (30000 + (S.I 787 a0))]) (rest := []) C hV ms_X11_binds wl_X11_299 (c_X11_binds hM) ⟨by decide, by decide⟩ rfl hl.1 (Nat.le_of_ble_eq_true rfl) dX11_goOnAt_16 ⟨Nat.zero_le _, Nat.zero_le _⟩) (fun r36 S35 H locs hV hM => ?_)
  refine lv_goto (tgt := 23) hx hb dX11_goOnAt_19 (by decide) ?_
  exact tq_X11_goOnAt_23 C _ _ _ _ _ _ hM hV (lv_sub hl [0] rfl)

def wq_X11_goOnEnded_49 (N : Nat) (K : PS → Prop) (S : PS) (a0 : Nat) (b0 : Nat) (t1 : Int32) : Prop := S.K b0 = 12 ∧ wp_X11_pend N S b0 t1 (fun S12 => S12.K a0 = 12 ∧ ∀ S15 : PS, S15 = S12.setI 800 a0 0 → wp_X11_advance N S15 a0 (fun S17 => K S17))
def wq_X11_goOnEnded_32 (N : Nat) (K : PS → Prop) (S : PS) (a0 : Nat) (x1 : Int32) (b0 : Nat) (t1 : Int32) : Prop := S.K b0 = 12 ∧ wp_X11_settle N S b0 t1 (fun S8 => if x1 = 0 then (wq_X11_goOnEnded_49 N K S8 a0 a0 40001) else (wq_X11_goOnEnded_49 N K S8 a0 a0 40000))
def wq_X11_goOnEnded_22 (N : Nat) (K : PS → Prop) (S : PS) (a0 : Nat) (x1 : Int32) : Prop := if x1 = 0 then (wq_X11_goOnEnded_32 N K S a0 x1 a0 1) else (wq_X11_goOnEnded_32 N K S a0 x1 a0 2)
def wq_X11_goOnEnded_92 (N : Nat) (K : PS → Prop) (S : PS) (a0 : Nat) (b0 : Nat) (t1 : Int32) : Prop := S.K b0 = 12 ∧ (t1 = 0 ∨ t1 = 1) ∧ ∀ S34 : PS, S34 = S.setI 788 b0 t1 → S34.K a0 = 12 ∧ if (S34.I 788 a0) = 0 then (K S34) else (∀ S37 : PS, S37 = S34.setI 798 a0 ((S34.I 798 a0) - 1) → ∀ S39 : PS, S39 = S37.setI 799 a0 ((S37.I 799 a0) - 1) → wp_X11_ends N S39 a0 40002 (fun S41 => S41.K a0 = 12 ∧ wp_X11_advance N S41 a0 (fun S44 => K S44)))
def wq_X11_goOnEnded_91 (N : Nat) (K : PS → Prop) (S : PS) (a0 : Nat) (b0 : Nat) : Prop := wq_X11_goOnEnded_92 N K S a0 b0 0
def wp_X11_goOnEnded (N : Nat) (S : PS) (a0 : Nat) (K : PS → Prop) : Prop := S.K a0 = 12 ∧ wp_X11_isWord N S a0 (1111 : Int64) (fun r3 S2 => if r3 = 0 then (S2.K a0 = 12 ∧ wp_X11_isWord N S2 a0 (423 : Int64) (fun r21 S20 => if r21 = 0 then (S20.K a0 = 12 ∧ wp_X11_settle N S20 a0 1 (fun S25 => S25.K a0 = 12 ∧ wp_X11_isMark N S25 a0 41 (fun r29 S28 => if r29 = 0 then (wq_X11_goOnEnded_91 N K S28 a0 a0) else (S28.K a0 = 12 ∧ wp_X11_top N S28 a0 (fun r48 S47 => if r48 = 40004 then (wq_X11_goOnEnded_92 N K S47 a0 a0 1) else (wq_X11_goOnEnded_91 N K S47 a0 a0)))))) else (wq_X11_goOnEnded_22 N K S20 a0 r3))) else (wq_X11_goOnEnded_22 N K S2 a0 r3))
set_option maxHeartbeats 4000000 in
set_option maxRecDepth 100000 in
theorem tq_X11_goOnEnded_49 {p : Program} {l : Launch} {e : Env} {s : State} {m : MethodId} {args : Array Value} {below : List Frame} {meth : Method} {c : Code} {D : DX} {cA : Nat → ClassId} {z0 N : Nat} {K : PS → Prop} (C : CX p s m args meth c cX11_goOnEnded 2 RX11 none D cA z0) : ∀ (S : PS) (a0 : Nat) (b0 : Nat) (t1 : Int32) (H : Heap) (locs : List Loc) (ls : Array Slot), wq_X11_goOnEnded_49 N K S a0 b0 t1 → XV D cA z0 s S H locs → lv_has ls 2 [(0, .ref a0)] → W p l e (rmd 3 0 0) s m args below meth c H locs 0 0 (MQ below (va_Qv K (XK D cA z0) (zA z0)) args s 0 0 (zA z0)) (F0 m 49 ls [.int t1, .ref b0]) := by
  obtain ⟨hx, hb, hml, hown, hts, hK, hz, hlk, hr⟩ := id C
  intro S a0 b0 t1 H locs ls hM hV hl
  unfold wq_X11_goOnEnded_49 at hM
  have hk11 := hM.1
  have hM := hM.2
  refine x_cv hV (x_runV (As := [.int t1]) (rest := []) C hV mi_X11_pend wl_X11_309 hk11 (c_X11_pend hM) ⟨by decide, by decide⟩ rfl hl.1 (Nat.le_of_ble_eq_true rfl) dX11_goOnEnded_49 ⟨Nat.zero_le _, Nat.zero_le _⟩) (fun S12 H locs hV hM => ?_)
  refine lv_aload_n hx hb dX11_goOnEnded_52 rfl (lv_at hl 0 rfl) ?_
  refine lv_iconst (v := 0) hx hb dX11_goOnEnded_53 (by decide) ?_
  have hk14 := hM.1
  have hM := hM.2
  obtain ⟨S15, eS15⟩ : ∃ z : PS, z = S12.setI 800 a0 0 := ⟨_, rfl⟩
  have hM := hM S15 eS15
  refine x_putI C hV wp_X11_336 hk14 ⟨rfl, rfl⟩ eS15 dX11_goOnEnded_54 (fun H locs hV => ?_)
  refine lv_aload_n hx hb dX11_goOnEnded_57 rfl (lv_at hl 0 rfl) ?_
  have hk16 := kp_I eS15 hk14
  refine x_cv hV (x_runV (As := []) (rest := []) C hV mi_X11_advance wl_X11_177 hk16 (c_X11_advance hM) ⟨by decide, by decide⟩ rfl hl.1 (Nat.le_of_ble_eq_true rfl) dX11_goOnEnded_58 ⟨Nat.zero_le _, Nat.zero_le _⟩) (fun S17 H locs hV hM => ?_)
  exact x_vret C hV hM dX11_goOnEnded_61
set_option maxHeartbeats 4000000 in
set_option maxRecDepth 100000 in
theorem tq_X11_goOnEnded_32 {p : Program} {l : Launch} {e : Env} {s : State} {m : MethodId} {args : Array Value} {below : List Frame} {meth : Method} {c : Code} {D : DX} {cA : Nat → ClassId} {z0 N : Nat} {K : PS → Prop} (C : CX p s m args meth c cX11_goOnEnded 2 RX11 none D cA z0) : ∀ (S : PS) (a0 : Nat) (x1 : Int32) (b0 : Nat) (t1 : Int32) (H : Heap) (locs : List Loc) (ls : Array Slot), wq_X11_goOnEnded_32 N K S a0 x1 b0 t1 → XV D cA z0 s S H locs → lv_has ls 2 [(0, .ref a0), (1, .int x1)] → W p l e (rmd 3 0 0) s m args below meth c H locs 0 0 (MQ below (va_Qv K (XK D cA z0) (zA z0)) args s 0 0 (zA z0)) (F0 m 32 ls [.int t1, .ref b0]) := by
  obtain ⟨hx, hb, hml, hown, hts, hK, hz, hlk, hr⟩ := id C
  intro S a0 x1 b0 t1 H locs ls hM hV hl
  unfold wq_X11_goOnEnded_32 at hM
  have hk7 := hM.1
  have hM := hM.2
  refine x_cv hV (x_runV (As := [.int t1]) (rest := []) C hV mi_X11_settle wl_X11_345 hk7 (c_X11_settle hM) ⟨by decide, by decide⟩ rfl hl.1 (Nat.le_of_ble_eq_true rfl) dX11_goOnEnded_32 ⟨Nat.zero_le _, Nat.zero_le _⟩) (fun S8 H locs hV hM => ?_)
  refine lv_aload_n hx hb dX11_goOnEnded_35 rfl (lv_at hl 0 rfl) ?_
  refine lv_iload_n hx hb dX11_goOnEnded_36 rfl (lv_at hl 1 rfl) ?_
  refine lv_if_eq (tgt := 46) hx hb dX11_goOnEnded_37 (by decide) (fun c10 => ?_) (fun c10 => ?_)
  · have hM := ite_t c10 hM
    refine lv_ldcw hx hb hown (hts _ wc_X11_351) dX11_goOnEnded_46 ?_
    exact tq_X11_goOnEnded_49 C _ _ _ _ _ _ _ hM hV (lv_sub hl [0] rfl)
  have hM := ite_f c10 hM
  refine lv_ldcw hx hb hown (hts _ wc_X11_350) dX11_goOnEnded_40 ?_
  refine lv_goto (tgt := 49) hx hb dX11_goOnEnded_43 (by decide) ?_
  exact tq_X11_goOnEnded_49 C _ _ _ _ _ _ _ hM hV (lv_sub hl [0] rfl)
set_option maxHeartbeats 4000000 in
set_option maxRecDepth 100000 in
theorem tq_X11_goOnEnded_22 {p : Program} {l : Launch} {e : Env} {s : State} {m : MethodId} {args : Array Value} {below : List Frame} {meth : Method} {c : Code} {D : DX} {cA : Nat → ClassId} {z0 N : Nat} {K : PS → Prop} (C : CX p s m args meth c cX11_goOnEnded 2 RX11 none D cA z0) : ∀ (S : PS) (a0 : Nat) (x1 : Int32) (H : Heap) (locs : List Loc) (ls : Array Slot), wq_X11_goOnEnded_22 N K S a0 x1 → XV D cA z0 s S H locs → lv_has ls 2 [(0, .ref a0), (1, .int x1)] → W p l e (rmd 3 0 0) s m args below meth c H locs 0 0 (MQ below (va_Qv K (XK D cA z0) (zA z0)) args s 0 0 (zA z0)) (F0 m 22 ls []) := by
  obtain ⟨hx, hb, hml, hown, hts, hK, hz, hlk, hr⟩ := id C
  intro S a0 x1 H locs ls hM hV hl
  unfold wq_X11_goOnEnded_22 at hM
  refine lv_aload_n hx hb dX11_goOnEnded_22 rfl (lv_at hl 0 rfl) ?_
  refine lv_iload_n hx hb dX11_goOnEnded_23 rfl (lv_at hl 1 rfl) ?_
  refine lv_if_eq (tgt := 31) hx hb dX11_goOnEnded_24 (by decide) (fun c6 => ?_) (fun c6 => ?_)
  · have hM := ite_t c6 hM
    refine lv_iconst (v := 1) hx hb dX11_goOnEnded_31 (by decide) ?_
    exact tq_X11_goOnEnded_32 C _ _ _ _ _ _ _ _ hM hV (lv_sub hl [0, 1] rfl)
  have hM := ite_f c6 hM
  refine lv_iconst (v := 2) hx hb dX11_goOnEnded_27 (by decide) ?_
  refine lv_goto (tgt := 32) hx hb dX11_goOnEnded_28 (by decide) ?_
  exact tq_X11_goOnEnded_32 C _ _ _ _ _ _ _ _ hM hV (lv_sub hl [0, 1] rfl)
set_option maxHeartbeats 4000000 in
set_option maxRecDepth 100000 in
theorem tq_X11_goOnEnded_92 {p : Program} {l : Launch} {e : Env} {s : State} {m : MethodId} {args : Array Value} {below : List Frame} {meth : Method} {c : Code} {D : DX} {cA : Nat → ClassId} {z0 N : Nat} {K : PS → Prop} (C : CX p s m args meth c cX11_goOnEnded 2 RX11 none D cA z0) : ∀ (S : PS) (a0 : Nat) (b0 : Nat) (t1 : Int32) (H : Heap) (locs : List Loc) (ls : Array Slot), wq_X11_goOnEnded_92 N K S a0 b0 t1 → XV D cA z0 s S H locs → lv_has ls 2 [(0, .ref a0)] → W p l e (rmd 3 0 0) s m args below meth c H locs 0 0 (MQ below (va_Qv K (XK D cA z0) (zA z0)) args s 0 0 (zA z0)) (F0 m 92 ls [.int t1, .ref b0]) := by
  obtain ⟨hx, hb, hml, hown, hts, hK, hz, hlk, hr⟩ := id C
  intro S a0 b0 t1 H locs ls hM hV hl
  unfold wq_X11_goOnEnded_92 at hM
  have hk32 := hM.1
  have hM := hM.2
  have hz33 := hM.1
  have hM := hM.2
  obtain ⟨S34, eS34⟩ : ∃ z : PS, z = S.setI 788 b0 t1 := ⟨_, rfl⟩
  have hM := hM S34 eS34
  refine x_putI C hV wp_X11_173 hk32 (nz_b hz33) eS34 dX11_goOnEnded_92 (fun H locs hV => ?_)
  refine lv_aload_n hx hb dX11_goOnEnded_95 rfl (lv_at hl 0 rfl) ?_
  have hk35 := hM.1
  have hM := hM.2
  refine x_getI C hV wf_X11_173 hk35 dX11_goOnEnded_96 ?_
  refine lv_if_eq (tgt := 133) hx hb dX11_goOnEnded_99 (by decide) (fun c36 => ?_) (fun c36 => ?_)
  · have hM := ite_t c36 hM
    exact x_vret C hV hM dX11_goOnEnded_133
  have hM := ite_f c36 hM
  refine lv_aload_n hx hb dX11_goOnEnded_102 rfl (lv_at hl 0 rfl) ?_
  refine lv_dup hx hb dX11_goOnEnded_103 rfl ?_
  refine x_getI C hV wf_X11_293 hk35 dX11_goOnEnded_104 ?_
  refine lv_iconst (v := 1) hx hb dX11_goOnEnded_107 (by decide) ?_
  refine lv_isub hx hb dX11_goOnEnded_108 ?_
  obtain ⟨S37, eS37⟩ : ∃ z : PS, z = S34.setI 798 a0 ((S34.I 798 a0) - 1) := ⟨_, rfl⟩
  have hM := hM S37 eS37
  refine x_putI C hV wp_X11_293 hk35 ⟨rfl, rfl⟩ eS37 dX11_goOnEnded_109 (fun H locs hV => ?_)
  refine lv_aload_n hx hb dX11_goOnEnded_112 rfl (lv_at hl 0 rfl) ?_
  refine lv_dup hx hb dX11_goOnEnded_113 rfl ?_
  have hk38 := kp_I eS37 hk35
  refine x_getI C hV wf_X11_306 hk38 dX11_goOnEnded_114 ?_
  refine lv_iconst (v := 1) hx hb dX11_goOnEnded_117 (by decide) ?_
  refine lv_isub hx hb dX11_goOnEnded_118 ?_
  obtain ⟨S39, eS39⟩ : ∃ z : PS, z = S37.setI 799 a0 ((S37.I 799 a0) - 1) := ⟨_, rfl⟩
  have hM := hM S39 eS39
  refine x_putI C hV wp_X11_306 hk38 ⟨rfl, rfl⟩ eS39 dX11_goOnEnded_119 (fun H locs hV => ?_)
  refine lv_aload_n hx hb dX11_goOnEnded_122 rfl (lv_at hl 0 rfl) ?_
  refine lv_ldcw hx hb hown (hts _ wc_X11_331) dX11_goOnEnded_123 ?_
  have hk40 := kp_I eS39 hk38
  refine x_cv hV (x_runV (As := [.int 40002]) (rest := []) C hV mi_X11_ends wl_X11_343 hk40 (c_X11_ends hM) ⟨by decide, by decide⟩ rfl hl.1 (Nat.le_of_ble_eq_true rfl) dX11_goOnEnded_126 ⟨Nat.zero_le _, Nat.zero_le _⟩) (fun S41 H locs hV hM => ?_)
  refine lv_aload_n hx hb dX11_goOnEnded_129 rfl (lv_at hl 0 rfl) ?_
  have hk43 := hM.1
  have hM := hM.2
  refine x_cv hV (x_runV (As := []) (rest := []) C hV mi_X11_advance wl_X11_177 hk43 (c_X11_advance hM) ⟨by decide, by decide⟩ rfl hl.1 (Nat.le_of_ble_eq_true rfl) dX11_goOnEnded_130 ⟨Nat.zero_le _, Nat.zero_le _⟩) (fun S44 H locs hV hM => ?_)
  exact x_vret C hV hM dX11_goOnEnded_133
set_option maxHeartbeats 4000000 in
set_option maxRecDepth 100000 in
theorem tq_X11_goOnEnded_91 {p : Program} {l : Launch} {e : Env} {s : State} {m : MethodId} {args : Array Value} {below : List Frame} {meth : Method} {c : Code} {D : DX} {cA : Nat → ClassId} {z0 N : Nat} {K : PS → Prop} (C : CX p s m args meth c cX11_goOnEnded 2 RX11 none D cA z0) : ∀ (S : PS) (a0 : Nat) (b0 : Nat) (H : Heap) (locs : List Loc) (ls : Array Slot), wq_X11_goOnEnded_91 N K S a0 b0 → XV D cA z0 s S H locs → lv_has ls 2 [(0, .ref a0)] → W p l e (rmd 3 0 0) s m args below meth c H locs 0 0 (MQ below (va_Qv K (XK D cA z0) (zA z0)) args s 0 0 (zA z0)) (F0 m 91 ls [.ref b0]) := by
  obtain ⟨hx, hb, hml, hown, hts, hK, hz, hlk, hr⟩ := id C
  intro S a0 b0 H locs ls hM hV hl
  unfold wq_X11_goOnEnded_91 at hM
  refine lv_iconst (v := 0) hx hb dX11_goOnEnded_91 (by decide) ?_
  exact tq_X11_goOnEnded_92 C _ _ _ _ _ _ _ hM hV (lv_sub hl [0] rfl)
set_option maxHeartbeats 4000000 in
set_option maxRecDepth 100000 in
theorem c_X11_goOnEnded {l : Launch} {D : DX} {cA : Nat → ClassId} {z0 N : Nat} {S : PS} {a0 : Nat} {K : PS → Prop} (hM : wp_X11_goOnEnded N S a0 K) : MetV l yX11_goOnEnded cX11_goOnEnded 2 none 3 0 0 D cA z0 [.ref a0] S K := by
  refine x_met RX11 (by decide) rfl ?_
  intro p e s m below meth c C hin hV
  have hl := lv_entry ([.ref a0]) (n := 2) (Nat.le_of_ble_eq_true rfl)
  rw [lg_entry_eq]
  generalize (lg_sl ([.ref a0]) ++ List.replicate (2 - (lg_sl ([.ref a0])).length) Slot.unset).toArray = ls at hl ⊢
  have hl : lv_has ls 2 [(0, .ref a0)] := hl
  obtain ⟨hx, hb, hml, hown, hts, hK, hz, hlk, hr⟩ := id C
  unfold wp_X11_goOnEnded at hM
  refine lv_aload_n hx hb dX11_goOnEnded_0 rfl (lv_at hl 0 rfl) ?_
  refine lv_ldc2 hx hb hown (hts _ wc_X11_208) dX11_goOnEnded_1 ?_
  have hk1 := hM.1
  have hM := hM.2
  refine x_ci hV (x_runV (As := [.long (1111 : Int64)]) (rest := []) C hV mi_X11_isWord wl_X11_180 hk1 (c_X11_isWord hM) ⟨by decide, by decide⟩ rfl hl.1 (Nat.le_of_ble_eq_true rfl) dX11_goOnEnded_4 ⟨Nat.zero_le _, Nat.zero_le _⟩) (fun r3 S2 H locs hV hM => ?_)
  have hz4 := hM.1
  have hM := hM.2
  refine lv_istore_n (lv' := [(1, .int r3), (0, .ref a0)]) hx hb dX11_goOnEnded_7 rfl hl (by decide) rfl (fun ls hl => ?_)
  refine lv_iload_n hx hb dX11_goOnEnded_8 rfl (lv_at hl 0 rfl) ?_
  refine lv_if_ne (tgt := 22) hx hb dX11_goOnEnded_9 (by decide) (fun c5 => ?_) (fun c5 => ?_)
  · have hM := ite_f c5 hM
    exact tq_X11_goOnEnded_22 C _ _ _ _ _ _ hM hV (lv_sub hl [1, 0] rfl)
  have hM := ite_t c5 hM
  refine lv_aload_n hx hb dX11_goOnEnded_12 rfl (lv_at hl 1 rfl) ?_
  refine lv_ldc2 hx hb hown (hts _ wc_X11_348) dX11_goOnEnded_13 ?_
  have hk19 := hM.1
  have hM := hM.2
  refine x_ci hV (x_runV (As := [.long (423 : Int64)]) (rest := []) C hV mi_X11_isWord wl_X11_180 hk19 (c_X11_isWord hM) ⟨by decide, by decide⟩ rfl hl.1 (Nat.le_of_ble_eq_true rfl) dX11_goOnEnded_16 ⟨Nat.zero_le _, Nat.zero_le _⟩) (fun r21 S20 H locs hV hM => ?_)
  have hz22 := hM.1
  have hM := hM.2
  refine lv_if_eq (tgt := 62) hx hb dX11_goOnEnded_19 (by decide) (fun c23 => ?_) (fun c23 => ?_)
  · have hM := ite_t c23 hM
    refine lv_aload_n hx hb dX11_goOnEnded_62 rfl (lv_at hl 1 rfl) ?_
    refine lv_iconst (v := 1) hx hb dX11_goOnEnded_63 (by decide) ?_
    have hk24 := hM.1
    have hM := hM.2
    refine x_cv hV (x_runV (As := [.int 1]) (rest := []) C hV mi_X11_settle wl_X11_345 hk24 (c_X11_settle hM) ⟨by decide, by decide⟩ rfl hl.1 (Nat.le_of_ble_eq_true rfl) dX11_goOnEnded_64 ⟨Nat.zero_le _, Nat.zero_le _⟩) (fun S25 H locs hV hM => ?_)
    refine lv_aload_n hx hb dX11_goOnEnded_67 rfl (lv_at hl 1 rfl) ?_
    refine lv_aload_n hx hb dX11_goOnEnded_68 rfl (lv_at hl 1 rfl) ?_
    refine lv_bipush (v := 41) hx hb dX11_goOnEnded_69 (by decide) ?_
    have hk27 := hM.1
    have hM := hM.2
    refine x_ci hV (x_runV (As := [.int 41]) (rest := [.ref a0]) C hV mi_X11_isMark wl_X11_188 hk27 (c_X11_isMark hM) ⟨by decide, by decide⟩ rfl hl.1 (Nat.le_of_ble_eq_true rfl) dX11_goOnEnded_71 ⟨Nat.zero_le _, Nat.zero_le _⟩) (fun r29 S28 H locs hV hM => ?_)
    have hz30 := hM.1
    have hM := hM.2
    refine lv_if_eq (tgt := 91) hx hb dX11_goOnEnded_74 (by decide) (fun c31 => ?_) (fun c31 => ?_)
    · have hM := ite_t c31 hM
      exact tq_X11_goOnEnded_91 C _ _ _ _ _ _ hM hV (lv_sub hl [1] rfl)
    have hM := ite_f c31 hM
    refine lv_aload_n hx hb dX11_goOnEnded_77 rfl (lv_at hl 1 rfl) ?_
    have hk46 := hM.1
    have hM := hM.2
    refine x_ci hV (x_runV (As := []) (rest := [.ref a0]) C hV mi_X11_top wl_X11_296 hk46 (c_X11_top hM) ⟨by decide, by decide⟩ rfl hl.1 (Nat.le_of_ble_eq_true rfl) dX11_goOnEnded_78 ⟨Nat.zero_le _, Nat.zero_le _⟩) (fun r48 S47 H locs hV hM => ?_)
    refine lv_ldcw hx hb hown (hts _ wc_X11_335) dX11_goOnEnded_81 ?_
    refine lv_icmp_ne (tgt := 91) hx hb dX11_goOnEnded_84 (by decide) (fun c49 => ?_) (fun c49 => ?_)
    · have hM := ite_f c49 hM
      exact tq_X11_goOnEnded_91 C _ _ _ _ _ _ hM hV (lv_sub hl [1] rfl)
    have hM := ite_t c49 hM
    refine lv_iconst (v := 1) hx hb dX11_goOnEnded_87 (by decide) ?_
    refine lv_goto (tgt := 92) hx hb dX11_goOnEnded_88 (by decide) ?_
    exact tq_X11_goOnEnded_92 C _ _ _ _ _ _ _ hM hV (lv_sub hl [1] rfl)
  have hM := ite_f c23 hM
  exact tq_X11_goOnEnded_22 C _ _ _ _ _ _ hM hV (lv_sub hl [1, 0] rfl)

def wp_X11_joined (N : Nat) (S : PS) (x0 : Int32) (x1 : Int32) (x2 : Int32) (K : Int32 → PS → Prop) : Prop := if x0 = 30042 then (K (x1 * x2) S) else if x0 = 30043 then (K (x1 + x2) S) else if x0 = 30045 then (K (x1 - x2) S) else if x0 = 30060 then (if x2 ≤ x1 then (K 0 S) else (K 1 S)) else if x0 = 30061 then (if x1 = x2 then (K 1 S) else (K 0 S)) else if x0 = 40000 then (if x1 = 0 then (K 0 S) else (if x2 = 0 then (K 0 S) else (K 1 S))) else if x0 = 40001 then (if x1 = 0 then (if x2 = 0 then (K 0 S) else (K 1 S)) else (K 1 S)) else if x1 ≤ x2 then (K 0 S) else (K 1 S)
set_option maxHeartbeats 4000000 in
set_option maxRecDepth 100000 in
theorem c_X11_joined {l : Launch} {D : DX} {cA : Nat → ClassId} {z0 N : Nat} {S : PS} {x0 : Int32} {x1 : Int32} {x2 : Int32} {K : Int32 → PS → Prop} (hM : wp_X11_joined N S x0 x1 x2 K) : MetI l yX11_joined cX11_joined 3 (some .int) 0 0 0 D cA z0 [.int x0, .int x1, .int x2] S K := by
  refine x_met RX11 (by decide) rfl ?_
  intro p e s m below meth c C hin hV
  have hl := lv_entry ([.int x0, .int x1, .int x2]) (n := 3) (Nat.le_of_ble_eq_true rfl)
  rw [lg_entry_eq]
  generalize (lg_sl ([.int x0, .int x1, .int x2]) ++ List.replicate (3 - (lg_sl ([.int x0, .int x1, .int x2])).length) Slot.unset).toArray = ls at hl ⊢
  have hl : lv_has ls 3 [(0, .int x0), (1, .int x1), (2, .int x2)] := hl
  obtain ⟨hx, hb, hml, hown, hts, hK, hz, hlk, hr⟩ := id C
  unfold wp_X11_joined at hM
  refine lv_iload_n hx hb dX11_joined_0 rfl (lv_at hl 0 rfl) ?_
  by_cases c1 : x0 = 30042
  · have hM := ite_t c1 hM
    refine lv_lookup (tgt := 96) (off := 95) hx hb dX11_joined_1 (by decide) (by rw [c1]; decide) (by decide) ?_
    refine lv_iload_n hx hb dX11_joined_96 rfl (lv_at hl 1 rfl) ?_
    refine lv_iload_n hx hb dX11_joined_97 rfl (lv_at hl 2 rfl) ?_
    refine lv_imul hx hb dX11_joined_98 ?_
    exact x_iret C hV hM dX11_joined_99
  have hM := ite_f c1 hM
  by_cases c2 : x0 = 30043
  · have hM := ite_t c2 hM
    refine lv_lookup (tgt := 100) (off := 99) hx hb dX11_joined_1 (by decide) (by rw [c2]; decide) (by decide) ?_
    refine lv_iload_n hx hb dX11_joined_100 rfl (lv_at hl 1 rfl) ?_
    refine lv_iload_n hx hb dX11_joined_101 rfl (lv_at hl 2 rfl) ?_
    refine lv_iadd hx hb dX11_joined_102 ?_
    exact x_iret C hV hM dX11_joined_103
  have hM := ite_f c2 hM
  by_cases c3 : x0 = 30045
  · have hM := ite_t c3 hM
    refine lv_lookup (tgt := 104) (off := 103) hx hb dX11_joined_1 (by decide) (by rw [c3]; decide) (by decide) ?_
    refine lv_iload_n hx hb dX11_joined_104 rfl (lv_at hl 1 rfl) ?_
    refine lv_iload_n hx hb dX11_joined_105 rfl (lv_at hl 2 rfl) ?_
    refine lv_isub hx hb dX11_joined_106 ?_
    exact x_iret C hV hM dX11_joined_107
  have hM := ite_f c3 hM
  by_cases c4 : x0 = 30060
  · have hM := ite_t c4 hM
    refine lv_lookup (tgt := 108) (off := 107) hx hb dX11_joined_1 (by decide) (by rw [c4]; decide) (by decide) ?_
    refine lv_iload_n hx hb dX11_joined_108 rfl (lv_at hl 1 rfl) ?_
    refine lv_iload_n hx hb dX11_joined_109 rfl (lv_at hl 2 rfl) ?_
    refine lv_icmp_ge (tgt := 117) hx hb dX11_joined_110 (by decide) (fun c5 => ?_) (fun c5 => ?_)
    · have hM := ite_t c5 hM
      refine lv_iconst (v := 0) hx hb dX11_joined_117 (by decide) ?_
      exact x_iret C hV hM dX11_joined_118
    have hM := ite_f c5 hM
    refine lv_iconst (v := 1) hx hb dX11_joined_113 (by decide) ?_
    refine lv_goto (tgt := 118) hx hb dX11_joined_114 (by decide) ?_
    exact x_iret C hV hM dX11_joined_118
  have hM := ite_f c4 hM
  by_cases c6 : x0 = 30061
  · have hM := ite_t c6 hM
    refine lv_lookup (tgt := 119) (off := 118) hx hb dX11_joined_1 (by decide) (by rw [c6]; decide) (by decide) ?_
    refine lv_iload_n hx hb dX11_joined_119 rfl (lv_at hl 1 rfl) ?_
    refine lv_iload_n hx hb dX11_joined_120 rfl (lv_at hl 2 rfl) ?_
    refine lv_icmp_ne (tgt := 128) hx hb dX11_joined_121 (by decide) (fun c7 => ?_) (fun c7 => ?_)
    · have hM := ite_f c7 hM
      refine lv_iconst (v := 0) hx hb dX11_joined_128 (by decide) ?_
      exact x_iret C hV hM dX11_joined_129
    have hM := ite_t c7 hM
    refine lv_iconst (v := 1) hx hb dX11_joined_124 (by decide) ?_
    refine lv_goto (tgt := 129) hx hb dX11_joined_125 (by decide) ?_
    exact x_iret C hV hM dX11_joined_129
  have hM := ite_f c6 hM
  by_cases c8 : x0 = 40000
  · have hM := ite_t c8 hM
    refine lv_lookup (tgt := 68) (off := 67) hx hb dX11_joined_1 (by decide) (by rw [c8]; decide) (by decide) ?_
    refine lv_iload_n hx hb dX11_joined_68 rfl (lv_at hl 1 rfl) ?_
    refine lv_if_eq (tgt := 80) hx hb dX11_joined_69 (by decide) (fun c9 => ?_) (fun c9 => ?_)
    · have hM := ite_t c9 hM
      refine lv_iconst (v := 0) hx hb dX11_joined_80 (by decide) ?_
      exact x_iret C hV hM dX11_joined_81
    have hM := ite_f c9 hM
    refine lv_iload_n hx hb dX11_joined_72 rfl (lv_at hl 2 rfl) ?_
    refine lv_if_eq (tgt := 80) hx hb dX11_joined_73 (by decide) (fun c10 => ?_) (fun c10 => ?_)
    · have hM := ite_t c10 hM
      refine lv_iconst (v := 0) hx hb dX11_joined_80 (by decide) ?_
      exact x_iret C hV hM dX11_joined_81
    have hM := ite_f c10 hM
    refine lv_iconst (v := 1) hx hb dX11_joined_76 (by decide) ?_
    refine lv_goto (tgt := 81) hx hb dX11_joined_77 (by decide) ?_
    exact x_iret C hV hM dX11_joined_81
  have hM := ite_f c8 hM
  by_cases c11 : x0 = 40001
  · have hM := ite_t c11 hM
    refine lv_lookup (tgt := 82) (off := 81) hx hb dX11_joined_1 (by decide) (by rw [c11]; decide) (by decide) ?_
    refine lv_iload_n hx hb dX11_joined_82 rfl (lv_at hl 1 rfl) ?_
    refine lv_if_ne (tgt := 90) hx hb dX11_joined_83 (by decide) (fun c12 => ?_) (fun c12 => ?_)
    · have hM := ite_f c12 hM
      refine lv_iconst (v := 1) hx hb dX11_joined_90 (by decide) ?_
      refine lv_goto (tgt := 95) hx hb dX11_joined_91 (by decide) ?_
      exact x_iret C hV hM dX11_joined_95
    have hM := ite_t c12 hM
    refine lv_iload_n hx hb dX11_joined_86 rfl (lv_at hl 2 rfl) ?_
    refine lv_if_eq (tgt := 94) hx hb dX11_joined_87 (by decide) (fun c13 => ?_) (fun c13 => ?_)
    · have hM := ite_t c13 hM
      refine lv_iconst (v := 0) hx hb dX11_joined_94 (by decide) ?_
      exact x_iret C hV hM dX11_joined_95
    have hM := ite_f c13 hM
    refine lv_iconst (v := 1) hx hb dX11_joined_90 (by decide) ?_
    refine lv_goto (tgt := 95) hx hb dX11_joined_91 (by decide) ?_
    exact x_iret C hV hM dX11_joined_95
  have hM := ite_f c11 hM
  refine lv_lookup (tgt := 130) (off := 129) hx hb dX11_joined_1 (by decide) (show Op.lookupswitch.offset [(30042, 95), (30043, 99), (30045, 103), (30060, 107), (30061, 118), (40000, 67), (40001, 81)] (129) x0.toInt = 129 from by rw [lv_osw c1 (by decide), lv_osw c2 (by decide), lv_osw c3 (by decide), lv_osw c4 (by decide), lv_osw c6 (by decide), lv_osw c8 (by decide), lv_osw c11 (by decide)]; rfl) (by decide) ?_
  refine lv_iload_n hx hb dX11_joined_130 rfl (lv_at hl 1 rfl) ?_
  refine lv_iload_n hx hb dX11_joined_131 rfl (lv_at hl 2 rfl) ?_
  refine lv_icmp_le (tgt := 139) hx hb dX11_joined_132 (by decide) (fun c14 => ?_) (fun c14 => ?_)
  · have hM := ite_t c14 hM
    refine lv_iconst (v := 0) hx hb dX11_joined_139 (by decide) ?_
    exact x_iret C hV hM dX11_joined_140
  have hM := ite_f c14 hM
  refine lv_iconst (v := 1) hx hb dX11_joined_135 (by decide) ?_
  refine lv_goto (tgt := 140) hx hb dX11_joined_136 (by decide) ?_
  exact x_iret C hV hM dX11_joined_140

def wq_X11_isSo_171 (N : Nat) (K : Int32 → PS → Prop) (k_17 : PS → Nat → Int32 → Int32 → Int32 → Prop) (S : PS) (a0 : Nat) (x1 : Int32) (x3 : Int32) (x4 : Int32) (b0 : Nat) (t1 : Int32) (t2 : Int32) : Prop := S.K b0 = 20 ∧ vp_in t1 (S.ln b0) ∧ ∀ S27 : PS, S27 = S.setA b0 t1.toNatClampNeg t2 → k_17 S27 a0 x1 (x3 + 1) (x4 + 1)
def wq_X11_isSo_17 (N : Nat) (K : Int32 → PS → Prop) : Nat → PS → Nat → Int32 → Int32 → Int32 → Prop
  | 0, _, _, _, _, _ => False
  | n + 1, S, a0, x1, x3, x4 => S.K a0 = 12 ∧ ∃ p8 : Nat, S.R 779 a0 = some p8 ∧ S.K p8 = 20 ∧ vp_in x1 (S.ln p8) ∧ if ((200 * x1) + (S.A p8 x1.toNatClampNeg)) ≤ x4 then (∃ p12 : Nat, S.R 802 a0 = some p12 ∧ S.K p12 = 20 ∧ vp_in 0 (S.ln p12) ∧ if (S.A p12 (0 : Int32).toNatClampNeg) = 0 then (K 0 S) else (K 1 S)) else (∃ p16 : Nat, S.R 780 a0 = some p16 ∧ S.K p16 = 20 ∧ vp_in x4 (S.ln p16) ∧ ∀ v19 : Int32, v19 = (S.A p16 x4.toNatClampNeg) → if v19 = 40002 then (∃ p50 : Nat, S.R 802 a0 = some p50 ∧ ∃ p51 : Nat, S.R 802 a0 = some p51 ∧ S.K p51 = 20 ∧ vp_in (x3 - 1) (S.ln p51) ∧ S.K p50 = 20 ∧ vp_in (x3 - 1) (S.ln p50) ∧ ∀ S56 : PS, S56 = S.setA p50 (x3 - 1).toNatClampNeg (1 - (S.A p51 (x3 - 1).toNatClampNeg)) → wq_X11_isSo_17 N K n S56 a0 x1 x3 (x4 + 1)) else (if v19 = 40003 then (∃ p43 : Nat, S.R 802 a0 = some p43 ∧ ∃ p44 : Nat, S.R 802 a0 = some p44 ∧ S.K p44 = 20 ∧ vp_in (x3 - 1) (S.ln p44) ∧ S.K p43 = 20 ∧ vp_in (x3 - 1) (S.ln p43) ∧ ∀ S49 : PS, S49 = S.setA p43 (x3 - 1).toNatClampNeg (0 - (S.A p44 (x3 - 1).toNatClampNeg)) → wq_X11_isSo_17 N K n S49 a0 x1 x3 (x4 + 1)) else (if v19 < 30000 then (∃ p23 : Nat, S.R 802 a0 = some p23 ∧ if v19 < 20000 then (wq_X11_isSo_171 N K (fun S a0 x1 x3 x4 => wq_X11_isSo_17 N K n S a0 x1 x3 x4) S a0 x1 x3 x4 p23 x3 v19) else (∃ p28 : Nat, S.R 803 a0 = some p28 ∧ S.K p28 = 20 ∧ vp_in (v19 - 20000) (S.ln p28) ∧ wq_X11_isSo_171 N K (fun S a0 x1 x3 x4 => wq_X11_isSo_17 N K n S a0 x1 x3 x4) S a0 x1 x3 x4 p23 x3 (S.A p28 (v19 - 20000).toNatClampNeg))) else (∃ p31 : Nat, S.R 802 a0 = some p31 ∧ ∃ p32 : Nat, S.R 802 a0 = some p32 ∧ S.K p32 = 20 ∧ vp_in ((x3 + (-1)) - 1) (S.ln p32) ∧ ∃ p35 : Nat, S.R 802 a0 = some p35 ∧ S.K p35 = 20 ∧ vp_in (x3 + (-1)) (S.ln p35) ∧ wp_X11_joined N S v19 (S.A p32 ((x3 + (-1)) - 1).toNatClampNeg) (S.A p35 (x3 + (-1)).toNatClampNeg) (fun r39 S38 => S38.K p31 = 20 ∧ vp_in ((x3 + (-1)) - 1) (S38.ln p31) ∧ ∀ S42 : PS, S42 = S38.setA p31 ((x3 + (-1)) - 1).toNatClampNeg r39 → wq_X11_isSo_17 N K n S42 a0 x1 (x3 + (-1)) (x4 + 1))))))
def wp_X11_isSo (N : Nat) (S : PS) (a0 : Nat) (x1 : Int32) (x2 : Int32) (K : Int32 → PS → Prop) : Prop := S.K a0 = 12 ∧ ∃ p2 : Nat, S.R 803 a0 = some p2 ∧ S.K p2 = 20 ∧ vp_in 6 (S.ln p2) ∧ ∀ S5 : PS, S5 = S.setA p2 (6 : Int32).toNatClampNeg x2 → ∀ v6 : Int32, v6 = (200 * x1) → wq_X11_isSo_17 N K N S5 a0 x1 0 v6
set_option maxHeartbeats 4000000 in
set_option maxRecDepth 100000 in
theorem tq_X11_isSo_171 {p : Program} {l : Launch} {e : Env} {s : State} {m : MethodId} {args : Array Value} {below : List Frame} {meth : Method} {c : Code} {D : DX} {cA : Nat → ClassId} {z0 N : Nat} {K : Int32 → PS → Prop} {k_17 : PS → Nat → Int32 → Int32 → Int32 → Prop} (C : CX p s m args meth c cX11_isSo 6 RX11 (some .boolean) D cA z0) (H_17 : ∀ (S : PS) (a0 : Nat) (x1 : Int32) (x3 : Int32) (x4 : Int32) (H : Heap) (locs : List Loc) (ls : Array Slot), k_17 S a0 x1 x3 x4 → XV D cA z0 s S H locs → lv_has ls 6 [(0, .ref a0), (1, .int x1), (3, .int x3), (4, .int x4)] → W p l e (rmd 1 0 0) s m args below meth c H locs 0 0 (MQ below (va_Qi (fun r S => (r = 0 ∨ r = 1) ∧ K r S) (XK D cA z0) (zA z0)) args s 0 0 (zA z0)) (F0 m 17 ls [])) : ∀ (S : PS) (a0 : Nat) (x1 : Int32) (x3 : Int32) (x4 : Int32) (b0 : Nat) (t1 : Int32) (t2 : Int32) (H : Heap) (locs : List Loc) (ls : Array Slot), wq_X11_isSo_171 N K k_17 S a0 x1 x3 x4 b0 t1 t2 → XV D cA z0 s S H locs → lv_has ls 6 [(0, .ref a0), (1, .int x1), (3, .int x3), (4, .int x4)] → W p l e (rmd 1 0 0) s m args below meth c H locs 0 0 (MQ below (va_Qi (fun r S => (r = 0 ∨ r = 1) ∧ K r S) (XK D cA z0) (zA z0)) args s 0 0 (zA z0)) (F0 m 171 ls [.int t2, .int t1, .ref b0]) := by
  obtain ⟨hx, hb, hml, hown, hts, hK, hz, hlk, hr⟩ := id C
  intro S a0 x1 x3 x4 b0 t1 t2 H locs ls hM hV hl
  unfold wq_X11_isSo_171 at hM
  have hk25 := hM.1
  have hM := hM.2
  have hi26 := hM.1
  have hM := hM.2
  obtain ⟨S27, eS27⟩ : ∃ z : PS, z = S.setA b0 t1.toNatClampNeg t2 := ⟨_, rfl⟩
  have hM := hM S27 eS27
  refine x_iast C hV hk25 hi26 eS27 dX11_isSo_171 (fun H locs hV => ?_)
  refine lv_iinc (v := (x3 + 1)) (lv' := [(3, .int (x3 + 1)), (0, .ref a0), (1, .int x1), (4, .int x4)]) hx hb dX11_isSo_172 hl (k := 2) rfl rfl (by decide) rfl (fun ls hl => ?_)
  refine lv_iinc (v := (x4 + 1)) (lv' := [(4, .int (x4 + 1)), (3, .int (x3 + 1)), (0, .ref a0), (1, .int x1)]) hx hb dX11_isSo_175 hl (k := 3) rfl rfl (by decide) rfl (fun ls hl => ?_)
  refine lv_goto (tgt := 17) hx hb dX11_isSo_178 (by decide) ?_
  exact H_17 _ _ _ _ _ _ _ _ hM hV (lv_sub hl [2, 3, 1, 0] rfl)
set_option maxHeartbeats 4000000 in
set_option maxRecDepth 100000 in
theorem tq_X11_isSo_17 {p : Program} {l : Launch} {e : Env} {s : State} {m : MethodId} {args : Array Value} {below : List Frame} {meth : Method} {c : Code} {D : DX} {cA : Nat → ClassId} {z0 N : Nat} {K : Int32 → PS → Prop} (C : CX p s m args meth c cX11_isSo 6 RX11 (some .boolean) D cA z0) : ∀ (n : Nat) (S : PS) (a0 : Nat) (x1 : Int32) (x3 : Int32) (x4 : Int32) (H : Heap) (locs : List Loc) (ls : Array Slot), wq_X11_isSo_17 N K n S a0 x1 x3 x4 → XV D cA z0 s S H locs → lv_has ls 6 [(0, .ref a0), (1, .int x1), (3, .int x3), (4, .int x4)] → W p l e (rmd 1 0 0) s m args below meth c H locs 0 0 (MQ below (va_Qi (fun r S => (r = 0 ∨ r = 1) ∧ K r S) (XK D cA z0) (zA z0)) args s 0 0 (zA z0)) (F0 m 17 ls []) := by
  obtain ⟨hx, hb, hml, hown, hts, hK, hz, hlk, hr⟩ := id C
  intro n
  induction n with
  | zero => intro S a0 x1 x3 x4 H locs ls hM; exact absurd hM id
  | succ n ih =>
    intro S a0 x1 x3 x4 H locs ls hM hV hl
    rw [wq_X11_isSo_17.eq_2] at hM
    refine lv_iload hx hb dX11_isSo_17 (lv_at hl 3 rfl) ?_
    refine lv_sipush (v := 200) hx hb dX11_isSo_19 (by decide) ?_
    refine lv_iload_n hx hb dX11_isSo_22 rfl (lv_at hl 1 rfl) ?_
    refine lv_imul hx hb dX11_isSo_23 ?_
    refine lv_aload_n hx hb dX11_isSo_24 rfl (lv_at hl 0 rfl) ?_
    have hk7 := hM.1
    have hM := hM.2
    obtain ⟨p8, hp8, hM⟩ := hM
    refine x_getR C hV wf_X11_23 hk7 hp8 dX11_isSo_25 ?_
    refine lv_iload_n hx hb dX11_isSo_28 rfl (lv_at hl 1 rfl) ?_
    have hk9 := hM.1
    have hM := hM.2
    have hi10 := hM.1
    have hM := hM.2
    refine x_iald C hV hk9 hi10 dX11_isSo_29 ?_
    refine lv_iadd hx hb dX11_isSo_30 ?_
    refine lv_icmp_ge (tgt := 181) hx hb dX11_isSo_31 (by decide) (fun c11 => ?_) (fun c11 => ?_)
    · have hM := ite_t c11 hM
      refine lv_aload_n hx hb dX11_isSo_181 rfl (lv_at hl 0 rfl) ?_
      obtain ⟨p12, hp12, hM⟩ := hM
      refine x_getR C hV wf_X11_47 hk7 hp12 dX11_isSo_182 ?_
      refine lv_iconst (v := 0) hx hb dX11_isSo_185 (by decide) ?_
      have hk13 := hM.1
      have hM := hM.2
      have hi14 := hM.1
      have hM := hM.2
      refine x_iald C hV hk13 hi14 dX11_isSo_186 ?_
      refine lv_if_eq (tgt := 194) hx hb dX11_isSo_187 (by decide) (fun c15 => ?_) (fun c15 => ?_)
      · have hM := ite_t c15 hM
        refine lv_iconst (v := 0) hx hb dX11_isSo_194 (by decide) ?_
        exact x_zret C hV (by decide) hM dX11_isSo_195
      have hM := ite_f c15 hM
      refine lv_iconst (v := 1) hx hb dX11_isSo_190 (by decide) ?_
      refine lv_goto (tgt := 195) hx hb dX11_isSo_191 (by decide) ?_
      exact x_zret C hV (by decide) hM dX11_isSo_195
    have hM := ite_f c11 hM
    refine lv_aload_n hx hb dX11_isSo_34 rfl (lv_at hl 0 rfl) ?_
    obtain ⟨p16, hp16, hM⟩ := hM
    refine x_getR C hV wf_X11_26 hk7 hp16 dX11_isSo_35 ?_
    refine lv_iload hx hb dX11_isSo_38 (lv_at hl 3 rfl) ?_
    have hk17 := hM.1
    have hM := hM.2
    have hi18 := hM.1
    have hM := hM.2
    refine x_iald C hV hk17 hi18 dX11_isSo_40 ?_
    refine lv_topi (fun v19 ev19 => ?_)
    have hM := hM v19 ev19
    refine lv_istore (lv' := [(5, .int v19), (0, .ref a0), (1, .int x1), (3, .int x3), (4, .int x4)]) hx hb dX11_isSo_41 hl (by decide) rfl (fun ls hl => ?_)
    refine lv_iload hx hb dX11_isSo_43 (lv_at hl 0 rfl) ?_
    refine lv_ldcw hx hb hown (hts _ wc_X11_331) dX11_isSo_45 ?_
    refine lv_icmp_ne (tgt := 72) hx hb dX11_isSo_48 (by decide) (fun c20 => ?_) (fun c20 => ?_)
    · have hM := ite_f c20 hM
      refine lv_iload hx hb dX11_isSo_72 (lv_at hl 0 rfl) ?_
      refine lv_ldcw hx hb hown (hts _ wc_X11_339) dX11_isSo_74 ?_
      refine lv_icmp_ne (tgt := 101) hx hb dX11_isSo_77 (by decide) (fun c21 => ?_) (fun c21 => ?_)
      · have hM := ite_f c21 hM
        refine lv_iload hx hb dX11_isSo_101 (lv_at hl 0 rfl) ?_
        refine lv_sipush (v := 30000) hx hb dX11_isSo_103 (by decide) ?_
        refine lv_icmp_lt (tgt := 142) hx hb dX11_isSo_106 (by decide) (fun c22 => ?_) (fun c22 => ?_)
        · have hM := ite_t c22 hM
          refine lv_aload_n hx hb dX11_isSo_142 rfl (lv_at hl 1 rfl) ?_
          obtain ⟨p23, hp23, hM⟩ := hM
          refine x_getR C hV wf_X11_47 hk7 hp23 dX11_isSo_143 ?_
          refine lv_iload_n hx hb dX11_isSo_146 rfl (lv_at hl 3 rfl) ?_
          refine lv_iload hx hb dX11_isSo_147 (lv_at hl 0 rfl) ?_
          refine lv_sipush (v := 20000) hx hb dX11_isSo_149 (by decide) ?_
          refine lv_icmp_lt (tgt := 169) hx hb dX11_isSo_152 (by decide) (fun c24 => ?_) (fun c24 => ?_)
          · have hM := ite_t c24 hM
            refine lv_iload hx hb dX11_isSo_169 (lv_at hl 0 rfl) ?_
            exact tq_X11_isSo_171 C ih _ _ _ _ _ _ _ _ _ _ _ hM hV (lv_sub hl [1, 2, 3, 4] rfl)
          have hM := ite_f c24 hM
          refine lv_aload_n hx hb dX11_isSo_155 rfl (lv_at hl 1 rfl) ?_
          obtain ⟨p28, hp28, hM⟩ := hM
          refine x_getR C hV wf_X11_50 hk7 hp28 dX11_isSo_156 ?_
          refine lv_iload hx hb dX11_isSo_159 (lv_at hl 0 rfl) ?_
          refine lv_sipush (v := 20000) hx hb dX11_isSo_161 (by decide) ?_
          refine lv_isub hx hb dX11_isSo_164 ?_
          have hk29 := hM.1
          have hM := hM.2
          have hi30 := hM.1
          have hM := hM.2
          refine x_iald C hV hk29 hi30 dX11_isSo_165 ?_
          refine lv_goto (tgt := 171) hx hb dX11_isSo_166 (by decide) ?_
          exact tq_X11_isSo_171 C ih _ _ _ _ _ _ _ _ _ _ _ hM hV (lv_sub hl [1, 2, 3, 4] rfl)
        have hM := ite_f c22 hM
        refine lv_iinc (v := (x3 + (-1))) (lv' := [(3, .int (x3 + (-1))), (5, .int v19), (0, .ref a0), (1, .int x1), (4, .int x4)]) hx hb dX11_isSo_109 hl (k := 3) rfl rfl (by decide) rfl (fun ls hl => ?_)
        refine lv_aload_n hx hb dX11_isSo_112 rfl (lv_at hl 2 rfl) ?_
        obtain ⟨p31, hp31, hM⟩ := hM
        refine x_getR C hV wf_X11_47 hk7 hp31 dX11_isSo_113 ?_
        refine lv_iload_n hx hb dX11_isSo_116 rfl (lv_at hl 0 rfl) ?_
        refine lv_iconst (v := 1) hx hb dX11_isSo_117 (by decide) ?_
        refine lv_isub hx hb dX11_isSo_118 ?_
        refine lv_iload hx hb dX11_isSo_119 (lv_at hl 1 rfl) ?_
        refine lv_aload_n hx hb dX11_isSo_121 rfl (lv_at hl 2 rfl) ?_
        obtain ⟨p32, hp32, hM⟩ := hM
        refine x_getR C hV wf_X11_47 hk7 hp32 dX11_isSo_122 ?_
        refine lv_iload_n hx hb dX11_isSo_125 rfl (lv_at hl 0 rfl) ?_
        refine lv_iconst (v := 1) hx hb dX11_isSo_126 (by decide) ?_
        refine lv_isub hx hb dX11_isSo_127 ?_
        have hk33 := hM.1
        have hM := hM.2
        have hi34 := hM.1
        have hM := hM.2
        refine x_iald C hV hk33 hi34 dX11_isSo_128 ?_
        refine lv_aload_n hx hb dX11_isSo_129 rfl (lv_at hl 2 rfl) ?_
        obtain ⟨p35, hp35, hM⟩ := hM
        refine x_getR C hV wf_X11_47 hk7 hp35 dX11_isSo_130 ?_
        refine lv_iload_n hx hb dX11_isSo_133 rfl (lv_at hl 0 rfl) ?_
        have hk36 := hM.1
        have hM := hM.2
        have hi37 := hM.1
        have hM := hM.2
        refine x_iald C hV hk36 hi37 dX11_isSo_134 ?_
        refine x_ci hV (x_runS (As := [.int v19, .int (S.A p32 ((x3 + (-1)) - 1).toNatClampNeg), .int (S.A p35 (x3 + (-1)).toNatClampNeg)]) (rest := [.int ((x3 + (-1)) - 1), .ref p31]) C hV ms_X11_joined wl_X11_373 (c_X11_joined hM) ⟨by decide, by decide⟩ rfl hl.1 (Nat.le_of_ble_eq_true rfl) dX11_isSo_135 ⟨Nat.zero_le _, Nat.zero_le _⟩) (fun r39 S38 H locs hV hM => ?_)
        have hk40 := hM.1
        have hM := hM.2
        have hi41 := hM.1
        have hM := hM.2
        obtain ⟨S42, eS42⟩ : ∃ z : PS, z = S38.setA p31 ((x3 + (-1)) - 1).toNatClampNeg r39 := ⟨_, rfl⟩
        have hM := hM S42 eS42
        refine x_iast C hV hk40 hi41 eS42 dX11_isSo_138 (fun H locs hV => ?_)
        refine lv_goto (tgt := 175) hx hb dX11_isSo_139 (by decide) ?_
        refine lv_iinc (v := (x4 + 1)) (lv' := [(4, .int (x4 + 1)), (3, .int (x3 + (-1))), (5, .int v19), (0, .ref a0), (1, .int x1)]) hx hb dX11_isSo_175 hl (k := 4) rfl rfl (by decide) rfl (fun ls hl => ?_)
        refine lv_goto (tgt := 17) hx hb dX11_isSo_178 (by decide) ?_
        exact ih _ _ _ _ _ _ _ _ hM hV (lv_sub hl [3, 4, 1, 0] rfl)
      have hM := ite_t c21 hM
      refine lv_aload_n hx hb dX11_isSo_80 rfl (lv_at hl 1 rfl) ?_
      obtain ⟨p43, hp43, hM⟩ := hM
      refine x_getR C hV wf_X11_47 hk7 hp43 dX11_isSo_81 ?_
      refine lv_iload_n hx hb dX11_isSo_84 rfl (lv_at hl 3 rfl) ?_
      refine lv_iconst (v := 1) hx hb dX11_isSo_85 (by decide) ?_
      refine lv_isub hx hb dX11_isSo_86 ?_
      refine lv_iconst (v := 0) hx hb dX11_isSo_87 (by decide) ?_
      refine lv_aload_n hx hb dX11_isSo_88 rfl (lv_at hl 1 rfl) ?_
      obtain ⟨p44, hp44, hM⟩ := hM
      refine x_getR C hV wf_X11_47 hk7 hp44 dX11_isSo_89 ?_
      refine lv_iload_n hx hb dX11_isSo_92 rfl (lv_at hl 3 rfl) ?_
      refine lv_iconst (v := 1) hx hb dX11_isSo_93 (by decide) ?_
      refine lv_isub hx hb dX11_isSo_94 ?_
      have hk45 := hM.1
      have hM := hM.2
      have hi46 := hM.1
      have hM := hM.2
      refine x_iald C hV hk45 hi46 dX11_isSo_95 ?_
      refine lv_isub hx hb dX11_isSo_96 ?_
      have hk47 := hM.1
      have hM := hM.2
      have hi48 := hM.1
      have hM := hM.2
      obtain ⟨S49, eS49⟩ : ∃ z : PS, z = S.setA p43 (x3 - 1).toNatClampNeg (0 - (S.A p44 (x3 - 1).toNatClampNeg)) := ⟨_, rfl⟩
      have hM := hM S49 eS49
      refine x_iast C hV hk47 hi48 eS49 dX11_isSo_97 (fun H locs hV => ?_)
      refine lv_goto (tgt := 175) hx hb dX11_isSo_98 (by decide) ?_
      refine lv_iinc (v := (x4 + 1)) (lv' := [(4, .int (x4 + 1)), (5, .int v19), (0, .ref a0), (1, .int x1), (3, .int x3)]) hx hb dX11_isSo_175 hl (k := 4) rfl rfl (by decide) rfl (fun ls hl => ?_)
      refine lv_goto (tgt := 17) hx hb dX11_isSo_178 (by decide) ?_
      exact ih _ _ _ _ _ _ _ _ hM hV (lv_sub hl [2, 3, 4, 0] rfl)
    have hM := ite_t c20 hM
    refine lv_aload_n hx hb dX11_isSo_51 rfl (lv_at hl 1 rfl) ?_
    obtain ⟨p50, hp50, hM⟩ := hM
    refine x_getR C hV wf_X11_47 hk7 hp50 dX11_isSo_52 ?_
    refine lv_iload_n hx hb dX11_isSo_55 rfl (lv_at hl 3 rfl) ?_
    refine lv_iconst (v := 1) hx hb dX11_isSo_56 (by decide) ?_
    refine lv_isub hx hb dX11_isSo_57 ?_
    refine lv_iconst (v := 1) hx hb dX11_isSo_58 (by decide) ?_
    refine lv_aload_n hx hb dX11_isSo_59 rfl (lv_at hl 1 rfl) ?_
    obtain ⟨p51, hp51, hM⟩ := hM
    refine x_getR C hV wf_X11_47 hk7 hp51 dX11_isSo_60 ?_
    refine lv_iload_n hx hb dX11_isSo_63 rfl (lv_at hl 3 rfl) ?_
    refine lv_iconst (v := 1) hx hb dX11_isSo_64 (by decide) ?_
    refine lv_isub hx hb dX11_isSo_65 ?_
    have hk52 := hM.1
    have hM := hM.2
    have hi53 := hM.1
    have hM := hM.2
    refine x_iald C hV hk52 hi53 dX11_isSo_66 ?_
    refine lv_isub hx hb dX11_isSo_67 ?_
    have hk54 := hM.1
    have hM := hM.2
    have hi55 := hM.1
    have hM := hM.2
    obtain ⟨S56, eS56⟩ : ∃ z : PS, z = S.setA p50 (x3 - 1).toNatClampNeg (1 - (S.A p51 (x3 - 1).toNatClampNeg)) := ⟨_, rfl⟩
    have hM := hM S56 eS56
    refine x_iast C hV hk54 hi55 eS56 dX11_isSo_68 (fun H locs hV => ?_)
    refine lv_goto (tgt := 175) hx hb dX11_isSo_69 (by decide) ?_
    refine lv_iinc (v := (x4 + 1)) (lv' := [(4, .int (x4 + 1)), (5, .int v19), (0, .ref a0), (1, .int x1), (3, .int x3)]) hx hb dX11_isSo_175 hl (k := 4) rfl rfl (by decide) rfl (fun ls hl => ?_)
    refine lv_goto (tgt := 17) hx hb dX11_isSo_178 (by decide) ?_
    exact ih _ _ _ _ _ _ _ _ hM hV (lv_sub hl [2, 3, 4, 0] rfl)
set_option maxHeartbeats 4000000 in
set_option maxRecDepth 100000 in
theorem c_X11_isSo {l : Launch} {D : DX} {cA : Nat → ClassId} {z0 N : Nat} {S : PS} {a0 : Nat} {x1 : Int32} {x2 : Int32} {K : Int32 → PS → Prop} (hM : wp_X11_isSo N S a0 x1 x2 K) : MetI l yX11_isSo cX11_isSo 6 (some .boolean) 1 0 0 D cA z0 [.ref a0, .int x1, .int x2] S (fun r S => (r = 0 ∨ r = 1) ∧ K r S) := by
  refine x_met RX11 (by decide) rfl ?_
  intro p e s m below meth c C hin hV
  have hl := lv_entry ([.ref a0, .int x1, .int x2]) (n := 6) (Nat.le_of_ble_eq_true rfl)
  rw [lg_entry_eq]
  generalize (lg_sl ([.ref a0, .int x1, .int x2]) ++ List.replicate (6 - (lg_sl ([.ref a0, .int x1, .int x2])).length) Slot.unset).toArray = ls at hl ⊢
  have hl : lv_has ls 6 [(0, .ref a0), (1, .int x1), (2, .int x2)] := hl
  obtain ⟨hx, hb, hml, hown, hts, hK, hz, hlk, hr⟩ := id C
  unfold wp_X11_isSo at hM
  refine lv_aload_n hx hb dX11_isSo_0 rfl (lv_at hl 0 rfl) ?_
  have hk1 := hM.1
  have hM := hM.2
  obtain ⟨p2, hp2, hM⟩ := hM
  refine x_getR C hV wf_X11_50 hk1 hp2 dX11_isSo_1 ?_
  refine lv_bipush (v := 6) hx hb dX11_isSo_4 (by decide) ?_
  refine lv_iload_n hx hb dX11_isSo_6 rfl (lv_at hl 2 rfl) ?_
  have hk3 := hM.1
  have hM := hM.2
  have hi4 := hM.1
  have hM := hM.2
  obtain ⟨S5, eS5⟩ : ∃ z : PS, z = S.setA p2 (6 : Int32).toNatClampNeg x2 := ⟨_, rfl⟩
  have hM := hM S5 eS5
  refine x_iast C hV hk3 hi4 eS5 dX11_isSo_7 (fun H locs hV => ?_)
  refine lv_iconst (v := 0) hx hb dX11_isSo_8 (by decide) ?_
  refine lv_istore_n (lv' := [(3, .int 0), (0, .ref a0), (1, .int x1), (2, .int x2)]) hx hb dX11_isSo_9 rfl hl (by decide) rfl (fun ls hl => ?_)
  refine lv_sipush (v := 200) hx hb dX11_isSo_10 (by decide) ?_
  refine lv_iload_n hx hb dX11_isSo_13 rfl (lv_at hl 2 rfl) ?_
  refine lv_imul hx hb dX11_isSo_14 ?_
  refine lv_topi (fun v6 ev6 => ?_)
  have hM := hM v6 ev6
  refine lv_istore (lv' := [(4, .int v6), (3, .int 0), (0, .ref a0), (1, .int x1), (2, .int x2)]) hx hb dX11_isSo_15 hl (by decide) rfl (fun ls hl => ?_)
  exact tq_X11_isSo_17 C N _ _ _ _ _ _ _ _ hM hV (lv_sub hl [2, 3, 1, 0] rfl)

def wp_X11_holds (N : Nat) (S : PS) (a0 : Nat) (x1 : Int32) (x2 : Int32) (K : Int32 → PS → Prop) : Prop := S.K a0 = 12 ∧ wp_X11_in N S x1 0 ((S.I 778 a0) - 1) (fun r3 S2 => if r3 = 0 then (K (-1) S2) else (wp_X11_in N S2 x2 0 8 (fun r7 S6 => if r7 = 0 then (K (-1) S6) else (S6.K a0 = 12 ∧ wp_X11_findFacts N S6 a0 (fun S11 => S11.K a0 = 12 ∧ wp_X11_isSo N S11 a0 x1 x2 (fun r15 S14 => if r15 = 0 then (K 0 S14) else (K 1 S14)))))))
set_option maxHeartbeats 4000000 in
set_option maxRecDepth 100000 in
theorem c_X11_holds {l : Launch} {D : DX} {cA : Nat → ClassId} {z0 N : Nat} {S : PS} {a0 : Nat} {x1 : Int32} {x2 : Int32} {K : Int32 → PS → Prop} (hM : wp_X11_holds N S a0 x1 x2 K) : MetI l yX11_holds cX11_holds 3 (some .int) 8 0 0 D cA z0 [.ref a0, .int x1, .int x2] S K := by
  refine x_met RX11 (by decide) rfl ?_
  intro p e s m below meth c C hin hV
  have hl := lv_entry ([.ref a0, .int x1, .int x2]) (n := 3) (Nat.le_of_ble_eq_true rfl)
  rw [lg_entry_eq]
  generalize (lg_sl ([.ref a0, .int x1, .int x2]) ++ List.replicate (3 - (lg_sl ([.ref a0, .int x1, .int x2])).length) Slot.unset).toArray = ls at hl ⊢
  have hl : lv_has ls 3 [(0, .ref a0), (1, .int x1), (2, .int x2)] := hl
  obtain ⟨hx, hb, hml, hown, hts, hK, hz, hlk, hr⟩ := id C
  unfold wp_X11_holds at hM
  refine lv_iload_n hx hb dX11_holds_0 rfl (lv_at hl 1 rfl) ?_
  refine lv_iconst (v := 0) hx hb dX11_holds_1 (by decide) ?_
  refine lv_aload_n hx hb dX11_holds_2 rfl (lv_at hl 0 rfl) ?_
  have hk1 := hM.1
  have hM := hM.2
  refine x_getI C hV wf_X11_364 hk1 dX11_holds_3 ?_
  refine lv_iconst (v := 1) hx hb dX11_holds_6 (by decide) ?_
  refine lv_isub hx hb dX11_holds_7 ?_
  refine x_ci hV (x_runS (As := [.int x1, .int 0, .int ((S.I 778 a0) - 1)]) (rest := []) C hV ms_X11_in wl_X11_87 (c_X11_in hM) ⟨by decide, by decide⟩ rfl hl.1 (Nat.le_of_ble_eq_true rfl) dX11_holds_8 ⟨Nat.zero_le _, Nat.zero_le _⟩) (fun r3 S2 H locs hV hM => ?_)
  have hz4 := hM.1
  have hM := hM.2
  refine lv_if_eq (tgt := 24) hx hb dX11_holds_11 (by decide) (fun c5 => ?_) (fun c5 => ?_)
  · have hM := ite_t c5 hM
    refine lv_iconst (v := (-1)) hx hb dX11_holds_24 (by decide) ?_
    exact x_iret C hV hM dX11_holds_25
  have hM := ite_f c5 hM
  refine lv_iload_n hx hb dX11_holds_14 rfl (lv_at hl 2 rfl) ?_
  refine lv_iconst (v := 0) hx hb dX11_holds_15 (by decide) ?_
  refine lv_bipush (v := 8) hx hb dX11_holds_16 (by decide) ?_
  refine x_ci hV (x_runS (As := [.int x2, .int 0, .int 8]) (rest := []) C hV ms_X11_in wl_X11_87 (c_X11_in hM) ⟨by decide, by decide⟩ rfl hl.1 (Nat.le_of_ble_eq_true rfl) dX11_holds_18 ⟨Nat.zero_le _, Nat.zero_le _⟩) (fun r7 S6 H locs hV hM => ?_)
  have hz8 := hM.1
  have hM := hM.2
  refine lv_if_ne (tgt := 26) hx hb dX11_holds_21 (by decide) (fun c9 => ?_) (fun c9 => ?_)
  · have hM := ite_f c9 hM
    refine lv_aload_n hx hb dX11_holds_26 rfl (lv_at hl 0 rfl) ?_
    have hk10 := hM.1
    have hM := hM.2
    refine x_cv hV (x_runV (As := []) (rest := []) C hV mi_X11_findFacts wl_X11_376 hk10 (c_X11_findFacts hM) ⟨by decide, by decide⟩ rfl hl.1 (Nat.le_of_ble_eq_true rfl) dX11_holds_27 ⟨Nat.zero_le _, Nat.zero_le _⟩) (fun S11 H locs hV hM => ?_)
    refine lv_aload_n hx hb dX11_holds_30 rfl (lv_at hl 0 rfl) ?_
    refine lv_iload_n hx hb dX11_holds_31 rfl (lv_at hl 1 rfl) ?_
    refine lv_iload_n hx hb dX11_holds_32 rfl (lv_at hl 2 rfl) ?_
    have hk13 := hM.1
    have hM := hM.2
    refine x_ci hV (x_runV (As := [.int x1, .int x2]) (rest := []) C hV mi_X11_isSo wl_X11_379 hk13 (c_X11_isSo hM) ⟨by decide, by decide⟩ rfl hl.1 (Nat.le_of_ble_eq_true rfl) dX11_holds_33 ⟨Nat.zero_le _, Nat.zero_le _⟩) (fun r15 S14 H locs hV hM => ?_)
    have hz16 := hM.1
    have hM := hM.2
    refine lv_if_eq (tgt := 43) hx hb dX11_holds_36 (by decide) (fun c17 => ?_) (fun c17 => ?_)
    · have hM := ite_t c17 hM
      refine lv_iconst (v := 0) hx hb dX11_holds_43 (by decide) ?_
      exact x_iret C hV hM dX11_holds_44
    have hM := ite_f c17 hM
    refine lv_iconst (v := 1) hx hb dX11_holds_39 (by decide) ?_
    refine lv_goto (tgt := 44) hx hb dX11_holds_40 (by decide) ?_
    exact x_iret C hV hM dX11_holds_44
  have hM := ite_t c9 hM
  refine lv_iconst (v := (-1)) hx hb dX11_holds_24 (by decide) ?_
  exact x_iret C hV hM dX11_holds_25

def wq_X11_wantRule_141 (N : Nat) (K : PS → Prop) (S : PS) (b0 : Nat) (t1 : Int32) : Prop := S.K b0 = 12 ∧ (t1 = 0 ∨ t1 = 1) ∧ ∀ S19 : PS, S19 = S.setI 788 b0 t1 → K S19
def wq_X11_wantRule_140 (N : Nat) (K : PS → Prop) (S : PS) (b0 : Nat) : Prop := wq_X11_wantRule_141 N K S b0 0
def wq_X11_wantRule_108 (N : Nat) (K : PS → Prop) (S : PS) (a0 : Nat) : Prop := S.K a0 = 12 ∧ if (S.I 788 a0) = 0 then (K S) else (wp_X11_settle N S a0 1 (fun S13 => S13.K a0 = 12 ∧ if (S13.I 800 a0) = 4 then (if (S13.I 798 a0) = 0 then (wq_X11_wantRule_141 N K S13 a0 1) else (wq_X11_wantRule_140 N K S13 a0)) else (wq_X11_wantRule_140 N K S13 a0)))
def wq_X11_wantRule_101 (N : Nat) (K : PS → Prop) (k_20 : PS → Nat → Prop) (S : PS) (a0 : Nat) : Prop := S.K a0 = 12 ∧ wp_X11_goOnAt N S a0 (fun S31 => k_20 S31 a0)
def wq_X11_wantRule_42 (N : Nat) (K : PS → Prop) (k_20 : PS → Nat → Prop) (S : PS) (a0 : Nat) : Prop := S.K a0 = 12 ∧ if (S.I 800 a0) = 0 then (wp_X11_beginOne N S a0 (fun S24 => k_20 S24 a0)) else if (S.I 800 a0) = 1 then (wp_X11_beginAt N S a0 (fun S27 => k_20 S27 a0)) else if (S.I 800 a0) = 2 then (wq_X11_wantRule_101 N K k_20 S a0) else if (S.I 800 a0) = 3 then (wq_X11_wantRule_101 N K k_20 S a0) else if (S.I 800 a0) = 4 then (wp_X11_goOnEnded N S a0 (fun S35 => k_20 S35 a0)) else wq_X11_wantRule_101 N K k_20 S a0
def wq_X11_wantRule_20 (N : Nat) (K : PS → Prop) : Nat → PS → Nat → Prop
  | 0, _, _ => False
  | n + 1, S, a0 => S.K a0 = 12 ∧ if (S.I 788 a0) = 0 then (wq_X11_wantRule_108 N K S a0) else (if (S.I 783 a0) = 0 then (if (S.I 800 a0) = 3 then (wq_X11_wantRule_42 N K (fun S a0 => wq_X11_wantRule_20 N K n S a0) S a0) else (wq_X11_wantRule_108 N K S a0)) else (wq_X11_wantRule_42 N K (fun S a0 => wq_X11_wantRule_20 N K n S a0) S a0))
def wp_X11_wantRule (N : Nat) (S : PS) (a0 : Nat) (K : PS → Prop) : Prop := S.K a0 = 12 ∧ ∀ S2 : PS, S2 = S.setI 798 a0 0 → ∀ S4 : PS, S4 = S2.setI 797 a0 0 → ∀ S6 : PS, S6 = S4.setI 799 a0 0 → ∀ S8 : PS, S8 = S6.setI 800 a0 0 → wq_X11_wantRule_20 N K N S8 a0
set_option maxHeartbeats 4000000 in
set_option maxRecDepth 100000 in
theorem tq_X11_wantRule_141 {p : Program} {l : Launch} {e : Env} {s : State} {m : MethodId} {args : Array Value} {below : List Frame} {meth : Method} {c : Code} {D : DX} {cA : Nat → ClassId} {z0 N : Nat} {K : PS → Prop} (C : CX p s m args meth c cX11_wantRule 1 RX11 none D cA z0) : ∀ (S : PS) (b0 : Nat) (t1 : Int32) (H : Heap) (locs : List Loc) (ls : Array Slot), wq_X11_wantRule_141 N K S b0 t1 → XV D cA z0 s S H locs → lv_has ls 1 [] → W p l e (rmd 5 0 0) s m args below meth c H locs 0 0 (MQ below (va_Qv K (XK D cA z0) (zA z0)) args s 0 0 (zA z0)) (F0 m 141 ls [.int t1, .ref b0]) := by
  obtain ⟨hx, hb, hml, hown, hts, hK, hz, hlk, hr⟩ := id C
  intro S b0 t1 H locs ls hM hV hl
  unfold wq_X11_wantRule_141 at hM
  have hk17 := hM.1
  have hM := hM.2
  have hz18 := hM.1
  have hM := hM.2
  obtain ⟨S19, eS19⟩ : ∃ z : PS, z = S.setI 788 b0 t1 := ⟨_, rfl⟩
  have hM := hM S19 eS19
  refine x_putI C hV wp_X11_173 hk17 (nz_b hz18) eS19 dX11_wantRule_141 (fun H locs hV => ?_)
  exact x_vret C hV hM dX11_wantRule_144
set_option maxHeartbeats 4000000 in
set_option maxRecDepth 100000 in
theorem tq_X11_wantRule_140 {p : Program} {l : Launch} {e : Env} {s : State} {m : MethodId} {args : Array Value} {below : List Frame} {meth : Method} {c : Code} {D : DX} {cA : Nat → ClassId} {z0 N : Nat} {K : PS → Prop} (C : CX p s m args meth c cX11_wantRule 1 RX11 none D cA z0) : ∀ (S : PS) (b0 : Nat) (H : Heap) (locs : List Loc) (ls : Array Slot), wq_X11_wantRule_140 N K S b0 → XV D cA z0 s S H locs → lv_has ls 1 [] → W p l e (rmd 5 0 0) s m args below meth c H locs 0 0 (MQ below (va_Qv K (XK D cA z0) (zA z0)) args s 0 0 (zA z0)) (F0 m 140 ls [.ref b0]) := by
  obtain ⟨hx, hb, hml, hown, hts, hK, hz, hlk, hr⟩ := id C
  intro S b0 H locs ls hM hV hl
  unfold wq_X11_wantRule_140 at hM
  refine lv_iconst (v := 0) hx hb dX11_wantRule_140 (by decide) ?_
  exact tq_X11_wantRule_141 C _ _ _ _ _ _ hM hV (lv_sub hl [] rfl)
set_option maxHeartbeats 4000000 in
set_option maxRecDepth 100000 in
theorem tq_X11_wantRule_108 {p : Program} {l : Launch} {e : Env} {s : State} {m : MethodId} {args : Array Value} {below : List Frame} {meth : Method} {c : Code} {D : DX} {cA : Nat → ClassId} {z0 N : Nat} {K : PS → Prop} (C : CX p s m args meth c cX11_wantRule 1 RX11 none D cA z0) : ∀ (S : PS) (a0 : Nat) (H : Heap) (locs : List Loc) (ls : Array Slot), wq_X11_wantRule_108 N K S a0 → XV D cA z0 s S H locs → lv_has ls 1 [(0, .ref a0)] → W p l e (rmd 5 0 0) s m args below meth c H locs 0 0 (MQ below (va_Qv K (XK D cA z0) (zA z0)) args s 0 0 (zA z0)) (F0 m 108 ls []) := by
  obtain ⟨hx, hb, hml, hown, hts, hK, hz, hlk, hr⟩ := id C
  intro S a0 H locs ls hM hV hl
  unfold wq_X11_wantRule_108 at hM
  refine lv_aload_n hx hb dX11_wantRule_108 rfl (lv_at hl 0 rfl) ?_
  have hk11 := hM.1
  have hM := hM.2
  refine x_getI C hV wf_X11_173 hk11 dX11_wantRule_109 ?_
  refine lv_if_eq (tgt := 144) hx hb dX11_wantRule_112 (by decide) (fun c12 => ?_) (fun c12 => ?_)
  · have hM := ite_t c12 hM
    exact x_vret C hV hM dX11_wantRule_144
  have hM := ite_f c12 hM
  refine lv_aload_n hx hb dX11_wantRule_115 rfl (lv_at hl 0 rfl) ?_
  refine lv_iconst (v := 1) hx hb dX11_wantRule_116 (by decide) ?_
  refine x_cv hV (x_runV (As := [.int 1]) (rest := []) C hV mi_X11_settle wl_X11_345 hk11 (c_X11_settle hM) ⟨by decide, by decide⟩ rfl hl.1 (Nat.le_of_ble_eq_true rfl) dX11_wantRule_117 ⟨Nat.zero_le _, Nat.zero_le _⟩) (fun S13 H locs hV hM => ?_)
  refine lv_aload_n hx hb dX11_wantRule_120 rfl (lv_at hl 0 rfl) ?_
  refine lv_aload_n hx hb dX11_wantRule_121 rfl (lv_at hl 0 rfl) ?_
  have hk15 := hM.1
  have hM := hM.2
  refine x_getI C hV wf_X11_336 hk15 dX11_wantRule_122 ?_
  refine lv_iconst (v := 4) hx hb dX11_wantRule_125 (by decide) ?_
  refine lv_icmp_ne (tgt := 140) hx hb dX11_wantRule_126 (by decide) (fun c16 => ?_) (fun c16 => ?_)
  · have hM := ite_f c16 hM
    exact tq_X11_wantRule_140 C _ _ _ _ _ hM hV (lv_sub hl [] rfl)
  have hM := ite_t c16 hM
  refine lv_aload_n hx hb dX11_wantRule_129 rfl (lv_at hl 0 rfl) ?_
  refine x_getI C hV wf_X11_293 hk15 dX11_wantRule_130 ?_
  refine lv_if_ne (tgt := 140) hx hb dX11_wantRule_133 (by decide) (fun c20 => ?_) (fun c20 => ?_)
  · have hM := ite_f c20 hM
    exact tq_X11_wantRule_140 C _ _ _ _ _ hM hV (lv_sub hl [] rfl)
  have hM := ite_t c20 hM
  refine lv_iconst (v := 1) hx hb dX11_wantRule_136 (by decide) ?_
  refine lv_goto (tgt := 141) hx hb dX11_wantRule_137 (by decide) ?_
  exact tq_X11_wantRule_141 C _ _ _ _ _ _ hM hV (lv_sub hl [] rfl)
set_option maxHeartbeats 4000000 in
set_option maxRecDepth 100000 in
theorem tq_X11_wantRule_101 {p : Program} {l : Launch} {e : Env} {s : State} {m : MethodId} {args : Array Value} {below : List Frame} {meth : Method} {c : Code} {D : DX} {cA : Nat → ClassId} {z0 N : Nat} {K : PS → Prop} {k_20 : PS → Nat → Prop} (C : CX p s m args meth c cX11_wantRule 1 RX11 none D cA z0) (H_20 : ∀ (S : PS) (a0 : Nat) (H : Heap) (locs : List Loc) (ls : Array Slot), k_20 S a0 → XV D cA z0 s S H locs → lv_has ls 1 [(0, .ref a0)] → W p l e (rmd 5 0 0) s m args below meth c H locs 0 0 (MQ below (va_Qv K (XK D cA z0) (zA z0)) args s 0 0 (zA z0)) (F0 m 20 ls [])) : ∀ (S : PS) (a0 : Nat) (H : Heap) (locs : List Loc) (ls : Array Slot), wq_X11_wantRule_101 N K k_20 S a0 → XV D cA z0 s S H locs → lv_has ls 1 [(0, .ref a0)] → W p l e (rmd 5 0 0) s m args below meth c H locs 0 0 (MQ below (va_Qv K (XK D cA z0) (zA z0)) args s 0 0 (zA z0)) (F0 m 101 ls []) := by
  obtain ⟨hx, hb, hml, hown, hts, hK, hz, hlk, hr⟩ := id C
  intro S a0 H locs ls hM hV hl
  unfold wq_X11_wantRule_101 at hM
  refine lv_aload_n hx hb dX11_wantRule_101 rfl (lv_at hl 0 rfl) ?_
  have hk30 := hM.1
  have hM := hM.2
  refine x_cv hV (x_runV (As := []) (rest := []) C hV mi_X11_goOnAt wl_X11_361 hk30 (c_X11_goOnAt hM) ⟨by decide, by decide⟩ rfl hl.1 (Nat.le_of_ble_eq_true rfl) dX11_wantRule_102 ⟨Nat.zero_le _, Nat.zero_le _⟩) (fun S31 H locs hV hM => ?_)
  refine lv_goto (tgt := 20) hx hb dX11_wantRule_105 (by decide) ?_
  exact H_20 _ _ _ _ _ hM hV (lv_sub hl [0] rfl)
set_option maxHeartbeats 4000000 in
set_option maxRecDepth 100000 in
theorem tq_X11_wantRule_42 {p : Program} {l : Launch} {e : Env} {s : State} {m : MethodId} {args : Array Value} {below : List Frame} {meth : Method} {c : Code} {D : DX} {cA : Nat → ClassId} {z0 N : Nat} {K : PS → Prop} {k_20 : PS → Nat → Prop} (C : CX p s m args meth c cX11_wantRule 1 RX11 none D cA z0) (H_20 : ∀ (S : PS) (a0 : Nat) (H : Heap) (locs : List Loc) (ls : Array Slot), k_20 S a0 → XV D cA z0 s S H locs → lv_has ls 1 [(0, .ref a0)] → W p l e (rmd 5 0 0) s m args below meth c H locs 0 0 (MQ below (va_Qv K (XK D cA z0) (zA z0)) args s 0 0 (zA z0)) (F0 m 20 ls [])) : ∀ (S : PS) (a0 : Nat) (H : Heap) (locs : List Loc) (ls : Array Slot), wq_X11_wantRule_42 N K k_20 S a0 → XV D cA z0 s S H locs → lv_has ls 1 [(0, .ref a0)] → W p l e (rmd 5 0 0) s m args below meth c H locs 0 0 (MQ below (va_Qv K (XK D cA z0) (zA z0)) args s 0 0 (zA z0)) (F0 m 42 ls []) := by
  obtain ⟨hx, hb, hml, hown, hts, hK, hz, hlk, hr⟩ := id C
  intro S a0 H locs ls hM hV hl
  unfold wq_X11_wantRule_42 at hM
  refine lv_aload_n hx hb dX11_wantRule_42 rfl (lv_at hl 0 rfl) ?_
  have hk22 := hM.1
  have hM := hM.2
  refine x_getI C hV wf_X11_336 hk22 dX11_wantRule_43 ?_
  by_cases c23 : (S.I 800 a0) = 0
  · have hM := ite_t c23 hM
    refine lv_tableIn (tgt := 80) (off := 34) hx hb dX11_wantRule_46 (by rw [c23]; decide) (by rw [c23]; decide) (by rw [c23]; decide) (by decide) ?_
    refine lv_aload_n hx hb dX11_wantRule_80 rfl (lv_at hl 0 rfl) ?_
    refine x_cv hV (x_runV (As := []) (rest := []) C hV mi_X11_beginOne wl_X11_352 hk22 (c_X11_beginOne hM) ⟨by decide, by decide⟩ rfl hl.1 (Nat.le_of_ble_eq_true rfl) dX11_wantRule_81 ⟨Nat.zero_le _, Nat.zero_le _⟩) (fun S24 H locs hV hM => ?_)
    refine lv_goto (tgt := 20) hx hb dX11_wantRule_84 (by decide) ?_
    exact H_20 _ _ _ _ _ hM hV (lv_sub hl [0] rfl)
  have hM := ite_f c23 hM
  by_cases c26 : (S.I 800 a0) = 1
  · have hM := ite_t c26 hM
    refine lv_tableIn (tgt := 87) (off := 41) hx hb dX11_wantRule_46 (by rw [c26]; decide) (by rw [c26]; decide) (by rw [c26]; decide) (by decide) ?_
    refine lv_aload_n hx hb dX11_wantRule_87 rfl (lv_at hl 0 rfl) ?_
    refine x_cv hV (x_runV (As := []) (rest := []) C hV mi_X11_beginAt wl_X11_355 hk22 (c_X11_beginAt hM) ⟨by decide, by decide⟩ rfl hl.1 (Nat.le_of_ble_eq_true rfl) dX11_wantRule_88 ⟨Nat.zero_le _, Nat.zero_le _⟩) (fun S27 H locs hV hM => ?_)
    refine lv_goto (tgt := 20) hx hb dX11_wantRule_91 (by decide) ?_
    exact H_20 _ _ _ _ _ hM hV (lv_sub hl [0] rfl)
  have hM := ite_f c26 hM
  by_cases c29 : (S.I 800 a0) = 2
  · have hM := ite_t c29 hM
    refine lv_tableIn (tgt := 101) (off := 55) hx hb dX11_wantRule_46 (by rw [c29]; decide) (by rw [c29]; decide) (by rw [c29]; decide) (by decide) ?_
    exact tq_X11_wantRule_101 C H_20 _ _ _ _ _ hM hV (lv_sub hl [0] rfl)
  have hM := ite_f c29 hM
  by_cases c33 : (S.I 800 a0) = 3
  · have hM := ite_t c33 hM
    refine lv_tableIn (tgt := 101) (off := 55) hx hb dX11_wantRule_46 (by rw [c33]; decide) (by rw [c33]; decide) (by rw [c33]; decide) (by decide) ?_
    exact tq_X11_wantRule_101 C H_20 _ _ _ _ _ hM hV (lv_sub hl [0] rfl)
  have hM := ite_f c33 hM
  by_cases c34 : (S.I 800 a0) = 4
  · have hM := ite_t c34 hM
    refine lv_tableIn (tgt := 94) (off := 48) hx hb dX11_wantRule_46 (by rw [c34]; decide) (by rw [c34]; decide) (by rw [c34]; decide) (by decide) ?_
    refine lv_aload_n hx hb dX11_wantRule_94 rfl (lv_at hl 0 rfl) ?_
    refine x_cv hV (x_runV (As := []) (rest := []) C hV mi_X11_goOnEnded wl_X11_358 hk22 (c_X11_goOnEnded hM) ⟨by decide, by decide⟩ rfl hl.1 (Nat.le_of_ble_eq_true rfl) dX11_wantRule_95 ⟨Nat.zero_le _, Nat.zero_le _⟩) (fun S35 H locs hV hM => ?_)
    refine lv_goto (tgt := 20) hx hb dX11_wantRule_98 (by decide) ?_
    exact H_20 _ _ _ _ _ hM hV (lv_sub hl [0] rfl)
  have hM := ite_f c34 hM
  refine lv_tableOut (tgt := 101) hx hb dX11_wantRule_46 (by have q0 := lv_neT c23 (a := 0) (by decide); have q1 := lv_neT c26 (a := 1) (by decide); have q2 := lv_neT c29 (a := 2) (by decide); have q3 := lv_neT c33 (a := 3) (by decide); have q4 := lv_neT c34 (a := 4) (by decide); omega) (by decide) ?_
  exact tq_X11_wantRule_101 C H_20 _ _ _ _ _ hM hV (lv_sub hl [0] rfl)
set_option maxHeartbeats 4000000 in
set_option maxRecDepth 100000 in
theorem tq_X11_wantRule_20 {p : Program} {l : Launch} {e : Env} {s : State} {m : MethodId} {args : Array Value} {below : List Frame} {meth : Method} {c : Code} {D : DX} {cA : Nat → ClassId} {z0 N : Nat} {K : PS → Prop} (C : CX p s m args meth c cX11_wantRule 1 RX11 none D cA z0) : ∀ (n : Nat) (S : PS) (a0 : Nat) (H : Heap) (locs : List Loc) (ls : Array Slot), wq_X11_wantRule_20 N K n S a0 → XV D cA z0 s S H locs → lv_has ls 1 [(0, .ref a0)] → W p l e (rmd 5 0 0) s m args below meth c H locs 0 0 (MQ below (va_Qv K (XK D cA z0) (zA z0)) args s 0 0 (zA z0)) (F0 m 20 ls []) := by
  obtain ⟨hx, hb, hml, hown, hts, hK, hz, hlk, hr⟩ := id C
  intro n
  induction n with
  | zero => intro S a0 H locs ls hM; exact absurd hM id
  | succ n ih =>
    intro S a0 H locs ls hM hV hl
    rw [wq_X11_wantRule_20.eq_2] at hM
    refine lv_aload_n hx hb dX11_wantRule_20 rfl (lv_at hl 0 rfl) ?_
    have hk9 := hM.1
    have hM := hM.2
    refine x_getI C hV wf_X11_173 hk9 dX11_wantRule_21 ?_
    refine lv_if_eq (tgt := 108) hx hb dX11_wantRule_24 (by decide) (fun c10 => ?_) (fun c10 => ?_)
    · have hM := ite_t c10 hM
      exact tq_X11_wantRule_108 C _ _ _ _ _ hM hV (lv_sub hl [0] rfl)
    have hM := ite_f c10 hM
    refine lv_aload_n hx hb dX11_wantRule_27 rfl (lv_at hl 0 rfl) ?_
    refine x_getI C hV wf_X11_157 hk9 dX11_wantRule_28 ?_
    refine lv_if_ne (tgt := 42) hx hb dX11_wantRule_31 (by decide) (fun c21 => ?_) (fun c21 => ?_)
    · have hM := ite_f c21 hM
      exact tq_X11_wantRule_42 C ih _ _ _ _ _ hM hV (lv_sub hl [0] rfl)
    have hM := ite_t c21 hM
    refine lv_aload_n hx hb dX11_wantRule_34 rfl (lv_at hl 0 rfl) ?_
    refine x_getI C hV wf_X11_336 hk9 dX11_wantRule_35 ?_
    refine lv_iconst (v := 3) hx hb dX11_wantRule_38 (by decide) ?_
    refine lv_icmp_ne (tgt := 108) hx hb dX11_wantRule_39 (by decide) (fun c37 => ?_) (fun c37 => ?_)
    · have hM := ite_f c37 hM
      exact tq_X11_wantRule_108 C _ _ _ _ _ hM hV (lv_sub hl [0] rfl)
    have hM := ite_t c37 hM
    exact tq_X11_wantRule_42 C ih _ _ _ _ _ hM hV (lv_sub hl [0] rfl)
set_option maxHeartbeats 4000000 in
set_option maxRecDepth 100000 in
theorem c_X11_wantRule {l : Launch} {D : DX} {cA : Nat → ClassId} {z0 N : Nat} {S : PS} {a0 : Nat} {K : PS → Prop} (hM : wp_X11_wantRule N S a0 K) : MetV l yX11_wantRule cX11_wantRule 1 none 5 0 0 D cA z0 [.ref a0] S K := by
  refine x_met RX11 (by decide) rfl ?_
  intro p e s m below meth c C hin hV
  have hl := lv_entry ([.ref a0]) (n := 1) (Nat.le_of_ble_eq_true rfl)
  rw [lg_entry_eq]
  generalize (lg_sl ([.ref a0]) ++ List.replicate (1 - (lg_sl ([.ref a0])).length) Slot.unset).toArray = ls at hl ⊢
  have hl : lv_has ls 1 [(0, .ref a0)] := hl
  obtain ⟨hx, hb, hml, hown, hts, hK, hz, hlk, hr⟩ := id C
  unfold wp_X11_wantRule at hM
  refine lv_aload_n hx hb dX11_wantRule_0 rfl (lv_at hl 0 rfl) ?_
  refine lv_iconst (v := 0) hx hb dX11_wantRule_1 (by decide) ?_
  have hk1 := hM.1
  have hM := hM.2
  obtain ⟨S2, eS2⟩ : ∃ z : PS, z = S.setI 798 a0 0 := ⟨_, rfl⟩
  have hM := hM S2 eS2
  refine x_putI C hV wp_X11_293 hk1 ⟨rfl, rfl⟩ eS2 dX11_wantRule_2 (fun H locs hV => ?_)
  refine lv_aload_n hx hb dX11_wantRule_5 rfl (lv_at hl 0 rfl) ?_
  refine lv_iconst (v := 0) hx hb dX11_wantRule_6 (by decide) ?_
  have hk3 := kp_I eS2 hk1
  obtain ⟨S4, eS4⟩ : ∃ z : PS, z = S2.setI 797 a0 0 := ⟨_, rfl⟩
  have hM := hM S4 eS4
  refine x_putI C hV wp_X11_290 hk3 ⟨rfl, rfl⟩ eS4 dX11_wantRule_7 (fun H locs hV => ?_)
  refine lv_aload_n hx hb dX11_wantRule_10 rfl (lv_at hl 0 rfl) ?_
  refine lv_iconst (v := 0) hx hb dX11_wantRule_11 (by decide) ?_
  have hk5 := kp_I eS4 hk3
  obtain ⟨S6, eS6⟩ : ∃ z : PS, z = S4.setI 799 a0 0 := ⟨_, rfl⟩
  have hM := hM S6 eS6
  refine x_putI C hV wp_X11_306 hk5 ⟨rfl, rfl⟩ eS6 dX11_wantRule_12 (fun H locs hV => ?_)
  refine lv_aload_n hx hb dX11_wantRule_15 rfl (lv_at hl 0 rfl) ?_
  refine lv_iconst (v := 0) hx hb dX11_wantRule_16 (by decide) ?_
  have hk7 := kp_I eS6 hk5
  obtain ⟨S8, eS8⟩ : ∃ z : PS, z = S6.setI 800 a0 0 := ⟨_, rfl⟩
  have hM := hM S8 eS8
  refine x_putI C hV wp_X11_336 hk7 ⟨rfl, rfl⟩ eS8 dX11_wantRule_17 (fun H locs hV => ?_)
  exact tq_X11_wantRule_20 C N _ _ _ _ _ hM hV (lv_sub hl [0] rfl)

def wq_X11_house_55 (N : Nat) (K : Int32 → PS → Prop) : Nat → PS → Nat → Int32 → Prop
  | 0, _, _, _ => False
  | n + 1, S, a0, x1 => S.K a0 = 12 ∧ if (S.I 797 a0) ≤ x1 then (∀ S18 : PS, S18 = S.setI 778 a0 ((S.I 778 a0) + 1) → K ((S18.I 778 a0) - 1) S18) else (∃ p20 : Nat, S.R 780 a0 = some p20 ∧ ∃ p21 : Nat, S.R 795 a0 = some p21 ∧ S.K p21 = 20 ∧ vp_in x1 (S.ln p21) ∧ S.K p20 = 20 ∧ vp_in ((200 * (S.I 778 a0)) + x1) (S.ln p20) ∧ ∀ S26 : PS, S26 = S.setA p20 ((200 * (S.I 778 a0)) + x1).toNatClampNeg (S.A p21 x1.toNatClampNeg) → wq_X11_house_55 N K n S26 a0 (x1 + 1))
def wp_X11_house (N : Nat) (S : PS) (a0 : Nat) (K : Int32 → PS → Prop) : Prop := S.K a0 = 12 ∧ if (S.I 778 a0) = 8 then (K (-2) S) else (wp_X11_begin N S a0 (fun S3 => S3.K a0 = 12 ∧ wp_X11_wantRule N S3 a0 (fun S6 => S6.K a0 = 12 ∧ ∀ S9 : PS, S9 = S6.setI 782 a0 0 → if (S9.I 788 a0) = 0 then (K ((-100) - (S9.I 784 a0)) S9) else (∃ p12 : Nat, S9.R 779 a0 = some p12 ∧ S9.K p12 = 20 ∧ vp_in (S9.I 778 a0) (S9.ln p12) ∧ ∀ S15 : PS, S15 = S9.setA p12 (S9.I 778 a0).toNatClampNeg (S9.I 797 a0) → wq_X11_house_55 N K N S15 a0 0))))
set_option maxHeartbeats 4000000 in
set_option maxRecDepth 100000 in
theorem tq_X11_house_55 {p : Program} {l : Launch} {e : Env} {s : State} {m : MethodId} {args : Array Value} {below : List Frame} {meth : Method} {c : Code} {D : DX} {cA : Nat → ClassId} {z0 N : Nat} {K : Int32 → PS → Prop} (C : CX p s m args meth c cX11_house 2 RX11 (some .int) D cA z0) : ∀ (n : Nat) (S : PS) (a0 : Nat) (x1 : Int32) (H : Heap) (locs : List Loc) (ls : Array Slot), wq_X11_house_55 N K n S a0 x1 → XV D cA z0 s S H locs → lv_has ls 2 [(0, .ref a0), (1, .int x1)] → W p l e (rmd 6 0 0) s m args below meth c H locs 0 0 (MQ below (va_Qi K (XK D cA z0) (zA z0)) args s 0 0 (zA z0)) (F0 m 55 ls []) := by
  obtain ⟨hx, hb, hml, hown, hts, hK, hz, hlk, hr⟩ := id C
  intro n
  induction n with
  | zero => intro S a0 x1 H locs ls hM; exact absurd hM id
  | succ n ih =>
    intro S a0 x1 H locs ls hM hV hl
    rw [wq_X11_house_55.eq_2] at hM
    refine lv_iload_n hx hb dX11_house_55 rfl (lv_at hl 1 rfl) ?_
    refine lv_aload_n hx hb dX11_house_56 rfl (lv_at hl 0 rfl) ?_
    have hk16 := hM.1
    have hM := hM.2
    refine x_getI C hV wf_X11_290 hk16 dX11_house_57 ?_
    refine lv_icmp_ge (tgt := 90) hx hb dX11_house_60 (by decide) (fun c17 => ?_) (fun c17 => ?_)
    · have hM := ite_t c17 hM
      refine lv_aload_n hx hb dX11_house_90 rfl (lv_at hl 0 rfl) ?_
      refine lv_dup hx hb dX11_house_91 rfl ?_
      refine x_getI C hV wf_X11_364 hk16 dX11_house_92 ?_
      refine lv_iconst (v := 1) hx hb dX11_house_95 (by decide) ?_
      refine lv_iadd hx hb dX11_house_96 ?_
      obtain ⟨S18, eS18⟩ : ∃ z : PS, z = S.setI 778 a0 ((S.I 778 a0) + 1) := ⟨_, rfl⟩
      have hM := hM S18 eS18
      refine x_putI C hV wp_X11_364 hk16 ⟨rfl, rfl⟩ eS18 dX11_house_97 (fun H locs hV => ?_)
      refine lv_aload_n hx hb dX11_house_100 rfl (lv_at hl 0 rfl) ?_
      have hk19 := kp_I eS18 hk16
      refine x_getI C hV wf_X11_364 hk19 dX11_house_101 ?_
      refine lv_iconst (v := 1) hx hb dX11_house_104 (by decide) ?_
      refine lv_isub hx hb dX11_house_105 ?_
      exact x_iret C hV hM dX11_house_106
    have hM := ite_f c17 hM
    refine lv_aload_n hx hb dX11_house_63 rfl (lv_at hl 0 rfl) ?_
    obtain ⟨p20, hp20, hM⟩ := hM
    refine x_getR C hV wf_X11_26 hk16 hp20 dX11_house_64 ?_
    refine lv_sipush (v := 200) hx hb dX11_house_67 (by decide) ?_
    refine lv_aload_n hx hb dX11_house_70 rfl (lv_at hl 0 rfl) ?_
    refine x_getI C hV wf_X11_364 hk16 dX11_house_71 ?_
    refine lv_imul hx hb dX11_house_74 ?_
    refine lv_iload_n hx hb dX11_house_75 rfl (lv_at hl 1 rfl) ?_
    refine lv_iadd hx hb dX11_house_76 ?_
    refine lv_aload_n hx hb dX11_house_77 rfl (lv_at hl 0 rfl) ?_
    obtain ⟨p21, hp21, hM⟩ := hM
    refine x_getR C hV wf_X11_41 hk16 hp21 dX11_house_78 ?_
    refine lv_iload_n hx hb dX11_house_81 rfl (lv_at hl 1 rfl) ?_
    have hk22 := hM.1
    have hM := hM.2
    have hi23 := hM.1
    have hM := hM.2
    refine x_iald C hV hk22 hi23 dX11_house_82 ?_
    have hk24 := hM.1
    have hM := hM.2
    have hi25 := hM.1
    have hM := hM.2
    obtain ⟨S26, eS26⟩ : ∃ z : PS, z = S.setA p20 ((200 * (S.I 778 a0)) + x1).toNatClampNeg (S.A p21 x1.toNatClampNeg) := ⟨_, rfl⟩
    have hM := hM S26 eS26
    refine x_iast C hV hk24 hi25 eS26 dX11_house_83 (fun H locs hV => ?_)
    refine lv_iinc (v := (x1 + 1)) (lv' := [(1, .int (x1 + 1)), (0, .ref a0)]) hx hb dX11_house_84 hl (k := 1) rfl rfl (by decide) rfl (fun ls hl => ?_)
    refine lv_goto (tgt := 55) hx hb dX11_house_87 (by decide) ?_
    exact ih _ _ _ _ _ _ hM hV (lv_sub hl [1, 0] rfl)
set_option maxHeartbeats 4000000 in
set_option maxRecDepth 100000 in
theorem c_X11_house {l : Launch} {D : DX} {cA : Nat → ClassId} {z0 N : Nat} {S : PS} {a0 : Nat} {K : Int32 → PS → Prop} (hM : wp_X11_house N S a0 K) : MetI l yX11_house cX11_house 2 (some .int) 6 0 0 D cA z0 [.ref a0] S K := by
  refine x_met RX11 (by decide) rfl ?_
  intro p e s m below meth c C hin hV
  have hl := lv_entry ([.ref a0]) (n := 2) (Nat.le_of_ble_eq_true rfl)
  rw [lg_entry_eq]
  generalize (lg_sl ([.ref a0]) ++ List.replicate (2 - (lg_sl ([.ref a0])).length) Slot.unset).toArray = ls at hl ⊢
  have hl : lv_has ls 2 [(0, .ref a0)] := hl
  obtain ⟨hx, hb, hml, hown, hts, hK, hz, hlk, hr⟩ := id C
  unfold wp_X11_house at hM
  refine lv_aload_n hx hb dX11_house_0 rfl (lv_at hl 0 rfl) ?_
  have hk1 := hM.1
  have hM := hM.2
  refine x_getI C hV wf_X11_364 hk1 dX11_house_1 ?_
  refine lv_bipush (v := 8) hx hb dX11_house_4 (by decide) ?_
  refine lv_icmp_ne (tgt := 12) hx hb dX11_house_6 (by decide) (fun c2 => ?_) (fun c2 => ?_)
  · have hM := ite_f c2 hM
    refine lv_aload_n hx hb dX11_house_12 rfl (lv_at hl 0 rfl) ?_
    refine x_cv hV (x_runV (As := []) (rest := []) C hV mi_X11_begin wl_X11_210 hk1 (c_X11_begin hM) ⟨by decide, by decide⟩ rfl hl.1 (Nat.le_of_ble_eq_true rfl) dX11_house_13 ⟨Nat.zero_le _, Nat.zero_le _⟩) (fun S3 H locs hV hM => ?_)
    refine lv_aload_n hx hb dX11_house_16 rfl (lv_at hl 0 rfl) ?_
    have hk5 := hM.1
    have hM := hM.2
    refine x_cv hV (x_runV (As := []) (rest := []) C hV mi_X11_wantRule wl_X11_367 hk5 (c_X11_wantRule hM) ⟨by decide, by decide⟩ rfl hl.1 (Nat.le_of_ble_eq_true rfl) dX11_house_17 ⟨Nat.zero_le _, Nat.zero_le _⟩) (fun S6 H locs hV hM => ?_)
    refine lv_aload_n hx hb dX11_house_20 rfl (lv_at hl 0 rfl) ?_
    refine lv_iconst (v := 0) hx hb dX11_house_21 (by decide) ?_
    have hk8 := hM.1
    have hM := hM.2
    obtain ⟨S9, eS9⟩ : ∃ z : PS, z = S6.setI 782 a0 0 := ⟨_, rfl⟩
    have hM := hM S9 eS9
    refine x_putI C hV wp_X11_137 hk8 ⟨rfl, rfl⟩ eS9 dX11_house_22 (fun H locs hV => ?_)
    refine lv_aload_n hx hb dX11_house_25 rfl (lv_at hl 0 rfl) ?_
    have hk10 := kp_I eS9 hk8
    refine x_getI C hV wf_X11_173 hk10 dX11_house_26 ?_
    refine lv_if_ne (tgt := 40) hx hb dX11_house_29 (by decide) (fun c11 => ?_) (fun c11 => ?_)
    · have hM := ite_f c11 hM
      refine lv_aload_n hx hb dX11_house_40 rfl (lv_at hl 0 rfl) ?_
      obtain ⟨p12, hp12, hM⟩ := hM
      refine x_getR C hV wf_X11_23 hk10 hp12 dX11_house_41 ?_
      refine lv_aload_n hx hb dX11_house_44 rfl (lv_at hl 0 rfl) ?_
      refine x_getI C hV wf_X11_364 hk10 dX11_house_45 ?_
      refine lv_aload_n hx hb dX11_house_48 rfl (lv_at hl 0 rfl) ?_
      refine x_getI C hV wf_X11_290 hk10 dX11_house_49 ?_
      have hk13 := hM.1
      have hM := hM.2
      have hi14 := hM.1
      have hM := hM.2
      obtain ⟨S15, eS15⟩ : ∃ z : PS, z = S9.setA p12 (S9.I 778 a0).toNatClampNeg (S9.I 797 a0) := ⟨_, rfl⟩
      have hM := hM S15 eS15
      refine x_iast C hV hk13 hi14 eS15 dX11_house_52 (fun H locs hV => ?_)
      refine lv_iconst (v := 0) hx hb dX11_house_53 (by decide) ?_
      refine lv_istore_n (lv' := [(1, .int 0), (0, .ref a0)]) hx hb dX11_house_54 rfl hl (by decide) rfl (fun ls hl => ?_)
      exact tq_X11_house_55 C N _ _ _ _ _ _ hM hV (lv_sub hl [1, 0] rfl)
    have hM := ite_t c11 hM
    refine lv_bipush (v := (-100)) hx hb dX11_house_32 (by decide) ?_
    refine lv_aload_n hx hb dX11_house_34 rfl (lv_at hl 0 rfl) ?_
    refine x_getI C hV wf_X11_145 hk10 dX11_house_35 ?_
    refine lv_isub hx hb dX11_house_38 ?_
    exact x_iret C hV hM dX11_house_39
  have hM := ite_t c2 hM
  refine lv_bipush (v := (-2)) hx hb dX11_house_9 (by decide) ?_
  exact x_iret C hV hM dX11_house_11

def wp_X11_isHeld (N : Nat) (S : PS) (a0 : Nat) (x1 : Int32) (x2 : Int32) (K : Int32 → PS → Prop) : Prop := if x1 = 0 then (S.K a0 = 12 ∧ wp_X11_isPart N S a0 x2 (fun r10 S9 => (r10 = 0 ∨ r10 = 1) ∧ K r10 S9)) else (if x1 = 1 then (wp_X11_isShelf N S x2 (fun r5 S4 => (r5 = 0 ∨ r5 = 1) ∧ K r5 S4)) else (if x1 = 2 then (K 1 S) else (K 0 S)))
set_option maxHeartbeats 4000000 in
set_option maxRecDepth 100000 in
theorem c_X11_isHeld {l : Launch} {D : DX} {cA : Nat → ClassId} {z0 N : Nat} {S : PS} {a0 : Nat} {x1 : Int32} {x2 : Int32} {K : Int32 → PS → Prop} (hM : wp_X11_isHeld N S a0 x1 x2 K) : MetI l yX11_isHeld cX11_isHeld 3 (some .boolean) 2 0 0 D cA z0 [.ref a0, .int x1, .int x2] S (fun r S => (r = 0 ∨ r = 1) ∧ K r S) := by
  refine x_met RX11 (by decide) rfl ?_
  intro p e s m below meth c C hin hV
  have hl := lv_entry ([.ref a0, .int x1, .int x2]) (n := 3) (Nat.le_of_ble_eq_true rfl)
  rw [lg_entry_eq]
  generalize (lg_sl ([.ref a0, .int x1, .int x2]) ++ List.replicate (3 - (lg_sl ([.ref a0, .int x1, .int x2])).length) Slot.unset).toArray = ls at hl ⊢
  have hl : lv_has ls 3 [(0, .ref a0), (1, .int x1), (2, .int x2)] := hl
  obtain ⟨hx, hb, hml, hown, hts, hK, hz, hlk, hr⟩ := id C
  unfold wp_X11_isHeld at hM
  refine lv_iload_n hx hb dX11_isHeld_0 rfl (lv_at hl 1 rfl) ?_
  refine lv_if_ne (tgt := 12) hx hb dX11_isHeld_1 (by decide) (fun c1 => ?_) (fun c1 => ?_)
  · have hM := ite_f c1 hM
    refine lv_iload_n hx hb dX11_isHeld_12 rfl (lv_at hl 1 rfl) ?_
    refine lv_iconst (v := 1) hx hb dX11_isHeld_13 (by decide) ?_
    refine lv_icmp_ne (tgt := 24) hx hb dX11_isHeld_14 (by decide) (fun c2 => ?_) (fun c2 => ?_)
    · have hM := ite_f c2 hM
      refine lv_iload_n hx hb dX11_isHeld_24 rfl (lv_at hl 1 rfl) ?_
      refine lv_iconst (v := 2) hx hb dX11_isHeld_25 (by decide) ?_
      refine lv_icmp_ne (tgt := 33) hx hb dX11_isHeld_26 (by decide) (fun c3 => ?_) (fun c3 => ?_)
      · have hM := ite_f c3 hM
        refine lv_iconst (v := 0) hx hb dX11_isHeld_33 (by decide) ?_
        exact x_zret C hV (by decide) hM dX11_isHeld_34
      have hM := ite_t c3 hM
      refine lv_iconst (v := 1) hx hb dX11_isHeld_29 (by decide) ?_
      refine lv_goto (tgt := 34) hx hb dX11_isHeld_30 (by decide) ?_
      exact x_zret C hV (by decide) hM dX11_isHeld_34
    have hM := ite_t c2 hM
    refine lv_iload_n hx hb dX11_isHeld_17 rfl (lv_at hl 2 rfl) ?_
    refine x_ci hV (x_runS (As := [.int x2]) (rest := []) C hV ms_X11_isShelf wl_X11_388 (c_X11_isShelf hM) ⟨by decide, by decide⟩ rfl hl.1 (Nat.le_of_ble_eq_true rfl) dX11_isHeld_18 ⟨Nat.zero_le _, Nat.zero_le _⟩) (fun r5 S4 H locs hV hM => ?_)
    have hz6 := hM.1
    have hM := hM.2
    refine lv_goto (tgt := 34) hx hb dX11_isHeld_21 (by decide) ?_
    have hz7 := hM.1
    have hM := hM.2
    exact x_zret C hV hz7 hM dX11_isHeld_34
  have hM := ite_t c1 hM
  refine lv_aload_n hx hb dX11_isHeld_4 rfl (lv_at hl 0 rfl) ?_
  refine lv_iload_n hx hb dX11_isHeld_5 rfl (lv_at hl 2 rfl) ?_
  have hk8 := hM.1
  have hM := hM.2
  refine x_ci hV (x_runV (As := [.int x2]) (rest := []) C hV mi_X11_isPart wl_X11_98 hk8 (c_X11_isPart hM) ⟨by decide, by decide⟩ rfl hl.1 (Nat.le_of_ble_eq_true rfl) dX11_isHeld_6 ⟨Nat.zero_le _, Nat.zero_le _⟩) (fun r10 S9 H locs hV hM => ?_)
  have hz11 := hM.1
  have hM := hM.2
  refine lv_goto (tgt := 34) hx hb dX11_isHeld_9 (by decide) ?_
  have hz12 := hM.1
  have hM := hM.2
  exact x_zret C hV hz12 hM dX11_isHeld_34

def wp_X11_isSet (N : Nat) (S : PS) (a0 : Nat) (x1 : Int32) (K : Int32 → PS → Prop) : Prop := S.K a0 = 12 ∧ wp_X11_in N S x1 0 (((1 : Int32) <<< ((S.I 776 a0) &&& 31)) - 1) (fun r3 S2 => (r3 = 0 ∨ r3 = 1) ∧ K r3 S2)
set_option maxHeartbeats 4000000 in
set_option maxRecDepth 100000 in
theorem c_X11_isSet {l : Launch} {D : DX} {cA : Nat → ClassId} {z0 N : Nat} {S : PS} {a0 : Nat} {x1 : Int32} {K : Int32 → PS → Prop} (hM : wp_X11_isSet N S a0 x1 K) : MetI l yX11_isSet cX11_isSet 2 (some .boolean) 1 0 0 D cA z0 [.ref a0, .int x1] S (fun r S => (r = 0 ∨ r = 1) ∧ K r S) := by
  refine x_met RX11 (by decide) rfl ?_
  intro p e s m below meth c C hin hV
  have hl := lv_entry ([.ref a0, .int x1]) (n := 2) (Nat.le_of_ble_eq_true rfl)
  rw [lg_entry_eq]
  generalize (lg_sl ([.ref a0, .int x1]) ++ List.replicate (2 - (lg_sl ([.ref a0, .int x1])).length) Slot.unset).toArray = ls at hl ⊢
  have hl : lv_has ls 2 [(0, .ref a0), (1, .int x1)] := hl
  obtain ⟨hx, hb, hml, hown, hts, hK, hz, hlk, hr⟩ := id C
  unfold wp_X11_isSet at hM
  refine lv_iload_n hx hb dX11_isSet_0 rfl (lv_at hl 1 rfl) ?_
  refine lv_iconst (v := 0) hx hb dX11_isSet_1 (by decide) ?_
  refine lv_iconst (v := 1) hx hb dX11_isSet_2 (by decide) ?_
  refine lv_aload_n hx hb dX11_isSet_3 rfl (lv_at hl 0 rfl) ?_
  have hk1 := hM.1
  have hM := hM.2
  refine x_getI C hV wf_X11_91 hk1 dX11_isSet_4 ?_
  refine lv_ishl hx hb dX11_isSet_7 ?_
  refine lv_iconst (v := 1) hx hb dX11_isSet_8 (by decide) ?_
  refine lv_isub hx hb dX11_isSet_9 ?_
  refine x_ci hV (x_runS (As := [.int x1, .int 0, .int (((1 : Int32) <<< ((S.I 776 a0) &&& 31)) - 1)]) (rest := []) C hV ms_X11_in wl_X11_87 (c_X11_in hM) ⟨by decide, by decide⟩ rfl hl.1 (Nat.le_of_ble_eq_true rfl) dX11_isSet_10 ⟨Nat.zero_le _, Nat.zero_le _⟩) (fun r3 S2 H locs hV hM => ?_)
  have hz4 := hM.1
  have hM := hM.2
  have hz5 := hM.1
  have hM := hM.2
  exact x_zret C hV hz5 hM dX11_isSet_13

def wq_X11_isUnder_19 (N : Nat) (K : Int32 → PS → Prop) (S : PS) (x0 : Int32) (x1 : Int32) : Prop := if x1 = 1 then (if x0 = 6 then (K 1 S) else (K 0 S)) else (K 0 S)
def wp_X11_isUnder (N : Nat) (S : PS) (x0 : Int32) (x1 : Int32) (K : Int32 → PS → Prop) : Prop := if x1 = 0 then (K 1 S) else (if x1 = x0 then (K 1 S) else (if x1 = 4 then (if x0 = 5 then (K 1 S) else (wq_X11_isUnder_19 N K S x0 x1)) else (wq_X11_isUnder_19 N K S x0 x1)))
set_option maxHeartbeats 4000000 in
set_option maxRecDepth 100000 in
theorem tq_X11_isUnder_19 {p : Program} {l : Launch} {e : Env} {s : State} {m : MethodId} {args : Array Value} {below : List Frame} {meth : Method} {c : Code} {D : DX} {cA : Nat → ClassId} {z0 N : Nat} {K : Int32 → PS → Prop} (C : CX p s m args meth c cX11_isUnder 2 RX11 (some .boolean) D cA z0) : ∀ (S : PS) (x0 : Int32) (x1 : Int32) (H : Heap) (locs : List Loc) (ls : Array Slot), wq_X11_isUnder_19 N K S x0 x1 → XV D cA z0 s S H locs → lv_has ls 2 [(0, .int x0), (1, .int x1)] → W p l e (rmd 0 0 0) s m args below meth c H locs 0 0 (MQ below (va_Qi (fun r S => (r = 0 ∨ r = 1) ∧ K r S) (XK D cA z0) (zA z0)) args s 0 0 (zA z0)) (F0 m 19 ls []) := by
  obtain ⟨hx, hb, hml, hown, hts, hK, hz, hlk, hr⟩ := id C
  intro S x0 x1 H locs ls hM hV hl
  unfold wq_X11_isUnder_19 at hM
  refine lv_iload_n hx hb dX11_isUnder_19 rfl (lv_at hl 1 rfl) ?_
  refine lv_iconst (v := 1) hx hb dX11_isUnder_20 (by decide) ?_
  refine lv_icmp_ne (tgt := 34) hx hb dX11_isUnder_21 (by decide) (fun c4 => ?_) (fun c4 => ?_)
  · have hM := ite_f c4 hM
    refine lv_iconst (v := 0) hx hb dX11_isUnder_34 (by decide) ?_
    exact x_zret C hV (by decide) hM dX11_isUnder_35
  have hM := ite_t c4 hM
  refine lv_iload_n hx hb dX11_isUnder_24 rfl (lv_at hl 0 rfl) ?_
  refine lv_bipush (v := 6) hx hb dX11_isUnder_25 (by decide) ?_
  refine lv_icmp_ne (tgt := 34) hx hb dX11_isUnder_27 (by decide) (fun c5 => ?_) (fun c5 => ?_)
  · have hM := ite_f c5 hM
    refine lv_iconst (v := 0) hx hb dX11_isUnder_34 (by decide) ?_
    exact x_zret C hV (by decide) hM dX11_isUnder_35
  have hM := ite_t c5 hM
  refine lv_iconst (v := 1) hx hb dX11_isUnder_30 (by decide) ?_
  refine lv_goto (tgt := 35) hx hb dX11_isUnder_31 (by decide) ?_
  exact x_zret C hV (by decide) hM dX11_isUnder_35
set_option maxHeartbeats 4000000 in
set_option maxRecDepth 100000 in
theorem c_X11_isUnder {l : Launch} {D : DX} {cA : Nat → ClassId} {z0 N : Nat} {S : PS} {x0 : Int32} {x1 : Int32} {K : Int32 → PS → Prop} (hM : wp_X11_isUnder N S x0 x1 K) : MetI l yX11_isUnder cX11_isUnder 2 (some .boolean) 0 0 0 D cA z0 [.int x0, .int x1] S (fun r S => (r = 0 ∨ r = 1) ∧ K r S) := by
  refine x_met RX11 (by decide) rfl ?_
  intro p e s m below meth c C hin hV
  have hl := lv_entry ([.int x0, .int x1]) (n := 2) (Nat.le_of_ble_eq_true rfl)
  rw [lg_entry_eq]
  generalize (lg_sl ([.int x0, .int x1]) ++ List.replicate (2 - (lg_sl ([.int x0, .int x1])).length) Slot.unset).toArray = ls at hl ⊢
  have hl : lv_has ls 2 [(0, .int x0), (1, .int x1)] := hl
  obtain ⟨hx, hb, hml, hown, hts, hK, hz, hlk, hr⟩ := id C
  unfold wp_X11_isUnder at hM
  refine lv_iload_n hx hb dX11_isUnder_0 rfl (lv_at hl 1 rfl) ?_
  refine lv_if_eq (tgt := 30) hx hb dX11_isUnder_1 (by decide) (fun c1 => ?_) (fun c1 => ?_)
  · have hM := ite_t c1 hM
    refine lv_iconst (v := 1) hx hb dX11_isUnder_30 (by decide) ?_
    refine lv_goto (tgt := 35) hx hb dX11_isUnder_31 (by decide) ?_
    exact x_zret C hV (by decide) hM dX11_isUnder_35
  have hM := ite_f c1 hM
  refine lv_iload_n hx hb dX11_isUnder_4 rfl (lv_at hl 1 rfl) ?_
  refine lv_iload_n hx hb dX11_isUnder_5 rfl (lv_at hl 0 rfl) ?_
  refine lv_icmp_eq (tgt := 30) hx hb dX11_isUnder_6 (by decide) (fun c2 => ?_) (fun c2 => ?_)
  · have hM := ite_t c2 hM
    refine lv_iconst (v := 1) hx hb dX11_isUnder_30 (by decide) ?_
    refine lv_goto (tgt := 35) hx hb dX11_isUnder_31 (by decide) ?_
    exact x_zret C hV (by decide) hM dX11_isUnder_35
  have hM := ite_f c2 hM
  refine lv_iload_n hx hb dX11_isUnder_9 rfl (lv_at hl 1 rfl) ?_
  refine lv_iconst (v := 4) hx hb dX11_isUnder_10 (by decide) ?_
  refine lv_icmp_ne (tgt := 19) hx hb dX11_isUnder_11 (by decide) (fun c3 => ?_) (fun c3 => ?_)
  · have hM := ite_f c3 hM
    exact tq_X11_isUnder_19 C _ _ _ _ _ _ hM hV (lv_sub hl [0, 1] rfl)
  have hM := ite_t c3 hM
  refine lv_iload_n hx hb dX11_isUnder_14 rfl (lv_at hl 0 rfl) ?_
  refine lv_iconst (v := 5) hx hb dX11_isUnder_15 (by decide) ?_
  refine lv_icmp_eq (tgt := 30) hx hb dX11_isUnder_16 (by decide) (fun c6 => ?_) (fun c6 => ?_)
  · have hM := ite_t c6 hM
    refine lv_iconst (v := 1) hx hb dX11_isUnder_30 (by decide) ?_
    refine lv_goto (tgt := 35) hx hb dX11_isUnder_31 (by decide) ?_
    exact x_zret C hV (by decide) hM dX11_isUnder_35
  have hM := ite_f c6 hM
  exact tq_X11_isUnder_19 C _ _ _ _ _ _ hM hV (lv_sub hl [0, 1] rfl)

def wp_X11_lacksSort (N : Nat) (S : PS) (a0 : Nat) (x1 : Int32) (x2 : Int32) (K : Int32 → PS → Prop) : Prop := S.K a0 = 12 ∧ ∃ p2 : Nat, S.R 806 a0 = some p2 ∧ S.K p2 = 20 ∧ vp_in x1 (S.ln p2) ∧ if 0 ≤ (S.A p2 x1.toNatClampNeg) then (∃ p6 : Nat, S.R 806 a0 = some p6 ∧ S.K p6 = 20 ∧ vp_in x1 (S.ln p6) ∧ if (S.A p6 x1.toNatClampNeg) = x2 then (K 0 S) else (K (-13) S)) else (K (-11) S)
set_option maxHeartbeats 4000000 in
set_option maxRecDepth 100000 in
theorem c_X11_lacksSort {l : Launch} {D : DX} {cA : Nat → ClassId} {z0 N : Nat} {S : PS} {a0 : Nat} {x1 : Int32} {x2 : Int32} {K : Int32 → PS → Prop} (hM : wp_X11_lacksSort N S a0 x1 x2 K) : MetI l yX11_lacksSort cX11_lacksSort 3 (some .int) 0 0 0 D cA z0 [.ref a0, .int x1, .int x2] S K := by
  refine x_met RX11 (by decide) rfl ?_
  intro p e s m below meth c C hin hV
  have hl := lv_entry ([.ref a0, .int x1, .int x2]) (n := 3) (Nat.le_of_ble_eq_true rfl)
  rw [lg_entry_eq]
  generalize (lg_sl ([.ref a0, .int x1, .int x2]) ++ List.replicate (3 - (lg_sl ([.ref a0, .int x1, .int x2])).length) Slot.unset).toArray = ls at hl ⊢
  have hl : lv_has ls 3 [(0, .ref a0), (1, .int x1), (2, .int x2)] := hl
  obtain ⟨hx, hb, hml, hown, hts, hK, hz, hlk, hr⟩ := id C
  unfold wp_X11_lacksSort at hM
  refine lv_aload_n hx hb dX11_lacksSort_0 rfl (lv_at hl 0 rfl) ?_
  have hk1 := hM.1
  have hM := hM.2
  obtain ⟨p2, hp2, hM⟩ := hM
  refine x_getR C hV wf_X11_56 hk1 hp2 dX11_lacksSort_1 ?_
  refine lv_iload_n hx hb dX11_lacksSort_4 rfl (lv_at hl 1 rfl) ?_
  have hk3 := hM.1
  have hM := hM.2
  have hi4 := hM.1
  have hM := hM.2
  refine x_iald C hV hk3 hi4 dX11_lacksSort_5 ?_
  refine lv_if_ge (tgt := 14) hx hb dX11_lacksSort_6 (by decide) (fun c5 => ?_) (fun c5 => ?_)
  · have hM := ite_t c5 hM
    refine lv_aload_n hx hb dX11_lacksSort_14 rfl (lv_at hl 0 rfl) ?_
    obtain ⟨p6, hp6, hM⟩ := hM
    refine x_getR C hV wf_X11_56 hk1 hp6 dX11_lacksSort_15 ?_
    refine lv_iload_n hx hb dX11_lacksSort_18 rfl (lv_at hl 1 rfl) ?_
    have hk7 := hM.1
    have hM := hM.2
    have hi8 := hM.1
    have hM := hM.2
    refine x_iald C hV hk7 hi8 dX11_lacksSort_19 ?_
    refine lv_iload_n hx hb dX11_lacksSort_20 rfl (lv_at hl 2 rfl) ?_
    refine lv_icmp_eq (tgt := 29) hx hb dX11_lacksSort_21 (by decide) (fun c9 => ?_) (fun c9 => ?_)
    · have hM := ite_t c9 hM
      refine lv_iconst (v := 0) hx hb dX11_lacksSort_29 (by decide) ?_
      exact x_iret C hV hM dX11_lacksSort_30
    have hM := ite_f c9 hM
    refine lv_bipush (v := (-13)) hx hb dX11_lacksSort_24 (by decide) ?_
    refine lv_goto (tgt := 30) hx hb dX11_lacksSort_26 (by decide) ?_
    exact x_iret C hV hM dX11_lacksSort_30
  have hM := ite_f c5 hM
  refine lv_bipush (v := (-11)) hx hb dX11_lacksSort_9 (by decide) ?_
  refine lv_goto (tgt := 30) hx hb dX11_lacksSort_11 (by decide) ?_
  exact x_iret C hV hM dX11_lacksSort_30

def wp_X11_item (N : Nat) (S : PS) (a0 : Nat) (x1 : Int32) (x2 : Int32) (x3 : Int32) (K : Int32 → PS → Prop) : Prop := wp_X11_isShelf N S x1 (fun r2 S1 => if r2 = 0 then (K (-1) S1) else (wp_X11_in N S1 x2 0 3 (fun r6 S5 => if r6 = 0 then (K (-1) S5) else (S5.K a0 = 12 ∧ wp_X11_lacksSort N S5 a0 x1 x2 (fun r11 S10 => if r11 = 0 then (S10.K a0 = 12 ∧ ∃ p14 : Nat, S10.R 807 a0 = some p14 ∧ S10.K p14 = 20 ∧ vp_in x1 (S10.ln p14) ∧ wp_X11_in N S10 x3 0 ((S10.A p14 x1.toNatClampNeg) - 1) (fun r18 S17 => if r18 = 0 then (K (-12) S17) else (S17.K a0 = 12 ∧ ∃ p22 : Nat, S17.R 808 a0 = some p22 ∧ S17.K p22 = 22 ∧ vp_in ((40 * x1) + x3) (S17.ln p22) ∧ K ((S17.B p22 ((40 * x1) + x3).toNatClampNeg).toInt32) S17))) else (K r11 S10))))))
set_option maxHeartbeats 4000000 in
set_option maxRecDepth 100000 in
theorem c_X11_item {l : Launch} {D : DX} {cA : Nat → ClassId} {z0 N : Nat} {S : PS} {a0 : Nat} {x1 : Int32} {x2 : Int32} {x3 : Int32} {K : Int32 → PS → Prop} (hM : wp_X11_item N S a0 x1 x2 x3 K) : MetI l yX11_item cX11_item 5 (some .int) 2 0 0 D cA z0 [.ref a0, .int x1, .int x2, .int x3] S K := by
  refine x_met RX11 (by decide) rfl ?_
  intro p e s m below meth c C hin hV
  have hl := lv_entry ([.ref a0, .int x1, .int x2, .int x3]) (n := 5) (Nat.le_of_ble_eq_true rfl)
  rw [lg_entry_eq]
  generalize (lg_sl ([.ref a0, .int x1, .int x2, .int x3]) ++ List.replicate (5 - (lg_sl ([.ref a0, .int x1, .int x2, .int x3])).length) Slot.unset).toArray = ls at hl ⊢
  have hl : lv_has ls 5 [(0, .ref a0), (1, .int x1), (2, .int x2), (3, .int x3)] := hl
  obtain ⟨hx, hb, hml, hown, hts, hK, hz, hlk, hr⟩ := id C
  unfold wp_X11_item at hM
  refine lv_iload_n hx hb dX11_item_0 rfl (lv_at hl 1 rfl) ?_
  refine x_ci hV (x_runS (As := [.int x1]) (rest := []) C hV ms_X11_isShelf wl_X11_388 (c_X11_isShelf hM) ⟨by decide, by decide⟩ rfl hl.1 (Nat.le_of_ble_eq_true rfl) dX11_item_1 ⟨Nat.zero_le _, Nat.zero_le _⟩) (fun r2 S1 H locs hV hM => ?_)
  have hz3 := hM.1
  have hM := hM.2
  refine lv_if_eq (tgt := 16) hx hb dX11_item_4 (by decide) (fun c4 => ?_) (fun c4 => ?_)
  · have hM := ite_t c4 hM
    refine lv_iconst (v := (-1)) hx hb dX11_item_16 (by decide) ?_
    exact x_iret C hV hM dX11_item_17
  have hM := ite_f c4 hM
  refine lv_iload_n hx hb dX11_item_7 rfl (lv_at hl 2 rfl) ?_
  refine lv_iconst (v := 0) hx hb dX11_item_8 (by decide) ?_
  refine lv_iconst (v := 3) hx hb dX11_item_9 (by decide) ?_
  refine x_ci hV (x_runS (As := [.int x2, .int 0, .int 3]) (rest := []) C hV ms_X11_in wl_X11_87 (c_X11_in hM) ⟨by decide, by decide⟩ rfl hl.1 (Nat.le_of_ble_eq_true rfl) dX11_item_10 ⟨Nat.zero_le _, Nat.zero_le _⟩) (fun r6 S5 H locs hV hM => ?_)
  have hz7 := hM.1
  have hM := hM.2
  refine lv_if_ne (tgt := 18) hx hb dX11_item_13 (by decide) (fun c8 => ?_) (fun c8 => ?_)
  · have hM := ite_f c8 hM
    refine lv_aload_n hx hb dX11_item_18 rfl (lv_at hl 0 rfl) ?_
    refine lv_iload_n hx hb dX11_item_19 rfl (lv_at hl 1 rfl) ?_
    refine lv_iload_n hx hb dX11_item_20 rfl (lv_at hl 2 rfl) ?_
    have hk9 := hM.1
    have hM := hM.2
    refine x_ci hV (x_runV (As := [.int x1, .int x2]) (rest := []) C hV mi_X11_lacksSort wl_X11_391 hk9 (c_X11_lacksSort hM) ⟨by decide, by decide⟩ rfl hl.1 (Nat.le_of_ble_eq_true rfl) dX11_item_21 ⟨Nat.zero_le _, Nat.zero_le _⟩) (fun r11 S10 H locs hV hM => ?_)
    refine lv_istore (lv' := [(4, .int r11), (0, .ref a0), (1, .int x1), (2, .int x2), (3, .int x3)]) hx hb dX11_item_24 hl (by decide) rfl (fun ls hl => ?_)
    refine lv_iload hx hb dX11_item_26 (lv_at hl 0 rfl) ?_
    refine lv_if_eq (tgt := 34) hx hb dX11_item_28 (by decide) (fun c12 => ?_) (fun c12 => ?_)
    · have hM := ite_t c12 hM
      refine lv_iload_n hx hb dX11_item_34 rfl (lv_at hl 4 rfl) ?_
      refine lv_iconst (v := 0) hx hb dX11_item_35 (by decide) ?_
      refine lv_aload_n hx hb dX11_item_36 rfl (lv_at hl 1 rfl) ?_
      have hk13 := hM.1
      have hM := hM.2
      obtain ⟨p14, hp14, hM⟩ := hM
      refine x_getR C hV wf_X11_59 hk13 hp14 dX11_item_37 ?_
      refine lv_iload_n hx hb dX11_item_40 rfl (lv_at hl 2 rfl) ?_
      have hk15 := hM.1
      have hM := hM.2
      have hi16 := hM.1
      have hM := hM.2
      refine x_iald C hV hk15 hi16 dX11_item_41 ?_
      refine lv_iconst (v := 1) hx hb dX11_item_42 (by decide) ?_
      refine lv_isub hx hb dX11_item_43 ?_
      refine x_ci hV (x_runS (As := [.int x3, .int 0, .int ((S10.A p14 x1.toNatClampNeg) - 1)]) (rest := []) C hV ms_X11_in wl_X11_87 (c_X11_in hM) ⟨by decide, by decide⟩ rfl hl.1 (Nat.le_of_ble_eq_true rfl) dX11_item_44 ⟨Nat.zero_le _, Nat.zero_le _⟩) (fun r18 S17 H locs hV hM => ?_)
      have hz19 := hM.1
      have hM := hM.2
      refine lv_if_eq (tgt := 65) hx hb dX11_item_47 (by decide) (fun c20 => ?_) (fun c20 => ?_)
      · have hM := ite_t c20 hM
        refine lv_bipush (v := (-12)) hx hb dX11_item_65 (by decide) ?_
        exact x_iret C hV hM dX11_item_67
      have hM := ite_f c20 hM
      refine lv_aload_n hx hb dX11_item_50 rfl (lv_at hl 1 rfl) ?_
      have hk21 := hM.1
      have hM := hM.2
      obtain ⟨p22, hp22, hM⟩ := hM
      refine x_getR C hV wf_X11_62 hk21 hp22 dX11_item_51 ?_
      refine lv_bipush (v := 40) hx hb dX11_item_54 (by decide) ?_
      refine lv_iload_n hx hb dX11_item_56 rfl (lv_at hl 2 rfl) ?_
      refine lv_imul hx hb dX11_item_57 ?_
      refine lv_iload_n hx hb dX11_item_58 rfl (lv_at hl 4 rfl) ?_
      refine lv_iadd hx hb dX11_item_59 ?_
      have hk23 := hM.1
      have hM := hM.2
      have hi24 := hM.1
      have hM := hM.2
      refine x_lald C hV hk23 hi24 dX11_item_60 ?_
      refine lv_l2i hx hb dX11_item_61 rfl ?_
      refine lv_goto (tgt := 67) hx hb dX11_item_62 (by decide) ?_
      exact x_iret C hV hM dX11_item_67
    have hM := ite_f c12 hM
    refine lv_iload hx hb dX11_item_31 (lv_at hl 0 rfl) ?_
    exact x_iret C hV hM dX11_item_33
  have hM := ite_t c8 hM
  refine lv_iconst (v := (-1)) hx hb dX11_item_16 (by decide) ?_
  exact x_iret C hV hM dX11_item_17

def wp_X11_lacks (N : Nat) (S : PS) (a0 : Nat) (x1 : Int32) (K : Int32 → PS → Prop) : Prop := S.K a0 = 12 ∧ wp_X11_takes N S a0 x1 (fun r3 S2 => S2.K a0 = 12 ∧ wp_X11_its N S2 a0 x1 5 (fun r6 S5 => K (r3 - r6) S5))
set_option maxHeartbeats 4000000 in
set_option maxRecDepth 100000 in
theorem c_X11_lacks {l : Launch} {D : DX} {cA : Nat → ClassId} {z0 N : Nat} {S : PS} {a0 : Nat} {x1 : Int32} {K : Int32 → PS → Prop} (hM : wp_X11_lacks N S a0 x1 K) : MetI l yX11_lacks cX11_lacks 2 (some .int) 2 0 0 D cA z0 [.ref a0, .int x1] S K := by
  refine x_met RX11 (by decide) rfl ?_
  intro p e s m below meth c C hin hV
  have hl := lv_entry ([.ref a0, .int x1]) (n := 2) (Nat.le_of_ble_eq_true rfl)
  rw [lg_entry_eq]
  generalize (lg_sl ([.ref a0, .int x1]) ++ List.replicate (2 - (lg_sl ([.ref a0, .int x1])).length) Slot.unset).toArray = ls at hl ⊢
  have hl : lv_has ls 2 [(0, .ref a0), (1, .int x1)] := hl
  obtain ⟨hx, hb, hml, hown, hts, hK, hz, hlk, hr⟩ := id C
  unfold wp_X11_lacks at hM
  refine lv_aload_n hx hb dX11_lacks_0 rfl (lv_at hl 0 rfl) ?_
  refine lv_iload_n hx hb dX11_lacks_1 rfl (lv_at hl 1 rfl) ?_
  have hk1 := hM.1
  have hM := hM.2
  refine x_ci hV (x_runV (As := [.int x1]) (rest := []) C hV mi_X11_takes wl_X11_106 hk1 (c_X11_takes hM) ⟨by decide, by decide⟩ rfl hl.1 (Nat.le_of_ble_eq_true rfl) dX11_lacks_2 ⟨Nat.zero_le _, Nat.zero_le _⟩) (fun r3 S2 H locs hV hM => ?_)
  refine lv_aload_n hx hb dX11_lacks_5 rfl (lv_at hl 0 rfl) ?_
  refine lv_iload_n hx hb dX11_lacks_6 rfl (lv_at hl 1 rfl) ?_
  refine lv_iconst (v := 5) hx hb dX11_lacks_7 (by decide) ?_
  have hk4 := hM.1
  have hM := hM.2
  refine x_ci hV (x_runV (As := [.int x1, .int 5]) (rest := [.int r3]) C hV mi_X11_its wl_X11_94 hk4 (c_X11_its hM) ⟨by decide, by decide⟩ rfl hl.1 (Nat.le_of_ble_eq_true rfl) dX11_lacks_8 ⟨Nat.zero_le _, Nat.zero_le _⟩) (fun r6 S5 H locs hV hM => ?_)
  refine lv_isub hx hb dX11_lacks_11 ?_
  exact x_iret C hV hM dX11_lacks_12

def wq_X11_judge_105 (N : Nat) (K : Int32 → PS → Prop) (S : PS) (x2 : Int32) : Prop := K (x2 + 1) S
def wq_X11_judge_16 (N : Nat) (K : Int32 → PS → Prop) : Nat → PS → Nat → Int32 → Int32 → Int32 → Int32 → Prop
  | 0, _, _, _, _, _, _ => False
  | n + 1, S, a0, x1, x2, x3, x4 => S.K a0 = 12 ∧ if (S.I 772 a0) ≤ x4 then (if (S.I 805 a0) ≤ x2 then (K 0 S) else (K (x2 + 1) S)) else (wp_X11_isOn N S a0 x4 x1 (fun r9 S8 => if r9 = 0 then (wq_X11_judge_16 N K n S8 a0 x1 x2 x3 (x4 + 1)) else (S8.K a0 = 12 ∧ if x2 = (S8.I 805 a0) then (K 222 S8) else (wp_X11_lacks N S8 a0 x4 (fun r15 S14 => ∀ v16 : Int32, v16 = (x3 + r15) → S14.K a0 = 12 ∧ ∃ p18 : Nat, S14.R 804 a0 = some p18 ∧ S14.K p18 = 20 ∧ vp_in (3 * x2) (S14.ln p18) ∧ if (S14.A p18 (3 * x2).toNatClampNeg) = x4 then (∃ p22 : Nat, S14.R 804 a0 = some p22 ∧ S14.K p22 = 20 ∧ vp_in ((3 * x2) + 1) (S14.ln p22) ∧ wp_X11_lacks N S14 a0 x4 (fun r26 S25 => if (S14.A p22 ((3 * x2) + 1).toNatClampNeg) = r26 then (S25.K a0 = 12 ∧ ∃ p29 : Nat, S25.R 804 a0 = some p29 ∧ S25.K p29 = 20 ∧ vp_in ((3 * x2) + 2) (S25.ln p29) ∧ if (S25.A p29 ((3 * x2) + 2).toNatClampNeg) = v16 then (wq_X11_judge_16 N K n S25 a0 x1 (x2 + 1) v16 (x4 + 1)) else (wq_X11_judge_105 N K S25 x2)) else (wq_X11_judge_105 N K S25 x2))) else (wq_X11_judge_105 N K S14 x2))))))
def wp_X11_judge (N : Nat) (S : PS) (a0 : Nat) (x1 : Int32) (K : Int32 → PS → Prop) : Prop := wp_X11_isSide N S x1 (fun r2 S1 => if r2 = 0 then (K (-1) S1) else (wq_X11_judge_16 N K N S1 a0 x1 0 0 0))
set_option maxHeartbeats 4000000 in
set_option maxRecDepth 100000 in
theorem tq_X11_judge_105 {p : Program} {l : Launch} {e : Env} {s : State} {m : MethodId} {args : Array Value} {below : List Frame} {meth : Method} {c : Code} {D : DX} {cA : Nat → ClassId} {z0 N : Nat} {K : Int32 → PS → Prop} (C : CX p s m args meth c cX11_judge 5 RX11 (some .int) D cA z0) : ∀ (S : PS) (x2 : Int32) (H : Heap) (locs : List Loc) (ls : Array Slot), wq_X11_judge_105 N K S x2 → XV D cA z0 s S H locs → lv_has ls 5 [(2, .int x2)] → W p l e (rmd 3 0 0) s m args below meth c H locs 0 0 (MQ below (va_Qi K (XK D cA z0) (zA z0)) args s 0 0 (zA z0)) (F0 m 105 ls []) := by
  obtain ⟨hx, hb, hml, hown, hts, hK, hz, hlk, hr⟩ := id C
  intro S x2 H locs ls hM hV hl
  unfold wq_X11_judge_105 at hM
  refine lv_iload_n hx hb dX11_judge_105 rfl (lv_at hl 0 rfl) ?_
  refine lv_iconst (v := 1) hx hb dX11_judge_106 (by decide) ?_
  refine lv_iadd hx hb dX11_judge_107 ?_
  exact x_iret C hV hM dX11_judge_108
set_option maxHeartbeats 4000000 in
set_option maxRecDepth 100000 in
theorem tq_X11_judge_16 {p : Program} {l : Launch} {e : Env} {s : State} {m : MethodId} {args : Array Value} {below : List Frame} {meth : Method} {c : Code} {D : DX} {cA : Nat → ClassId} {z0 N : Nat} {K : Int32 → PS → Prop} (C : CX p s m args meth c cX11_judge 5 RX11 (some .int) D cA z0) : ∀ (n : Nat) (S : PS) (a0 : Nat) (x1 : Int32) (x2 : Int32) (x3 : Int32) (x4 : Int32) (H : Heap) (locs : List Loc) (ls : Array Slot), wq_X11_judge_16 N K n S a0 x1 x2 x3 x4 → XV D cA z0 s S H locs → lv_has ls 5 [(0, .ref a0), (1, .int x1), (2, .int x2), (3, .int x3), (4, .int x4)] → W p l e (rmd 3 0 0) s m args below meth c H locs 0 0 (MQ below (va_Qi K (XK D cA z0) (zA z0)) args s 0 0 (zA z0)) (F0 m 16 ls []) := by
  obtain ⟨hx, hb, hml, hown, hts, hK, hz, hlk, hr⟩ := id C
  intro n
  induction n with
  | zero => intro S a0 x1 x2 x3 x4 H locs ls hM; exact absurd hM id
  | succ n ih =>
    intro S a0 x1 x2 x3 x4 H locs ls hM hV hl
    rw [wq_X11_judge_16.eq_2] at hM
    refine lv_iload hx hb dX11_judge_16 (lv_at hl 4 rfl) ?_
    refine lv_aload_n hx hb dX11_judge_18 rfl (lv_at hl 0 rfl) ?_
    have hk5 := hM.1
    have hM := hM.2
    refine x_getI C hV wf_X11_84 hk5 dX11_judge_19 ?_
    refine lv_icmp_ge (tgt := 118) hx hb dX11_judge_22 (by decide) (fun c6 => ?_) (fun c6 => ?_)
    · have hM := ite_t c6 hM
      refine lv_iload_n hx hb dX11_judge_118 rfl (lv_at hl 2 rfl) ?_
      refine lv_aload_n hx hb dX11_judge_119 rfl (lv_at hl 0 rfl) ?_
      refine x_getI C hV wf_X11_382 hk5 dX11_judge_120 ?_
      refine lv_icmp_ge (tgt := 132) hx hb dX11_judge_123 (by decide) (fun c7 => ?_) (fun c7 => ?_)
      · have hM := ite_t c7 hM
        refine lv_iconst (v := 0) hx hb dX11_judge_132 (by decide) ?_
        exact x_iret C hV hM dX11_judge_133
      have hM := ite_f c7 hM
      refine lv_iload_n hx hb dX11_judge_126 rfl (lv_at hl 2 rfl) ?_
      refine lv_iconst (v := 1) hx hb dX11_judge_127 (by decide) ?_
      refine lv_iadd hx hb dX11_judge_128 ?_
      refine lv_goto (tgt := 133) hx hb dX11_judge_129 (by decide) ?_
      exact x_iret C hV hM dX11_judge_133
    have hM := ite_f c6 hM
    refine lv_aload_n hx hb dX11_judge_25 rfl (lv_at hl 0 rfl) ?_
    refine lv_iload hx hb dX11_judge_26 (lv_at hl 4 rfl) ?_
    refine lv_iload_n hx hb dX11_judge_28 rfl (lv_at hl 1 rfl) ?_
    refine x_ci hV (x_runV (As := [.int x4, .int x1]) (rest := []) C hV mi_X11_isOn wl_X11_123 hk5 (c_X11_isOn hM) ⟨by decide, by decide⟩ rfl hl.1 (Nat.le_of_ble_eq_true rfl) dX11_judge_29 ⟨Nat.zero_le _, Nat.zero_le _⟩) (fun r9 S8 H locs hV hM => ?_)
    have hz10 := hM.1
    have hM := hM.2
    refine lv_if_ne (tgt := 38) hx hb dX11_judge_32 (by decide) (fun c11 => ?_) (fun c11 => ?_)
    · have hM := ite_f c11 hM
      refine lv_iload_n hx hb dX11_judge_38 rfl (lv_at hl 2 rfl) ?_
      refine lv_aload_n hx hb dX11_judge_39 rfl (lv_at hl 0 rfl) ?_
      have hk12 := hM.1
      have hM := hM.2
      refine x_getI C hV wf_X11_382 hk12 dX11_judge_40 ?_
      refine lv_icmp_ne (tgt := 50) hx hb dX11_judge_43 (by decide) (fun c13 => ?_) (fun c13 => ?_)
      · have hM := ite_f c13 hM
        refine lv_iload_n hx hb dX11_judge_50 rfl (lv_at hl 3 rfl) ?_
        refine lv_aload_n hx hb dX11_judge_51 rfl (lv_at hl 0 rfl) ?_
        refine lv_iload hx hb dX11_judge_52 (lv_at hl 4 rfl) ?_
        refine x_ci hV (x_runV (As := [.int x4]) (rest := [.int x3]) C hV mi_X11_lacks wl_X11_127 hk12 (c_X11_lacks hM) ⟨by decide, by decide⟩ rfl hl.1 (Nat.le_of_ble_eq_true rfl) dX11_judge_54 ⟨Nat.zero_le _, Nat.zero_le _⟩) (fun r15 S14 H locs hV hM => ?_)
        refine lv_iadd hx hb dX11_judge_57 ?_
        refine lv_topi (fun v16 ev16 => ?_)
        have hM := hM v16 ev16
        refine lv_istore_n (lv' := [(3, .int v16), (0, .ref a0), (1, .int x1), (2, .int x2), (4, .int x4)]) hx hb dX11_judge_58 rfl hl (by decide) rfl (fun ls hl => ?_)
        refine lv_aload_n hx hb dX11_judge_59 rfl (lv_at hl 1 rfl) ?_
        have hk17 := hM.1
        have hM := hM.2
        obtain ⟨p18, hp18, hM⟩ := hM
        refine x_getR C hV wf_X11_53 hk17 hp18 dX11_judge_60 ?_
        refine lv_iconst (v := 3) hx hb dX11_judge_63 (by decide) ?_
        refine lv_iload_n hx hb dX11_judge_64 rfl (lv_at hl 3 rfl) ?_
        refine lv_imul hx hb dX11_judge_65 ?_
        have hk19 := hM.1
        have hM := hM.2
        have hi20 := hM.1
        have hM := hM.2
        refine x_iald C hV hk19 hi20 dX11_judge_66 ?_
        refine lv_iload hx hb dX11_judge_67 (lv_at hl 4 rfl) ?_
        refine lv_icmp_ne (tgt := 105) hx hb dX11_judge_69 (by decide) (fun c21 => ?_) (fun c21 => ?_)
        · have hM := ite_f c21 hM
          exact tq_X11_judge_105 C _ _ _ _ _ hM hV (lv_sub hl [3] rfl)
        have hM := ite_t c21 hM
        refine lv_aload_n hx hb dX11_judge_72 rfl (lv_at hl 1 rfl) ?_
        obtain ⟨p22, hp22, hM⟩ := hM
        refine x_getR C hV wf_X11_53 hk17 hp22 dX11_judge_73 ?_
        refine lv_iconst (v := 3) hx hb dX11_judge_76 (by decide) ?_
        refine lv_iload_n hx hb dX11_judge_77 rfl (lv_at hl 3 rfl) ?_
        refine lv_imul hx hb dX11_judge_78 ?_
        refine lv_iconst (v := 1) hx hb dX11_judge_79 (by decide) ?_
        refine lv_iadd hx hb dX11_judge_80 ?_
        have hk23 := hM.1
        have hM := hM.2
        have hi24 := hM.1
        have hM := hM.2
        refine x_iald C hV hk23 hi24 dX11_judge_81 ?_
        refine lv_aload_n hx hb dX11_judge_82 rfl (lv_at hl 1 rfl) ?_
        refine lv_iload hx hb dX11_judge_83 (lv_at hl 4 rfl) ?_
        refine x_ci hV (x_runV (As := [.int x4]) (rest := [.int (S14.A p22 ((3 * x2) + 1).toNatClampNeg)]) C hV mi_X11_lacks wl_X11_127 hk17 (c_X11_lacks hM) ⟨by decide, by decide⟩ rfl hl.1 (Nat.le_of_ble_eq_true rfl) dX11_judge_85 ⟨Nat.zero_le _, Nat.zero_le _⟩) (fun r26 S25 H locs hV hM => ?_)
        refine lv_icmp_ne (tgt := 105) hx hb dX11_judge_88 (by decide) (fun c27 => ?_) (fun c27 => ?_)
        · have hM := ite_f c27 hM
          exact tq_X11_judge_105 C _ _ _ _ _ hM hV (lv_sub hl [3] rfl)
        have hM := ite_t c27 hM
        refine lv_aload_n hx hb dX11_judge_91 rfl (lv_at hl 1 rfl) ?_
        have hk28 := hM.1
        have hM := hM.2
        obtain ⟨p29, hp29, hM⟩ := hM
        refine x_getR C hV wf_X11_53 hk28 hp29 dX11_judge_92 ?_
        refine lv_iconst (v := 3) hx hb dX11_judge_95 (by decide) ?_
        refine lv_iload_n hx hb dX11_judge_96 rfl (lv_at hl 3 rfl) ?_
        refine lv_imul hx hb dX11_judge_97 ?_
        refine lv_iconst (v := 2) hx hb dX11_judge_98 (by decide) ?_
        refine lv_iadd hx hb dX11_judge_99 ?_
        have hk30 := hM.1
        have hM := hM.2
        have hi31 := hM.1
        have hM := hM.2
        refine x_iald C hV hk30 hi31 dX11_judge_100 ?_
        refine lv_iload_n hx hb dX11_judge_101 rfl (lv_at hl 0 rfl) ?_
        refine lv_icmp_eq (tgt := 109) hx hb dX11_judge_102 (by decide) (fun c32 => ?_) (fun c32 => ?_)
        · have hM := ite_t c32 hM
          refine lv_iinc (v := (x2 + 1)) (lv' := [(2, .int (x2 + 1)), (3, .int v16), (0, .ref a0), (1, .int x1), (4, .int x4)]) hx hb dX11_judge_109 hl (k := 3) rfl rfl (by decide) rfl (fun ls hl => ?_)
          refine lv_iinc (v := (x4 + 1)) (lv' := [(4, .int (x4 + 1)), (2, .int (x2 + 1)), (3, .int v16), (0, .ref a0), (1, .int x1)]) hx hb dX11_judge_112 hl (k := 4) rfl rfl (by decide) rfl (fun ls hl => ?_)
          refine lv_goto (tgt := 16) hx hb dX11_judge_115 (by decide) ?_
          exact ih _ _ _ _ _ _ _ _ _ hM hV (lv_sub hl [3, 4, 1, 2, 0] rfl)
        have hM := ite_f c32 hM
        exact tq_X11_judge_105 C _ _ _ _ _ hM hV (lv_sub hl [3] rfl)
      have hM := ite_t c13 hM
      refine lv_sipush (v := 222) hx hb dX11_judge_46 (by decide) ?_
      exact x_iret C hV hM dX11_judge_49
    have hM := ite_t c11 hM
    refine lv_goto (tgt := 112) hx hb dX11_judge_35 (by decide) ?_
    refine lv_iinc (v := (x4 + 1)) (lv' := [(4, .int (x4 + 1)), (0, .ref a0), (1, .int x1), (2, .int x2), (3, .int x3)]) hx hb dX11_judge_112 hl (k := 4) rfl rfl (by decide) rfl (fun ls hl => ?_)
    refine lv_goto (tgt := 16) hx hb dX11_judge_115 (by decide) ?_
    exact ih _ _ _ _ _ _ _ _ _ hM hV (lv_sub hl [1, 2, 3, 4, 0] rfl)
set_option maxHeartbeats 4000000 in
set_option maxRecDepth 100000 in
theorem c_X11_judge {l : Launch} {D : DX} {cA : Nat → ClassId} {z0 N : Nat} {S : PS} {a0 : Nat} {x1 : Int32} {K : Int32 → PS → Prop} (hM : wp_X11_judge N S a0 x1 K) : MetI l yX11_judge cX11_judge 5 (some .int) 3 0 0 D cA z0 [.ref a0, .int x1] S K := by
  refine x_met RX11 (by decide) rfl ?_
  intro p e s m below meth c C hin hV
  have hl := lv_entry ([.ref a0, .int x1]) (n := 5) (Nat.le_of_ble_eq_true rfl)
  rw [lg_entry_eq]
  generalize (lg_sl ([.ref a0, .int x1]) ++ List.replicate (5 - (lg_sl ([.ref a0, .int x1])).length) Slot.unset).toArray = ls at hl ⊢
  have hl : lv_has ls 5 [(0, .ref a0), (1, .int x1)] := hl
  obtain ⟨hx, hb, hml, hown, hts, hK, hz, hlk, hr⟩ := id C
  unfold wp_X11_judge at hM
  refine lv_iload_n hx hb dX11_judge_0 rfl (lv_at hl 1 rfl) ?_
  refine x_ci hV (x_runS (As := [.int x1]) (rest := []) C hV ms_X11_isSide wl_X11_119 (c_X11_isSide hM) ⟨by decide, by decide⟩ rfl hl.1 (Nat.le_of_ble_eq_true rfl) dX11_judge_1 ⟨Nat.zero_le _, Nat.zero_le _⟩) (fun r2 S1 H locs hV hM => ?_)
  have hz3 := hM.1
  have hM := hM.2
  refine lv_if_ne (tgt := 9) hx hb dX11_judge_4 (by decide) (fun c4 => ?_) (fun c4 => ?_)
  · have hM := ite_f c4 hM
    refine lv_iconst (v := 0) hx hb dX11_judge_9 (by decide) ?_
    refine lv_istore_n (lv' := [(2, .int 0), (0, .ref a0), (1, .int x1)]) hx hb dX11_judge_10 rfl hl (by decide) rfl (fun ls hl => ?_)
    refine lv_iconst (v := 0) hx hb dX11_judge_11 (by decide) ?_
    refine lv_istore_n (lv' := [(3, .int 0), (2, .int 0), (0, .ref a0), (1, .int x1)]) hx hb dX11_judge_12 rfl hl (by decide) rfl (fun ls hl => ?_)
    refine lv_iconst (v := 0) hx hb dX11_judge_13 (by decide) ?_
    refine lv_istore (lv' := [(4, .int 0), (3, .int 0), (2, .int 0), (0, .ref a0), (1, .int x1)]) hx hb dX11_judge_14 hl (by decide) rfl (fun ls hl => ?_)
    exact tq_X11_judge_16 C N _ _ _ _ _ _ _ _ _ hM hV (lv_sub hl [3, 4, 2, 1, 0] rfl)
  have hM := ite_t c4 hM
  refine lv_iconst (v := (-1)) hx hb dX11_judge_7 (by decide) ?_
  exact x_iret C hV hM dX11_judge_8

def wq_X11_lowest_17 (N : Nat) (K : PS → Prop) : Nat → PS → Nat → Int64 → Int64 → Int64 → Int64 → Prop
  | 0, _, _, _, _, _, _ => False
  | n + 1, S, a0, j1, j3, j5, j7 => if (lg_cmp j7 (0 : Int64)) = 0 then ((¬ j5 = 0) ∧ S.K a0 = 12 ∧ ∀ S5 : PS, S5 = S.setJ 790 a0 (j1 / j5) → (¬ j5 = 0) ∧ ∀ S8 : PS, S8 = S5.setJ 791 a0 (j3 / j5) → K S8) else ((¬ j7 = 0) ∧ ∀ v10 : Int64, v10 = (j5 - j5 / j7 * j7) → wq_X11_lowest_17 N K n S a0 j1 j3 j7 v10)
def wq_X11_lowest_12 (N : Nat) (K : PS → Prop) (S : PS) (a0 : Nat) (j1 : Int64) (j3 : Int64) (u0 : Int64) : Prop := wq_X11_lowest_17 N K N S a0 j1 j3 u0 j3
def wp_X11_lowest (N : Nat) (S : PS) (a0 : Nat) (j1 : Int64) (j3 : Int64) (K : PS → Prop) : Prop := if 0 ≤ (lg_cmp j1 (0 : Int64)) then (wq_X11_lowest_12 N K S a0 j1 j3 j1) else (wq_X11_lowest_12 N K S a0 j1 j3 (-j1))
set_option maxHeartbeats 4000000 in
set_option maxRecDepth 100000 in
theorem tq_X11_lowest_17 {p : Program} {l : Launch} {e : Env} {s : State} {m : MethodId} {args : Array Value} {below : List Frame} {meth : Method} {c : Code} {D : DX} {cA : Nat → ClassId} {z0 N : Nat} {K : PS → Prop} (C : CX p s m args meth c cX11_lowest 11 RX11 none D cA z0) : ∀ (n : Nat) (S : PS) (a0 : Nat) (j1 : Int64) (j3 : Int64) (j5 : Int64) (j7 : Int64) (H : Heap) (locs : List Loc) (ls : Array Slot), wq_X11_lowest_17 N K n S a0 j1 j3 j5 j7 → XV D cA z0 s S H locs → lv_has ls 11 [(0, .ref a0), (1, .long j1), (3, .long j3), (5, .long j5), (7, .long j7)] → W p l e (rmd 0 0 0) s m args below meth c H locs 0 0 (MQ below (va_Qv K (XK D cA z0) (zA z0)) args s 0 0 (zA z0)) (F0 m 17 ls []) := by
  obtain ⟨hx, hb, hml, hown, hts, hK, hz, hlk, hr⟩ := id C
  intro n
  induction n with
  | zero => intro S a0 j1 j3 j5 j7 H locs ls hM; exact absurd hM id
  | succ n ih =>
    intro S a0 j1 j3 j5 j7 H locs ls hM hV hl
    rw [wq_X11_lowest_17.eq_2] at hM
    refine lv_lload hx hb dX11_lowest_17 (lv_at hl 4 rfl) ?_
    refine lv_lconst (v := 0) hx hb dX11_lowest_19 (by decide) ?_
    refine W.lcmp hx hb dX11_lowest_20 ?_
    refine lv_if_eq (tgt := 42) hx hb dX11_lowest_21 (by decide) (fun c2 => ?_) (fun c2 => ?_)
    · have hM := ite_t c2 hM
      refine lv_aload_n hx hb dX11_lowest_42 rfl (lv_at hl 0 rfl) ?_
      refine lv_lload_n hx hb dX11_lowest_43 rfl (lv_at hl 1 rfl) ?_
      refine lv_lload hx hb dX11_lowest_44 (lv_at hl 3 rfl) ?_
      have hne3 := hM.1
      have hM := hM.2
      refine lv_ldiv hx hb dX11_lowest_46 hne3 ?_
      have hk4 := hM.1
      have hM := hM.2
      obtain ⟨S5, eS5⟩ : ∃ z : PS, z = S.setJ 790 a0 (j1 / j5) := ⟨_, rfl⟩
      have hM := hM S5 eS5
      refine x_putJ C hV wp_X11_241 hk4 eS5 dX11_lowest_47 (fun H locs hV => ?_)
      refine lv_aload_n hx hb dX11_lowest_50 rfl (lv_at hl 0 rfl) ?_
      refine lv_lload_n hx hb dX11_lowest_51 rfl (lv_at hl 2 rfl) ?_
      refine lv_lload hx hb dX11_lowest_52 (lv_at hl 3 rfl) ?_
      have hne6 := hM.1
      have hM := hM.2
      refine lv_ldiv hx hb dX11_lowest_54 hne6 ?_
      have hk7 := kp_J eS5 hk4
      obtain ⟨S8, eS8⟩ : ∃ z : PS, z = S5.setJ 791 a0 (j3 / j5) := ⟨_, rfl⟩
      have hM := hM S8 eS8
      refine x_putJ C hV wp_X11_244 hk7 eS8 dX11_lowest_55 (fun H locs hV => ?_)
      exact x_vret C hV hM dX11_lowest_58
    have hM := ite_f c2 hM
    refine lv_lload hx hb dX11_lowest_24 (lv_at hl 3 rfl) ?_
    refine lv_lload hx hb dX11_lowest_26 (lv_at hl 4 rfl) ?_
    have hne9 := hM.1
    have hM := hM.2
    refine lv_lrem hx hb dX11_lowest_28 hne9 ?_
    refine lv_topl (fun v10 ev10 => ?_)
    have hM := hM v10 ev10
    refine lv_lstore (lv' := [(9, .long v10), (0, .ref a0), (1, .long j1), (3, .long j3), (5, .long j5), (7, .long j7)]) hx hb dX11_lowest_29 hl (by decide) rfl (fun ls hl => ?_)
    refine lv_lload hx hb dX11_lowest_31 (lv_at hl 5 rfl) ?_
    refine lv_lstore (lv' := [(5, .long j7), (9, .long v10), (0, .ref a0), (1, .long j1), (3, .long j3), (7, .long j7)]) hx hb dX11_lowest_33 hl (by decide) rfl (fun ls hl => ?_)
    refine lv_lload hx hb dX11_lowest_35 (lv_at hl 1 rfl) ?_
    refine lv_lstore (lv' := [(7, .long v10), (5, .long j7), (9, .long v10), (0, .ref a0), (1, .long j1), (3, .long j3)]) hx hb dX11_lowest_37 hl (by decide) rfl (fun ls hl => ?_)
    refine lv_goto (tgt := 17) hx hb dX11_lowest_39 (by decide) ?_
    exact ih _ _ _ _ _ _ _ _ _ hM hV (lv_sub hl [3, 4, 5, 1, 0] rfl)
set_option maxHeartbeats 4000000 in
set_option maxRecDepth 100000 in
theorem tq_X11_lowest_12 {p : Program} {l : Launch} {e : Env} {s : State} {m : MethodId} {args : Array Value} {below : List Frame} {meth : Method} {c : Code} {D : DX} {cA : Nat → ClassId} {z0 N : Nat} {K : PS → Prop} (C : CX p s m args meth c cX11_lowest 11 RX11 none D cA z0) : ∀ (S : PS) (a0 : Nat) (j1 : Int64) (j3 : Int64) (u0 : Int64) (H : Heap) (locs : List Loc) (ls : Array Slot), wq_X11_lowest_12 N K S a0 j1 j3 u0 → XV D cA z0 s S H locs → lv_has ls 11 [(0, .ref a0), (1, .long j1), (3, .long j3)] → W p l e (rmd 0 0 0) s m args below meth c H locs 0 0 (MQ below (va_Qv K (XK D cA z0) (zA z0)) args s 0 0 (zA z0)) (F0 m 12 ls [.long u0]) := by
  obtain ⟨hx, hb, hml, hown, hts, hK, hz, hlk, hr⟩ := id C
  intro S a0 j1 j3 u0 H locs ls hM hV hl
  unfold wq_X11_lowest_12 at hM
  refine lv_lstore (lv' := [(5, .long u0), (0, .ref a0), (1, .long j1), (3, .long j3)]) hx hb dX11_lowest_12 hl (by decide) rfl (fun ls hl => ?_)
  refine lv_lload_n hx hb dX11_lowest_14 rfl (lv_at hl 3 rfl) ?_
  refine lv_lstore (lv' := [(7, .long j3), (5, .long u0), (0, .ref a0), (1, .long j1), (3, .long j3)]) hx hb dX11_lowest_15 hl (by decide) rfl (fun ls hl => ?_)
  exact tq_X11_lowest_17 C N _ _ _ _ _ _ _ _ _ hM hV (lv_sub hl [2, 3, 4, 1, 0] rfl)
set_option maxHeartbeats 4000000 in
set_option maxRecDepth 100000 in
theorem c_X11_lowest {l : Launch} {D : DX} {cA : Nat → ClassId} {z0 N : Nat} {S : PS} {a0 : Nat} {j1 : Int64} {j3 : Int64} {K : PS → Prop} (hM : wp_X11_lowest N S a0 j1 j3 K) : MetV l yX11_lowest cX11_lowest 11 none 0 0 0 D cA z0 [.ref a0, .long j1, .long j3] S K := by
  refine x_met RX11 (by decide) rfl ?_
  intro p e s m below meth c C hin hV
  have hl := lv_entry ([.ref a0, .long j1, .long j3]) (n := 11) (Nat.le_of_ble_eq_true rfl)
  rw [lg_entry_eq]
  generalize (lg_sl ([.ref a0, .long j1, .long j3]) ++ List.replicate (11 - (lg_sl ([.ref a0, .long j1, .long j3])).length) Slot.unset).toArray = ls at hl ⊢
  have hl : lv_has ls 11 [(0, .ref a0), (1, .long j1), (3, .long j3)] := hl
  obtain ⟨hx, hb, hml, hown, hts, hK, hz, hlk, hr⟩ := id C
  unfold wp_X11_lowest at hM
  refine lv_lload_n hx hb dX11_lowest_0 rfl (lv_at hl 1 rfl) ?_
  refine lv_lconst (v := 0) hx hb dX11_lowest_1 (by decide) ?_
  refine W.lcmp hx hb dX11_lowest_2 ?_
  refine lv_if_ge (tgt := 11) hx hb dX11_lowest_3 (by decide) (fun c1 => ?_) (fun c1 => ?_)
  · have hM := ite_t c1 hM
    refine lv_lload_n hx hb dX11_lowest_11 rfl (lv_at hl 1 rfl) ?_
    exact tq_X11_lowest_12 C _ _ _ _ _ _ _ _ hM hV (lv_sub hl [0, 1, 2] rfl)
  have hM := ite_f c1 hM
  refine lv_lload_n hx hb dX11_lowest_6 rfl (lv_at hl 1 rfl) ?_
  refine lv_lneg hx hb dX11_lowest_7 ?_
  refine lv_goto (tgt := 12) hx hb dX11_lowest_8 (by decide) ?_
  exact tq_X11_lowest_12 C _ _ _ _ _ _ _ _ hM hV (lv_sub hl [0, 1, 2] rfl)

def wq_X11_sortRuns_15 (N : Nat) (K : Int32 → PS → Prop) (k_4 : PS → Nat → Int32 → Int32 → Int32 → Prop) : Nat → PS → Nat → Int32 → Int32 → Int32 → Int32 → Prop
  | 0, _, _, _, _, _, _ => False
  | n + 1, S, a0, x1, x2, x3, x4 => S.K a0 = 12 ∧ if (S.I 774 a0) ≤ x4 then (k_4 S a0 x1 x2 (x3 + 1)) else (∃ p5 : Nat, S.R 775 a0 = some p5 ∧ S.K p5 = 20 ∧ vp_in ((3 * x4) + 1) (S.ln p5) ∧ if (S.A p5 ((3 * x4) + 1).toNatClampNeg) = x1 then (∃ p9 : Nat, S.R 775 a0 = some p9 ∧ S.K p9 = 20 ∧ vp_in (3 * x4) (S.ln p9) ∧ if (S.A p9 (3 * x4).toNatClampNeg) = x3 then (∃ p13 : Nat, S.R 794 a0 = some p13 ∧ S.K p13 = 20 ∧ vp_in x2 (S.ln p13) ∧ ∀ S16 : PS, S16 = S.setA p13 x2.toNatClampNeg x4 → wq_X11_sortRuns_15 N K k_4 n S16 a0 x1 (x2 + 1) x3 (x4 + 1)) else (wq_X11_sortRuns_15 N K k_4 n S a0 x1 x2 x3 (x4 + 1))) else (wq_X11_sortRuns_15 N K k_4 n S a0 x1 x2 x3 (x4 + 1)))
def wq_X11_sortRuns_4 (N : Nat) (K : Int32 → PS → Prop) : Nat → PS → Nat → Int32 → Int32 → Int32 → Prop
  | 0, _, _, _, _, _ => False
  | n + 1, S, a0, x1, x2, x3 => S.K a0 = 12 ∧ if (S.I 768 a0) < x3 then (K x2 S) else (wq_X11_sortRuns_15 N K (fun S a0 x1 x2 x3 => wq_X11_sortRuns_4 N K n S a0 x1 x2 x3) N S a0 x1 x2 x3 0)
def wp_X11_sortRuns (N : Nat) (S : PS) (a0 : Nat) (x1 : Int32) (K : Int32 → PS → Prop) : Prop := wq_X11_sortRuns_4 N K N S a0 x1 0 0
set_option maxHeartbeats 4000000 in
set_option maxRecDepth 100000 in
theorem tq_X11_sortRuns_15 {p : Program} {l : Launch} {e : Env} {s : State} {m : MethodId} {args : Array Value} {below : List Frame} {meth : Method} {c : Code} {D : DX} {cA : Nat → ClassId} {z0 N : Nat} {K : Int32 → PS → Prop} {k_4 : PS → Nat → Int32 → Int32 → Int32 → Prop} (C : CX p s m args meth c cX11_sortRuns 5 RX11 (some .int) D cA z0) (H_4 : ∀ (S : PS) (a0 : Nat) (x1 : Int32) (x2 : Int32) (x3 : Int32) (H : Heap) (locs : List Loc) (ls : Array Slot), k_4 S a0 x1 x2 x3 → XV D cA z0 s S H locs → lv_has ls 5 [(0, .ref a0), (1, .int x1), (2, .int x2), (3, .int x3)] → W p l e (rmd 0 0 0) s m args below meth c H locs 0 0 (MQ below (va_Qi K (XK D cA z0) (zA z0)) args s 0 0 (zA z0)) (F0 m 4 ls [])) : ∀ (n : Nat) (S : PS) (a0 : Nat) (x1 : Int32) (x2 : Int32) (x3 : Int32) (x4 : Int32) (H : Heap) (locs : List Loc) (ls : Array Slot), wq_X11_sortRuns_15 N K k_4 n S a0 x1 x2 x3 x4 → XV D cA z0 s S H locs → lv_has ls 5 [(0, .ref a0), (1, .int x1), (2, .int x2), (3, .int x3), (4, .int x4)] → W p l e (rmd 0 0 0) s m args below meth c H locs 0 0 (MQ below (va_Qi K (XK D cA z0) (zA z0)) args s 0 0 (zA z0)) (F0 m 15 ls []) := by
  obtain ⟨hx, hb, hml, hown, hts, hK, hz, hlk, hr⟩ := id C
  intro n
  induction n with
  | zero => intro S a0 x1 x2 x3 x4 H locs ls hM; exact absurd hM id
  | succ n ih =>
    intro S a0 x1 x2 x3 x4 H locs ls hM hV hl
    rw [wq_X11_sortRuns_15.eq_2] at hM
    refine lv_iload hx hb dX11_sortRuns_15 (lv_at hl 4 rfl) ?_
    refine lv_aload_n hx hb dX11_sortRuns_17 rfl (lv_at hl 0 rfl) ?_
    have hk3 := hM.1
    have hM := hM.2
    refine x_getI C hV wf_X11_116 hk3 dX11_sortRuns_18 ?_
    refine lv_icmp_ge (tgt := 69) hx hb dX11_sortRuns_21 (by decide) (fun c4 => ?_) (fun c4 => ?_)
    · have hM := ite_t c4 hM
      refine lv_iinc (v := (x3 + 1)) (lv' := [(3, .int (x3 + 1)), (0, .ref a0), (1, .int x1), (2, .int x2), (4, .int x4)]) hx hb dX11_sortRuns_69 hl (k := 3) rfl rfl (by decide) rfl (fun ls hl => ?_)
      refine lv_goto (tgt := 4) hx hb dX11_sortRuns_72 (by decide) ?_
      exact H_4 _ _ _ _ _ _ _ _ hM hV (lv_sub hl [1, 2, 3, 0] rfl)
    have hM := ite_f c4 hM
    refine lv_aload_n hx hb dX11_sortRuns_24 rfl (lv_at hl 0 rfl) ?_
    obtain ⟨p5, hp5, hM⟩ := hM
    refine x_getR C hV wf_X11_17 hk3 hp5 dX11_sortRuns_25 ?_
    refine lv_iconst (v := 3) hx hb dX11_sortRuns_28 (by decide) ?_
    refine lv_iload hx hb dX11_sortRuns_29 (lv_at hl 4 rfl) ?_
    refine lv_imul hx hb dX11_sortRuns_31 ?_
    refine lv_iconst (v := 1) hx hb dX11_sortRuns_32 (by decide) ?_
    refine lv_iadd hx hb dX11_sortRuns_33 ?_
    have hk6 := hM.1
    have hM := hM.2
    have hi7 := hM.1
    have hM := hM.2
    refine x_iald C hV hk6 hi7 dX11_sortRuns_34 ?_
    refine lv_iload_n hx hb dX11_sortRuns_35 rfl (lv_at hl 1 rfl) ?_
    refine lv_icmp_ne (tgt := 63) hx hb dX11_sortRuns_36 (by decide) (fun c8 => ?_) (fun c8 => ?_)
    · have hM := ite_f c8 hM
      refine lv_iinc (v := (x4 + 1)) (lv' := [(4, .int (x4 + 1)), (0, .ref a0), (1, .int x1), (2, .int x2), (3, .int x3)]) hx hb dX11_sortRuns_63 hl (k := 4) rfl rfl (by decide) rfl (fun ls hl => ?_)
      refine lv_goto (tgt := 15) hx hb dX11_sortRuns_66 (by decide) ?_
      exact ih _ _ _ _ _ _ _ _ _ hM hV (lv_sub hl [1, 2, 3, 4, 0] rfl)
    have hM := ite_t c8 hM
    refine lv_aload_n hx hb dX11_sortRuns_39 rfl (lv_at hl 0 rfl) ?_
    obtain ⟨p9, hp9, hM⟩ := hM
    refine x_getR C hV wf_X11_17 hk3 hp9 dX11_sortRuns_40 ?_
    refine lv_iconst (v := 3) hx hb dX11_sortRuns_43 (by decide) ?_
    refine lv_iload hx hb dX11_sortRuns_44 (lv_at hl 4 rfl) ?_
    refine lv_imul hx hb dX11_sortRuns_46 ?_
    have hk10 := hM.1
    have hM := hM.2
    have hi11 := hM.1
    have hM := hM.2
    refine x_iald C hV hk10 hi11 dX11_sortRuns_47 ?_
    refine lv_iload_n hx hb dX11_sortRuns_48 rfl (lv_at hl 3 rfl) ?_
    refine lv_icmp_ne (tgt := 63) hx hb dX11_sortRuns_49 (by decide) (fun c12 => ?_) (fun c12 => ?_)
    · have hM := ite_f c12 hM
      refine lv_iinc (v := (x4 + 1)) (lv' := [(4, .int (x4 + 1)), (0, .ref a0), (1, .int x1), (2, .int x2), (3, .int x3)]) hx hb dX11_sortRuns_63 hl (k := 4) rfl rfl (by decide) rfl (fun ls hl => ?_)
      refine lv_goto (tgt := 15) hx hb dX11_sortRuns_66 (by decide) ?_
      exact ih _ _ _ _ _ _ _ _ _ hM hV (lv_sub hl [1, 2, 3, 4, 0] rfl)
    have hM := ite_t c12 hM
    refine lv_aload_n hx hb dX11_sortRuns_52 rfl (lv_at hl 0 rfl) ?_
    obtain ⟨p13, hp13, hM⟩ := hM
    refine x_getR C hV wf_X11_38 hk3 hp13 dX11_sortRuns_53 ?_
    refine lv_iload_n hx hb dX11_sortRuns_56 rfl (lv_at hl 2 rfl) ?_
    refine lv_iload hx hb dX11_sortRuns_57 (lv_at hl 4 rfl) ?_
    have hk14 := hM.1
    have hM := hM.2
    have hi15 := hM.1
    have hM := hM.2
    obtain ⟨S16, eS16⟩ : ∃ z : PS, z = S.setA p13 x2.toNatClampNeg x4 := ⟨_, rfl⟩
    have hM := hM S16 eS16
    refine x_iast C hV hk14 hi15 eS16 dX11_sortRuns_59 (fun H locs hV => ?_)
    refine lv_iinc (v := (x2 + 1)) (lv' := [(2, .int (x2 + 1)), (0, .ref a0), (1, .int x1), (3, .int x3), (4, .int x4)]) hx hb dX11_sortRuns_60 hl (k := 2) rfl rfl (by decide) rfl (fun ls hl => ?_)
    refine lv_iinc (v := (x4 + 1)) (lv' := [(4, .int (x4 + 1)), (2, .int (x2 + 1)), (0, .ref a0), (1, .int x1), (3, .int x3)]) hx hb dX11_sortRuns_63 hl (k := 4) rfl rfl (by decide) rfl (fun ls hl => ?_)
    refine lv_goto (tgt := 15) hx hb dX11_sortRuns_66 (by decide) ?_
    exact ih _ _ _ _ _ _ _ _ _ hM hV (lv_sub hl [2, 3, 1, 4, 0] rfl)
set_option maxHeartbeats 4000000 in
set_option maxRecDepth 100000 in
theorem tq_X11_sortRuns_4 {p : Program} {l : Launch} {e : Env} {s : State} {m : MethodId} {args : Array Value} {below : List Frame} {meth : Method} {c : Code} {D : DX} {cA : Nat → ClassId} {z0 N : Nat} {K : Int32 → PS → Prop} (C : CX p s m args meth c cX11_sortRuns 5 RX11 (some .int) D cA z0) : ∀ (n : Nat) (S : PS) (a0 : Nat) (x1 : Int32) (x2 : Int32) (x3 : Int32) (H : Heap) (locs : List Loc) (ls : Array Slot), wq_X11_sortRuns_4 N K n S a0 x1 x2 x3 → XV D cA z0 s S H locs → lv_has ls 5 [(0, .ref a0), (1, .int x1), (2, .int x2), (3, .int x3)] → W p l e (rmd 0 0 0) s m args below meth c H locs 0 0 (MQ below (va_Qi K (XK D cA z0) (zA z0)) args s 0 0 (zA z0)) (F0 m 4 ls []) := by
  obtain ⟨hx, hb, hml, hown, hts, hK, hz, hlk, hr⟩ := id C
  intro n
  induction n with
  | zero => intro S a0 x1 x2 x3 H locs ls hM; exact absurd hM id
  | succ n ih =>
    intro S a0 x1 x2 x3 H locs ls hM hV hl
    rw [wq_X11_sortRuns_4.eq_2] at hM
    refine lv_iload_n hx hb dX11_sortRuns_4 rfl (lv_at hl 3 rfl) ?_
    refine lv_aload_n hx hb dX11_sortRuns_5 rfl (lv_at hl 0 rfl) ?_
    have hk1 := hM.1
    have hM := hM.2
    refine x_getI C hV wf_X11_103 hk1 dX11_sortRuns_6 ?_
    refine lv_icmp_gt (tgt := 75) hx hb dX11_sortRuns_9 (by decide) (fun c2 => ?_) (fun c2 => ?_)
    · have hM := ite_t c2 hM
      refine lv_iload_n hx hb dX11_sortRuns_75 rfl (lv_at hl 2 rfl) ?_
      exact x_iret C hV hM dX11_sortRuns_76
    have hM := ite_f c2 hM
    refine lv_iconst (v := 0) hx hb dX11_sortRuns_12 (by decide) ?_
    refine lv_istore (lv' := [(4, .int 0), (0, .ref a0), (1, .int x1), (2, .int x2), (3, .int x3)]) hx hb dX11_sortRuns_13 hl (by decide) rfl (fun ls hl => ?_)
    exact tq_X11_sortRuns_15 C ih N _ _ _ _ _ _ _ _ _ hM hV (lv_sub hl [1, 2, 3, 4, 0] rfl)
set_option maxHeartbeats 4000000 in
set_option maxRecDepth 100000 in
theorem c_X11_sortRuns {l : Launch} {D : DX} {cA : Nat → ClassId} {z0 N : Nat} {S : PS} {a0 : Nat} {x1 : Int32} {K : Int32 → PS → Prop} (hM : wp_X11_sortRuns N S a0 x1 K) : MetI l yX11_sortRuns cX11_sortRuns 5 (some .int) 0 0 0 D cA z0 [.ref a0, .int x1] S K := by
  refine x_met RX11 (by decide) rfl ?_
  intro p e s m below meth c C hin hV
  have hl := lv_entry ([.ref a0, .int x1]) (n := 5) (Nat.le_of_ble_eq_true rfl)
  rw [lg_entry_eq]
  generalize (lg_sl ([.ref a0, .int x1]) ++ List.replicate (5 - (lg_sl ([.ref a0, .int x1])).length) Slot.unset).toArray = ls at hl ⊢
  have hl : lv_has ls 5 [(0, .ref a0), (1, .int x1)] := hl
  obtain ⟨hx, hb, hml, hown, hts, hK, hz, hlk, hr⟩ := id C
  unfold wp_X11_sortRuns at hM
  refine lv_iconst (v := 0) hx hb dX11_sortRuns_0 (by decide) ?_
  refine lv_istore_n (lv' := [(2, .int 0), (0, .ref a0), (1, .int x1)]) hx hb dX11_sortRuns_1 rfl hl (by decide) rfl (fun ls hl => ?_)
  refine lv_iconst (v := 0) hx hb dX11_sortRuns_2 (by decide) ?_
  refine lv_istore_n (lv' := [(3, .int 0), (2, .int 0), (0, .ref a0), (1, .int x1)]) hx hb dX11_sortRuns_3 rfl hl (by decide) rfl (fun ls hl => ?_)
  exact tq_X11_sortRuns_4 C N _ _ _ _ _ _ _ _ hM hV (lv_sub hl [2, 3, 1, 0] rfl)
