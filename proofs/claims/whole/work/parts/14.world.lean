def wp_X9_addRun (N : Nat) (S : PS) (a0 : Nat) (x1 : Int32) (x2 : Int32) (x3 : Int32) (K : Int32 → PS → Prop) : Prop := S.K a0 = 10 ∧ ∃ p2 : Nat, S.R 649 a0 = some p2 ∧ S.K p2 = 20 ∧ vp_in (S.I 645 a0) (S.ln p2) ∧ ∀ S5 : PS, S5 = S.setA p2 (S.I 645 a0).toNatClampNeg x1 → ∃ p7 : Nat, S5.R 650 a0 = some p7 ∧ S5.K p7 = 20 ∧ vp_in (S5.I 645 a0) (S5.ln p7) ∧ ∀ S10 : PS, S10 = S5.setA p7 (S5.I 645 a0).toNatClampNeg x2 → ∃ p12 : Nat, S10.R 651 a0 = some p12 ∧ S10.K p12 = 20 ∧ vp_in (S10.I 645 a0) (S10.ln p12) ∧ ∀ S15 : PS, S15 = S10.setA p12 (S10.I 645 a0).toNatClampNeg x3 → ∀ S17 : PS, S17 = S15.setI 645 a0 ((S15.I 645 a0) + 1) → K ((S17.I 645 a0) - 1) S17
set_option maxHeartbeats 4000000 in
set_option maxRecDepth 100000 in
theorem c_X9_addRun {l : Launch} {D : DX} {cA : Nat → ClassId} {z0 N : Nat} {S : PS} {a0 : Nat} {x1 : Int32} {x2 : Int32} {x3 : Int32} {K : Int32 → PS → Prop} (hM : wp_X9_addRun N S a0 x1 x2 x3 K) : MetI l yX9_addRun cX9_addRun 4 (some .int) 0 0 0 D cA z0 [.ref a0, .int x1, .int x2, .int x3] S K := by
  refine x_met RX9 (by decide) rfl ?_
  intro p e s m below meth c C hin hV
  have hl := lv_entry ([.ref a0, .int x1, .int x2, .int x3]) (n := 4) (Nat.le_of_ble_eq_true rfl)
  rw [lg_entry_eq]
  generalize (lg_sl ([.ref a0, .int x1, .int x2, .int x3]) ++ List.replicate (4 - (lg_sl ([.ref a0, .int x1, .int x2, .int x3])).length) Slot.unset).toArray = ls at hl ⊢
  have hl : lv_has ls 4 [(0, .ref a0), (1, .int x1), (2, .int x2), (3, .int x3)] := hl
  obtain ⟨hx, hb, hml, hown, hts, hK, hz, hlk, hr⟩ := id C
  unfold wp_X9_addRun at hM
  refine lv_aload_n hx hb dX9_addRun_0 rfl (lv_at hl 0 rfl) ?_
  have hk1 := hM.1
  have hM := hM.2
  obtain ⟨p2, hp2, hM⟩ := hM
  refine x_getR C hV wf_X9_42 hk1 hp2 dX9_addRun_1 ?_
  refine lv_aload_n hx hb dX9_addRun_4 rfl (lv_at hl 0 rfl) ?_
  refine x_getI C hV wf_X9_27 hk1 dX9_addRun_5 ?_
  refine lv_iload_n hx hb dX9_addRun_8 rfl (lv_at hl 1 rfl) ?_
  have hk3 := hM.1
  have hM := hM.2
  have hi4 := hM.1
  have hM := hM.2
  obtain ⟨S5, eS5⟩ : ∃ z : PS, z = S.setA p2 (S.I 645 a0).toNatClampNeg x1 := ⟨_, rfl⟩
  have hM := hM S5 eS5
  refine x_iast C hV hk3 hi4 eS5 dX9_addRun_9 (fun H locs hV => ?_)
  refine lv_aload_n hx hb dX9_addRun_10 rfl (lv_at hl 0 rfl) ?_
  have hk6 := kp_A eS5 hk1
  obtain ⟨p7, hp7, hM⟩ := hM
  refine x_getR C hV wf_X9_46 hk6 hp7 dX9_addRun_11 ?_
  refine lv_aload_n hx hb dX9_addRun_14 rfl (lv_at hl 0 rfl) ?_
  refine x_getI C hV wf_X9_27 hk6 dX9_addRun_15 ?_
  refine lv_iload_n hx hb dX9_addRun_18 rfl (lv_at hl 2 rfl) ?_
  have hk8 := hM.1
  have hM := hM.2
  have hi9 := hM.1
  have hM := hM.2
  obtain ⟨S10, eS10⟩ : ∃ z : PS, z = S5.setA p7 (S5.I 645 a0).toNatClampNeg x2 := ⟨_, rfl⟩
  have hM := hM S10 eS10
  refine x_iast C hV hk8 hi9 eS10 dX9_addRun_19 (fun H locs hV => ?_)
  refine lv_aload_n hx hb dX9_addRun_20 rfl (lv_at hl 0 rfl) ?_
  have hk11 := kp_A eS10 hk6
  obtain ⟨p12, hp12, hM⟩ := hM
  refine x_getR C hV wf_X9_49 hk11 hp12 dX9_addRun_21 ?_
  refine lv_aload_n hx hb dX9_addRun_24 rfl (lv_at hl 0 rfl) ?_
  refine x_getI C hV wf_X9_27 hk11 dX9_addRun_25 ?_
  refine lv_iload_n hx hb dX9_addRun_28 rfl (lv_at hl 3 rfl) ?_
  have hk13 := hM.1
  have hM := hM.2
  have hi14 := hM.1
  have hM := hM.2
  obtain ⟨S15, eS15⟩ : ∃ z : PS, z = S10.setA p12 (S10.I 645 a0).toNatClampNeg x3 := ⟨_, rfl⟩
  have hM := hM S15 eS15
  refine x_iast C hV hk13 hi14 eS15 dX9_addRun_29 (fun H locs hV => ?_)
  refine lv_aload_n hx hb dX9_addRun_30 rfl (lv_at hl 0 rfl) ?_
  refine lv_dup hx hb dX9_addRun_31 rfl ?_
  have hk16 := kp_A eS15 hk11
  refine x_getI C hV wf_X9_27 hk16 dX9_addRun_32 ?_
  refine lv_iconst (v := 1) hx hb dX9_addRun_35 (by decide) ?_
  refine lv_iadd hx hb dX9_addRun_36 ?_
  obtain ⟨S17, eS17⟩ : ∃ z : PS, z = S15.setI 645 a0 ((S15.I 645 a0) + 1) := ⟨_, rfl⟩
  have hM := hM S17 eS17
  refine x_putI C hV wp_X9_27 hk16 ⟨rfl, rfl⟩ eS17 dX9_addRun_37 (fun H locs hV => ?_)
  refine lv_aload_n hx hb dX9_addRun_40 rfl (lv_at hl 0 rfl) ?_
  have hk18 := kp_I eS17 hk16
  refine x_getI C hV wf_X9_27 hk18 dX9_addRun_41 ?_
  refine lv_iconst (v := 1) hx hb dX9_addRun_44 (by decide) ?_
  refine lv_isub hx hb dX9_addRun_45 ?_
  exact x_iret C hV hM dX9_addRun_46

def wp_X9_areStories (N : Nat) (S : PS) (a0 : Nat) (x1 : Int32) (K : Int32 → PS → Prop) : Prop := S.K a0 = 10 ∧ if (((x1).toUInt32 >>> (((S.I 646 a0)).toUInt32 &&& Int32.toUInt32 31)).toInt32) = 0 then (K 1 S) else (K 0 S)
set_option maxHeartbeats 4000000 in
set_option maxRecDepth 100000 in
theorem c_X9_areStories {l : Launch} {D : DX} {cA : Nat → ClassId} {z0 N : Nat} {S : PS} {a0 : Nat} {x1 : Int32} {K : Int32 → PS → Prop} (hM : wp_X9_areStories N S a0 x1 K) : MetI l yX9_areStories cX9_areStories 2 (some .boolean) 0 0 0 D cA z0 [.ref a0, .int x1] S (fun r S => (r = 0 ∨ r = 1) ∧ K r S) := by
  refine x_met RX9 (by decide) rfl ?_
  intro p e s m below meth c C hin hV
  have hl := lv_entry ([.ref a0, .int x1]) (n := 2) (Nat.le_of_ble_eq_true rfl)
  rw [lg_entry_eq]
  generalize (lg_sl ([.ref a0, .int x1]) ++ List.replicate (2 - (lg_sl ([.ref a0, .int x1])).length) Slot.unset).toArray = ls at hl ⊢
  have hl : lv_has ls 2 [(0, .ref a0), (1, .int x1)] := hl
  obtain ⟨hx, hb, hml, hown, hts, hK, hz, hlk, hr⟩ := id C
  unfold wp_X9_areStories at hM
  refine lv_iload_n hx hb dX9_areStories_0 rfl (lv_at hl 1 rfl) ?_
  refine lv_aload_n hx hb dX9_areStories_1 rfl (lv_at hl 0 rfl) ?_
  have hk1 := hM.1
  have hM := hM.2
  refine x_getI C hV wf_X9_30 hk1 dX9_areStories_2 ?_
  refine lv_iushr hx hb dX9_areStories_5 rfl ?_
  refine lv_if_ne (tgt := 13) hx hb dX9_areStories_6 (by decide) (fun c2 => ?_) (fun c2 => ?_)
  · have hM := ite_f c2 hM
    refine lv_iconst (v := 0) hx hb dX9_areStories_13 (by decide) ?_
    exact x_zret C hV (by decide) hM dX9_areStories_14
  have hM := ite_t c2 hM
  refine lv_iconst (v := 1) hx hb dX9_areStories_9 (by decide) ?_
  refine lv_goto (tgt := 14) hx hb dX9_areStories_10 (by decide) ?_
  exact x_zret C hV (by decide) hM dX9_areStories_14

def wq_X9_become_177 (N : Nat) (K : PS → Prop) : Nat → PS → Nat → Nat → Int32 → Prop
  | 0, _, _, _, _ => False
  | n + 1, S, a0, a1, x2 => S.K a0 = 10 ∧ if (S.I 647 a0) ≤ x2 then (K S) else (∃ p33 : Nat, S.R 653 a0 = some p33 ∧ S.K a1 = 10 ∧ ∃ p35 : Nat, S.R 653 a1 = some p35 ∧ S.K p35 = 24 ∧ vp_in x2 (S.ln p35) ∧ ∃ p38 : Nat, S.Q p35 x2.toNatClampNeg = some p38 ∧ S.K p33 = 24 ∧ S.K p38 = 3 ∧ vp_in x2 (S.ln p33) ∧ ∀ S42 : PS, S42 = S.setQ p33 x2.toNatClampNeg (some p38) → wq_X9_become_177 N K n S42 a0 a1 (x2 + 1))
def wq_X9_become_149 (N : Nat) (K : PS → Prop) : Nat → PS → Nat → Nat → Int32 → Prop
  | 0, _, _, _, _ => False
  | n + 1, S, a0, a1, x2 => S.K a0 = 10 ∧ if (S.I 646 a0) ≤ x2 then (wq_X9_become_177 N K N S a0 a1 0) else (∃ p43 : Nat, S.R 652 a0 = some p43 ∧ S.K a1 = 10 ∧ ∃ p45 : Nat, S.R 652 a1 = some p45 ∧ S.K p45 = 27 ∧ vp_in x2 (S.ln p45) ∧ ∃ p48 : Nat, S.Q p45 x2.toNatClampNeg = some p48 ∧ S.K p43 = 27 ∧ S.K p48 = 7 ∧ vp_in x2 (S.ln p43) ∧ ∀ S52 : PS, S52 = S.setQ p43 x2.toNatClampNeg (some p48) → wq_X9_become_149 N K n S52 a0 a1 (x2 + 1))
def wq_X9_become_97 (N : Nat) (K : PS → Prop) : Nat → PS → Nat → Nat → Int32 → Prop
  | 0, _, _, _, _ => False
  | n + 1, S, a0, a1, x2 => S.K a0 = 10 ∧ if (S.I 645 a0) ≤ x2 then (wq_X9_become_149 N K N S a0 a1 0) else (∃ p53 : Nat, S.R 649 a0 = some p53 ∧ S.K a1 = 10 ∧ ∃ p55 : Nat, S.R 649 a1 = some p55 ∧ S.K p55 = 20 ∧ vp_in x2 (S.ln p55) ∧ S.K p53 = 20 ∧ vp_in x2 (S.ln p53) ∧ ∀ S60 : PS, S60 = S.setA p53 x2.toNatClampNeg (S.A p55 x2.toNatClampNeg) → ∃ p62 : Nat, S60.R 650 a0 = some p62 ∧ ∃ p64 : Nat, S60.R 650 a1 = some p64 ∧ S60.K p64 = 20 ∧ vp_in x2 (S60.ln p64) ∧ S60.K p62 = 20 ∧ vp_in x2 (S60.ln p62) ∧ ∀ S69 : PS, S69 = S60.setA p62 x2.toNatClampNeg (S60.A p64 x2.toNatClampNeg) → ∃ p71 : Nat, S69.R 651 a0 = some p71 ∧ ∃ p73 : Nat, S69.R 651 a1 = some p73 ∧ S69.K p73 = 20 ∧ vp_in x2 (S69.ln p73) ∧ S69.K p71 = 20 ∧ vp_in x2 (S69.ln p71) ∧ ∀ S78 : PS, S78 = S69.setA p71 x2.toNatClampNeg (S69.A p73 x2.toNatClampNeg) → wq_X9_become_97 N K n S78 a0 a1 (x2 + 1))
def wq_X9_become_66 (N : Nat) (K : PS → Prop) : Nat → PS → Nat → Nat → Int32 → Prop
  | 0, _, _, _, _ => False
  | n + 1, S, a0, a1, x2 => S.K a0 = 10 ∧ if (S.I 644 a0) ≤ x2 then (wq_X9_become_97 N K N S a0 a1 0) else (∃ p79 : Nat, S.R 648 a0 = some p79 ∧ S.K p79 = 23 ∧ vp_in x2 (S.ln p79) ∧ ∃ p82 : Nat, S.Q p79 x2.toNatClampNeg = some p82 ∧ S.K a1 = 10 ∧ ∃ p84 : Nat, S.R 648 a1 = some p84 ∧ S.K p84 = 23 ∧ vp_in x2 (S.ln p84) ∧ ∃ p87 : Nat, S.Q p84 x2.toNatClampNeg = some p87 ∧ S.K p82 = 2 ∧ wp_X1_become N S p82 p87 (fun S89 => wq_X9_become_66 N K n S89 a0 a1 (x2 + 1)))
def wp_X9_become (N : Nat) (S : PS) (a0 : Nat) (a1 : Nat) (K : PS → Prop) : Prop := S.K a1 = 10 ∧ S.K a0 = 10 ∧ ∀ S3 : PS, S3 = S.setI 640 a0 (S.I 640 a1) → ∀ S6 : PS, S6 = S3.setI 641 a0 (S3.I 641 a1) → ∀ S9 : PS, S9 = S6.setI 642 a0 (S6.I 642 a1) → ∀ S12 : PS, S12 = S9.setI 643 a0 (S9.I 643 a1) → ∀ S15 : PS, S15 = S12.setI 644 a0 (S12.I 644 a1) → ∀ S18 : PS, S18 = S15.setI 645 a0 (S15.I 645 a1) → ∀ S21 : PS, S21 = S18.setI 646 a0 (S18.I 646 a1) → ∀ S24 : PS, S24 = S21.setI 647 a0 (S21.I 647 a1) → wq_X9_become_66 N K N S24 a0 a1 0
set_option maxHeartbeats 4000000 in
set_option maxRecDepth 100000 in
theorem tq_X9_become_177 {p : Program} {l : Launch} {e : Env} {s : State} {m : MethodId} {args : Array Value} {below : List Frame} {meth : Method} {c : Code} {D : DX} {cA : Nat → ClassId} {z0 N : Nat} {K : PS → Prop} (C : CX p s m args meth c cX9_become 3 RX9 none D cA z0) : ∀ (n : Nat) (S : PS) (a0 : Nat) (a1 : Nat) (x2 : Int32) (H : Heap) (locs : List Loc) (ls : Array Slot), wq_X9_become_177 N K n S a0 a1 x2 → XV D cA z0 s S H locs → lv_has ls 3 [(0, .ref a0), (1, .ref a1), (2, .int x2)] → W p l e (rmd 1 0 0) s m args below meth c H locs 0 0 (MQ below (va_Qv K (XK D cA z0) (zA z0)) args s 0 0 (zA z0)) (F0 m 177 ls []) := by
  obtain ⟨hx, hb, hml, hown, hts, hK, hz, hlk, hr⟩ := id C
  intro n
  induction n with
  | zero => intro S a0 a1 x2 H locs ls hM; exact absurd hM id
  | succ n ih =>
    intro S a0 a1 x2 H locs ls hM hV hl
    rw [wq_X9_become_177.eq_2] at hM
    refine lv_iload_n hx hb dX9_become_177 rfl (lv_at hl 2 rfl) ?_
    refine lv_aload_n hx hb dX9_become_178 rfl (lv_at hl 0 rfl) ?_
    have hk31 := hM.1
    have hM := hM.2
    refine x_getI C hV wf_X9_33 hk31 dX9_become_179 ?_
    refine lv_icmp_ge (tgt := 203) hx hb dX9_become_182 (by decide) (fun c32 => ?_) (fun c32 => ?_)
    · have hM := ite_t c32 hM
      exact x_vret C hV hM dX9_become_203
    have hM := ite_f c32 hM
    refine lv_aload_n hx hb dX9_become_185 rfl (lv_at hl 0 rfl) ?_
    obtain ⟨p33, hp33, hM⟩ := hM
    refine x_getR C hV wf_X9_60 hk31 hp33 dX9_become_186 ?_
    refine lv_iload_n hx hb dX9_become_189 rfl (lv_at hl 2 rfl) ?_
    refine lv_aload_n hx hb dX9_become_190 rfl (lv_at hl 1 rfl) ?_
    have hk34 := hM.1
    have hM := hM.2
    obtain ⟨p35, hp35, hM⟩ := hM
    refine x_getR C hV wf_X9_60 hk34 hp35 dX9_become_191 ?_
    refine lv_iload_n hx hb dX9_become_194 rfl (lv_at hl 2 rfl) ?_
    have hk36 := hM.1
    have hM := hM.2
    have hi37 := hM.1
    have hM := hM.2
    obtain ⟨p38, hp38, hM⟩ := hM
    refine x_aald C hV hk36 (by decide) rfl hi37 hp38 dX9_become_195 ?_
    have hk39 := hM.1
    have hM := hM.2
    have hk40 := hM.1
    have hM := hM.2
    have hi41 := hM.1
    have hM := hM.2
    obtain ⟨S42, eS42⟩ : ∃ z : PS, z = S.setQ p33 x2.toNatClampNeg (some p38) := ⟨_, rfl⟩
    have hM := hM S42 eS42
    refine x_aast C hV hk39 (by decide) rfl rfl (by decide) hk40 hi41 eS42 dX9_become_196 (fun H locs hV => ?_)
    refine lv_iinc (v := (x2 + 1)) (lv' := [(2, .int (x2 + 1)), (0, .ref a0), (1, .ref a1)]) hx hb dX9_become_197 hl (k := 2) rfl rfl (by decide) rfl (fun ls hl => ?_)
    refine lv_goto (tgt := 177) hx hb dX9_become_200 (by decide) ?_
    exact ih _ _ _ _ _ _ _ hM hV (lv_sub hl [1, 2, 0] rfl)
set_option maxHeartbeats 4000000 in
set_option maxRecDepth 100000 in
theorem tq_X9_become_149 {p : Program} {l : Launch} {e : Env} {s : State} {m : MethodId} {args : Array Value} {below : List Frame} {meth : Method} {c : Code} {D : DX} {cA : Nat → ClassId} {z0 N : Nat} {K : PS → Prop} (C : CX p s m args meth c cX9_become 3 RX9 none D cA z0) : ∀ (n : Nat) (S : PS) (a0 : Nat) (a1 : Nat) (x2 : Int32) (H : Heap) (locs : List Loc) (ls : Array Slot), wq_X9_become_149 N K n S a0 a1 x2 → XV D cA z0 s S H locs → lv_has ls 3 [(0, .ref a0), (1, .ref a1), (2, .int x2)] → W p l e (rmd 1 0 0) s m args below meth c H locs 0 0 (MQ below (va_Qv K (XK D cA z0) (zA z0)) args s 0 0 (zA z0)) (F0 m 149 ls []) := by
  obtain ⟨hx, hb, hml, hown, hts, hK, hz, hlk, hr⟩ := id C
  intro n
  induction n with
  | zero => intro S a0 a1 x2 H locs ls hM; exact absurd hM id
  | succ n ih =>
    intro S a0 a1 x2 H locs ls hM hV hl
    rw [wq_X9_become_149.eq_2] at hM
    refine lv_iload_n hx hb dX9_become_149 rfl (lv_at hl 2 rfl) ?_
    refine lv_aload_n hx hb dX9_become_150 rfl (lv_at hl 0 rfl) ?_
    have hk29 := hM.1
    have hM := hM.2
    refine x_getI C hV wf_X9_30 hk29 dX9_become_151 ?_
    refine lv_icmp_ge (tgt := 175) hx hb dX9_become_154 (by decide) (fun c30 => ?_) (fun c30 => ?_)
    · have hM := ite_t c30 hM
      refine lv_iconst (v := 0) hx hb dX9_become_175 (by decide) ?_
      refine lv_istore_n (lv' := [(2, .int 0), (0, .ref a0), (1, .ref a1)]) hx hb dX9_become_176 rfl hl (by decide) rfl (fun ls hl => ?_)
      exact tq_X9_become_177 C N _ _ _ _ _ _ _ hM hV (lv_sub hl [1, 2, 0] rfl)
    have hM := ite_f c30 hM
    refine lv_aload_n hx hb dX9_become_157 rfl (lv_at hl 0 rfl) ?_
    obtain ⟨p43, hp43, hM⟩ := hM
    refine x_getR C hV wf_X9_54 hk29 hp43 dX9_become_158 ?_
    refine lv_iload_n hx hb dX9_become_161 rfl (lv_at hl 2 rfl) ?_
    refine lv_aload_n hx hb dX9_become_162 rfl (lv_at hl 1 rfl) ?_
    have hk44 := hM.1
    have hM := hM.2
    obtain ⟨p45, hp45, hM⟩ := hM
    refine x_getR C hV wf_X9_54 hk44 hp45 dX9_become_163 ?_
    refine lv_iload_n hx hb dX9_become_166 rfl (lv_at hl 2 rfl) ?_
    have hk46 := hM.1
    have hM := hM.2
    have hi47 := hM.1
    have hM := hM.2
    obtain ⟨p48, hp48, hM⟩ := hM
    refine x_aald C hV hk46 (by decide) rfl hi47 hp48 dX9_become_167 ?_
    have hk49 := hM.1
    have hM := hM.2
    have hk50 := hM.1
    have hM := hM.2
    have hi51 := hM.1
    have hM := hM.2
    obtain ⟨S52, eS52⟩ : ∃ z : PS, z = S.setQ p43 x2.toNatClampNeg (some p48) := ⟨_, rfl⟩
    have hM := hM S52 eS52
    refine x_aast C hV hk49 (by decide) rfl rfl (by decide) hk50 hi51 eS52 dX9_become_168 (fun H locs hV => ?_)
    refine lv_iinc (v := (x2 + 1)) (lv' := [(2, .int (x2 + 1)), (0, .ref a0), (1, .ref a1)]) hx hb dX9_become_169 hl (k := 2) rfl rfl (by decide) rfl (fun ls hl => ?_)
    refine lv_goto (tgt := 149) hx hb dX9_become_172 (by decide) ?_
    exact ih _ _ _ _ _ _ _ hM hV (lv_sub hl [1, 2, 0] rfl)
set_option maxHeartbeats 4000000 in
set_option maxRecDepth 100000 in
theorem tq_X9_become_97 {p : Program} {l : Launch} {e : Env} {s : State} {m : MethodId} {args : Array Value} {below : List Frame} {meth : Method} {c : Code} {D : DX} {cA : Nat → ClassId} {z0 N : Nat} {K : PS → Prop} (C : CX p s m args meth c cX9_become 3 RX9 none D cA z0) : ∀ (n : Nat) (S : PS) (a0 : Nat) (a1 : Nat) (x2 : Int32) (H : Heap) (locs : List Loc) (ls : Array Slot), wq_X9_become_97 N K n S a0 a1 x2 → XV D cA z0 s S H locs → lv_has ls 3 [(0, .ref a0), (1, .ref a1), (2, .int x2)] → W p l e (rmd 1 0 0) s m args below meth c H locs 0 0 (MQ below (va_Qv K (XK D cA z0) (zA z0)) args s 0 0 (zA z0)) (F0 m 97 ls []) := by
  obtain ⟨hx, hb, hml, hown, hts, hK, hz, hlk, hr⟩ := id C
  intro n
  induction n with
  | zero => intro S a0 a1 x2 H locs ls hM; exact absurd hM id
  | succ n ih =>
    intro S a0 a1 x2 H locs ls hM hV hl
    rw [wq_X9_become_97.eq_2] at hM
    refine lv_iload_n hx hb dX9_become_97 rfl (lv_at hl 2 rfl) ?_
    refine lv_aload_n hx hb dX9_become_98 rfl (lv_at hl 0 rfl) ?_
    have hk27 := hM.1
    have hM := hM.2
    refine x_getI C hV wf_X9_27 hk27 dX9_become_99 ?_
    refine lv_icmp_ge (tgt := 147) hx hb dX9_become_102 (by decide) (fun c28 => ?_) (fun c28 => ?_)
    · have hM := ite_t c28 hM
      refine lv_iconst (v := 0) hx hb dX9_become_147 (by decide) ?_
      refine lv_istore_n (lv' := [(2, .int 0), (0, .ref a0), (1, .ref a1)]) hx hb dX9_become_148 rfl hl (by decide) rfl (fun ls hl => ?_)
      exact tq_X9_become_149 C N _ _ _ _ _ _ _ hM hV (lv_sub hl [1, 2, 0] rfl)
    have hM := ite_f c28 hM
    refine lv_aload_n hx hb dX9_become_105 rfl (lv_at hl 0 rfl) ?_
    obtain ⟨p53, hp53, hM⟩ := hM
    refine x_getR C hV wf_X9_42 hk27 hp53 dX9_become_106 ?_
    refine lv_iload_n hx hb dX9_become_109 rfl (lv_at hl 2 rfl) ?_
    refine lv_aload_n hx hb dX9_become_110 rfl (lv_at hl 1 rfl) ?_
    have hk54 := hM.1
    have hM := hM.2
    obtain ⟨p55, hp55, hM⟩ := hM
    refine x_getR C hV wf_X9_42 hk54 hp55 dX9_become_111 ?_
    refine lv_iload_n hx hb dX9_become_114 rfl (lv_at hl 2 rfl) ?_
    have hk56 := hM.1
    have hM := hM.2
    have hi57 := hM.1
    have hM := hM.2
    refine x_iald C hV hk56 hi57 dX9_become_115 ?_
    have hk58 := hM.1
    have hM := hM.2
    have hi59 := hM.1
    have hM := hM.2
    obtain ⟨S60, eS60⟩ : ∃ z : PS, z = S.setA p53 x2.toNatClampNeg (S.A p55 x2.toNatClampNeg) := ⟨_, rfl⟩
    have hM := hM S60 eS60
    refine x_iast C hV hk58 hi59 eS60 dX9_become_116 (fun H locs hV => ?_)
    refine lv_aload_n hx hb dX9_become_117 rfl (lv_at hl 0 rfl) ?_
    have hk61 := kp_A eS60 hk27
    obtain ⟨p62, hp62, hM⟩ := hM
    refine x_getR C hV wf_X9_46 hk61 hp62 dX9_become_118 ?_
    refine lv_iload_n hx hb dX9_become_121 rfl (lv_at hl 2 rfl) ?_
    refine lv_aload_n hx hb dX9_become_122 rfl (lv_at hl 1 rfl) ?_
    have hk63 := kp_A eS60 hk54
    obtain ⟨p64, hp64, hM⟩ := hM
    refine x_getR C hV wf_X9_46 hk63 hp64 dX9_become_123 ?_
    refine lv_iload_n hx hb dX9_become_126 rfl (lv_at hl 2 rfl) ?_
    have hk65 := hM.1
    have hM := hM.2
    have hi66 := hM.1
    have hM := hM.2
    refine x_iald C hV hk65 hi66 dX9_become_127 ?_
    have hk67 := hM.1
    have hM := hM.2
    have hi68 := hM.1
    have hM := hM.2
    obtain ⟨S69, eS69⟩ : ∃ z : PS, z = S60.setA p62 x2.toNatClampNeg (S60.A p64 x2.toNatClampNeg) := ⟨_, rfl⟩
    have hM := hM S69 eS69
    refine x_iast C hV hk67 hi68 eS69 dX9_become_128 (fun H locs hV => ?_)
    refine lv_aload_n hx hb dX9_become_129 rfl (lv_at hl 0 rfl) ?_
    have hk70 := kp_A eS69 hk61
    obtain ⟨p71, hp71, hM⟩ := hM
    refine x_getR C hV wf_X9_49 hk70 hp71 dX9_become_130 ?_
    refine lv_iload_n hx hb dX9_become_133 rfl (lv_at hl 2 rfl) ?_
    refine lv_aload_n hx hb dX9_become_134 rfl (lv_at hl 1 rfl) ?_
    have hk72 := kp_A eS69 hk63
    obtain ⟨p73, hp73, hM⟩ := hM
    refine x_getR C hV wf_X9_49 hk72 hp73 dX9_become_135 ?_
    refine lv_iload_n hx hb dX9_become_138 rfl (lv_at hl 2 rfl) ?_
    have hk74 := hM.1
    have hM := hM.2
    have hi75 := hM.1
    have hM := hM.2
    refine x_iald C hV hk74 hi75 dX9_become_139 ?_
    have hk76 := hM.1
    have hM := hM.2
    have hi77 := hM.1
    have hM := hM.2
    obtain ⟨S78, eS78⟩ : ∃ z : PS, z = S69.setA p71 x2.toNatClampNeg (S69.A p73 x2.toNatClampNeg) := ⟨_, rfl⟩
    have hM := hM S78 eS78
    refine x_iast C hV hk76 hi77 eS78 dX9_become_140 (fun H locs hV => ?_)
    refine lv_iinc (v := (x2 + 1)) (lv' := [(2, .int (x2 + 1)), (0, .ref a0), (1, .ref a1)]) hx hb dX9_become_141 hl (k := 2) rfl rfl (by decide) rfl (fun ls hl => ?_)
    refine lv_goto (tgt := 97) hx hb dX9_become_144 (by decide) ?_
    exact ih _ _ _ _ _ _ _ hM hV (lv_sub hl [1, 2, 0] rfl)
set_option maxHeartbeats 4000000 in
set_option maxRecDepth 100000 in
theorem tq_X9_become_66 {p : Program} {l : Launch} {e : Env} {s : State} {m : MethodId} {args : Array Value} {below : List Frame} {meth : Method} {c : Code} {D : DX} {cA : Nat → ClassId} {z0 N : Nat} {K : PS → Prop} (C : CX p s m args meth c cX9_become 3 RX9 none D cA z0) : ∀ (n : Nat) (S : PS) (a0 : Nat) (a1 : Nat) (x2 : Int32) (H : Heap) (locs : List Loc) (ls : Array Slot), wq_X9_become_66 N K n S a0 a1 x2 → XV D cA z0 s S H locs → lv_has ls 3 [(0, .ref a0), (1, .ref a1), (2, .int x2)] → W p l e (rmd 1 0 0) s m args below meth c H locs 0 0 (MQ below (va_Qv K (XK D cA z0) (zA z0)) args s 0 0 (zA z0)) (F0 m 66 ls []) := by
  obtain ⟨hx, hb, hml, hown, hts, hK, hz, hlk, hr⟩ := id C
  intro n
  induction n with
  | zero => intro S a0 a1 x2 H locs ls hM; exact absurd hM id
  | succ n ih =>
    intro S a0 a1 x2 H locs ls hM hV hl
    rw [wq_X9_become_66.eq_2] at hM
    refine lv_iload_n hx hb dX9_become_66 rfl (lv_at hl 2 rfl) ?_
    refine lv_aload_n hx hb dX9_become_67 rfl (lv_at hl 0 rfl) ?_
    have hk25 := hM.1
    have hM := hM.2
    refine x_getI C hV wf_X9_24 hk25 dX9_become_68 ?_
    refine lv_icmp_ge (tgt := 95) hx hb dX9_become_71 (by decide) (fun c26 => ?_) (fun c26 => ?_)
    · have hM := ite_t c26 hM
      refine lv_iconst (v := 0) hx hb dX9_become_95 (by decide) ?_
      refine lv_istore_n (lv' := [(2, .int 0), (0, .ref a0), (1, .ref a1)]) hx hb dX9_become_96 rfl hl (by decide) rfl (fun ls hl => ?_)
      exact tq_X9_become_97 C N _ _ _ _ _ _ _ hM hV (lv_sub hl [1, 2, 0] rfl)
    have hM := ite_f c26 hM
    refine lv_aload_n hx hb dX9_become_74 rfl (lv_at hl 0 rfl) ?_
    obtain ⟨p79, hp79, hM⟩ := hM
    refine x_getR C hV wf_X9_38 hk25 hp79 dX9_become_75 ?_
    refine lv_iload_n hx hb dX9_become_78 rfl (lv_at hl 2 rfl) ?_
    have hk80 := hM.1
    have hM := hM.2
    have hi81 := hM.1
    have hM := hM.2
    obtain ⟨p82, hp82, hM⟩ := hM
    refine x_aald C hV hk80 (by decide) rfl hi81 hp82 dX9_become_79 ?_
    refine lv_aload_n hx hb dX9_become_80 rfl (lv_at hl 1 rfl) ?_
    have hk83 := hM.1
    have hM := hM.2
    obtain ⟨p84, hp84, hM⟩ := hM
    refine x_getR C hV wf_X9_38 hk83 hp84 dX9_become_81 ?_
    refine lv_iload_n hx hb dX9_become_84 rfl (lv_at hl 2 rfl) ?_
    have hk85 := hM.1
    have hM := hM.2
    have hi86 := hM.1
    have hM := hM.2
    obtain ⟨p87, hp87, hM⟩ := hM
    refine x_aald C hV hk85 (by decide) rfl hi86 hp87 dX9_become_85 ?_
    have hk88 := hM.1
    have hM := hM.2
    refine x_cv hV (x_runV (As := [.ref p87]) (rest := []) C hV mi_X1_become wl_X9_71 hk88 (c_X1_become hM) ⟨by decide, by decide⟩ rfl hl.1 (Nat.le_of_ble_eq_true rfl) dX9_become_86 ⟨Nat.zero_le _, Nat.zero_le _⟩) (fun S89 H locs hV hM => ?_)
    refine lv_iinc (v := (x2 + 1)) (lv' := [(2, .int (x2 + 1)), (0, .ref a0), (1, .ref a1)]) hx hb dX9_become_89 hl (k := 2) rfl rfl (by decide) rfl (fun ls hl => ?_)
    refine lv_goto (tgt := 66) hx hb dX9_become_92 (by decide) ?_
    exact ih _ _ _ _ _ _ _ hM hV (lv_sub hl [1, 2, 0] rfl)
set_option maxHeartbeats 4000000 in
set_option maxRecDepth 100000 in
theorem c_X9_become {l : Launch} {D : DX} {cA : Nat → ClassId} {z0 N : Nat} {S : PS} {a0 : Nat} {a1 : Nat} {K : PS → Prop} (hM : wp_X9_become N S a0 a1 K) : MetV l yX9_become cX9_become 3 none 1 0 0 D cA z0 [.ref a0, .ref a1] S K := by
  refine x_met RX9 (by decide) rfl ?_
  intro p e s m below meth c C hin hV
  have hl := lv_entry ([.ref a0, .ref a1]) (n := 3) (Nat.le_of_ble_eq_true rfl)
  rw [lg_entry_eq]
  generalize (lg_sl ([.ref a0, .ref a1]) ++ List.replicate (3 - (lg_sl ([.ref a0, .ref a1])).length) Slot.unset).toArray = ls at hl ⊢
  have hl : lv_has ls 3 [(0, .ref a0), (1, .ref a1)] := hl
  obtain ⟨hx, hb, hml, hown, hts, hK, hz, hlk, hr⟩ := id C
  unfold wp_X9_become at hM
  refine lv_aload_n hx hb dX9_become_0 rfl (lv_at hl 0 rfl) ?_
  refine lv_aload_n hx hb dX9_become_1 rfl (lv_at hl 1 rfl) ?_
  have hk1 := hM.1
  have hM := hM.2
  refine x_getI C hV wf_X9_9 hk1 dX9_become_2 ?_
  have hk2 := hM.1
  have hM := hM.2
  obtain ⟨S3, eS3⟩ : ∃ z : PS, z = S.setI 640 a0 (S.I 640 a1) := ⟨_, rfl⟩
  have hM := hM S3 eS3
  refine x_putI C hV wp_X9_9 hk2 ⟨rfl, rfl⟩ eS3 dX9_become_5 (fun H locs hV => ?_)
  refine lv_aload_n hx hb dX9_become_8 rfl (lv_at hl 0 rfl) ?_
  refine lv_aload_n hx hb dX9_become_9 rfl (lv_at hl 1 rfl) ?_
  have hk4 := kp_I eS3 hk1
  refine x_getI C hV wf_X9_15 hk4 dX9_become_10 ?_
  have hk5 := kp_I eS3 hk2
  obtain ⟨S6, eS6⟩ : ∃ z : PS, z = S3.setI 641 a0 (S3.I 641 a1) := ⟨_, rfl⟩
  have hM := hM S6 eS6
  refine x_putI C hV wp_X9_15 hk5 ⟨rfl, rfl⟩ eS6 dX9_become_13 (fun H locs hV => ?_)
  refine lv_aload_n hx hb dX9_become_16 rfl (lv_at hl 0 rfl) ?_
  refine lv_aload_n hx hb dX9_become_17 rfl (lv_at hl 1 rfl) ?_
  have hk7 := kp_I eS6 hk4
  refine x_getI C hV wf_X9_18 hk7 dX9_become_18 ?_
  have hk8 := kp_I eS6 hk5
  obtain ⟨S9, eS9⟩ : ∃ z : PS, z = S6.setI 642 a0 (S6.I 642 a1) := ⟨_, rfl⟩
  have hM := hM S9 eS9
  refine x_putI C hV wp_X9_18 hk8 ⟨rfl, rfl⟩ eS9 dX9_become_21 (fun H locs hV => ?_)
  refine lv_aload_n hx hb dX9_become_24 rfl (lv_at hl 0 rfl) ?_
  refine lv_aload_n hx hb dX9_become_25 rfl (lv_at hl 1 rfl) ?_
  have hk10 := kp_I eS9 hk7
  refine x_getI C hV wf_X9_21 hk10 dX9_become_26 ?_
  have hk11 := kp_I eS9 hk8
  obtain ⟨S12, eS12⟩ : ∃ z : PS, z = S9.setI 643 a0 (S9.I 643 a1) := ⟨_, rfl⟩
  have hM := hM S12 eS12
  refine x_putI C hV wp_X9_21 hk11 ⟨rfl, rfl⟩ eS12 dX9_become_29 (fun H locs hV => ?_)
  refine lv_aload_n hx hb dX9_become_32 rfl (lv_at hl 0 rfl) ?_
  refine lv_aload_n hx hb dX9_become_33 rfl (lv_at hl 1 rfl) ?_
  have hk13 := kp_I eS12 hk10
  refine x_getI C hV wf_X9_24 hk13 dX9_become_34 ?_
  have hk14 := kp_I eS12 hk11
  obtain ⟨S15, eS15⟩ : ∃ z : PS, z = S12.setI 644 a0 (S12.I 644 a1) := ⟨_, rfl⟩
  have hM := hM S15 eS15
  refine x_putI C hV wp_X9_24 hk14 ⟨rfl, rfl⟩ eS15 dX9_become_37 (fun H locs hV => ?_)
  refine lv_aload_n hx hb dX9_become_40 rfl (lv_at hl 0 rfl) ?_
  refine lv_aload_n hx hb dX9_become_41 rfl (lv_at hl 1 rfl) ?_
  have hk16 := kp_I eS15 hk13
  refine x_getI C hV wf_X9_27 hk16 dX9_become_42 ?_
  have hk17 := kp_I eS15 hk14
  obtain ⟨S18, eS18⟩ : ∃ z : PS, z = S15.setI 645 a0 (S15.I 645 a1) := ⟨_, rfl⟩
  have hM := hM S18 eS18
  refine x_putI C hV wp_X9_27 hk17 ⟨rfl, rfl⟩ eS18 dX9_become_45 (fun H locs hV => ?_)
  refine lv_aload_n hx hb dX9_become_48 rfl (lv_at hl 0 rfl) ?_
  refine lv_aload_n hx hb dX9_become_49 rfl (lv_at hl 1 rfl) ?_
  have hk19 := kp_I eS18 hk16
  refine x_getI C hV wf_X9_30 hk19 dX9_become_50 ?_
  have hk20 := kp_I eS18 hk17
  obtain ⟨S21, eS21⟩ : ∃ z : PS, z = S18.setI 646 a0 (S18.I 646 a1) := ⟨_, rfl⟩
  have hM := hM S21 eS21
  refine x_putI C hV wp_X9_30 hk20 ⟨rfl, rfl⟩ eS21 dX9_become_53 (fun H locs hV => ?_)
  refine lv_aload_n hx hb dX9_become_56 rfl (lv_at hl 0 rfl) ?_
  refine lv_aload_n hx hb dX9_become_57 rfl (lv_at hl 1 rfl) ?_
  have hk22 := kp_I eS21 hk19
  refine x_getI C hV wf_X9_33 hk22 dX9_become_58 ?_
  have hk23 := kp_I eS21 hk20
  obtain ⟨S24, eS24⟩ : ∃ z : PS, z = S21.setI 647 a0 (S21.I 647 a1) := ⟨_, rfl⟩
  have hM := hM S24 eS24
  refine x_putI C hV wp_X9_33 hk23 ⟨rfl, rfl⟩ eS24 dX9_become_61 (fun H locs hV => ?_)
  refine lv_iconst (v := 0) hx hb dX9_become_64 (by decide) ?_
  refine lv_istore_n (lv' := [(2, .int 0), (0, .ref a0), (1, .ref a1)]) hx hb dX9_become_65 rfl hl (by decide) rfl (fun ls hl => ?_)
  exact tq_X9_become_66 C N _ _ _ _ _ _ _ hM hV (lv_sub hl [1, 2, 0] rfl)

def wp_X9_isRun (N : Nat) (S : PS) (a0 : Nat) (x1 : Int32) (x2 : Int32) (x3 : Int32) (x4 : Int32) (K : Int32 → PS → Prop) : Prop := S.K a0 = 10 ∧ ∃ p2 : Nat, S.R 650 a0 = some p2 ∧ S.K p2 = 20 ∧ vp_in x1 (S.ln p2) ∧ if (S.A p2 x1.toNatClampNeg) = x2 then (∃ p6 : Nat, S.R 649 a0 = some p6 ∧ S.K p6 = 20 ∧ vp_in x1 (S.ln p6) ∧ if (S.A p6 x1.toNatClampNeg) < x3 then (K 0 S) else (∃ p10 : Nat, S.R 649 a0 = some p10 ∧ S.K p10 = 20 ∧ vp_in x1 (S.ln p10) ∧ if x4 < (S.A p10 x1.toNatClampNeg) then (K 0 S) else (K 1 S))) else (K 0 S)
set_option maxHeartbeats 4000000 in
set_option maxRecDepth 100000 in
theorem c_X9_isRun {l : Launch} {D : DX} {cA : Nat → ClassId} {z0 N : Nat} {S : PS} {a0 : Nat} {x1 : Int32} {x2 : Int32} {x3 : Int32} {x4 : Int32} {K : Int32 → PS → Prop} (hM : wp_X9_isRun N S a0 x1 x2 x3 x4 K) : MetI l yX9_isRun cX9_isRun 5 (some .boolean) 0 0 0 D cA z0 [.ref a0, .int x1, .int x2, .int x3, .int x4] S (fun r S => (r = 0 ∨ r = 1) ∧ K r S) := by
  refine x_met RX9 (by decide) rfl ?_
  intro p e s m below meth c C hin hV
  have hl := lv_entry ([.ref a0, .int x1, .int x2, .int x3, .int x4]) (n := 5) (Nat.le_of_ble_eq_true rfl)
  rw [lg_entry_eq]
  generalize (lg_sl ([.ref a0, .int x1, .int x2, .int x3, .int x4]) ++ List.replicate (5 - (lg_sl ([.ref a0, .int x1, .int x2, .int x3, .int x4])).length) Slot.unset).toArray = ls at hl ⊢
  have hl : lv_has ls 5 [(0, .ref a0), (1, .int x1), (2, .int x2), (3, .int x3), (4, .int x4)] := hl
  obtain ⟨hx, hb, hml, hown, hts, hK, hz, hlk, hr⟩ := id C
  unfold wp_X9_isRun at hM
  refine lv_aload_n hx hb dX9_isRun_0 rfl (lv_at hl 0 rfl) ?_
  have hk1 := hM.1
  have hM := hM.2
  obtain ⟨p2, hp2, hM⟩ := hM
  refine x_getR C hV wf_X9_46 hk1 hp2 dX9_isRun_1 ?_
  refine lv_iload_n hx hb dX9_isRun_4 rfl (lv_at hl 1 rfl) ?_
  have hk3 := hM.1
  have hM := hM.2
  have hi4 := hM.1
  have hM := hM.2
  refine x_iald C hV hk3 hi4 dX9_isRun_5 ?_
  refine lv_iload_n hx hb dX9_isRun_6 rfl (lv_at hl 2 rfl) ?_
  refine lv_icmp_ne (tgt := 35) hx hb dX9_isRun_7 (by decide) (fun c5 => ?_) (fun c5 => ?_)
  · have hM := ite_f c5 hM
    refine lv_iconst (v := 0) hx hb dX9_isRun_35 (by decide) ?_
    exact x_zret C hV (by decide) hM dX9_isRun_36
  have hM := ite_t c5 hM
  refine lv_aload_n hx hb dX9_isRun_10 rfl (lv_at hl 0 rfl) ?_
  obtain ⟨p6, hp6, hM⟩ := hM
  refine x_getR C hV wf_X9_42 hk1 hp6 dX9_isRun_11 ?_
  refine lv_iload_n hx hb dX9_isRun_14 rfl (lv_at hl 1 rfl) ?_
  have hk7 := hM.1
  have hM := hM.2
  have hi8 := hM.1
  have hM := hM.2
  refine x_iald C hV hk7 hi8 dX9_isRun_15 ?_
  refine lv_iload_n hx hb dX9_isRun_16 rfl (lv_at hl 3 rfl) ?_
  refine lv_icmp_lt (tgt := 35) hx hb dX9_isRun_17 (by decide) (fun c9 => ?_) (fun c9 => ?_)
  · have hM := ite_t c9 hM
    refine lv_iconst (v := 0) hx hb dX9_isRun_35 (by decide) ?_
    exact x_zret C hV (by decide) hM dX9_isRun_36
  have hM := ite_f c9 hM
  refine lv_aload_n hx hb dX9_isRun_20 rfl (lv_at hl 0 rfl) ?_
  obtain ⟨p10, hp10, hM⟩ := hM
  refine x_getR C hV wf_X9_42 hk1 hp10 dX9_isRun_21 ?_
  refine lv_iload_n hx hb dX9_isRun_24 rfl (lv_at hl 1 rfl) ?_
  have hk11 := hM.1
  have hM := hM.2
  have hi12 := hM.1
  have hM := hM.2
  refine x_iald C hV hk11 hi12 dX9_isRun_25 ?_
  refine lv_iload hx hb dX9_isRun_26 (lv_at hl 4 rfl) ?_
  refine lv_icmp_gt (tgt := 35) hx hb dX9_isRun_28 (by decide) (fun c13 => ?_) (fun c13 => ?_)
  · have hM := ite_t c13 hM
    refine lv_iconst (v := 0) hx hb dX9_isRun_35 (by decide) ?_
    exact x_zret C hV (by decide) hM dX9_isRun_36
  have hM := ite_f c13 hM
  refine lv_iconst (v := 1) hx hb dX9_isRun_31 (by decide) ?_
  refine lv_goto (tgt := 36) hx hb dX9_isRun_32 (by decide) ?_
  exact x_zret C hV (by decide) hM dX9_isRun_36

def wq_X9_countRuns_34 (N : Nat) (K : Int32 → PS → Prop) (k_6 : PS → Nat → Int32 → Int32 → Int32 → Int32 → Int32 → Prop) (S : PS) (a0 : Nat) (x1 : Int32) (x2 : Int32) (x3 : Int32) (x5 : Int32) (t0 : Int32) (t1 : Int32) : Prop := ∀ v7 : Int32, v7 = (t0 + t1) → k_6 S a0 x1 x2 x3 v7 (x5 + 1)
def wq_X9_countRuns_6 (N : Nat) (K : Int32 → PS → Prop) : Nat → PS → Nat → Int32 → Int32 → Int32 → Int32 → Int32 → Prop
  | 0, _, _, _, _, _, _, _ => False
  | n + 1, S, a0, x1, x2, x3, x4, x5 => S.K a0 = 10 ∧ if (S.I 645 a0) ≤ x5 then (K x4 S) else (wp_X9_isRun N S a0 x5 x1 x2 x3 (fun r4 S3 => if r4 = 0 then (wq_X9_countRuns_34 N K (fun S a0 x1 x2 x3 x4 x5 => wq_X9_countRuns_6 N K n S a0 x1 x2 x3 x4 x5) S3 a0 x1 x2 x3 x5 x4 0) else (wq_X9_countRuns_34 N K (fun S a0 x1 x2 x3 x4 x5 => wq_X9_countRuns_6 N K n S a0 x1 x2 x3 x4 x5) S3 a0 x1 x2 x3 x5 x4 1)))
def wp_X9_countRuns (N : Nat) (S : PS) (a0 : Nat) (x1 : Int32) (x2 : Int32) (x3 : Int32) (K : Int32 → PS → Prop) : Prop := wq_X9_countRuns_6 N K N S a0 x1 x2 x3 0 0
set_option maxHeartbeats 4000000 in
set_option maxRecDepth 100000 in
theorem tq_X9_countRuns_34 {p : Program} {l : Launch} {e : Env} {s : State} {m : MethodId} {args : Array Value} {below : List Frame} {meth : Method} {c : Code} {D : DX} {cA : Nat → ClassId} {z0 N : Nat} {K : Int32 → PS → Prop} {k_6 : PS → Nat → Int32 → Int32 → Int32 → Int32 → Int32 → Prop} (C : CX p s m args meth c cX9_countRuns 6 RX9 (some .int) D cA z0) (H_6 : ∀ (S : PS) (a0 : Nat) (x1 : Int32) (x2 : Int32) (x3 : Int32) (x4 : Int32) (x5 : Int32) (H : Heap) (locs : List Loc) (ls : Array Slot), k_6 S a0 x1 x2 x3 x4 x5 → XV D cA z0 s S H locs → lv_has ls 6 [(0, .ref a0), (1, .int x1), (2, .int x2), (3, .int x3), (4, .int x4), (5, .int x5)] → W p l e (rmd 1 0 0) s m args below meth c H locs 0 0 (MQ below (va_Qi K (XK D cA z0) (zA z0)) args s 0 0 (zA z0)) (F0 m 6 ls [])) : ∀ (S : PS) (a0 : Nat) (x1 : Int32) (x2 : Int32) (x3 : Int32) (x5 : Int32) (t0 : Int32) (t1 : Int32) (H : Heap) (locs : List Loc) (ls : Array Slot), wq_X9_countRuns_34 N K k_6 S a0 x1 x2 x3 x5 t0 t1 → XV D cA z0 s S H locs → lv_has ls 6 [(0, .ref a0), (1, .int x1), (2, .int x2), (3, .int x3), (5, .int x5)] → W p l e (rmd 1 0 0) s m args below meth c H locs 0 0 (MQ below (va_Qi K (XK D cA z0) (zA z0)) args s 0 0 (zA z0)) (F0 m 34 ls [.int t1, .int t0]) := by
  obtain ⟨hx, hb, hml, hown, hts, hK, hz, hlk, hr⟩ := id C
  intro S a0 x1 x2 x3 x5 t0 t1 H locs ls hM hV hl
  unfold wq_X9_countRuns_34 at hM
  refine lv_iadd hx hb dX9_countRuns_34 ?_
  refine lv_topi (fun v7 ev7 => ?_)
  have hM := hM v7 ev7
  refine lv_istore (lv' := [(4, .int v7), (0, .ref a0), (1, .int x1), (2, .int x2), (3, .int x3), (5, .int x5)]) hx hb dX9_countRuns_35 hl (by decide) rfl (fun ls hl => ?_)
  refine lv_iinc (v := (x5 + 1)) (lv' := [(5, .int (x5 + 1)), (4, .int v7), (0, .ref a0), (1, .int x1), (2, .int x2), (3, .int x3)]) hx hb dX9_countRuns_37 hl (k := 5) rfl rfl (by decide) rfl (fun ls hl => ?_)
  refine lv_goto (tgt := 6) hx hb dX9_countRuns_40 (by decide) ?_
  exact H_6 _ _ _ _ _ _ _ _ _ _ hM hV (lv_sub hl [2, 3, 4, 5, 1, 0] rfl)
set_option maxHeartbeats 4000000 in
set_option maxRecDepth 100000 in
theorem tq_X9_countRuns_6 {p : Program} {l : Launch} {e : Env} {s : State} {m : MethodId} {args : Array Value} {below : List Frame} {meth : Method} {c : Code} {D : DX} {cA : Nat → ClassId} {z0 N : Nat} {K : Int32 → PS → Prop} (C : CX p s m args meth c cX9_countRuns 6 RX9 (some .int) D cA z0) : ∀ (n : Nat) (S : PS) (a0 : Nat) (x1 : Int32) (x2 : Int32) (x3 : Int32) (x4 : Int32) (x5 : Int32) (H : Heap) (locs : List Loc) (ls : Array Slot), wq_X9_countRuns_6 N K n S a0 x1 x2 x3 x4 x5 → XV D cA z0 s S H locs → lv_has ls 6 [(0, .ref a0), (1, .int x1), (2, .int x2), (3, .int x3), (4, .int x4), (5, .int x5)] → W p l e (rmd 1 0 0) s m args below meth c H locs 0 0 (MQ below (va_Qi K (XK D cA z0) (zA z0)) args s 0 0 (zA z0)) (F0 m 6 ls []) := by
  obtain ⟨hx, hb, hml, hown, hts, hK, hz, hlk, hr⟩ := id C
  intro n
  induction n with
  | zero => intro S a0 x1 x2 x3 x4 x5 H locs ls hM; exact absurd hM id
  | succ n ih =>
    intro S a0 x1 x2 x3 x4 x5 H locs ls hM hV hl
    rw [wq_X9_countRuns_6.eq_2] at hM
    refine lv_iload hx hb dX9_countRuns_6 (lv_at hl 5 rfl) ?_
    refine lv_aload_n hx hb dX9_countRuns_8 rfl (lv_at hl 0 rfl) ?_
    have hk1 := hM.1
    have hM := hM.2
    refine x_getI C hV wf_X9_27 hk1 dX9_countRuns_9 ?_
    refine lv_icmp_ge (tgt := 43) hx hb dX9_countRuns_12 (by decide) (fun c2 => ?_) (fun c2 => ?_)
    · have hM := ite_t c2 hM
      refine lv_iload hx hb dX9_countRuns_43 (lv_at hl 4 rfl) ?_
      exact x_iret C hV hM dX9_countRuns_45
    have hM := ite_f c2 hM
    refine lv_iload hx hb dX9_countRuns_15 (lv_at hl 4 rfl) ?_
    refine lv_aload_n hx hb dX9_countRuns_17 rfl (lv_at hl 0 rfl) ?_
    refine lv_iload hx hb dX9_countRuns_18 (lv_at hl 5 rfl) ?_
    refine lv_iload_n hx hb dX9_countRuns_20 rfl (lv_at hl 1 rfl) ?_
    refine lv_iload_n hx hb dX9_countRuns_21 rfl (lv_at hl 2 rfl) ?_
    refine lv_iload_n hx hb dX9_countRuns_22 rfl (lv_at hl 3 rfl) ?_
    refine x_ci hV (x_runV (As := [.int x5, .int x1, .int x2, .int x3]) (rest := [.int x4]) C hV mi_X9_isRun wl_X9_137 hk1 (c_X9_isRun hM) ⟨by decide, by decide⟩ rfl hl.1 (Nat.le_of_ble_eq_true rfl) dX9_countRuns_23 ⟨Nat.zero_le _, Nat.zero_le _⟩) (fun r4 S3 H locs hV hM => ?_)
    have hz5 := hM.1
    have hM := hM.2
    refine lv_if_eq (tgt := 33) hx hb dX9_countRuns_26 (by decide) (fun c6 => ?_) (fun c6 => ?_)
    · have hM := ite_t c6 hM
      refine lv_iconst (v := 0) hx hb dX9_countRuns_33 (by decide) ?_
      exact tq_X9_countRuns_34 C ih _ _ _ _ _ _ _ _ _ _ _ hM hV (lv_sub hl [0, 1, 2, 3, 5] rfl)
    have hM := ite_f c6 hM
    refine lv_iconst (v := 1) hx hb dX9_countRuns_29 (by decide) ?_
    refine lv_goto (tgt := 34) hx hb dX9_countRuns_30 (by decide) ?_
    exact tq_X9_countRuns_34 C ih _ _ _ _ _ _ _ _ _ _ _ hM hV (lv_sub hl [0, 1, 2, 3, 5] rfl)
set_option maxHeartbeats 4000000 in
set_option maxRecDepth 100000 in
theorem c_X9_countRuns {l : Launch} {D : DX} {cA : Nat → ClassId} {z0 N : Nat} {S : PS} {a0 : Nat} {x1 : Int32} {x2 : Int32} {x3 : Int32} {K : Int32 → PS → Prop} (hM : wp_X9_countRuns N S a0 x1 x2 x3 K) : MetI l yX9_countRuns cX9_countRuns 6 (some .int) 1 0 0 D cA z0 [.ref a0, .int x1, .int x2, .int x3] S K := by
  refine x_met RX9 (by decide) rfl ?_
  intro p e s m below meth c C hin hV
  have hl := lv_entry ([.ref a0, .int x1, .int x2, .int x3]) (n := 6) (Nat.le_of_ble_eq_true rfl)
  rw [lg_entry_eq]
  generalize (lg_sl ([.ref a0, .int x1, .int x2, .int x3]) ++ List.replicate (6 - (lg_sl ([.ref a0, .int x1, .int x2, .int x3])).length) Slot.unset).toArray = ls at hl ⊢
  have hl : lv_has ls 6 [(0, .ref a0), (1, .int x1), (2, .int x2), (3, .int x3)] := hl
  obtain ⟨hx, hb, hml, hown, hts, hK, hz, hlk, hr⟩ := id C
  unfold wp_X9_countRuns at hM
  refine lv_iconst (v := 0) hx hb dX9_countRuns_0 (by decide) ?_
  refine lv_istore (lv' := [(4, .int 0), (0, .ref a0), (1, .int x1), (2, .int x2), (3, .int x3)]) hx hb dX9_countRuns_1 hl (by decide) rfl (fun ls hl => ?_)
  refine lv_iconst (v := 0) hx hb dX9_countRuns_3 (by decide) ?_
  refine lv_istore (lv' := [(5, .int 0), (4, .int 0), (0, .ref a0), (1, .int x1), (2, .int x2), (3, .int x3)]) hx hb dX9_countRuns_4 hl (by decide) rfl (fun ls hl => ?_)
  exact tq_X9_countRuns_6 C N _ _ _ _ _ _ _ _ _ _ hM hV (lv_sub hl [2, 3, 4, 5, 1, 0] rfl)

def wp_X9_draw (N : Nat) (S : PS) (a0 : Nat) (K : Int32 → PS → Prop) : Prop := S.K a0 = 10 ∧ ∀ S2 : PS, S2 = S.setI 642 a0 (((S.I 642 a0) * 1103515245) + 12345) → if (S2.I 641 a0) ≤ 0 then (K 0 S2) else ((¬ ((2 * (S2.I 641 a0)) + 1) = 0) ∧ K ((((((S2.I 642 a0)).toUInt32 >>> (((16 : Int32)).toUInt32 &&& Int32.toUInt32 31)).toInt32) - ((((S2.I 642 a0)).toUInt32 >>> (((16 : Int32)).toUInt32 &&& Int32.toUInt32 31)).toInt32) / ((2 * (S2.I 641 a0)) + 1) * ((2 * (S2.I 641 a0)) + 1)) - (S2.I 641 a0)) S2)
set_option maxHeartbeats 4000000 in
set_option maxRecDepth 100000 in
theorem c_X9_draw {l : Launch} {D : DX} {cA : Nat → ClassId} {z0 N : Nat} {S : PS} {a0 : Nat} {K : Int32 → PS → Prop} (hM : wp_X9_draw N S a0 K) : MetI l yX9_draw cX9_draw 1 (some .int) 0 0 0 D cA z0 [.ref a0] S K := by
  refine x_met RX9 (by decide) rfl ?_
  intro p e s m below meth c C hin hV
  have hl := lv_entry ([.ref a0]) (n := 1) (Nat.le_of_ble_eq_true rfl)
  rw [lg_entry_eq]
  generalize (lg_sl ([.ref a0]) ++ List.replicate (1 - (lg_sl ([.ref a0])).length) Slot.unset).toArray = ls at hl ⊢
  have hl : lv_has ls 1 [(0, .ref a0)] := hl
  obtain ⟨hx, hb, hml, hown, hts, hK, hz, hlk, hr⟩ := id C
  unfold wp_X9_draw at hM
  refine lv_aload_n hx hb dX9_draw_0 rfl (lv_at hl 0 rfl) ?_
  refine lv_aload_n hx hb dX9_draw_1 rfl (lv_at hl 0 rfl) ?_
  have hk1 := hM.1
  have hM := hM.2
  refine x_getI C hV wf_X9_18 hk1 dX9_draw_2 ?_
  refine lv_ldc hx hb hown (hts _ wc_X9_75) dX9_draw_5 ?_
  refine lv_imul hx hb dX9_draw_7 ?_
  refine lv_sipush (v := 12345) hx hb dX9_draw_8 (by decide) ?_
  refine lv_iadd hx hb dX9_draw_11 ?_
  obtain ⟨S2, eS2⟩ : ∃ z : PS, z = S.setI 642 a0 (((S.I 642 a0) * 1103515245) + 12345) := ⟨_, rfl⟩
  have hM := hM S2 eS2
  refine x_putI C hV wp_X9_18 hk1 ⟨rfl, rfl⟩ eS2 dX9_draw_12 (fun H locs hV => ?_)
  refine lv_aload_n hx hb dX9_draw_15 rfl (lv_at hl 0 rfl) ?_
  have hk3 := kp_I eS2 hk1
  refine x_getI C hV wf_X9_15 hk3 dX9_draw_16 ?_
  refine lv_if_le (tgt := 46) hx hb dX9_draw_19 (by decide) (fun c4 => ?_) (fun c4 => ?_)
  · have hM := ite_t c4 hM
    refine lv_iconst (v := 0) hx hb dX9_draw_46 (by decide) ?_
    exact x_iret C hV hM dX9_draw_47
  have hM := ite_f c4 hM
  refine lv_aload_n hx hb dX9_draw_22 rfl (lv_at hl 0 rfl) ?_
  refine x_getI C hV wf_X9_18 hk3 dX9_draw_23 ?_
  refine lv_bipush (v := 16) hx hb dX9_draw_26 (by decide) ?_
  refine lv_iushr hx hb dX9_draw_28 rfl ?_
  refine lv_iconst (v := 2) hx hb dX9_draw_29 (by decide) ?_
  refine lv_aload_n hx hb dX9_draw_30 rfl (lv_at hl 0 rfl) ?_
  refine x_getI C hV wf_X9_15 hk3 dX9_draw_31 ?_
  refine lv_imul hx hb dX9_draw_34 ?_
  refine lv_iconst (v := 1) hx hb dX9_draw_35 (by decide) ?_
  refine lv_iadd hx hb dX9_draw_36 ?_
  have hne5 := hM.1
  have hM := hM.2
  refine lv_irem hx hb dX9_draw_37 hne5 ?_
  refine lv_aload_n hx hb dX9_draw_38 rfl (lv_at hl 0 rfl) ?_
  refine x_getI C hV wf_X9_15 hk3 dX9_draw_39 ?_
  refine lv_isub hx hb dX9_draw_42 ?_
  refine lv_goto (tgt := 47) hx hb dX9_draw_43 (by decide) ?_
  exact x_iret C hV hM dX9_draw_47

def wp_X9_hasPart (N : Nat) (S : PS) (a0 : Nat) (x1 : Int32) (K : Int32 → PS → Prop) : Prop := if x1 < 0 then (K 0 S) else (S.K a0 = 10 ∧ if (S.I 644 a0) ≤ x1 then (K 0 S) else (K 1 S))
set_option maxHeartbeats 4000000 in
set_option maxRecDepth 100000 in
theorem c_X9_hasPart {l : Launch} {D : DX} {cA : Nat → ClassId} {z0 N : Nat} {S : PS} {a0 : Nat} {x1 : Int32} {K : Int32 → PS → Prop} (hM : wp_X9_hasPart N S a0 x1 K) : MetI l yX9_hasPart cX9_hasPart 2 (some .boolean) 0 0 0 D cA z0 [.ref a0, .int x1] S (fun r S => (r = 0 ∨ r = 1) ∧ K r S) := by
  refine x_met RX9 (by decide) rfl ?_
  intro p e s m below meth c C hin hV
  have hl := lv_entry ([.ref a0, .int x1]) (n := 2) (Nat.le_of_ble_eq_true rfl)
  rw [lg_entry_eq]
  generalize (lg_sl ([.ref a0, .int x1]) ++ List.replicate (2 - (lg_sl ([.ref a0, .int x1])).length) Slot.unset).toArray = ls at hl ⊢
  have hl : lv_has ls 2 [(0, .ref a0), (1, .int x1)] := hl
  obtain ⟨hx, hb, hml, hown, hts, hK, hz, hlk, hr⟩ := id C
  unfold wp_X9_hasPart at hM
  refine lv_iload_n hx hb dX9_hasPart_0 rfl (lv_at hl 1 rfl) ?_
  refine lv_if_lt (tgt := 16) hx hb dX9_hasPart_1 (by decide) (fun c1 => ?_) (fun c1 => ?_)
  · have hM := ite_t c1 hM
    refine lv_iconst (v := 0) hx hb dX9_hasPart_16 (by decide) ?_
    exact x_zret C hV (by decide) hM dX9_hasPart_17
  have hM := ite_f c1 hM
  refine lv_iload_n hx hb dX9_hasPart_4 rfl (lv_at hl 1 rfl) ?_
  refine lv_aload_n hx hb dX9_hasPart_5 rfl (lv_at hl 0 rfl) ?_
  have hk2 := hM.1
  have hM := hM.2
  refine x_getI C hV wf_X9_24 hk2 dX9_hasPart_6 ?_
  refine lv_icmp_ge (tgt := 16) hx hb dX9_hasPart_9 (by decide) (fun c3 => ?_) (fun c3 => ?_)
  · have hM := ite_t c3 hM
    refine lv_iconst (v := 0) hx hb dX9_hasPart_16 (by decide) ?_
    exact x_zret C hV (by decide) hM dX9_hasPart_17
  have hM := ite_f c3 hM
  refine lv_iconst (v := 1) hx hb dX9_hasPart_12 (by decide) ?_
  refine lv_goto (tgt := 17) hx hb dX9_hasPart_13 (by decide) ?_
  exact x_zret C hV (by decide) hM dX9_hasPart_17

def wq_X9_given_29 (N : Nat) (K : Int32 → PS → Prop) : Nat → PS → Nat → Int32 → Int32 → Nat → Int32 → Int32 → Prop
  | 0, _, _, _, _, _, _, _ => False
  | n + 1, S, a0, x2, x3, a4, x5, x6 => S.K a4 = 7 ∧ wp_X6_clauseCount N S a4 (fun r10 S9 => if r10 ≤ x6 then (K x5 S9) else (S9.K a4 = 7 ∧ wp_X6_partOf N S9 a4 x6 (fun r14 S13 => S13.K a0 = 10 ∧ wp_X9_hasPart N S13 a0 r14 (fun r17 S16 => if r17 = 0 then (wq_X9_given_29 N K n S16 a0 x2 x3 a4 x5 (x6 + 1)) else (S16.K a0 = 10 ∧ ∃ p21 : Nat, S16.R 648 a0 = some p21 ∧ S16.K p21 = 23 ∧ vp_in r14 (S16.ln p21) ∧ ∃ p24 : Nat, S16.Q p21 r14.toNatClampNeg = some p24 ∧ S16.K p24 = 2 ∧ wp_X1_isIn N S16 p24 x2 (fun r27 S26 => if r27 = 0 then (wq_X9_given_29 N K n S26 a0 x2 x3 a4 x5 (x6 + 1)) else (S26.K a4 = 7 ∧ wp_X6_amountOn N S26 a4 x6 x3 (fun r32 S31 => ∀ v33 : Int32, v33 = (x5 + r32) → wq_X9_given_29 N K n S31 a0 x2 x3 a4 v33 (x6 + 1)))))))))
def wp_X9_given (N : Nat) (S : PS) (a0 : Nat) (x1 : Int32) (x2 : Int32) (x3 : Int32) (K : Int32 → PS → Prop) : Prop := S.K a0 = 10 ∧ ∃ p2 : Nat, S.R 652 a0 = some p2 ∧ S.K p2 = 27 ∧ vp_in x1 (S.ln p2) ∧ ∃ p5 : Nat, S.Q p2 x1.toNatClampNeg = some p5 ∧ S.K p5 = 7 ∧ if (S.I 449 p5) = 1 then (K (S.I 450 p5) S) else (wq_X9_given_29 N K N S a0 x2 x3 p5 0 0)
set_option maxHeartbeats 4000000 in
set_option maxRecDepth 100000 in
theorem tq_X9_given_29 {p : Program} {l : Launch} {e : Env} {s : State} {m : MethodId} {args : Array Value} {below : List Frame} {meth : Method} {c : Code} {D : DX} {cA : Nat → ClassId} {z0 N : Nat} {K : Int32 → PS → Prop} (C : CX p s m args meth c cX9_given 8 RX9 (some .int) D cA z0) : ∀ (n : Nat) (S : PS) (a0 : Nat) (x2 : Int32) (x3 : Int32) (a4 : Nat) (x5 : Int32) (x6 : Int32) (H : Heap) (locs : List Loc) (ls : Array Slot), wq_X9_given_29 N K n S a0 x2 x3 a4 x5 x6 → XV D cA z0 s S H locs → lv_has ls 8 [(0, .ref a0), (2, .int x2), (3, .int x3), (4, .ref a4), (5, .int x5), (6, .int x6)] → W p l e (rmd 1 0 0) s m args below meth c H locs 0 0 (MQ below (va_Qi K (XK D cA z0) (zA z0)) args s 0 0 (zA z0)) (F0 m 29 ls []) := by
  obtain ⟨hx, hb, hml, hown, hts, hK, hz, hlk, hr⟩ := id C
  intro n
  induction n with
  | zero => intro S a0 x2 x3 a4 x5 x6 H locs ls hM; exact absurd hM id
  | succ n ih =>
    intro S a0 x2 x3 a4 x5 x6 H locs ls hM hV hl
    rw [wq_X9_given_29.eq_2] at hM
    refine lv_iload hx hb dX9_given_29 (lv_at hl 5 rfl) ?_
    refine lv_aload hx hb dX9_given_31 (lv_at hl 3 rfl) ?_
    have hk8 := hM.1
    have hM := hM.2
    refine x_ci hV (x_runV (As := []) (rest := [.int x6]) C hV mi_X6_clauseCount wl_X9_82 hk8 (c_X6_clauseCount hM) ⟨by decide, by decide⟩ rfl hl.1 (Nat.le_of_ble_eq_true rfl) dX9_given_33 ⟨Nat.zero_le _, Nat.zero_le _⟩) (fun r10 S9 H locs hV hM => ?_)
    refine lv_icmp_ge (tgt := 90) hx hb dX9_given_36 (by decide) (fun c11 => ?_) (fun c11 => ?_)
    · have hM := ite_t c11 hM
      refine lv_iload hx hb dX9_given_90 (lv_at hl 4 rfl) ?_
      exact x_iret C hV hM dX9_given_92
    have hM := ite_f c11 hM
    refine lv_aload hx hb dX9_given_39 (lv_at hl 3 rfl) ?_
    refine lv_iload hx hb dX9_given_41 (lv_at hl 5 rfl) ?_
    have hk12 := hM.1
    have hM := hM.2
    refine x_ci hV (x_runV (As := [.int x6]) (rest := []) C hV mi_X6_partOf wl_X9_86 hk12 (c_X6_partOf hM) ⟨by decide, by decide⟩ rfl hl.1 (Nat.le_of_ble_eq_true rfl) dX9_given_43 ⟨Nat.zero_le _, Nat.zero_le _⟩) (fun r14 S13 H locs hV hM => ?_)
    refine lv_istore (lv' := [(7, .int r14), (0, .ref a0), (2, .int x2), (3, .int x3), (4, .ref a4), (5, .int x5), (6, .int x6)]) hx hb dX9_given_46 hl (by decide) rfl (fun ls hl => ?_)
    refine lv_aload_n hx hb dX9_given_48 rfl (lv_at hl 1 rfl) ?_
    refine lv_iload hx hb dX9_given_49 (lv_at hl 0 rfl) ?_
    have hk15 := hM.1
    have hM := hM.2
    refine x_ci hV (x_runV (As := [.int r14]) (rest := []) C hV mi_X9_hasPart wl_X9_90 hk15 (c_X9_hasPart hM) ⟨by decide, by decide⟩ rfl hl.1 (Nat.le_of_ble_eq_true rfl) dX9_given_51 ⟨Nat.zero_le _, Nat.zero_le _⟩) (fun r17 S16 H locs hV hM => ?_)
    have hz18 := hM.1
    have hM := hM.2
    refine lv_if_eq (tgt := 84) hx hb dX9_given_54 (by decide) (fun c19 => ?_) (fun c19 => ?_)
    · have hM := ite_t c19 hM
      refine lv_iinc (v := (x6 + 1)) (lv' := [(6, .int (x6 + 1)), (7, .int r14), (0, .ref a0), (2, .int x2), (3, .int x3), (4, .ref a4), (5, .int x5)]) hx hb dX9_given_84 hl (k := 6) rfl rfl (by decide) rfl (fun ls hl => ?_)
      refine lv_goto (tgt := 29) hx hb dX9_given_87 (by decide) ?_
      exact ih _ _ _ _ _ _ _ _ _ _ hM hV (lv_sub hl [2, 3, 4, 5, 6, 0] rfl)
    have hM := ite_f c19 hM
    refine lv_aload_n hx hb dX9_given_57 rfl (lv_at hl 1 rfl) ?_
    have hk20 := hM.1
    have hM := hM.2
    obtain ⟨p21, hp21, hM⟩ := hM
    refine x_getR C hV wf_X9_38 hk20 hp21 dX9_given_58 ?_
    refine lv_iload hx hb dX9_given_61 (lv_at hl 0 rfl) ?_
    have hk22 := hM.1
    have hM := hM.2
    have hi23 := hM.1
    have hM := hM.2
    obtain ⟨p24, hp24, hM⟩ := hM
    refine x_aald C hV hk22 (by decide) rfl hi23 hp24 dX9_given_63 ?_
    refine lv_iload_n hx hb dX9_given_64 rfl (lv_at hl 2 rfl) ?_
    have hk25 := hM.1
    have hM := hM.2
    refine x_ci hV (x_runV (As := [.int x2]) (rest := []) C hV mi_X1_isIn wl_X9_94 hk25 (c_X1_isIn hM) ⟨by decide, by decide⟩ rfl hl.1 (Nat.le_of_ble_eq_true rfl) dX9_given_65 ⟨Nat.zero_le _, Nat.zero_le _⟩) (fun r27 S26 H locs hV hM => ?_)
    have hz28 := hM.1
    have hM := hM.2
    refine lv_if_eq (tgt := 84) hx hb dX9_given_68 (by decide) (fun c29 => ?_) (fun c29 => ?_)
    · have hM := ite_t c29 hM
      refine lv_iinc (v := (x6 + 1)) (lv' := [(6, .int (x6 + 1)), (7, .int r14), (0, .ref a0), (2, .int x2), (3, .int x3), (4, .ref a4), (5, .int x5)]) hx hb dX9_given_84 hl (k := 6) rfl rfl (by decide) rfl (fun ls hl => ?_)
      refine lv_goto (tgt := 29) hx hb dX9_given_87 (by decide) ?_
      exact ih _ _ _ _ _ _ _ _ _ _ hM hV (lv_sub hl [2, 3, 4, 5, 6, 0] rfl)
    have hM := ite_f c29 hM
    refine lv_iload hx hb dX9_given_71 (lv_at hl 5 rfl) ?_
    refine lv_aload hx hb dX9_given_73 (lv_at hl 4 rfl) ?_
    refine lv_iload hx hb dX9_given_75 (lv_at hl 6 rfl) ?_
    refine lv_iload_n hx hb dX9_given_77 rfl (lv_at hl 3 rfl) ?_
    have hk30 := hM.1
    have hM := hM.2
    refine x_ci hV (x_runV (As := [.int x6, .int x3]) (rest := [.int x5]) C hV mi_X6_amountOn wl_X9_97 hk30 (c_X6_amountOn hM) ⟨by decide, by decide⟩ rfl hl.1 (Nat.le_of_ble_eq_true rfl) dX9_given_78 ⟨Nat.zero_le _, Nat.zero_le _⟩) (fun r32 S31 H locs hV hM => ?_)
    refine lv_iadd hx hb dX9_given_81 ?_
    refine lv_topi (fun v33 ev33 => ?_)
    have hM := hM v33 ev33
    refine lv_istore (lv' := [(5, .int v33), (7, .int r14), (0, .ref a0), (2, .int x2), (3, .int x3), (4, .ref a4), (6, .int x6)]) hx hb dX9_given_82 hl (by decide) rfl (fun ls hl => ?_)
    refine lv_iinc (v := (x6 + 1)) (lv' := [(6, .int (x6 + 1)), (5, .int v33), (7, .int r14), (0, .ref a0), (2, .int x2), (3, .int x3), (4, .ref a4)]) hx hb dX9_given_84 hl (k := 6) rfl rfl (by decide) rfl (fun ls hl => ?_)
    refine lv_goto (tgt := 29) hx hb dX9_given_87 (by decide) ?_
    exact ih _ _ _ _ _ _ _ _ _ _ hM hV (lv_sub hl [3, 4, 5, 6, 1, 0] rfl)
set_option maxHeartbeats 4000000 in
set_option maxRecDepth 100000 in
theorem c_X9_given {l : Launch} {D : DX} {cA : Nat → ClassId} {z0 N : Nat} {S : PS} {a0 : Nat} {x1 : Int32} {x2 : Int32} {x3 : Int32} {K : Int32 → PS → Prop} (hM : wp_X9_given N S a0 x1 x2 x3 K) : MetI l yX9_given cX9_given 8 (some .int) 1 0 0 D cA z0 [.ref a0, .int x1, .int x2, .int x3] S K := by
  refine x_met RX9 (by decide) rfl ?_
  intro p e s m below meth c C hin hV
  have hl := lv_entry ([.ref a0, .int x1, .int x2, .int x3]) (n := 8) (Nat.le_of_ble_eq_true rfl)
  rw [lg_entry_eq]
  generalize (lg_sl ([.ref a0, .int x1, .int x2, .int x3]) ++ List.replicate (8 - (lg_sl ([.ref a0, .int x1, .int x2, .int x3])).length) Slot.unset).toArray = ls at hl ⊢
  have hl : lv_has ls 8 [(0, .ref a0), (1, .int x1), (2, .int x2), (3, .int x3)] := hl
  obtain ⟨hx, hb, hml, hown, hts, hK, hz, hlk, hr⟩ := id C
  unfold wp_X9_given at hM
  refine lv_aload_n hx hb dX9_given_0 rfl (lv_at hl 0 rfl) ?_
  have hk1 := hM.1
  have hM := hM.2
  obtain ⟨p2, hp2, hM⟩ := hM
  refine x_getR C hV wf_X9_54 hk1 hp2 dX9_given_1 ?_
  refine lv_iload_n hx hb dX9_given_4 rfl (lv_at hl 1 rfl) ?_
  have hk3 := hM.1
  have hM := hM.2
  have hi4 := hM.1
  have hM := hM.2
  obtain ⟨p5, hp5, hM⟩ := hM
  refine x_aald C hV hk3 (by decide) rfl hi4 hp5 dX9_given_5 ?_
  refine lv_astore (lv' := [(4, .ref p5), (0, .ref a0), (1, .int x1), (2, .int x2), (3, .int x3)]) hx hb dX9_given_6 hl (by decide) rfl (fun ls hl => ?_)
  refine lv_aload hx hb dX9_given_8 (lv_at hl 0 rfl) ?_
  have hk6 := hM.1
  have hM := hM.2
  refine x_getI C hV wf_X9_76 hk6 dX9_given_10 ?_
  refine lv_iconst (v := 1) hx hb dX9_given_13 (by decide) ?_
  refine lv_icmp_ne (tgt := 23) hx hb dX9_given_14 (by decide) (fun c7 => ?_) (fun c7 => ?_)
  · have hM := ite_f c7 hM
    refine lv_iconst (v := 0) hx hb dX9_given_23 (by decide) ?_
    refine lv_istore (lv' := [(5, .int 0), (4, .ref p5), (0, .ref a0), (1, .int x1), (2, .int x2), (3, .int x3)]) hx hb dX9_given_24 hl (by decide) rfl (fun ls hl => ?_)
    refine lv_iconst (v := 0) hx hb dX9_given_26 (by decide) ?_
    refine lv_istore (lv' := [(6, .int 0), (5, .int 0), (4, .ref p5), (0, .ref a0), (1, .int x1), (2, .int x2), (3, .int x3)]) hx hb dX9_given_27 hl (by decide) rfl (fun ls hl => ?_)
    exact tq_X9_given_29 C N _ _ _ _ _ _ _ _ _ _ hM hV (lv_sub hl [3, 5, 6, 2, 1, 0] rfl)
  have hM := ite_t c7 hM
  refine lv_aload hx hb dX9_given_17 (lv_at hl 0 rfl) ?_
  refine x_getI C hV wf_X9_79 hk6 dX9_given_19 ?_
  exact x_iret C hV hM dX9_given_22

def wp_X9_farFrom (N : Nat) (S : PS) (a0 : Nat) (x1 : Int32) (x2 : Int32) (K : Int32 → PS → Prop) : Prop := S.K a0 = 10 ∧ ∃ p2 : Nat, S.R 651 a0 = some p2 ∧ S.K p2 = 20 ∧ vp_in x2 (S.ln p2) ∧ ∃ p5 : Nat, S.R 650 a0 = some p5 ∧ S.K p5 = 20 ∧ vp_in x2 (S.ln p5) ∧ ∃ p8 : Nat, S.R 649 a0 = some p8 ∧ S.K p8 = 20 ∧ vp_in x2 (S.ln p8) ∧ wp_X9_given N S a0 x1 (S.A p5 x2.toNatClampNeg) (S.A p8 x2.toNatClampNeg) (fun r12 S11 => K (if 0 ≤ ((S.A p2 x2.toNatClampNeg) - r12) then ((S.A p2 x2.toNatClampNeg) - r12) else 0 - ((S.A p2 x2.toNatClampNeg) - r12)) S11)
set_option maxHeartbeats 4000000 in
set_option maxRecDepth 100000 in
theorem c_X9_farFrom {l : Launch} {D : DX} {cA : Nat → ClassId} {z0 N : Nat} {S : PS} {a0 : Nat} {x1 : Int32} {x2 : Int32} {K : Int32 → PS → Prop} (hM : wp_X9_farFrom N S a0 x1 x2 K) : MetI l yX9_farFrom cX9_farFrom 3 (some .int) 2 0 0 D cA z0 [.ref a0, .int x1, .int x2] S K := by
  refine x_met RX9 (by decide) rfl ?_
  intro p e s m below meth c C hin hV
  have hl := lv_entry ([.ref a0, .int x1, .int x2]) (n := 3) (Nat.le_of_ble_eq_true rfl)
  rw [lg_entry_eq]
  generalize (lg_sl ([.ref a0, .int x1, .int x2]) ++ List.replicate (3 - (lg_sl ([.ref a0, .int x1, .int x2])).length) Slot.unset).toArray = ls at hl ⊢
  have hl : lv_has ls 3 [(0, .ref a0), (1, .int x1), (2, .int x2)] := hl
  obtain ⟨hx, hb, hml, hown, hts, hK, hz, hlk, hr⟩ := id C
  unfold wp_X9_farFrom at hM
  refine lv_aload_n hx hb dX9_farFrom_0 rfl (lv_at hl 0 rfl) ?_
  have hk1 := hM.1
  have hM := hM.2
  obtain ⟨p2, hp2, hM⟩ := hM
  refine x_getR C hV wf_X9_49 hk1 hp2 dX9_farFrom_1 ?_
  refine lv_iload_n hx hb dX9_farFrom_4 rfl (lv_at hl 2 rfl) ?_
  have hk3 := hM.1
  have hM := hM.2
  have hi4 := hM.1
  have hM := hM.2
  refine x_iald C hV hk3 hi4 dX9_farFrom_5 ?_
  refine lv_aload_n hx hb dX9_farFrom_6 rfl (lv_at hl 0 rfl) ?_
  refine lv_iload_n hx hb dX9_farFrom_7 rfl (lv_at hl 1 rfl) ?_
  refine lv_aload_n hx hb dX9_farFrom_8 rfl (lv_at hl 0 rfl) ?_
  obtain ⟨p5, hp5, hM⟩ := hM
  refine x_getR C hV wf_X9_46 hk1 hp5 dX9_farFrom_9 ?_
  refine lv_iload_n hx hb dX9_farFrom_12 rfl (lv_at hl 2 rfl) ?_
  have hk6 := hM.1
  have hM := hM.2
  have hi7 := hM.1
  have hM := hM.2
  refine x_iald C hV hk6 hi7 dX9_farFrom_13 ?_
  refine lv_aload_n hx hb dX9_farFrom_14 rfl (lv_at hl 0 rfl) ?_
  obtain ⟨p8, hp8, hM⟩ := hM
  refine x_getR C hV wf_X9_42 hk1 hp8 dX9_farFrom_15 ?_
  refine lv_iload_n hx hb dX9_farFrom_18 rfl (lv_at hl 2 rfl) ?_
  have hk9 := hM.1
  have hM := hM.2
  have hi10 := hM.1
  have hM := hM.2
  refine x_iald C hV hk9 hi10 dX9_farFrom_19 ?_
  refine x_ci hV (x_runV (As := [.int x1, .int (S.A p5 x2.toNatClampNeg), .int (S.A p8 x2.toNatClampNeg)]) (rest := [.int (S.A p2 x2.toNatClampNeg)]) C hV mi_X9_given wl_X9_101 hk1 (c_X9_given hM) ⟨by decide, by decide⟩ rfl hl.1 (Nat.le_of_ble_eq_true rfl) dX9_farFrom_20 ⟨Nat.zero_le _, Nat.zero_le _⟩) (fun r12 S11 H locs hV hM => ?_)
  refine lv_isub hx hb dX9_farFrom_23 ?_
  refine x_mabs C hl.1 wl_X9_105 (by decide) (by decide) (Nat.zero_le _) (Nat.zero_le _) (Nat.le_of_ble_eq_true rfl) dX9_farFrom_24 ?_
  exact x_iret C hV hM dX9_farFrom_27

def wp_X9_hasStory (N : Nat) (S : PS) (a0 : Nat) (x1 : Int32) (K : Int32 → PS → Prop) : Prop := if x1 < 0 then (K 0 S) else (S.K a0 = 10 ∧ if (S.I 646 a0) ≤ x1 then (K 0 S) else (K 1 S))
set_option maxHeartbeats 4000000 in
set_option maxRecDepth 100000 in
theorem c_X9_hasStory {l : Launch} {D : DX} {cA : Nat → ClassId} {z0 N : Nat} {S : PS} {a0 : Nat} {x1 : Int32} {K : Int32 → PS → Prop} (hM : wp_X9_hasStory N S a0 x1 K) : MetI l yX9_hasStory cX9_hasStory 2 (some .boolean) 0 0 0 D cA z0 [.ref a0, .int x1] S (fun r S => (r = 0 ∨ r = 1) ∧ K r S) := by
  refine x_met RX9 (by decide) rfl ?_
  intro p e s m below meth c C hin hV
  have hl := lv_entry ([.ref a0, .int x1]) (n := 2) (Nat.le_of_ble_eq_true rfl)
  rw [lg_entry_eq]
  generalize (lg_sl ([.ref a0, .int x1]) ++ List.replicate (2 - (lg_sl ([.ref a0, .int x1])).length) Slot.unset).toArray = ls at hl ⊢
  have hl : lv_has ls 2 [(0, .ref a0), (1, .int x1)] := hl
  obtain ⟨hx, hb, hml, hown, hts, hK, hz, hlk, hr⟩ := id C
  unfold wp_X9_hasStory at hM
  refine lv_iload_n hx hb dX9_hasStory_0 rfl (lv_at hl 1 rfl) ?_
  refine lv_if_lt (tgt := 16) hx hb dX9_hasStory_1 (by decide) (fun c1 => ?_) (fun c1 => ?_)
  · have hM := ite_t c1 hM
    refine lv_iconst (v := 0) hx hb dX9_hasStory_16 (by decide) ?_
    exact x_zret C hV (by decide) hM dX9_hasStory_17
  have hM := ite_f c1 hM
  refine lv_iload_n hx hb dX9_hasStory_4 rfl (lv_at hl 1 rfl) ?_
  refine lv_aload_n hx hb dX9_hasStory_5 rfl (lv_at hl 0 rfl) ?_
  have hk2 := hM.1
  have hM := hM.2
  refine x_getI C hV wf_X9_30 hk2 dX9_hasStory_6 ?_
  refine lv_icmp_ge (tgt := 16) hx hb dX9_hasStory_9 (by decide) (fun c3 => ?_) (fun c3 => ?_)
  · have hM := ite_t c3 hM
    refine lv_iconst (v := 0) hx hb dX9_hasStory_16 (by decide) ?_
    exact x_zret C hV (by decide) hM dX9_hasStory_17
  have hM := ite_f c3 hM
  refine lv_iconst (v := 1) hx hb dX9_hasStory_12 (by decide) ?_
  refine lv_goto (tgt := 17) hx hb dX9_hasStory_13 (by decide) ?_
  exact x_zret C hV (by decide) hM dX9_hasStory_17

def wq_X9_hoursOf_4 (N : Nat) (K : Int32 → PS → Prop) : Nat → PS → Nat → Int32 → Int32 → Int32 → Prop
  | 0, _, _, _, _, _ => False
  | n + 1, S, a0, x1, x2, x3 => S.K a0 = 10 ∧ if (S.I 644 a0) ≤ x3 then (K x2 S) else (if ((x1 >>> (x3 &&& 31)) &&& 1) = 1 then (∃ p4 : Nat, S.R 648 a0 = some p4 ∧ S.K p4 = 23 ∧ vp_in x3 (S.ln p4) ∧ ∃ p7 : Nat, S.Q p4 x3.toNatClampNeg = some p7 ∧ S.K p7 = 2 ∧ ∀ v9 : Int32, v9 = (x2 + (S.I 132 p7)) → wq_X9_hoursOf_4 N K n S a0 x1 v9 (x3 + 1)) else (wq_X9_hoursOf_4 N K n S a0 x1 x2 (x3 + 1)))
def wp_X9_hoursOf (N : Nat) (S : PS) (a0 : Nat) (x1 : Int32) (K : Int32 → PS → Prop) : Prop := wq_X9_hoursOf_4 N K N S a0 x1 0 0
set_option maxHeartbeats 4000000 in
set_option maxRecDepth 100000 in
theorem tq_X9_hoursOf_4 {p : Program} {l : Launch} {e : Env} {s : State} {m : MethodId} {args : Array Value} {below : List Frame} {meth : Method} {c : Code} {D : DX} {cA : Nat → ClassId} {z0 N : Nat} {K : Int32 → PS → Prop} (C : CX p s m args meth c cX9_hoursOf 4 RX9 (some .int) D cA z0) : ∀ (n : Nat) (S : PS) (a0 : Nat) (x1 : Int32) (x2 : Int32) (x3 : Int32) (H : Heap) (locs : List Loc) (ls : Array Slot), wq_X9_hoursOf_4 N K n S a0 x1 x2 x3 → XV D cA z0 s S H locs → lv_has ls 4 [(0, .ref a0), (1, .int x1), (2, .int x2), (3, .int x3)] → W p l e (rmd 0 0 0) s m args below meth c H locs 0 0 (MQ below (va_Qi K (XK D cA z0) (zA z0)) args s 0 0 (zA z0)) (F0 m 4 ls []) := by
  obtain ⟨hx, hb, hml, hown, hts, hK, hz, hlk, hr⟩ := id C
  intro n
  induction n with
  | zero => intro S a0 x1 x2 x3 H locs ls hM; exact absurd hM id
  | succ n ih =>
    intro S a0 x1 x2 x3 H locs ls hM hV hl
    rw [wq_X9_hoursOf_4.eq_2] at hM
    refine lv_iload_n hx hb dX9_hoursOf_4 rfl (lv_at hl 3 rfl) ?_
    refine lv_aload_n hx hb dX9_hoursOf_5 rfl (lv_at hl 0 rfl) ?_
    have hk1 := hM.1
    have hM := hM.2
    refine x_getI C hV wf_X9_24 hk1 dX9_hoursOf_6 ?_
    refine lv_icmp_ge (tgt := 39) hx hb dX9_hoursOf_9 (by decide) (fun c2 => ?_) (fun c2 => ?_)
    · have hM := ite_t c2 hM
      refine lv_iload_n hx hb dX9_hoursOf_39 rfl (lv_at hl 2 rfl) ?_
      exact x_iret C hV hM dX9_hoursOf_40
    have hM := ite_f c2 hM
    refine lv_iload_n hx hb dX9_hoursOf_12 rfl (lv_at hl 1 rfl) ?_
    refine lv_iload_n hx hb dX9_hoursOf_13 rfl (lv_at hl 3 rfl) ?_
    refine lv_ishr hx hb dX9_hoursOf_14 ?_
    refine lv_iconst (v := 1) hx hb dX9_hoursOf_15 (by decide) ?_
    refine lv_iand hx hb dX9_hoursOf_16 ?_
    refine lv_iconst (v := 1) hx hb dX9_hoursOf_17 (by decide) ?_
    refine lv_icmp_ne (tgt := 33) hx hb dX9_hoursOf_18 (by decide) (fun c3 => ?_) (fun c3 => ?_)
    · have hM := ite_f c3 hM
      refine lv_iinc (v := (x3 + 1)) (lv' := [(3, .int (x3 + 1)), (0, .ref a0), (1, .int x1), (2, .int x2)]) hx hb dX9_hoursOf_33 hl (k := 3) rfl rfl (by decide) rfl (fun ls hl => ?_)
      refine lv_goto (tgt := 4) hx hb dX9_hoursOf_36 (by decide) ?_
      exact ih _ _ _ _ _ _ _ _ hM hV (lv_sub hl [1, 2, 3, 0] rfl)
    have hM := ite_t c3 hM
    refine lv_iload_n hx hb dX9_hoursOf_21 rfl (lv_at hl 2 rfl) ?_
    refine lv_aload_n hx hb dX9_hoursOf_22 rfl (lv_at hl 0 rfl) ?_
    obtain ⟨p4, hp4, hM⟩ := hM
    refine x_getR C hV wf_X9_38 hk1 hp4 dX9_hoursOf_23 ?_
    refine lv_iload_n hx hb dX9_hoursOf_26 rfl (lv_at hl 3 rfl) ?_
    have hk5 := hM.1
    have hM := hM.2
    have hi6 := hM.1
    have hM := hM.2
    obtain ⟨p7, hp7, hM⟩ := hM
    refine x_aald C hV hk5 (by decide) rfl hi6 hp7 dX9_hoursOf_27 ?_
    have hk8 := hM.1
    have hM := hM.2
    refine x_getI C hV wf_X9_131 hk8 dX9_hoursOf_28 ?_
    refine lv_iadd hx hb dX9_hoursOf_31 ?_
    refine lv_topi (fun v9 ev9 => ?_)
    have hM := hM v9 ev9
    refine lv_istore_n (lv' := [(2, .int v9), (0, .ref a0), (1, .int x1), (3, .int x3)]) hx hb dX9_hoursOf_32 rfl hl (by decide) rfl (fun ls hl => ?_)
    refine lv_iinc (v := (x3 + 1)) (lv' := [(3, .int (x3 + 1)), (2, .int v9), (0, .ref a0), (1, .int x1)]) hx hb dX9_hoursOf_33 hl (k := 3) rfl rfl (by decide) rfl (fun ls hl => ?_)
    refine lv_goto (tgt := 4) hx hb dX9_hoursOf_36 (by decide) ?_
    exact ih _ _ _ _ _ _ _ _ hM hV (lv_sub hl [2, 3, 1, 0] rfl)
set_option maxHeartbeats 4000000 in
set_option maxRecDepth 100000 in
theorem c_X9_hoursOf {l : Launch} {D : DX} {cA : Nat → ClassId} {z0 N : Nat} {S : PS} {a0 : Nat} {x1 : Int32} {K : Int32 → PS → Prop} (hM : wp_X9_hoursOf N S a0 x1 K) : MetI l yX9_hoursOf cX9_hoursOf 4 (some .int) 0 0 0 D cA z0 [.ref a0, .int x1] S K := by
  refine x_met RX9 (by decide) rfl ?_
  intro p e s m below meth c C hin hV
  have hl := lv_entry ([.ref a0, .int x1]) (n := 4) (Nat.le_of_ble_eq_true rfl)
  rw [lg_entry_eq]
  generalize (lg_sl ([.ref a0, .int x1]) ++ List.replicate (4 - (lg_sl ([.ref a0, .int x1])).length) Slot.unset).toArray = ls at hl ⊢
  have hl : lv_has ls 4 [(0, .ref a0), (1, .int x1)] := hl
  obtain ⟨hx, hb, hml, hown, hts, hK, hz, hlk, hr⟩ := id C
  unfold wp_X9_hoursOf at hM
  refine lv_iconst (v := 0) hx hb dX9_hoursOf_0 (by decide) ?_
  refine lv_istore_n (lv' := [(2, .int 0), (0, .ref a0), (1, .int x1)]) hx hb dX9_hoursOf_1 rfl hl (by decide) rfl (fun ls hl => ?_)
  refine lv_iconst (v := 0) hx hb dX9_hoursOf_2 (by decide) ?_
  refine lv_istore_n (lv' := [(3, .int 0), (2, .int 0), (0, .ref a0), (1, .int x1)]) hx hb dX9_hoursOf_3 rfl hl (by decide) rfl (fun ls hl => ?_)
  exact tq_X9_hoursOf_4 C N _ _ _ _ _ _ _ _ hM hV (lv_sub hl [2, 3, 1, 0] rfl)

def wq_X9_missed_4 (N : Nat) (K : Int32 → PS → Prop) : Nat → PS → Nat → Int32 → Int32 → Int32 → Prop
  | 0, _, _, _, _, _ => False
  | n + 1, S, a0, x1, x2, x3 => S.K a0 = 10 ∧ if (S.I 645 a0) ≤ x3 then (K x2 S) else (wp_X9_farFrom N S a0 x1 x3 (fun r4 S3 => ∀ v5 : Int32, v5 = (x2 + r4) → wq_X9_missed_4 N K n S3 a0 x1 v5 (x3 + 1)))
def wp_X9_missed (N : Nat) (S : PS) (a0 : Nat) (x1 : Int32) (K : Int32 → PS → Prop) : Prop := wq_X9_missed_4 N K N S a0 x1 0 0
set_option maxHeartbeats 4000000 in
set_option maxRecDepth 100000 in
theorem tq_X9_missed_4 {p : Program} {l : Launch} {e : Env} {s : State} {m : MethodId} {args : Array Value} {below : List Frame} {meth : Method} {c : Code} {D : DX} {cA : Nat → ClassId} {z0 N : Nat} {K : Int32 → PS → Prop} (C : CX p s m args meth c cX9_missed 4 RX9 (some .int) D cA z0) : ∀ (n : Nat) (S : PS) (a0 : Nat) (x1 : Int32) (x2 : Int32) (x3 : Int32) (H : Heap) (locs : List Loc) (ls : Array Slot), wq_X9_missed_4 N K n S a0 x1 x2 x3 → XV D cA z0 s S H locs → lv_has ls 4 [(0, .ref a0), (1, .int x1), (2, .int x2), (3, .int x3)] → W p l e (rmd 3 0 0) s m args below meth c H locs 0 0 (MQ below (va_Qi K (XK D cA z0) (zA z0)) args s 0 0 (zA z0)) (F0 m 4 ls []) := by
  obtain ⟨hx, hb, hml, hown, hts, hK, hz, hlk, hr⟩ := id C
  intro n
  induction n with
  | zero => intro S a0 x1 x2 x3 H locs ls hM; exact absurd hM id
  | succ n ih =>
    intro S a0 x1 x2 x3 H locs ls hM hV hl
    rw [wq_X9_missed_4.eq_2] at hM
    refine lv_iload_n hx hb dX9_missed_4 rfl (lv_at hl 3 rfl) ?_
    refine lv_aload_n hx hb dX9_missed_5 rfl (lv_at hl 0 rfl) ?_
    have hk1 := hM.1
    have hM := hM.2
    refine x_getI C hV wf_X9_27 hk1 dX9_missed_6 ?_
    refine lv_icmp_ge (tgt := 27) hx hb dX9_missed_9 (by decide) (fun c2 => ?_) (fun c2 => ?_)
    · have hM := ite_t c2 hM
      refine lv_iload_n hx hb dX9_missed_27 rfl (lv_at hl 2 rfl) ?_
      exact x_iret C hV hM dX9_missed_28
    have hM := ite_f c2 hM
    refine lv_iload_n hx hb dX9_missed_12 rfl (lv_at hl 2 rfl) ?_
    refine lv_aload_n hx hb dX9_missed_13 rfl (lv_at hl 0 rfl) ?_
    refine lv_iload_n hx hb dX9_missed_14 rfl (lv_at hl 1 rfl) ?_
    refine lv_iload_n hx hb dX9_missed_15 rfl (lv_at hl 3 rfl) ?_
    refine x_ci hV (x_runV (As := [.int x1, .int x3]) (rest := [.int x2]) C hV mi_X9_farFrom wl_X9_110 hk1 (c_X9_farFrom hM) ⟨by decide, by decide⟩ rfl hl.1 (Nat.le_of_ble_eq_true rfl) dX9_missed_16 ⟨Nat.zero_le _, Nat.zero_le _⟩) (fun r4 S3 H locs hV hM => ?_)
    refine lv_iadd hx hb dX9_missed_19 ?_
    refine lv_topi (fun v5 ev5 => ?_)
    have hM := hM v5 ev5
    refine lv_istore_n (lv' := [(2, .int v5), (0, .ref a0), (1, .int x1), (3, .int x3)]) hx hb dX9_missed_20 rfl hl (by decide) rfl (fun ls hl => ?_)
    refine lv_iinc (v := (x3 + 1)) (lv' := [(3, .int (x3 + 1)), (2, .int v5), (0, .ref a0), (1, .int x1)]) hx hb dX9_missed_21 hl (k := 3) rfl rfl (by decide) rfl (fun ls hl => ?_)
    refine lv_goto (tgt := 4) hx hb dX9_missed_24 (by decide) ?_
    exact ih _ _ _ _ _ _ _ _ hM hV (lv_sub hl [2, 3, 1, 0] rfl)
set_option maxHeartbeats 4000000 in
set_option maxRecDepth 100000 in
theorem c_X9_missed {l : Launch} {D : DX} {cA : Nat → ClassId} {z0 N : Nat} {S : PS} {a0 : Nat} {x1 : Int32} {K : Int32 → PS → Prop} (hM : wp_X9_missed N S a0 x1 K) : MetI l yX9_missed cX9_missed 4 (some .int) 3 0 0 D cA z0 [.ref a0, .int x1] S K := by
  refine x_met RX9 (by decide) rfl ?_
  intro p e s m below meth c C hin hV
  have hl := lv_entry ([.ref a0, .int x1]) (n := 4) (Nat.le_of_ble_eq_true rfl)
  rw [lg_entry_eq]
  generalize (lg_sl ([.ref a0, .int x1]) ++ List.replicate (4 - (lg_sl ([.ref a0, .int x1])).length) Slot.unset).toArray = ls at hl ⊢
  have hl : lv_has ls 4 [(0, .ref a0), (1, .int x1)] := hl
  obtain ⟨hx, hb, hml, hown, hts, hK, hz, hlk, hr⟩ := id C
  unfold wp_X9_missed at hM
  refine lv_iconst (v := 0) hx hb dX9_missed_0 (by decide) ?_
  refine lv_istore_n (lv' := [(2, .int 0), (0, .ref a0), (1, .int x1)]) hx hb dX9_missed_1 rfl hl (by decide) rfl (fun ls hl => ?_)
  refine lv_iconst (v := 0) hx hb dX9_missed_2 (by decide) ?_
  refine lv_istore_n (lv' := [(3, .int 0), (2, .int 0), (0, .ref a0), (1, .int x1)]) hx hb dX9_missed_3 rfl hl (by decide) rfl (fun ls hl => ?_)
  exact tq_X9_missed_4 C N _ _ _ _ _ _ _ _ hM hV (lv_sub hl [2, 3, 1, 0] rfl)

def wq_X9_leastMissed_10 (N : Nat) (K : Int32 → PS → Prop) : Nat → PS → Nat → Int32 → Int32 → Int32 → Prop
  | 0, _, _, _, _, _ => False
  | n + 1, S, a0, x1, x2, x3 => S.K a0 = 10 ∧ if (S.I 646 a0) ≤ x3 then (K x1 S) else (wp_X9_missed N S a0 x3 (fun r7 S6 => if x2 ≤ r7 then (wq_X9_leastMissed_10 N K n S6 a0 x1 x2 (x3 + 1)) else (wq_X9_leastMissed_10 N K n S6 a0 x3 r7 (x3 + 1))))
def wp_X9_leastMissed (N : Nat) (S : PS) (a0 : Nat) (K : Int32 → PS → Prop) : Prop := S.K a0 = 10 ∧ wp_X9_missed N S a0 0 (fun r3 S2 => wq_X9_leastMissed_10 N K N S2 a0 0 r3 1)
set_option maxHeartbeats 4000000 in
set_option maxRecDepth 100000 in
theorem tq_X9_leastMissed_10 {p : Program} {l : Launch} {e : Env} {s : State} {m : MethodId} {args : Array Value} {below : List Frame} {meth : Method} {c : Code} {D : DX} {cA : Nat → ClassId} {z0 N : Nat} {K : Int32 → PS → Prop} (C : CX p s m args meth c cX9_leastMissed 5 RX9 (some .int) D cA z0) : ∀ (n : Nat) (S : PS) (a0 : Nat) (x1 : Int32) (x2 : Int32) (x3 : Int32) (H : Heap) (locs : List Loc) (ls : Array Slot), wq_X9_leastMissed_10 N K n S a0 x1 x2 x3 → XV D cA z0 s S H locs → lv_has ls 5 [(0, .ref a0), (1, .int x1), (2, .int x2), (3, .int x3)] → W p l e (rmd 4 0 0) s m args below meth c H locs 0 0 (MQ below (va_Qi K (XK D cA z0) (zA z0)) args s 0 0 (zA z0)) (F0 m 10 ls []) := by
  obtain ⟨hx, hb, hml, hown, hts, hK, hz, hlk, hr⟩ := id C
  intro n
  induction n with
  | zero => intro S a0 x1 x2 x3 H locs ls hM; exact absurd hM id
  | succ n ih =>
    intro S a0 x1 x2 x3 H locs ls hM hV hl
    rw [wq_X9_leastMissed_10.eq_2] at hM
    refine lv_iload_n hx hb dX9_leastMissed_10 rfl (lv_at hl 3 rfl) ?_
    refine lv_aload_n hx hb dX9_leastMissed_11 rfl (lv_at hl 0 rfl) ?_
    have hk4 := hM.1
    have hM := hM.2
    refine x_getI C hV wf_X9_30 hk4 dX9_leastMissed_12 ?_
    refine lv_icmp_ge (tgt := 42) hx hb dX9_leastMissed_15 (by decide) (fun c5 => ?_) (fun c5 => ?_)
    · have hM := ite_t c5 hM
      refine lv_iload_n hx hb dX9_leastMissed_42 rfl (lv_at hl 1 rfl) ?_
      exact x_iret C hV hM dX9_leastMissed_43
    have hM := ite_f c5 hM
    refine lv_aload_n hx hb dX9_leastMissed_18 rfl (lv_at hl 0 rfl) ?_
    refine lv_iload_n hx hb dX9_leastMissed_19 rfl (lv_at hl 3 rfl) ?_
    refine x_ci hV (x_runV (As := [.int x3]) (rest := []) C hV mi_X9_missed wl_X9_113 hk4 (c_X9_missed hM) ⟨by decide, by decide⟩ rfl hl.1 (Nat.le_of_ble_eq_true rfl) dX9_leastMissed_20 ⟨Nat.zero_le _, Nat.zero_le _⟩) (fun r7 S6 H locs hV hM => ?_)
    refine lv_istore (lv' := [(4, .int r7), (0, .ref a0), (1, .int x1), (2, .int x2), (3, .int x3)]) hx hb dX9_leastMissed_23 hl (by decide) rfl (fun ls hl => ?_)
    refine lv_iload hx hb dX9_leastMissed_25 (lv_at hl 0 rfl) ?_
    refine lv_iload_n hx hb dX9_leastMissed_27 rfl (lv_at hl 3 rfl) ?_
    refine lv_icmp_ge (tgt := 36) hx hb dX9_leastMissed_28 (by decide) (fun c8 => ?_) (fun c8 => ?_)
    · have hM := ite_t c8 hM
      refine lv_iinc (v := (x3 + 1)) (lv' := [(3, .int (x3 + 1)), (4, .int r7), (0, .ref a0), (1, .int x1), (2, .int x2)]) hx hb dX9_leastMissed_36 hl (k := 4) rfl rfl (by decide) rfl (fun ls hl => ?_)
      refine lv_goto (tgt := 10) hx hb dX9_leastMissed_39 (by decide) ?_
      exact ih _ _ _ _ _ _ _ _ hM hV (lv_sub hl [2, 3, 4, 0] rfl)
    have hM := ite_f c8 hM
    refine lv_iload_n hx hb dX9_leastMissed_31 rfl (lv_at hl 4 rfl) ?_
    refine lv_istore_n (lv' := [(1, .int x3), (4, .int r7), (0, .ref a0), (2, .int x2), (3, .int x3)]) hx hb dX9_leastMissed_32 rfl hl (by decide) rfl (fun ls hl => ?_)
    refine lv_iload hx hb dX9_leastMissed_33 (lv_at hl 1 rfl) ?_
    refine lv_istore_n (lv' := [(2, .int r7), (1, .int x3), (4, .int r7), (0, .ref a0), (3, .int x3)]) hx hb dX9_leastMissed_35 rfl hl (by decide) rfl (fun ls hl => ?_)
    refine lv_iinc (v := (x3 + 1)) (lv' := [(3, .int (x3 + 1)), (2, .int r7), (1, .int x3), (4, .int r7), (0, .ref a0)]) hx hb dX9_leastMissed_36 hl (k := 4) rfl rfl (by decide) rfl (fun ls hl => ?_)
    refine lv_goto (tgt := 10) hx hb dX9_leastMissed_39 (by decide) ?_
    exact ih _ _ _ _ _ _ _ _ hM hV (lv_sub hl [4, 2, 1, 0] rfl)
set_option maxHeartbeats 4000000 in
set_option maxRecDepth 100000 in
theorem c_X9_leastMissed {l : Launch} {D : DX} {cA : Nat → ClassId} {z0 N : Nat} {S : PS} {a0 : Nat} {K : Int32 → PS → Prop} (hM : wp_X9_leastMissed N S a0 K) : MetI l yX9_leastMissed cX9_leastMissed 5 (some .int) 4 0 0 D cA z0 [.ref a0] S K := by
  refine x_met RX9 (by decide) rfl ?_
  intro p e s m below meth c C hin hV
  have hl := lv_entry ([.ref a0]) (n := 5) (Nat.le_of_ble_eq_true rfl)
  rw [lg_entry_eq]
  generalize (lg_sl ([.ref a0]) ++ List.replicate (5 - (lg_sl ([.ref a0])).length) Slot.unset).toArray = ls at hl ⊢
  have hl : lv_has ls 5 [(0, .ref a0)] := hl
  obtain ⟨hx, hb, hml, hown, hts, hK, hz, hlk, hr⟩ := id C
  unfold wp_X9_leastMissed at hM
  refine lv_iconst (v := 0) hx hb dX9_leastMissed_0 (by decide) ?_
  refine lv_istore_n (lv' := [(1, .int 0), (0, .ref a0)]) hx hb dX9_leastMissed_1 rfl hl (by decide) rfl (fun ls hl => ?_)
  refine lv_aload_n hx hb dX9_leastMissed_2 rfl (lv_at hl 1 rfl) ?_
  refine lv_iconst (v := 0) hx hb dX9_leastMissed_3 (by decide) ?_
  have hk1 := hM.1
  have hM := hM.2
  refine x_ci hV (x_runV (As := [.int 0]) (rest := []) C hV mi_X9_missed wl_X9_113 hk1 (c_X9_missed hM) ⟨by decide, by decide⟩ rfl hl.1 (Nat.le_of_ble_eq_true rfl) dX9_leastMissed_4 ⟨Nat.zero_le _, Nat.zero_le _⟩) (fun r3 S2 H locs hV hM => ?_)
  refine lv_istore_n (lv' := [(2, .int r3), (1, .int 0), (0, .ref a0)]) hx hb dX9_leastMissed_7 rfl hl (by decide) rfl (fun ls hl => ?_)
  refine lv_iconst (v := 1) hx hb dX9_leastMissed_8 (by decide) ?_
  refine lv_istore_n (lv' := [(3, .int 1), (2, .int r3), (1, .int 0), (0, .ref a0)]) hx hb dX9_leastMissed_9 rfl hl (by decide) rfl (fun ls hl => ?_)
  exact tq_X9_leastMissed_10 C N _ _ _ _ _ _ _ _ hM hV (lv_sub hl [3, 2, 1, 0] rfl)

def wq_X9_orderRuns_76 (N : Nat) (K : Int32 → PS → Prop) (k_5 : PS → Nat → Int32 → Nat → Int32 → Int32 → Prop) (S : PS) (a0 : Nat) (x1 : Int32) (a2 : Nat) (x3 : Int32) (x4 : Int32) (x5 : Int32) : Prop := S.K a2 = 20 ∧ vp_in x5 (S.ln a2) ∧ ∀ S12 : PS, S12 = S.setA a2 x5.toNatClampNeg x4 → k_5 S12 a0 x1 a2 (x3 + 1) (x4 + 1)
def wq_X9_orderRuns_34 (N : Nat) (K : Int32 → PS → Prop) (k_5 : PS → Nat → Int32 → Nat → Int32 → Int32 → Prop) : Nat → PS → Nat → Int32 → Nat → Int32 → Int32 → Int32 → Prop
  | 0, _, _, _, _, _, _, _ => False
  | n + 1, S, a0, x1, a2, x3, x4, x5 => if x5 ≤ 0 then (wq_X9_orderRuns_76 N K k_5 S a0 x1 a2 x3 x4 x5) else (S.K a0 = 10 ∧ ∃ p14 : Nat, S.R 649 a0 = some p14 ∧ S.K a2 = 20 ∧ vp_in (x5 - 1) (S.ln a2) ∧ S.K p14 = 20 ∧ vp_in (S.A a2 (x5 - 1).toNatClampNeg) (S.ln p14) ∧ ∃ p19 : Nat, S.R 649 a0 = some p19 ∧ S.K p19 = 20 ∧ vp_in x4 (S.ln p19) ∧ if (S.A p14 (S.A a2 (x5 - 1).toNatClampNeg).toNatClampNeg) ≤ (S.A p19 x4.toNatClampNeg) then (wq_X9_orderRuns_76 N K k_5 S a0 x1 a2 x3 x4 x5) else (vp_in (x5 - 1) (S.ln a2) ∧ vp_in x5 (S.ln a2) ∧ ∀ S25 : PS, S25 = S.setA a2 x5.toNatClampNeg (S.A a2 (x5 - 1).toNatClampNeg) → wq_X9_orderRuns_34 N K k_5 n S25 a0 x1 a2 x3 x4 (x5 + (-1))))
def wq_X9_orderRuns_5 (N : Nat) (K : Int32 → PS → Prop) : Nat → PS → Nat → Int32 → Nat → Int32 → Int32 → Prop
  | 0, _, _, _, _, _, _ => False
  | n + 1, S, a0, x1, a2, x3, x4 => S.K a0 = 10 ∧ if (S.I 645 a0) ≤ x4 then (K x3 S) else (S.K a2 = 20 ∧ if (nI (S.ln a2)) ≤ x3 then (K x3 S) else (∃ p5 : Nat, S.R 650 a0 = some p5 ∧ S.K p5 = 20 ∧ vp_in x4 (S.ln p5) ∧ if (S.A p5 x4.toNatClampNeg) = x1 then (wq_X9_orderRuns_34 N K (fun S a0 x1 a2 x3 x4 => wq_X9_orderRuns_5 N K n S a0 x1 a2 x3 x4) N S a0 x1 a2 x3 x4 x3) else (wq_X9_orderRuns_5 N K n S a0 x1 a2 x3 (x4 + 1))))
def wp_X9_orderRuns (N : Nat) (S : PS) (a0 : Nat) (x1 : Int32) (a2 : Nat) (K : Int32 → PS → Prop) : Prop := wq_X9_orderRuns_5 N K N S a0 x1 a2 0 0
set_option maxHeartbeats 4000000 in
set_option maxRecDepth 100000 in
theorem tq_X9_orderRuns_76 {p : Program} {l : Launch} {e : Env} {s : State} {m : MethodId} {args : Array Value} {below : List Frame} {meth : Method} {c : Code} {D : DX} {cA : Nat → ClassId} {z0 N : Nat} {K : Int32 → PS → Prop} {k_5 : PS → Nat → Int32 → Nat → Int32 → Int32 → Prop} (C : CX p s m args meth c cX9_orderRuns 6 RX9 (some .int) D cA z0) (H_5 : ∀ (S : PS) (a0 : Nat) (x1 : Int32) (a2 : Nat) (x3 : Int32) (x4 : Int32) (H : Heap) (locs : List Loc) (ls : Array Slot), k_5 S a0 x1 a2 x3 x4 → XV D cA z0 s S H locs → lv_has ls 6 [(0, .ref a0), (1, .int x1), (2, .ref a2), (3, .int x3), (4, .int x4)] → W p l e (rmd 0 0 0) s m args below meth c H locs 0 0 (MQ below (va_Qi K (XK D cA z0) (zA z0)) args s 0 0 (zA z0)) (F0 m 5 ls [])) : ∀ (S : PS) (a0 : Nat) (x1 : Int32) (a2 : Nat) (x3 : Int32) (x4 : Int32) (x5 : Int32) (H : Heap) (locs : List Loc) (ls : Array Slot), wq_X9_orderRuns_76 N K k_5 S a0 x1 a2 x3 x4 x5 → XV D cA z0 s S H locs → lv_has ls 6 [(0, .ref a0), (1, .int x1), (2, .ref a2), (3, .int x3), (4, .int x4), (5, .int x5)] → W p l e (rmd 0 0 0) s m args below meth c H locs 0 0 (MQ below (va_Qi K (XK D cA z0) (zA z0)) args s 0 0 (zA z0)) (F0 m 76 ls []) := by
  obtain ⟨hx, hb, hml, hown, hts, hK, hz, hlk, hr⟩ := id C
  intro S a0 x1 a2 x3 x4 x5 H locs ls hM hV hl
  unfold wq_X9_orderRuns_76 at hM
  refine lv_aload_n hx hb dX9_orderRuns_76 rfl (lv_at hl 2 rfl) ?_
  refine lv_iload hx hb dX9_orderRuns_77 (lv_at hl 5 rfl) ?_
  refine lv_iload hx hb dX9_orderRuns_79 (lv_at hl 4 rfl) ?_
  have hk10 := hM.1
  have hM := hM.2
  have hi11 := hM.1
  have hM := hM.2
  obtain ⟨S12, eS12⟩ : ∃ z : PS, z = S.setA a2 x5.toNatClampNeg x4 := ⟨_, rfl⟩
  have hM := hM S12 eS12
  refine x_iast C hV hk10 hi11 eS12 dX9_orderRuns_81 (fun H locs hV => ?_)
  refine lv_iinc (v := (x3 + 1)) (lv' := [(3, .int (x3 + 1)), (0, .ref a0), (1, .int x1), (2, .ref a2), (4, .int x4), (5, .int x5)]) hx hb dX9_orderRuns_82 hl (k := 3) rfl rfl (by decide) rfl (fun ls hl => ?_)
  refine lv_iinc (v := (x4 + 1)) (lv' := [(4, .int (x4 + 1)), (3, .int (x3 + 1)), (0, .ref a0), (1, .int x1), (2, .ref a2), (5, .int x5)]) hx hb dX9_orderRuns_85 hl (k := 4) rfl rfl (by decide) rfl (fun ls hl => ?_)
  refine lv_goto (tgt := 5) hx hb dX9_orderRuns_88 (by decide) ?_
  exact H_5 _ _ _ _ _ _ _ _ _ hM hV (lv_sub hl [2, 3, 4, 1, 0] rfl)
set_option maxHeartbeats 4000000 in
set_option maxRecDepth 100000 in
theorem tq_X9_orderRuns_34 {p : Program} {l : Launch} {e : Env} {s : State} {m : MethodId} {args : Array Value} {below : List Frame} {meth : Method} {c : Code} {D : DX} {cA : Nat → ClassId} {z0 N : Nat} {K : Int32 → PS → Prop} {k_5 : PS → Nat → Int32 → Nat → Int32 → Int32 → Prop} (C : CX p s m args meth c cX9_orderRuns 6 RX9 (some .int) D cA z0) (H_5 : ∀ (S : PS) (a0 : Nat) (x1 : Int32) (a2 : Nat) (x3 : Int32) (x4 : Int32) (H : Heap) (locs : List Loc) (ls : Array Slot), k_5 S a0 x1 a2 x3 x4 → XV D cA z0 s S H locs → lv_has ls 6 [(0, .ref a0), (1, .int x1), (2, .ref a2), (3, .int x3), (4, .int x4)] → W p l e (rmd 0 0 0) s m args below meth c H locs 0 0 (MQ below (va_Qi K (XK D cA z0) (zA z0)) args s 0 0 (zA z0)) (F0 m 5 ls [])) : ∀ (n : Nat) (S : PS) (a0 : Nat) (x1 : Int32) (a2 : Nat) (x3 : Int32) (x4 : Int32) (x5 : Int32) (H : Heap) (locs : List Loc) (ls : Array Slot), wq_X9_orderRuns_34 N K k_5 n S a0 x1 a2 x3 x4 x5 → XV D cA z0 s S H locs → lv_has ls 6 [(0, .ref a0), (1, .int x1), (2, .ref a2), (3, .int x3), (4, .int x4), (5, .int x5)] → W p l e (rmd 0 0 0) s m args below meth c H locs 0 0 (MQ below (va_Qi K (XK D cA z0) (zA z0)) args s 0 0 (zA z0)) (F0 m 34 ls []) := by
  obtain ⟨hx, hb, hml, hown, hts, hK, hz, hlk, hr⟩ := id C
  intro n
  induction n with
  | zero => intro S a0 x1 a2 x3 x4 x5 H locs ls hM; exact absurd hM id
  | succ n ih =>
    intro S a0 x1 a2 x3 x4 x5 H locs ls hM hV hl
    rw [wq_X9_orderRuns_34.eq_2] at hM
    refine lv_iload hx hb dX9_orderRuns_34 (lv_at hl 5 rfl) ?_
    refine lv_if_le (tgt := 76) hx hb dX9_orderRuns_36 (by decide) (fun c9 => ?_) (fun c9 => ?_)
    · have hM := ite_t c9 hM
      exact tq_X9_orderRuns_76 C H_5 _ _ _ _ _ _ _ _ _ _ hM hV (lv_sub hl [0, 1, 2, 3, 4, 5] rfl)
    have hM := ite_f c9 hM
    refine lv_aload_n hx hb dX9_orderRuns_39 rfl (lv_at hl 0 rfl) ?_
    have hk13 := hM.1
    have hM := hM.2
    obtain ⟨p14, hp14, hM⟩ := hM
    refine x_getR C hV wf_X9_42 hk13 hp14 dX9_orderRuns_40 ?_
    refine lv_aload_n hx hb dX9_orderRuns_43 rfl (lv_at hl 2 rfl) ?_
    refine lv_iload hx hb dX9_orderRuns_44 (lv_at hl 5 rfl) ?_
    refine lv_iconst (v := 1) hx hb dX9_orderRuns_46 (by decide) ?_
    refine lv_isub hx hb dX9_orderRuns_47 ?_
    have hk15 := hM.1
    have hM := hM.2
    have hi16 := hM.1
    have hM := hM.2
    refine x_iald C hV hk15 hi16 dX9_orderRuns_48 ?_
    have hk17 := hM.1
    have hM := hM.2
    have hi18 := hM.1
    have hM := hM.2
    refine x_iald C hV hk17 hi18 dX9_orderRuns_49 ?_
    refine lv_aload_n hx hb dX9_orderRuns_50 rfl (lv_at hl 0 rfl) ?_
    obtain ⟨p19, hp19, hM⟩ := hM
    refine x_getR C hV wf_X9_42 hk13 hp19 dX9_orderRuns_51 ?_
    refine lv_iload hx hb dX9_orderRuns_54 (lv_at hl 4 rfl) ?_
    have hk20 := hM.1
    have hM := hM.2
    have hi21 := hM.1
    have hM := hM.2
    refine x_iald C hV hk20 hi21 dX9_orderRuns_56 ?_
    refine lv_icmp_le (tgt := 76) hx hb dX9_orderRuns_57 (by decide) (fun c22 => ?_) (fun c22 => ?_)
    · have hM := ite_t c22 hM
      exact tq_X9_orderRuns_76 C H_5 _ _ _ _ _ _ _ _ _ _ hM hV (lv_sub hl [0, 1, 2, 3, 4, 5] rfl)
    have hM := ite_f c22 hM
    refine lv_aload_n hx hb dX9_orderRuns_60 rfl (lv_at hl 2 rfl) ?_
    refine lv_iload hx hb dX9_orderRuns_61 (lv_at hl 5 rfl) ?_
    refine lv_aload_n hx hb dX9_orderRuns_63 rfl (lv_at hl 2 rfl) ?_
    refine lv_iload hx hb dX9_orderRuns_64 (lv_at hl 5 rfl) ?_
    refine lv_iconst (v := 1) hx hb dX9_orderRuns_66 (by decide) ?_
    refine lv_isub hx hb dX9_orderRuns_67 ?_
    have hi23 := hM.1
    have hM := hM.2
    refine x_iald C hV hk15 hi23 dX9_orderRuns_68 ?_
    have hi24 := hM.1
    have hM := hM.2
    obtain ⟨S25, eS25⟩ : ∃ z : PS, z = S.setA a2 x5.toNatClampNeg (S.A a2 (x5 - 1).toNatClampNeg) := ⟨_, rfl⟩
    have hM := hM S25 eS25
    refine x_iast C hV hk15 hi24 eS25 dX9_orderRuns_69 (fun H locs hV => ?_)
    refine lv_iinc (v := (x5 + (-1))) (lv' := [(5, .int (x5 + (-1))), (0, .ref a0), (1, .int x1), (2, .ref a2), (3, .int x3), (4, .int x4)]) hx hb dX9_orderRuns_70 hl (k := 5) rfl rfl (by decide) rfl (fun ls hl => ?_)
    refine lv_goto (tgt := 34) hx hb dX9_orderRuns_73 (by decide) ?_
    exact ih _ _ _ _ _ _ _ _ _ _ hM hV (lv_sub hl [1, 2, 3, 4, 5, 0] rfl)
set_option maxHeartbeats 4000000 in
set_option maxRecDepth 100000 in
theorem tq_X9_orderRuns_5 {p : Program} {l : Launch} {e : Env} {s : State} {m : MethodId} {args : Array Value} {below : List Frame} {meth : Method} {c : Code} {D : DX} {cA : Nat → ClassId} {z0 N : Nat} {K : Int32 → PS → Prop} (C : CX p s m args meth c cX9_orderRuns 6 RX9 (some .int) D cA z0) : ∀ (n : Nat) (S : PS) (a0 : Nat) (x1 : Int32) (a2 : Nat) (x3 : Int32) (x4 : Int32) (H : Heap) (locs : List Loc) (ls : Array Slot), wq_X9_orderRuns_5 N K n S a0 x1 a2 x3 x4 → XV D cA z0 s S H locs → lv_has ls 6 [(0, .ref a0), (1, .int x1), (2, .ref a2), (3, .int x3), (4, .int x4)] → W p l e (rmd 0 0 0) s m args below meth c H locs 0 0 (MQ below (va_Qi K (XK D cA z0) (zA z0)) args s 0 0 (zA z0)) (F0 m 5 ls []) := by
  obtain ⟨hx, hb, hml, hown, hts, hK, hz, hlk, hr⟩ := id C
  intro n
  induction n with
  | zero => intro S a0 x1 a2 x3 x4 H locs ls hM; exact absurd hM id
  | succ n ih =>
    intro S a0 x1 a2 x3 x4 H locs ls hM hV hl
    rw [wq_X9_orderRuns_5.eq_2] at hM
    refine lv_iload hx hb dX9_orderRuns_5 (lv_at hl 4 rfl) ?_
    refine lv_aload_n hx hb dX9_orderRuns_7 rfl (lv_at hl 0 rfl) ?_
    have hk1 := hM.1
    have hM := hM.2
    refine x_getI C hV wf_X9_27 hk1 dX9_orderRuns_8 ?_
    refine lv_icmp_ge (tgt := 91) hx hb dX9_orderRuns_11 (by decide) (fun c2 => ?_) (fun c2 => ?_)
    · have hM := ite_t c2 hM
      refine lv_iload_n hx hb dX9_orderRuns_91 rfl (lv_at hl 3 rfl) ?_
      exact x_iret C hV hM dX9_orderRuns_92
    have hM := ite_f c2 hM
    refine lv_iload_n hx hb dX9_orderRuns_14 rfl (lv_at hl 3 rfl) ?_
    refine lv_aload_n hx hb dX9_orderRuns_15 rfl (lv_at hl 2 rfl) ?_
    have hk3 := hM.1
    have hM := hM.2
    refine x_alen C hV hk3 (by decide) rfl dX9_orderRuns_16 ?_
    refine lv_icmp_ge (tgt := 91) hx hb dX9_orderRuns_17 (by decide) (fun c4 => ?_) (fun c4 => ?_)
    · have hM := ite_t c4 hM
      refine lv_iload_n hx hb dX9_orderRuns_91 rfl (lv_at hl 3 rfl) ?_
      exact x_iret C hV hM dX9_orderRuns_92
    have hM := ite_f c4 hM
    refine lv_aload_n hx hb dX9_orderRuns_20 rfl (lv_at hl 0 rfl) ?_
    obtain ⟨p5, hp5, hM⟩ := hM
    refine x_getR C hV wf_X9_46 hk1 hp5 dX9_orderRuns_21 ?_
    refine lv_iload hx hb dX9_orderRuns_24 (lv_at hl 4 rfl) ?_
    have hk6 := hM.1
    have hM := hM.2
    have hi7 := hM.1
    have hM := hM.2
    refine x_iald C hV hk6 hi7 dX9_orderRuns_26 ?_
    refine lv_iload_n hx hb dX9_orderRuns_27 rfl (lv_at hl 1 rfl) ?_
    refine lv_icmp_ne (tgt := 85) hx hb dX9_orderRuns_28 (by decide) (fun c8 => ?_) (fun c8 => ?_)
    · have hM := ite_f c8 hM
      refine lv_iinc (v := (x4 + 1)) (lv' := [(4, .int (x4 + 1)), (0, .ref a0), (1, .int x1), (2, .ref a2), (3, .int x3)]) hx hb dX9_orderRuns_85 hl (k := 4) rfl rfl (by decide) rfl (fun ls hl => ?_)
      refine lv_goto (tgt := 5) hx hb dX9_orderRuns_88 (by decide) ?_
      exact ih _ _ _ _ _ _ _ _ _ hM hV (lv_sub hl [1, 2, 3, 4, 0] rfl)
    have hM := ite_t c8 hM
    refine lv_iload_n hx hb dX9_orderRuns_31 rfl (lv_at hl 3 rfl) ?_
    refine lv_istore (lv' := [(5, .int x3), (0, .ref a0), (1, .int x1), (2, .ref a2), (3, .int x3), (4, .int x4)]) hx hb dX9_orderRuns_32 hl (by decide) rfl (fun ls hl => ?_)
    exact tq_X9_orderRuns_34 C ih N _ _ _ _ _ _ _ _ _ _ hM hV (lv_sub hl [1, 2, 3, 4, 5, 0] rfl)
set_option maxHeartbeats 4000000 in
set_option maxRecDepth 100000 in
theorem c_X9_orderRuns {l : Launch} {D : DX} {cA : Nat → ClassId} {z0 N : Nat} {S : PS} {a0 : Nat} {x1 : Int32} {a2 : Nat} {K : Int32 → PS → Prop} (hM : wp_X9_orderRuns N S a0 x1 a2 K) : MetI l yX9_orderRuns cX9_orderRuns 6 (some .int) 0 0 0 D cA z0 [.ref a0, .int x1, .ref a2] S K := by
  refine x_met RX9 (by decide) rfl ?_
  intro p e s m below meth c C hin hV
  have hl := lv_entry ([.ref a0, .int x1, .ref a2]) (n := 6) (Nat.le_of_ble_eq_true rfl)
  rw [lg_entry_eq]
  generalize (lg_sl ([.ref a0, .int x1, .ref a2]) ++ List.replicate (6 - (lg_sl ([.ref a0, .int x1, .ref a2])).length) Slot.unset).toArray = ls at hl ⊢
  have hl : lv_has ls 6 [(0, .ref a0), (1, .int x1), (2, .ref a2)] := hl
  obtain ⟨hx, hb, hml, hown, hts, hK, hz, hlk, hr⟩ := id C
  unfold wp_X9_orderRuns at hM
  refine lv_iconst (v := 0) hx hb dX9_orderRuns_0 (by decide) ?_
  refine lv_istore_n (lv' := [(3, .int 0), (0, .ref a0), (1, .int x1), (2, .ref a2)]) hx hb dX9_orderRuns_1 rfl hl (by decide) rfl (fun ls hl => ?_)
  refine lv_iconst (v := 0) hx hb dX9_orderRuns_2 (by decide) ?_
  refine lv_istore (lv' := [(4, .int 0), (3, .int 0), (0, .ref a0), (1, .int x1), (2, .ref a2)]) hx hb dX9_orderRuns_3 hl (by decide) rfl (fun ls hl => ?_)
  exact tq_X9_orderRuns_5 C N _ _ _ _ _ _ _ _ _ hM hV (lv_sub hl [2, 3, 4, 1, 0] rfl)

def wq_X9_partsBetween_5 (N : Nat) (K : Int32 → PS → Prop) : Nat → PS → Nat → Int32 → Int32 → Int32 → Int32 → Prop
  | 0, _, _, _, _, _, _ => False
  | n + 1, S, a0, x1, x2, x3, x4 => S.K a0 = 10 ∧ if (S.I 644 a0) ≤ x4 then (K x3 S) else (∃ p3 : Nat, S.R 652 a0 = some p3 ∧ S.K p3 = 27 ∧ vp_in x1 (S.ln p3) ∧ ∃ p6 : Nat, S.Q p3 x1.toNatClampNeg = some p6 ∧ S.K p6 = 7 ∧ wp_X6_foundAt N S p6 x4 (S.I 640 a0) (fun r9 S8 => S8.K a0 = 10 ∧ ∃ p11 : Nat, S8.R 652 a0 = some p11 ∧ S8.K p11 = 27 ∧ vp_in x2 (S8.ln p11) ∧ ∃ p14 : Nat, S8.Q p11 x2.toNatClampNeg = some p14 ∧ S8.K p14 = 7 ∧ wp_X6_foundAt N S8 p14 x4 (S8.I 640 a0) (fun r17 S16 => if r9 = r17 then (wq_X9_partsBetween_5 N K n S16 a0 x1 x2 x3 (x4 + 1)) else (∀ v19 : Int32, v19 = (x3 ||| ((1 : Int32) <<< (x4 &&& 31))) → wq_X9_partsBetween_5 N K n S16 a0 x1 x2 v19 (x4 + 1)))))
def wp_X9_partsBetween (N : Nat) (S : PS) (a0 : Nat) (x1 : Int32) (x2 : Int32) (K : Int32 → PS → Prop) : Prop := wq_X9_partsBetween_5 N K N S a0 x1 x2 0 0
set_option maxHeartbeats 4000000 in
set_option maxRecDepth 100000 in
theorem tq_X9_partsBetween_5 {p : Program} {l : Launch} {e : Env} {s : State} {m : MethodId} {args : Array Value} {below : List Frame} {meth : Method} {c : Code} {D : DX} {cA : Nat → ClassId} {z0 N : Nat} {K : Int32 → PS → Prop} (C : CX p s m args meth c cX9_partsBetween 5 RX9 (some .int) D cA z0) : ∀ (n : Nat) (S : PS) (a0 : Nat) (x1 : Int32) (x2 : Int32) (x3 : Int32) (x4 : Int32) (H : Heap) (locs : List Loc) (ls : Array Slot), wq_X9_partsBetween_5 N K n S a0 x1 x2 x3 x4 → XV D cA z0 s S H locs → lv_has ls 5 [(0, .ref a0), (1, .int x1), (2, .int x2), (3, .int x3), (4, .int x4)] → W p l e (rmd 2 0 0) s m args below meth c H locs 0 0 (MQ below (va_Qi K (XK D cA z0) (zA z0)) args s 0 0 (zA z0)) (F0 m 5 ls []) := by
  obtain ⟨hx, hb, hml, hown, hts, hK, hz, hlk, hr⟩ := id C
  intro n
  induction n with
  | zero => intro S a0 x1 x2 x3 x4 H locs ls hM; exact absurd hM id
  | succ n ih =>
    intro S a0 x1 x2 x3 x4 H locs ls hM hV hl
    rw [wq_X9_partsBetween_5.eq_2] at hM
    refine lv_iload hx hb dX9_partsBetween_5 (lv_at hl 4 rfl) ?_
    refine lv_aload_n hx hb dX9_partsBetween_7 rfl (lv_at hl 0 rfl) ?_
    have hk1 := hM.1
    have hM := hM.2
    refine x_getI C hV wf_X9_24 hk1 dX9_partsBetween_8 ?_
    refine lv_icmp_ge (tgt := 60) hx hb dX9_partsBetween_11 (by decide) (fun c2 => ?_) (fun c2 => ?_)
    · have hM := ite_t c2 hM
      refine lv_iload_n hx hb dX9_partsBetween_60 rfl (lv_at hl 3 rfl) ?_
      exact x_iret C hV hM dX9_partsBetween_61
    have hM := ite_f c2 hM
    refine lv_aload_n hx hb dX9_partsBetween_14 rfl (lv_at hl 0 rfl) ?_
    obtain ⟨p3, hp3, hM⟩ := hM
    refine x_getR C hV wf_X9_54 hk1 hp3 dX9_partsBetween_15 ?_
    refine lv_iload_n hx hb dX9_partsBetween_18 rfl (lv_at hl 1 rfl) ?_
    have hk4 := hM.1
    have hM := hM.2
    have hi5 := hM.1
    have hM := hM.2
    obtain ⟨p6, hp6, hM⟩ := hM
    refine x_aald C hV hk4 (by decide) rfl hi5 hp6 dX9_partsBetween_19 ?_
    refine lv_iload hx hb dX9_partsBetween_20 (lv_at hl 4 rfl) ?_
    refine lv_aload_n hx hb dX9_partsBetween_22 rfl (lv_at hl 0 rfl) ?_
    refine x_getI C hV wf_X9_9 hk1 dX9_partsBetween_23 ?_
    have hk7 := hM.1
    have hM := hM.2
    refine x_ci hV (x_runV (As := [.int x4, .int (S.I 640 a0)]) (rest := []) C hV mi_X6_foundAt wl_X9_128 hk7 (c_X6_foundAt hM) ⟨by decide, by decide⟩ rfl hl.1 (Nat.le_of_ble_eq_true rfl) dX9_partsBetween_26 ⟨Nat.zero_le _, Nat.zero_le _⟩) (fun r9 S8 H locs hV hM => ?_)
    refine lv_aload_n hx hb dX9_partsBetween_29 rfl (lv_at hl 0 rfl) ?_
    have hk10 := hM.1
    have hM := hM.2
    obtain ⟨p11, hp11, hM⟩ := hM
    refine x_getR C hV wf_X9_54 hk10 hp11 dX9_partsBetween_30 ?_
    refine lv_iload_n hx hb dX9_partsBetween_33 rfl (lv_at hl 2 rfl) ?_
    have hk12 := hM.1
    have hM := hM.2
    have hi13 := hM.1
    have hM := hM.2
    obtain ⟨p14, hp14, hM⟩ := hM
    refine x_aald C hV hk12 (by decide) rfl hi13 hp14 dX9_partsBetween_34 ?_
    refine lv_iload hx hb dX9_partsBetween_35 (lv_at hl 4 rfl) ?_
    refine lv_aload_n hx hb dX9_partsBetween_37 rfl (lv_at hl 0 rfl) ?_
    refine x_getI C hV wf_X9_9 hk10 dX9_partsBetween_38 ?_
    have hk15 := hM.1
    have hM := hM.2
    refine x_ci hV (x_runV (As := [.int x4, .int (S8.I 640 a0)]) (rest := [.int r9]) C hV mi_X6_foundAt wl_X9_128 hk15 (c_X6_foundAt hM) ⟨by decide, by decide⟩ rfl hl.1 (Nat.le_of_ble_eq_true rfl) dX9_partsBetween_41 ⟨Nat.zero_le _, Nat.zero_le _⟩) (fun r17 S16 H locs hV hM => ?_)
    refine lv_icmp_eq (tgt := 54) hx hb dX9_partsBetween_44 (by decide) (fun c18 => ?_) (fun c18 => ?_)
    · have hM := ite_t c18 hM
      refine lv_iinc (v := (x4 + 1)) (lv' := [(4, .int (x4 + 1)), (0, .ref a0), (1, .int x1), (2, .int x2), (3, .int x3)]) hx hb dX9_partsBetween_54 hl (k := 4) rfl rfl (by decide) rfl (fun ls hl => ?_)
      refine lv_goto (tgt := 5) hx hb dX9_partsBetween_57 (by decide) ?_
      exact ih _ _ _ _ _ _ _ _ _ hM hV (lv_sub hl [1, 2, 3, 4, 0] rfl)
    have hM := ite_f c18 hM
    refine lv_iload_n hx hb dX9_partsBetween_47 rfl (lv_at hl 3 rfl) ?_
    refine lv_iconst (v := 1) hx hb dX9_partsBetween_48 (by decide) ?_
    refine lv_iload hx hb dX9_partsBetween_49 (lv_at hl 4 rfl) ?_
    refine lv_ishl hx hb dX9_partsBetween_51 ?_
    refine lv_ior hx hb dX9_partsBetween_52 ?_
    refine lv_topi (fun v19 ev19 => ?_)
    have hM := hM v19 ev19
    refine lv_istore_n (lv' := [(3, .int v19), (0, .ref a0), (1, .int x1), (2, .int x2), (4, .int x4)]) hx hb dX9_partsBetween_53 rfl hl (by decide) rfl (fun ls hl => ?_)
    refine lv_iinc (v := (x4 + 1)) (lv' := [(4, .int (x4 + 1)), (3, .int v19), (0, .ref a0), (1, .int x1), (2, .int x2)]) hx hb dX9_partsBetween_54 hl (k := 4) rfl rfl (by decide) rfl (fun ls hl => ?_)
    refine lv_goto (tgt := 5) hx hb dX9_partsBetween_57 (by decide) ?_
    exact ih _ _ _ _ _ _ _ _ _ hM hV (lv_sub hl [2, 3, 4, 1, 0] rfl)
set_option maxHeartbeats 4000000 in
set_option maxRecDepth 100000 in
theorem c_X9_partsBetween {l : Launch} {D : DX} {cA : Nat → ClassId} {z0 N : Nat} {S : PS} {a0 : Nat} {x1 : Int32} {x2 : Int32} {K : Int32 → PS → Prop} (hM : wp_X9_partsBetween N S a0 x1 x2 K) : MetI l yX9_partsBetween cX9_partsBetween 5 (some .int) 2 0 0 D cA z0 [.ref a0, .int x1, .int x2] S K := by
  refine x_met RX9 (by decide) rfl ?_
  intro p e s m below meth c C hin hV
  have hl := lv_entry ([.ref a0, .int x1, .int x2]) (n := 5) (Nat.le_of_ble_eq_true rfl)
  rw [lg_entry_eq]
  generalize (lg_sl ([.ref a0, .int x1, .int x2]) ++ List.replicate (5 - (lg_sl ([.ref a0, .int x1, .int x2])).length) Slot.unset).toArray = ls at hl ⊢
  have hl : lv_has ls 5 [(0, .ref a0), (1, .int x1), (2, .int x2)] := hl
  obtain ⟨hx, hb, hml, hown, hts, hK, hz, hlk, hr⟩ := id C
  unfold wp_X9_partsBetween at hM
  refine lv_iconst (v := 0) hx hb dX9_partsBetween_0 (by decide) ?_
  refine lv_istore_n (lv' := [(3, .int 0), (0, .ref a0), (1, .int x1), (2, .int x2)]) hx hb dX9_partsBetween_1 rfl hl (by decide) rfl (fun ls hl => ?_)
  refine lv_iconst (v := 0) hx hb dX9_partsBetween_2 (by decide) ?_
  refine lv_istore (lv' := [(4, .int 0), (3, .int 0), (0, .ref a0), (1, .int x1), (2, .int x2)]) hx hb dX9_partsBetween_3 hl (by decide) rfl (fun ls hl => ?_)
  exact tq_X9_partsBetween_5 C N _ _ _ _ _ _ _ _ _ hM hV (lv_sub hl [2, 3, 4, 1, 0] rfl)

def wq_X9_spanRoot_55 (N : Nat) (K : Int32 → PS → Prop) : Nat → PS → Int32 → Int32 → Prop
  | 0, _, _, _ => False
  | n + 1, S, x2, x3 => if 1000 ≤ x3 then (K x3 S) else (if x2 < ((x3 + 1) * (x3 + 1)) then (K x3 S) else (wq_X9_spanRoot_55 N K n S x2 (x3 + 1)))
def wq_X9_spanRoot_4 (N : Nat) (K : Int32 → PS → Prop) : Nat → PS → Nat → Int32 → Int32 → Int32 → Prop
  | 0, _, _, _, _, _ => False
  | n + 1, S, a0, x1, x2, x3 => S.K a0 = 10 ∧ if (S.I 644 a0) ≤ x3 then (wq_X9_spanRoot_55 N K N S x2 0) else (∃ p5 : Nat, S.R 648 a0 = some p5 ∧ S.K p5 = 23 ∧ vp_in x3 (S.ln p5) ∧ ∃ p8 : Nat, S.Q p5 x3.toNatClampNeg = some p8 ∧ S.K p8 = 2 ∧ wp_X1_isIn N S p8 x1 (fun r11 S10 => if r11 = 0 then (wq_X9_spanRoot_4 N K n S10 a0 x1 x2 (x3 + 1)) else (S10.K a0 = 10 ∧ ∃ p15 : Nat, S10.R 648 a0 = some p15 ∧ S10.K p15 = 23 ∧ vp_in x3 (S10.ln p15) ∧ ∃ p18 : Nat, S10.Q p15 x3.toNatClampNeg = some p18 ∧ S10.K p18 = 2 ∧ ∃ p20 : Nat, S10.R 648 a0 = some p20 ∧ S10.K p20 = 23 ∧ vp_in x3 (S10.ln p20) ∧ ∃ p23 : Nat, S10.Q p20 x3.toNatClampNeg = some p23 ∧ S10.K p23 = 2 ∧ ∀ v25 : Int32, v25 = (x2 + ((S10.I 131 p18) * (S10.I 131 p23))) → wq_X9_spanRoot_4 N K n S10 a0 x1 v25 (x3 + 1))))
def wp_X9_spanRoot (N : Nat) (S : PS) (a0 : Nat) (x1 : Int32) (K : Int32 → PS → Prop) : Prop := wq_X9_spanRoot_4 N K N S a0 x1 0 0
set_option maxHeartbeats 4000000 in
set_option maxRecDepth 100000 in
theorem tq_X9_spanRoot_55 {p : Program} {l : Launch} {e : Env} {s : State} {m : MethodId} {args : Array Value} {below : List Frame} {meth : Method} {c : Code} {D : DX} {cA : Nat → ClassId} {z0 N : Nat} {K : Int32 → PS → Prop} (C : CX p s m args meth c cX9_spanRoot 4 RX9 (some .int) D cA z0) : ∀ (n : Nat) (S : PS) (x2 : Int32) (x3 : Int32) (H : Heap) (locs : List Loc) (ls : Array Slot), wq_X9_spanRoot_55 N K n S x2 x3 → XV D cA z0 s S H locs → lv_has ls 4 [(2, .int x2), (3, .int x3)] → W p l e (rmd 1 0 0) s m args below meth c H locs 0 0 (MQ below (va_Qi K (XK D cA z0) (zA z0)) args s 0 0 (zA z0)) (F0 m 55 ls []) := by
  obtain ⟨hx, hb, hml, hown, hts, hK, hz, hlk, hr⟩ := id C
  intro n
  induction n with
  | zero => intro S x2 x3 H locs ls hM; exact absurd hM id
  | succ n ih =>
    intro S x2 x3 H locs ls hM hV hl
    rw [wq_X9_spanRoot_55.eq_2] at hM
    refine lv_iload_n hx hb dX9_spanRoot_55 rfl (lv_at hl 1 rfl) ?_
    refine lv_sipush (v := 1000) hx hb dX9_spanRoot_56 (by decide) ?_
    refine lv_icmp_ge (tgt := 79) hx hb dX9_spanRoot_59 (by decide) (fun c3 => ?_) (fun c3 => ?_)
    · have hM := ite_t c3 hM
      refine lv_iload_n hx hb dX9_spanRoot_79 rfl (lv_at hl 1 rfl) ?_
      exact x_iret C hV hM dX9_spanRoot_80
    have hM := ite_f c3 hM
    refine lv_iload_n hx hb dX9_spanRoot_62 rfl (lv_at hl 1 rfl) ?_
    refine lv_iconst (v := 1) hx hb dX9_spanRoot_63 (by decide) ?_
    refine lv_iadd hx hb dX9_spanRoot_64 ?_
    refine lv_iload_n hx hb dX9_spanRoot_65 rfl (lv_at hl 1 rfl) ?_
    refine lv_iconst (v := 1) hx hb dX9_spanRoot_66 (by decide) ?_
    refine lv_iadd hx hb dX9_spanRoot_67 ?_
    refine lv_imul hx hb dX9_spanRoot_68 ?_
    refine lv_iload_n hx hb dX9_spanRoot_69 rfl (lv_at hl 0 rfl) ?_
    refine lv_icmp_gt (tgt := 79) hx hb dX9_spanRoot_70 (by decide) (fun c4 => ?_) (fun c4 => ?_)
    · have hM := ite_t c4 hM
      refine lv_iload_n hx hb dX9_spanRoot_79 rfl (lv_at hl 1 rfl) ?_
      exact x_iret C hV hM dX9_spanRoot_80
    have hM := ite_f c4 hM
    refine lv_iinc (v := (x3 + 1)) (lv' := [(3, .int (x3 + 1)), (2, .int x2)]) hx hb dX9_spanRoot_73 hl (k := 1) rfl rfl (by decide) rfl (fun ls hl => ?_)
    refine lv_goto (tgt := 55) hx hb dX9_spanRoot_76 (by decide) ?_
    exact ih _ _ _ _ _ _ hM hV (lv_sub hl [1, 0] rfl)
set_option maxHeartbeats 4000000 in
set_option maxRecDepth 100000 in
theorem tq_X9_spanRoot_4 {p : Program} {l : Launch} {e : Env} {s : State} {m : MethodId} {args : Array Value} {below : List Frame} {meth : Method} {c : Code} {D : DX} {cA : Nat → ClassId} {z0 N : Nat} {K : Int32 → PS → Prop} (C : CX p s m args meth c cX9_spanRoot 4 RX9 (some .int) D cA z0) : ∀ (n : Nat) (S : PS) (a0 : Nat) (x1 : Int32) (x2 : Int32) (x3 : Int32) (H : Heap) (locs : List Loc) (ls : Array Slot), wq_X9_spanRoot_4 N K n S a0 x1 x2 x3 → XV D cA z0 s S H locs → lv_has ls 4 [(0, .ref a0), (1, .int x1), (2, .int x2), (3, .int x3)] → W p l e (rmd 1 0 0) s m args below meth c H locs 0 0 (MQ below (va_Qi K (XK D cA z0) (zA z0)) args s 0 0 (zA z0)) (F0 m 4 ls []) := by
  obtain ⟨hx, hb, hml, hown, hts, hK, hz, hlk, hr⟩ := id C
  intro n
  induction n with
  | zero => intro S a0 x1 x2 x3 H locs ls hM; exact absurd hM id
  | succ n ih =>
    intro S a0 x1 x2 x3 H locs ls hM hV hl
    rw [wq_X9_spanRoot_4.eq_2] at hM
    refine lv_iload_n hx hb dX9_spanRoot_4 rfl (lv_at hl 3 rfl) ?_
    refine lv_aload_n hx hb dX9_spanRoot_5 rfl (lv_at hl 0 rfl) ?_
    have hk1 := hM.1
    have hM := hM.2
    refine x_getI C hV wf_X9_24 hk1 dX9_spanRoot_6 ?_
    refine lv_icmp_ge (tgt := 53) hx hb dX9_spanRoot_9 (by decide) (fun c2 => ?_) (fun c2 => ?_)
    · have hM := ite_t c2 hM
      refine lv_iconst (v := 0) hx hb dX9_spanRoot_53 (by decide) ?_
      refine lv_istore_n (lv' := [(3, .int 0), (0, .ref a0), (1, .int x1), (2, .int x2)]) hx hb dX9_spanRoot_54 rfl hl (by decide) rfl (fun ls hl => ?_)
      exact tq_X9_spanRoot_55 C N _ _ _ _ _ _ hM hV (lv_sub hl [3, 0] rfl)
    have hM := ite_f c2 hM
    refine lv_aload_n hx hb dX9_spanRoot_12 rfl (lv_at hl 0 rfl) ?_
    obtain ⟨p5, hp5, hM⟩ := hM
    refine x_getR C hV wf_X9_38 hk1 hp5 dX9_spanRoot_13 ?_
    refine lv_iload_n hx hb dX9_spanRoot_16 rfl (lv_at hl 3 rfl) ?_
    have hk6 := hM.1
    have hM := hM.2
    have hi7 := hM.1
    have hM := hM.2
    obtain ⟨p8, hp8, hM⟩ := hM
    refine x_aald C hV hk6 (by decide) rfl hi7 hp8 dX9_spanRoot_17 ?_
    refine lv_iload_n hx hb dX9_spanRoot_18 rfl (lv_at hl 1 rfl) ?_
    have hk9 := hM.1
    have hM := hM.2
    refine x_ci hV (x_runV (As := [.int x1]) (rest := []) C hV mi_X1_isIn wl_X9_94 hk9 (c_X1_isIn hM) ⟨by decide, by decide⟩ rfl hl.1 (Nat.le_of_ble_eq_true rfl) dX9_spanRoot_19 ⟨Nat.zero_le _, Nat.zero_le _⟩) (fun r11 S10 H locs hV hM => ?_)
    have hz12 := hM.1
    have hM := hM.2
    refine lv_if_eq (tgt := 47) hx hb dX9_spanRoot_22 (by decide) (fun c13 => ?_) (fun c13 => ?_)
    · have hM := ite_t c13 hM
      refine lv_iinc (v := (x3 + 1)) (lv' := [(3, .int (x3 + 1)), (0, .ref a0), (1, .int x1), (2, .int x2)]) hx hb dX9_spanRoot_47 hl (k := 3) rfl rfl (by decide) rfl (fun ls hl => ?_)
      refine lv_goto (tgt := 4) hx hb dX9_spanRoot_50 (by decide) ?_
      exact ih _ _ _ _ _ _ _ _ hM hV (lv_sub hl [1, 2, 3, 0] rfl)
    have hM := ite_f c13 hM
    refine lv_iload_n hx hb dX9_spanRoot_25 rfl (lv_at hl 2 rfl) ?_
    refine lv_aload_n hx hb dX9_spanRoot_26 rfl (lv_at hl 0 rfl) ?_
    have hk14 := hM.1
    have hM := hM.2
    obtain ⟨p15, hp15, hM⟩ := hM
    refine x_getR C hV wf_X9_38 hk14 hp15 dX9_spanRoot_27 ?_
    refine lv_iload_n hx hb dX9_spanRoot_30 rfl (lv_at hl 3 rfl) ?_
    have hk16 := hM.1
    have hM := hM.2
    have hi17 := hM.1
    have hM := hM.2
    obtain ⟨p18, hp18, hM⟩ := hM
    refine x_aald C hV hk16 (by decide) rfl hi17 hp18 dX9_spanRoot_31 ?_
    have hk19 := hM.1
    have hM := hM.2
    refine x_getI C hV wf_X9_134 hk19 dX9_spanRoot_32 ?_
    refine lv_aload_n hx hb dX9_spanRoot_35 rfl (lv_at hl 0 rfl) ?_
    obtain ⟨p20, hp20, hM⟩ := hM
    refine x_getR C hV wf_X9_38 hk14 hp20 dX9_spanRoot_36 ?_
    refine lv_iload_n hx hb dX9_spanRoot_39 rfl (lv_at hl 3 rfl) ?_
    have hk21 := hM.1
    have hM := hM.2
    have hi22 := hM.1
    have hM := hM.2
    obtain ⟨p23, hp23, hM⟩ := hM
    refine x_aald C hV hk21 (by decide) rfl hi22 hp23 dX9_spanRoot_40 ?_
    have hk24 := hM.1
    have hM := hM.2
    refine x_getI C hV wf_X9_134 hk24 dX9_spanRoot_41 ?_
    refine lv_imul hx hb dX9_spanRoot_44 ?_
    refine lv_iadd hx hb dX9_spanRoot_45 ?_
    refine lv_topi (fun v25 ev25 => ?_)
    have hM := hM v25 ev25
    refine lv_istore_n (lv' := [(2, .int v25), (0, .ref a0), (1, .int x1), (3, .int x3)]) hx hb dX9_spanRoot_46 rfl hl (by decide) rfl (fun ls hl => ?_)
    refine lv_iinc (v := (x3 + 1)) (lv' := [(3, .int (x3 + 1)), (2, .int v25), (0, .ref a0), (1, .int x1)]) hx hb dX9_spanRoot_47 hl (k := 3) rfl rfl (by decide) rfl (fun ls hl => ?_)
    refine lv_goto (tgt := 4) hx hb dX9_spanRoot_50 (by decide) ?_
    exact ih _ _ _ _ _ _ _ _ hM hV (lv_sub hl [2, 3, 1, 0] rfl)
set_option maxHeartbeats 4000000 in
set_option maxRecDepth 100000 in
theorem c_X9_spanRoot {l : Launch} {D : DX} {cA : Nat → ClassId} {z0 N : Nat} {S : PS} {a0 : Nat} {x1 : Int32} {K : Int32 → PS → Prop} (hM : wp_X9_spanRoot N S a0 x1 K) : MetI l yX9_spanRoot cX9_spanRoot 4 (some .int) 1 0 0 D cA z0 [.ref a0, .int x1] S K := by
  refine x_met RX9 (by decide) rfl ?_
  intro p e s m below meth c C hin hV
  have hl := lv_entry ([.ref a0, .int x1]) (n := 4) (Nat.le_of_ble_eq_true rfl)
  rw [lg_entry_eq]
  generalize (lg_sl ([.ref a0, .int x1]) ++ List.replicate (4 - (lg_sl ([.ref a0, .int x1])).length) Slot.unset).toArray = ls at hl ⊢
  have hl : lv_has ls 4 [(0, .ref a0), (1, .int x1)] := hl
  obtain ⟨hx, hb, hml, hown, hts, hK, hz, hlk, hr⟩ := id C
  unfold wp_X9_spanRoot at hM
  refine lv_iconst (v := 0) hx hb dX9_spanRoot_0 (by decide) ?_
  refine lv_istore_n (lv' := [(2, .int 0), (0, .ref a0), (1, .int x1)]) hx hb dX9_spanRoot_1 rfl hl (by decide) rfl (fun ls hl => ?_)
  refine lv_iconst (v := 0) hx hb dX9_spanRoot_2 (by decide) ?_
  refine lv_istore_n (lv' := [(3, .int 0), (2, .int 0), (0, .ref a0), (1, .int x1)]) hx hb dX9_spanRoot_3 rfl hl (by decide) rfl (fun ls hl => ?_)
  exact tq_X9_spanRoot_4 C N _ _ _ _ _ _ _ _ hM hV (lv_sub hl [2, 3, 1, 0] rfl)

def wq_X9_spanSum_4 (N : Nat) (K : Int32 → PS → Prop) : Nat → PS → Nat → Int32 → Int32 → Int32 → Prop
  | 0, _, _, _, _, _ => False
  | n + 1, S, a0, x1, x2, x3 => S.K a0 = 10 ∧ if (S.I 644 a0) ≤ x3 then (K x2 S) else (∃ p3 : Nat, S.R 648 a0 = some p3 ∧ S.K p3 = 23 ∧ vp_in x3 (S.ln p3) ∧ ∃ p6 : Nat, S.Q p3 x3.toNatClampNeg = some p6 ∧ S.K p6 = 2 ∧ wp_X1_isIn N S p6 x1 (fun r9 S8 => if r9 = 0 then (wq_X9_spanSum_4 N K n S8 a0 x1 x2 (x3 + 1)) else (S8.K a0 = 10 ∧ ∃ p13 : Nat, S8.R 648 a0 = some p13 ∧ S8.K p13 = 23 ∧ vp_in x3 (S8.ln p13) ∧ ∃ p16 : Nat, S8.Q p13 x3.toNatClampNeg = some p16 ∧ S8.K p16 = 2 ∧ ∀ v18 : Int32, v18 = (x2 + (S8.I 131 p16)) → wq_X9_spanSum_4 N K n S8 a0 x1 v18 (x3 + 1))))
def wp_X9_spanSum (N : Nat) (S : PS) (a0 : Nat) (x1 : Int32) (K : Int32 → PS → Prop) : Prop := wq_X9_spanSum_4 N K N S a0 x1 0 0
set_option maxHeartbeats 4000000 in
set_option maxRecDepth 100000 in
theorem tq_X9_spanSum_4 {p : Program} {l : Launch} {e : Env} {s : State} {m : MethodId} {args : Array Value} {below : List Frame} {meth : Method} {c : Code} {D : DX} {cA : Nat → ClassId} {z0 N : Nat} {K : Int32 → PS → Prop} (C : CX p s m args meth c cX9_spanSum 4 RX9 (some .int) D cA z0) : ∀ (n : Nat) (S : PS) (a0 : Nat) (x1 : Int32) (x2 : Int32) (x3 : Int32) (H : Heap) (locs : List Loc) (ls : Array Slot), wq_X9_spanSum_4 N K n S a0 x1 x2 x3 → XV D cA z0 s S H locs → lv_has ls 4 [(0, .ref a0), (1, .int x1), (2, .int x2), (3, .int x3)] → W p l e (rmd 1 0 0) s m args below meth c H locs 0 0 (MQ below (va_Qi K (XK D cA z0) (zA z0)) args s 0 0 (zA z0)) (F0 m 4 ls []) := by
  obtain ⟨hx, hb, hml, hown, hts, hK, hz, hlk, hr⟩ := id C
  intro n
  induction n with
  | zero => intro S a0 x1 x2 x3 H locs ls hM; exact absurd hM id
  | succ n ih =>
    intro S a0 x1 x2 x3 H locs ls hM hV hl
    rw [wq_X9_spanSum_4.eq_2] at hM
    refine lv_iload_n hx hb dX9_spanSum_4 rfl (lv_at hl 3 rfl) ?_
    refine lv_aload_n hx hb dX9_spanSum_5 rfl (lv_at hl 0 rfl) ?_
    have hk1 := hM.1
    have hM := hM.2
    refine x_getI C hV wf_X9_24 hk1 dX9_spanSum_6 ?_
    refine lv_icmp_ge (tgt := 43) hx hb dX9_spanSum_9 (by decide) (fun c2 => ?_) (fun c2 => ?_)
    · have hM := ite_t c2 hM
      refine lv_iload_n hx hb dX9_spanSum_43 rfl (lv_at hl 2 rfl) ?_
      exact x_iret C hV hM dX9_spanSum_44
    have hM := ite_f c2 hM
    refine lv_aload_n hx hb dX9_spanSum_12 rfl (lv_at hl 0 rfl) ?_
    obtain ⟨p3, hp3, hM⟩ := hM
    refine x_getR C hV wf_X9_38 hk1 hp3 dX9_spanSum_13 ?_
    refine lv_iload_n hx hb dX9_spanSum_16 rfl (lv_at hl 3 rfl) ?_
    have hk4 := hM.1
    have hM := hM.2
    have hi5 := hM.1
    have hM := hM.2
    obtain ⟨p6, hp6, hM⟩ := hM
    refine x_aald C hV hk4 (by decide) rfl hi5 hp6 dX9_spanSum_17 ?_
    refine lv_iload_n hx hb dX9_spanSum_18 rfl (lv_at hl 1 rfl) ?_
    have hk7 := hM.1
    have hM := hM.2
    refine x_ci hV (x_runV (As := [.int x1]) (rest := []) C hV mi_X1_isIn wl_X9_94 hk7 (c_X1_isIn hM) ⟨by decide, by decide⟩ rfl hl.1 (Nat.le_of_ble_eq_true rfl) dX9_spanSum_19 ⟨Nat.zero_le _, Nat.zero_le _⟩) (fun r9 S8 H locs hV hM => ?_)
    have hz10 := hM.1
    have hM := hM.2
    refine lv_if_eq (tgt := 37) hx hb dX9_spanSum_22 (by decide) (fun c11 => ?_) (fun c11 => ?_)
    · have hM := ite_t c11 hM
      refine lv_iinc (v := (x3 + 1)) (lv' := [(3, .int (x3 + 1)), (0, .ref a0), (1, .int x1), (2, .int x2)]) hx hb dX9_spanSum_37 hl (k := 3) rfl rfl (by decide) rfl (fun ls hl => ?_)
      refine lv_goto (tgt := 4) hx hb dX9_spanSum_40 (by decide) ?_
      exact ih _ _ _ _ _ _ _ _ hM hV (lv_sub hl [1, 2, 3, 0] rfl)
    have hM := ite_f c11 hM
    refine lv_iload_n hx hb dX9_spanSum_25 rfl (lv_at hl 2 rfl) ?_
    refine lv_aload_n hx hb dX9_spanSum_26 rfl (lv_at hl 0 rfl) ?_
    have hk12 := hM.1
    have hM := hM.2
    obtain ⟨p13, hp13, hM⟩ := hM
    refine x_getR C hV wf_X9_38 hk12 hp13 dX9_spanSum_27 ?_
    refine lv_iload_n hx hb dX9_spanSum_30 rfl (lv_at hl 3 rfl) ?_
    have hk14 := hM.1
    have hM := hM.2
    have hi15 := hM.1
    have hM := hM.2
    obtain ⟨p16, hp16, hM⟩ := hM
    refine x_aald C hV hk14 (by decide) rfl hi15 hp16 dX9_spanSum_31 ?_
    have hk17 := hM.1
    have hM := hM.2
    refine x_getI C hV wf_X9_134 hk17 dX9_spanSum_32 ?_
    refine lv_iadd hx hb dX9_spanSum_35 ?_
    refine lv_topi (fun v18 ev18 => ?_)
    have hM := hM v18 ev18
    refine lv_istore_n (lv' := [(2, .int v18), (0, .ref a0), (1, .int x1), (3, .int x3)]) hx hb dX9_spanSum_36 rfl hl (by decide) rfl (fun ls hl => ?_)
    refine lv_iinc (v := (x3 + 1)) (lv' := [(3, .int (x3 + 1)), (2, .int v18), (0, .ref a0), (1, .int x1)]) hx hb dX9_spanSum_37 hl (k := 3) rfl rfl (by decide) rfl (fun ls hl => ?_)
    refine lv_goto (tgt := 4) hx hb dX9_spanSum_40 (by decide) ?_
    exact ih _ _ _ _ _ _ _ _ hM hV (lv_sub hl [2, 3, 1, 0] rfl)
set_option maxHeartbeats 4000000 in
set_option maxRecDepth 100000 in
theorem c_X9_spanSum {l : Launch} {D : DX} {cA : Nat → ClassId} {z0 N : Nat} {S : PS} {a0 : Nat} {x1 : Int32} {K : Int32 → PS → Prop} (hM : wp_X9_spanSum N S a0 x1 K) : MetI l yX9_spanSum cX9_spanSum 4 (some .int) 1 0 0 D cA z0 [.ref a0, .int x1] S K := by
  refine x_met RX9 (by decide) rfl ?_
  intro p e s m below meth c C hin hV
  have hl := lv_entry ([.ref a0, .int x1]) (n := 4) (Nat.le_of_ble_eq_true rfl)
  rw [lg_entry_eq]
  generalize (lg_sl ([.ref a0, .int x1]) ++ List.replicate (4 - (lg_sl ([.ref a0, .int x1])).length) Slot.unset).toArray = ls at hl ⊢
  have hl : lv_has ls 4 [(0, .ref a0), (1, .int x1)] := hl
  obtain ⟨hx, hb, hml, hown, hts, hK, hz, hlk, hr⟩ := id C
  unfold wp_X9_spanSum at hM
  refine lv_iconst (v := 0) hx hb dX9_spanSum_0 (by decide) ?_
  refine lv_istore_n (lv' := [(2, .int 0), (0, .ref a0), (1, .int x1)]) hx hb dX9_spanSum_1 rfl hl (by decide) rfl (fun ls hl => ?_)
  refine lv_iconst (v := 0) hx hb dX9_spanSum_2 (by decide) ?_
  refine lv_istore_n (lv' := [(3, .int 0), (2, .int 0), (0, .ref a0), (1, .int x1)]) hx hb dX9_spanSum_3 rfl hl (by decide) rfl (fun ls hl => ?_)
  exact tq_X9_spanSum_4 C N _ _ _ _ _ _ _ _ hM hV (lv_sub hl [2, 3, 1, 0] rfl)

def wq_X9_sumRuns_40 (N : Nat) (K : Int32 → PS → Prop) (k_6 : PS → Nat → Int32 → Int32 → Int32 → Int32 → Int32 → Prop) (S : PS) (a0 : Nat) (x1 : Int32) (x2 : Int32) (x3 : Int32) (x5 : Int32) (t0 : Int32) (t1 : Int32) : Prop := ∀ v7 : Int32, v7 = (t0 + t1) → k_6 S a0 x1 x2 x3 v7 (x5 + 1)
def wq_X9_sumRuns_6 (N : Nat) (K : Int32 → PS → Prop) : Nat → PS → Nat → Int32 → Int32 → Int32 → Int32 → Int32 → Prop
  | 0, _, _, _, _, _, _, _ => False
  | n + 1, S, a0, x1, x2, x3, x4, x5 => S.K a0 = 10 ∧ if (S.I 645 a0) ≤ x5 then (K x4 S) else (wp_X9_isRun N S a0 x5 x1 x2 x3 (fun r4 S3 => if r4 = 0 then (wq_X9_sumRuns_40 N K (fun S a0 x1 x2 x3 x4 x5 => wq_X9_sumRuns_6 N K n S a0 x1 x2 x3 x4 x5) S3 a0 x1 x2 x3 x5 x4 0) else (S3.K a0 = 10 ∧ ∃ p9 : Nat, S3.R 651 a0 = some p9 ∧ S3.K p9 = 20 ∧ vp_in x5 (S3.ln p9) ∧ wq_X9_sumRuns_40 N K (fun S a0 x1 x2 x3 x4 x5 => wq_X9_sumRuns_6 N K n S a0 x1 x2 x3 x4 x5) S3 a0 x1 x2 x3 x5 x4 (S3.A p9 x5.toNatClampNeg))))
def wp_X9_sumRuns (N : Nat) (S : PS) (a0 : Nat) (x1 : Int32) (x2 : Int32) (x3 : Int32) (K : Int32 → PS → Prop) : Prop := wq_X9_sumRuns_6 N K N S a0 x1 x2 x3 0 0
set_option maxHeartbeats 4000000 in
set_option maxRecDepth 100000 in
theorem tq_X9_sumRuns_40 {p : Program} {l : Launch} {e : Env} {s : State} {m : MethodId} {args : Array Value} {below : List Frame} {meth : Method} {c : Code} {D : DX} {cA : Nat → ClassId} {z0 N : Nat} {K : Int32 → PS → Prop} {k_6 : PS → Nat → Int32 → Int32 → Int32 → Int32 → Int32 → Prop} (C : CX p s m args meth c cX9_sumRuns 6 RX9 (some .int) D cA z0) (H_6 : ∀ (S : PS) (a0 : Nat) (x1 : Int32) (x2 : Int32) (x3 : Int32) (x4 : Int32) (x5 : Int32) (H : Heap) (locs : List Loc) (ls : Array Slot), k_6 S a0 x1 x2 x3 x4 x5 → XV D cA z0 s S H locs → lv_has ls 6 [(0, .ref a0), (1, .int x1), (2, .int x2), (3, .int x3), (4, .int x4), (5, .int x5)] → W p l e (rmd 1 0 0) s m args below meth c H locs 0 0 (MQ below (va_Qi K (XK D cA z0) (zA z0)) args s 0 0 (zA z0)) (F0 m 6 ls [])) : ∀ (S : PS) (a0 : Nat) (x1 : Int32) (x2 : Int32) (x3 : Int32) (x5 : Int32) (t0 : Int32) (t1 : Int32) (H : Heap) (locs : List Loc) (ls : Array Slot), wq_X9_sumRuns_40 N K k_6 S a0 x1 x2 x3 x5 t0 t1 → XV D cA z0 s S H locs → lv_has ls 6 [(0, .ref a0), (1, .int x1), (2, .int x2), (3, .int x3), (5, .int x5)] → W p l e (rmd 1 0 0) s m args below meth c H locs 0 0 (MQ below (va_Qi K (XK D cA z0) (zA z0)) args s 0 0 (zA z0)) (F0 m 40 ls [.int t1, .int t0]) := by
  obtain ⟨hx, hb, hml, hown, hts, hK, hz, hlk, hr⟩ := id C
  intro S a0 x1 x2 x3 x5 t0 t1 H locs ls hM hV hl
  unfold wq_X9_sumRuns_40 at hM
  refine lv_iadd hx hb dX9_sumRuns_40 ?_
  refine lv_topi (fun v7 ev7 => ?_)
  have hM := hM v7 ev7
  refine lv_istore (lv' := [(4, .int v7), (0, .ref a0), (1, .int x1), (2, .int x2), (3, .int x3), (5, .int x5)]) hx hb dX9_sumRuns_41 hl (by decide) rfl (fun ls hl => ?_)
  refine lv_iinc (v := (x5 + 1)) (lv' := [(5, .int (x5 + 1)), (4, .int v7), (0, .ref a0), (1, .int x1), (2, .int x2), (3, .int x3)]) hx hb dX9_sumRuns_43 hl (k := 5) rfl rfl (by decide) rfl (fun ls hl => ?_)
  refine lv_goto (tgt := 6) hx hb dX9_sumRuns_46 (by decide) ?_
  exact H_6 _ _ _ _ _ _ _ _ _ _ hM hV (lv_sub hl [2, 3, 4, 5, 1, 0] rfl)
set_option maxHeartbeats 4000000 in
set_option maxRecDepth 100000 in
theorem tq_X9_sumRuns_6 {p : Program} {l : Launch} {e : Env} {s : State} {m : MethodId} {args : Array Value} {below : List Frame} {meth : Method} {c : Code} {D : DX} {cA : Nat → ClassId} {z0 N : Nat} {K : Int32 → PS → Prop} (C : CX p s m args meth c cX9_sumRuns 6 RX9 (some .int) D cA z0) : ∀ (n : Nat) (S : PS) (a0 : Nat) (x1 : Int32) (x2 : Int32) (x3 : Int32) (x4 : Int32) (x5 : Int32) (H : Heap) (locs : List Loc) (ls : Array Slot), wq_X9_sumRuns_6 N K n S a0 x1 x2 x3 x4 x5 → XV D cA z0 s S H locs → lv_has ls 6 [(0, .ref a0), (1, .int x1), (2, .int x2), (3, .int x3), (4, .int x4), (5, .int x5)] → W p l e (rmd 1 0 0) s m args below meth c H locs 0 0 (MQ below (va_Qi K (XK D cA z0) (zA z0)) args s 0 0 (zA z0)) (F0 m 6 ls []) := by
  obtain ⟨hx, hb, hml, hown, hts, hK, hz, hlk, hr⟩ := id C
  intro n
  induction n with
  | zero => intro S a0 x1 x2 x3 x4 x5 H locs ls hM; exact absurd hM id
  | succ n ih =>
    intro S a0 x1 x2 x3 x4 x5 H locs ls hM hV hl
    rw [wq_X9_sumRuns_6.eq_2] at hM
    refine lv_iload hx hb dX9_sumRuns_6 (lv_at hl 5 rfl) ?_
    refine lv_aload_n hx hb dX9_sumRuns_8 rfl (lv_at hl 0 rfl) ?_
    have hk1 := hM.1
    have hM := hM.2
    refine x_getI C hV wf_X9_27 hk1 dX9_sumRuns_9 ?_
    refine lv_icmp_ge (tgt := 49) hx hb dX9_sumRuns_12 (by decide) (fun c2 => ?_) (fun c2 => ?_)
    · have hM := ite_t c2 hM
      refine lv_iload hx hb dX9_sumRuns_49 (lv_at hl 4 rfl) ?_
      exact x_iret C hV hM dX9_sumRuns_51
    have hM := ite_f c2 hM
    refine lv_iload hx hb dX9_sumRuns_15 (lv_at hl 4 rfl) ?_
    refine lv_aload_n hx hb dX9_sumRuns_17 rfl (lv_at hl 0 rfl) ?_
    refine lv_iload hx hb dX9_sumRuns_18 (lv_at hl 5 rfl) ?_
    refine lv_iload_n hx hb dX9_sumRuns_20 rfl (lv_at hl 1 rfl) ?_
    refine lv_iload_n hx hb dX9_sumRuns_21 rfl (lv_at hl 2 rfl) ?_
    refine lv_iload_n hx hb dX9_sumRuns_22 rfl (lv_at hl 3 rfl) ?_
    refine x_ci hV (x_runV (As := [.int x5, .int x1, .int x2, .int x3]) (rest := [.int x4]) C hV mi_X9_isRun wl_X9_137 hk1 (c_X9_isRun hM) ⟨by decide, by decide⟩ rfl hl.1 (Nat.le_of_ble_eq_true rfl) dX9_sumRuns_23 ⟨Nat.zero_le _, Nat.zero_le _⟩) (fun r4 S3 H locs hV hM => ?_)
    have hz5 := hM.1
    have hM := hM.2
    refine lv_if_eq (tgt := 39) hx hb dX9_sumRuns_26 (by decide) (fun c6 => ?_) (fun c6 => ?_)
    · have hM := ite_t c6 hM
      refine lv_iconst (v := 0) hx hb dX9_sumRuns_39 (by decide) ?_
      exact tq_X9_sumRuns_40 C ih _ _ _ _ _ _ _ _ _ _ _ hM hV (lv_sub hl [0, 1, 2, 3, 5] rfl)
    have hM := ite_f c6 hM
    refine lv_aload_n hx hb dX9_sumRuns_29 rfl (lv_at hl 0 rfl) ?_
    have hk8 := hM.1
    have hM := hM.2
    obtain ⟨p9, hp9, hM⟩ := hM
    refine x_getR C hV wf_X9_49 hk8 hp9 dX9_sumRuns_30 ?_
    refine lv_iload hx hb dX9_sumRuns_33 (lv_at hl 5 rfl) ?_
    have hk10 := hM.1
    have hM := hM.2
    have hi11 := hM.1
    have hM := hM.2
    refine x_iald C hV hk10 hi11 dX9_sumRuns_35 ?_
    refine lv_goto (tgt := 40) hx hb dX9_sumRuns_36 (by decide) ?_
    exact tq_X9_sumRuns_40 C ih _ _ _ _ _ _ _ _ _ _ _ hM hV (lv_sub hl [0, 1, 2, 3, 5] rfl)
set_option maxHeartbeats 4000000 in
set_option maxRecDepth 100000 in
theorem c_X9_sumRuns {l : Launch} {D : DX} {cA : Nat → ClassId} {z0 N : Nat} {S : PS} {a0 : Nat} {x1 : Int32} {x2 : Int32} {x3 : Int32} {K : Int32 → PS → Prop} (hM : wp_X9_sumRuns N S a0 x1 x2 x3 K) : MetI l yX9_sumRuns cX9_sumRuns 6 (some .int) 1 0 0 D cA z0 [.ref a0, .int x1, .int x2, .int x3] S K := by
  refine x_met RX9 (by decide) rfl ?_
  intro p e s m below meth c C hin hV
  have hl := lv_entry ([.ref a0, .int x1, .int x2, .int x3]) (n := 6) (Nat.le_of_ble_eq_true rfl)
  rw [lg_entry_eq]
  generalize (lg_sl ([.ref a0, .int x1, .int x2, .int x3]) ++ List.replicate (6 - (lg_sl ([.ref a0, .int x1, .int x2, .int x3])).length) Slot.unset).toArray = ls at hl ⊢
  have hl : lv_has ls 6 [(0, .ref a0), (1, .int x1), (2, .int x2), (3, .int x3)] := hl
  obtain ⟨hx, hb, hml, hown, hts, hK, hz, hlk, hr⟩ := id C
  unfold wp_X9_sumRuns at hM
  refine lv_iconst (v := 0) hx hb dX9_sumRuns_0 (by decide) ?_
  refine lv_istore (lv' := [(4, .int 0), (0, .ref a0), (1, .int x1), (2, .int x2), (3, .int x3)]) hx hb dX9_sumRuns_1 hl (by decide) rfl (fun ls hl => ?_)
  refine lv_iconst (v := 0) hx hb dX9_sumRuns_3 (by decide) ?_
  refine lv_istore (lv' := [(5, .int 0), (4, .int 0), (0, .ref a0), (1, .int x1), (2, .int x2), (3, .int x3)]) hx hb dX9_sumRuns_4 hl (by decide) rfl (fun ls hl => ?_)
  exact tq_X9_sumRuns_6 C N _ _ _ _ _ _ _ _ _ _ hM hV (lv_sub hl [2, 3, 4, 5, 1, 0] rfl)

def wq_X9_tellFacts_116 (N : Nat) (K : PS → Prop) (S : PS) (a1 : Nat) (b0 : Nat) (t1 : Int32) (t2 : Int32) : Prop := S.K b0 = 20 ∧ vp_in t1 (S.ln b0) ∧ ∀ S37 : PS, S37 = S.setA b0 t1.toNatClampNeg t2 → S37.K a1 = 20 ∧ vp_in 6 (S37.ln a1) ∧ ∀ S40 : PS, S40 = S37.setA a1 (6 : Int32).toNatClampNeg 0 → K S40
def wq_X9_tellFacts_83 (N : Nat) (K : PS → Prop) (S : PS) (a0 : Nat) (a1 : Nat) (x2 : Int32) (b0 : Nat) (t1 : Int32) (t2 : Int32) : Prop := S.K b0 = 20 ∧ vp_in t1 (S.ln b0) ∧ ∀ S20 : PS, S20 = S.setA b0 t1.toNatClampNeg t2 → S20.K a1 = 20 ∧ vp_in 3 (S20.ln a1) ∧ ∀ S23 : PS, S23 = S20.setA a1 (3 : Int32).toNatClampNeg x2 → S23.K a0 = 10 ∧ vp_in 4 (S23.ln a1) ∧ ∀ S27 : PS, S27 = S23.setA a1 (4 : Int32).toNatClampNeg (S23.I 643 a0) → if (S27.I 646 a0) = 0 then (wq_X9_tellFacts_116 N K S27 a1 a1 5 0) else (wp_X9_leastMissed N S27 a0 (fun r31 S30 => S30.K a0 = 10 ∧ wp_X9_missed N S30 a0 r31 (fun r34 S33 => wq_X9_tellFacts_116 N K S33 a1 a1 5 r34)))
def wq_X9_tellFacts_30 (N : Nat) (K : PS → Prop) (k_4 : PS → Nat → Nat → Int32 → Int32 → Prop) (S : PS) (a0 : Nat) (a1 : Nat) (x3 : Int32) (t0 : Int32) (t1 : Int32) : Prop := ∀ v47 : Int32, v47 = (t0 + t1) → k_4 S a0 a1 v47 (x3 + 1)
def wq_X9_tellFacts_4 (N : Nat) (K : PS → Prop) : Nat → PS → Nat → Nat → Int32 → Int32 → Prop
  | 0, _, _, _, _, _ => False
  | n + 1, S, a0, a1, x2, x3 => S.K a0 = 10 ∧ if (S.I 644 a0) ≤ x3 then (wp_X9_countRuns N S a0 0 0 999 (fun r4 S3 => S3.K a0 = 10 ∧ S3.K a1 = 20 ∧ vp_in 0 (S3.ln a1) ∧ ∀ S8 : PS, S8 = S3.setA a1 (0 : Int32).toNatClampNeg (S3.I 640 a0) → vp_in 1 (S8.ln a1) ∧ ∀ S12 : PS, S12 = S8.setA a1 (1 : Int32).toNatClampNeg (S8.I 645 a0) → if r4 = 0 then (wq_X9_tellFacts_83 N K S12 a0 a1 x2 a1 2 0) else (wp_X9_sumRuns N S12 a0 0 0 999 (fun r16 S15 => (¬ r4 = 0) ∧ wq_X9_tellFacts_83 N K S15 a0 a1 x2 a1 2 (r16 / r4))))) else (∃ p41 : Nat, S.R 648 a0 = some p41 ∧ S.K p41 = 23 ∧ vp_in x3 (S.ln p41) ∧ ∃ p44 : Nat, S.Q p41 x3.toNatClampNeg = some p44 ∧ S.K p44 = 2 ∧ if (S.I 134 p44) = 0 then (wq_X9_tellFacts_30 N K (fun S a0 a1 x2 x3 => wq_X9_tellFacts_4 N K n S a0 a1 x2 x3) S a0 a1 x3 x2 0) else (wq_X9_tellFacts_30 N K (fun S a0 a1 x2 x3 => wq_X9_tellFacts_4 N K n S a0 a1 x2 x3) S a0 a1 x3 x2 1))
def wp_X9_tellFacts (N : Nat) (S : PS) (a0 : Nat) (a1 : Nat) (K : PS → Prop) : Prop := wq_X9_tellFacts_4 N K N S a0 a1 0 0
set_option maxHeartbeats 4000000 in
set_option maxRecDepth 100000 in
theorem tq_X9_tellFacts_116 {p : Program} {l : Launch} {e : Env} {s : State} {m : MethodId} {args : Array Value} {below : List Frame} {meth : Method} {c : Code} {D : DX} {cA : Nat → ClassId} {z0 N : Nat} {K : PS → Prop} (C : CX p s m args meth c cX9_tellFacts 4 RX9 none D cA z0) : ∀ (S : PS) (a1 : Nat) (b0 : Nat) (t1 : Int32) (t2 : Int32) (H : Heap) (locs : List Loc) (ls : Array Slot), wq_X9_tellFacts_116 N K S a1 b0 t1 t2 → XV D cA z0 s S H locs → lv_has ls 4 [(1, .ref a1)] → W p l e (rmd 5 0 0) s m args below meth c H locs 0 0 (MQ below (va_Qv K (XK D cA z0) (zA z0)) args s 0 0 (zA z0)) (F0 m 116 ls [.int t2, .int t1, .ref b0]) := by
  obtain ⟨hx, hb, hml, hown, hts, hK, hz, hlk, hr⟩ := id C
  intro S a1 b0 t1 t2 H locs ls hM hV hl
  unfold wq_X9_tellFacts_116 at hM
  have hk35 := hM.1
  have hM := hM.2
  have hi36 := hM.1
  have hM := hM.2
  obtain ⟨S37, eS37⟩ : ∃ z : PS, z = S.setA b0 t1.toNatClampNeg t2 := ⟨_, rfl⟩
  have hM := hM S37 eS37
  refine x_iast C hV hk35 hi36 eS37 dX9_tellFacts_116 (fun H locs hV => ?_)
  refine lv_aload_n hx hb dX9_tellFacts_117 rfl (lv_at hl 0 rfl) ?_
  refine lv_bipush (v := 6) hx hb dX9_tellFacts_118 (by decide) ?_
  refine lv_iconst (v := 0) hx hb dX9_tellFacts_120 (by decide) ?_
  have hk38 := hM.1
  have hM := hM.2
  have hi39 := hM.1
  have hM := hM.2
  obtain ⟨S40, eS40⟩ : ∃ z : PS, z = S37.setA a1 (6 : Int32).toNatClampNeg 0 := ⟨_, rfl⟩
  have hM := hM S40 eS40
  refine x_iast C hV hk38 hi39 eS40 dX9_tellFacts_121 (fun H locs hV => ?_)
  exact x_vret C hV hM dX9_tellFacts_122
set_option maxHeartbeats 4000000 in
set_option maxRecDepth 100000 in
theorem tq_X9_tellFacts_83 {p : Program} {l : Launch} {e : Env} {s : State} {m : MethodId} {args : Array Value} {below : List Frame} {meth : Method} {c : Code} {D : DX} {cA : Nat → ClassId} {z0 N : Nat} {K : PS → Prop} (C : CX p s m args meth c cX9_tellFacts 4 RX9 none D cA z0) : ∀ (S : PS) (a0 : Nat) (a1 : Nat) (x2 : Int32) (b0 : Nat) (t1 : Int32) (t2 : Int32) (H : Heap) (locs : List Loc) (ls : Array Slot), wq_X9_tellFacts_83 N K S a0 a1 x2 b0 t1 t2 → XV D cA z0 s S H locs → lv_has ls 4 [(0, .ref a0), (1, .ref a1), (2, .int x2)] → W p l e (rmd 5 0 0) s m args below meth c H locs 0 0 (MQ below (va_Qv K (XK D cA z0) (zA z0)) args s 0 0 (zA z0)) (F0 m 83 ls [.int t2, .int t1, .ref b0]) := by
  obtain ⟨hx, hb, hml, hown, hts, hK, hz, hlk, hr⟩ := id C
  intro S a0 a1 x2 b0 t1 t2 H locs ls hM hV hl
  unfold wq_X9_tellFacts_83 at hM
  have hk18 := hM.1
  have hM := hM.2
  have hi19 := hM.1
  have hM := hM.2
  obtain ⟨S20, eS20⟩ : ∃ z : PS, z = S.setA b0 t1.toNatClampNeg t2 := ⟨_, rfl⟩
  have hM := hM S20 eS20
  refine x_iast C hV hk18 hi19 eS20 dX9_tellFacts_83 (fun H locs hV => ?_)
  refine lv_aload_n hx hb dX9_tellFacts_84 rfl (lv_at hl 1 rfl) ?_
  refine lv_iconst (v := 3) hx hb dX9_tellFacts_85 (by decide) ?_
  refine lv_iload_n hx hb dX9_tellFacts_86 rfl (lv_at hl 2 rfl) ?_
  have hk21 := hM.1
  have hM := hM.2
  have hi22 := hM.1
  have hM := hM.2
  obtain ⟨S23, eS23⟩ : ∃ z : PS, z = S20.setA a1 (3 : Int32).toNatClampNeg x2 := ⟨_, rfl⟩
  have hM := hM S23 eS23
  refine x_iast C hV hk21 hi22 eS23 dX9_tellFacts_87 (fun H locs hV => ?_)
  refine lv_aload_n hx hb dX9_tellFacts_88 rfl (lv_at hl 1 rfl) ?_
  refine lv_iconst (v := 4) hx hb dX9_tellFacts_89 (by decide) ?_
  refine lv_aload_n hx hb dX9_tellFacts_90 rfl (lv_at hl 0 rfl) ?_
  have hk24 := hM.1
  have hM := hM.2
  refine x_getI C hV wf_X9_21 hk24 dX9_tellFacts_91 ?_
  have hk25 := kp_A eS23 hk21
  have hi26 := hM.1
  have hM := hM.2
  obtain ⟨S27, eS27⟩ : ∃ z : PS, z = S23.setA a1 (4 : Int32).toNatClampNeg (S23.I 643 a0) := ⟨_, rfl⟩
  have hM := hM S27 eS27
  refine x_iast C hV hk25 hi26 eS27 dX9_tellFacts_94 (fun H locs hV => ?_)
  refine lv_aload_n hx hb dX9_tellFacts_95 rfl (lv_at hl 1 rfl) ?_
  refine lv_iconst (v := 5) hx hb dX9_tellFacts_96 (by decide) ?_
  refine lv_aload_n hx hb dX9_tellFacts_97 rfl (lv_at hl 0 rfl) ?_
  have hk28 := kp_A eS27 hk24
  refine x_getI C hV wf_X9_30 hk28 dX9_tellFacts_98 ?_
  refine lv_if_ne (tgt := 108) hx hb dX9_tellFacts_101 (by decide) (fun c29 => ?_) (fun c29 => ?_)
  · have hM := ite_f c29 hM
    refine lv_aload_n hx hb dX9_tellFacts_108 rfl (lv_at hl 0 rfl) ?_
    refine lv_aload_n hx hb dX9_tellFacts_109 rfl (lv_at hl 0 rfl) ?_
    refine x_ci hV (x_runV (As := []) (rest := [.ref a0, .int 5, .ref a1]) C hV mi_X9_leastMissed wl_X9_151 hk28 (c_X9_leastMissed hM) ⟨by decide, by decide⟩ rfl hl.1 (Nat.le_of_ble_eq_true rfl) dX9_tellFacts_110 ⟨Nat.zero_le _, Nat.zero_le _⟩) (fun r31 S30 H locs hV hM => ?_)
    have hk32 := hM.1
    have hM := hM.2
    refine x_ci hV (x_runV (As := [.int r31]) (rest := [.int 5, .ref a1]) C hV mi_X9_missed wl_X9_113 hk32 (c_X9_missed hM) ⟨by decide, by decide⟩ rfl hl.1 (Nat.le_of_ble_eq_true rfl) dX9_tellFacts_113 ⟨Nat.zero_le _, Nat.zero_le _⟩) (fun r34 S33 H locs hV hM => ?_)
    exact tq_X9_tellFacts_116 C _ _ _ _ _ _ _ _ hM hV (lv_sub hl [1] rfl)
  have hM := ite_t c29 hM
  refine lv_iconst (v := 0) hx hb dX9_tellFacts_104 (by decide) ?_
  refine lv_goto (tgt := 116) hx hb dX9_tellFacts_105 (by decide) ?_
  exact tq_X9_tellFacts_116 C _ _ _ _ _ _ _ _ hM hV (lv_sub hl [1] rfl)
set_option maxHeartbeats 4000000 in
set_option maxRecDepth 100000 in
theorem tq_X9_tellFacts_30 {p : Program} {l : Launch} {e : Env} {s : State} {m : MethodId} {args : Array Value} {below : List Frame} {meth : Method} {c : Code} {D : DX} {cA : Nat → ClassId} {z0 N : Nat} {K : PS → Prop} {k_4 : PS → Nat → Nat → Int32 → Int32 → Prop} (C : CX p s m args meth c cX9_tellFacts 4 RX9 none D cA z0) (H_4 : ∀ (S : PS) (a0 : Nat) (a1 : Nat) (x2 : Int32) (x3 : Int32) (H : Heap) (locs : List Loc) (ls : Array Slot), k_4 S a0 a1 x2 x3 → XV D cA z0 s S H locs → lv_has ls 4 [(0, .ref a0), (1, .ref a1), (2, .int x2), (3, .int x3)] → W p l e (rmd 5 0 0) s m args below meth c H locs 0 0 (MQ below (va_Qv K (XK D cA z0) (zA z0)) args s 0 0 (zA z0)) (F0 m 4 ls [])) : ∀ (S : PS) (a0 : Nat) (a1 : Nat) (x3 : Int32) (t0 : Int32) (t1 : Int32) (H : Heap) (locs : List Loc) (ls : Array Slot), wq_X9_tellFacts_30 N K k_4 S a0 a1 x3 t0 t1 → XV D cA z0 s S H locs → lv_has ls 4 [(0, .ref a0), (1, .ref a1), (3, .int x3)] → W p l e (rmd 5 0 0) s m args below meth c H locs 0 0 (MQ below (va_Qv K (XK D cA z0) (zA z0)) args s 0 0 (zA z0)) (F0 m 30 ls [.int t1, .int t0]) := by
  obtain ⟨hx, hb, hml, hown, hts, hK, hz, hlk, hr⟩ := id C
  intro S a0 a1 x3 t0 t1 H locs ls hM hV hl
  unfold wq_X9_tellFacts_30 at hM
  refine lv_iadd hx hb dX9_tellFacts_30 ?_
  refine lv_topi (fun v47 ev47 => ?_)
  have hM := hM v47 ev47
  refine lv_istore_n (lv' := [(2, .int v47), (0, .ref a0), (1, .ref a1), (3, .int x3)]) hx hb dX9_tellFacts_31 rfl hl (by decide) rfl (fun ls hl => ?_)
  refine lv_iinc (v := (x3 + 1)) (lv' := [(3, .int (x3 + 1)), (2, .int v47), (0, .ref a0), (1, .ref a1)]) hx hb dX9_tellFacts_32 hl (k := 3) rfl rfl (by decide) rfl (fun ls hl => ?_)
  refine lv_goto (tgt := 4) hx hb dX9_tellFacts_35 (by decide) ?_
  exact H_4 _ _ _ _ _ _ _ _ hM hV (lv_sub hl [2, 3, 1, 0] rfl)
set_option maxHeartbeats 4000000 in
set_option maxRecDepth 100000 in
theorem tq_X9_tellFacts_4 {p : Program} {l : Launch} {e : Env} {s : State} {m : MethodId} {args : Array Value} {below : List Frame} {meth : Method} {c : Code} {D : DX} {cA : Nat → ClassId} {z0 N : Nat} {K : PS → Prop} (C : CX p s m args meth c cX9_tellFacts 4 RX9 none D cA z0) : ∀ (n : Nat) (S : PS) (a0 : Nat) (a1 : Nat) (x2 : Int32) (x3 : Int32) (H : Heap) (locs : List Loc) (ls : Array Slot), wq_X9_tellFacts_4 N K n S a0 a1 x2 x3 → XV D cA z0 s S H locs → lv_has ls 4 [(0, .ref a0), (1, .ref a1), (2, .int x2), (3, .int x3)] → W p l e (rmd 5 0 0) s m args below meth c H locs 0 0 (MQ below (va_Qv K (XK D cA z0) (zA z0)) args s 0 0 (zA z0)) (F0 m 4 ls []) := by
  obtain ⟨hx, hb, hml, hown, hts, hK, hz, hlk, hr⟩ := id C
  intro n
  induction n with
  | zero => intro S a0 a1 x2 x3 H locs ls hM; exact absurd hM id
  | succ n ih =>
    intro S a0 a1 x2 x3 H locs ls hM hV hl
    rw [wq_X9_tellFacts_4.eq_2] at hM
    refine lv_iload_n hx hb dX9_tellFacts_4 rfl (lv_at hl 3 rfl) ?_
    refine lv_aload_n hx hb dX9_tellFacts_5 rfl (lv_at hl 0 rfl) ?_
    have hk1 := hM.1
    have hM := hM.2
    refine x_getI C hV wf_X9_24 hk1 dX9_tellFacts_6 ?_
    refine lv_icmp_ge (tgt := 38) hx hb dX9_tellFacts_9 (by decide) (fun c2 => ?_) (fun c2 => ?_)
    · have hM := ite_t c2 hM
      refine lv_aload_n hx hb dX9_tellFacts_38 rfl (lv_at hl 0 rfl) ?_
      refine lv_iconst (v := 0) hx hb dX9_tellFacts_39 (by decide) ?_
      refine lv_iconst (v := 0) hx hb dX9_tellFacts_40 (by decide) ?_
      refine lv_sipush (v := 999) hx hb dX9_tellFacts_41 (by decide) ?_
      refine x_ci hV (x_runV (As := [.int 0, .int 0, .int 999]) (rest := []) C hV mi_X9_countRuns wl_X9_145 hk1 (c_X9_countRuns hM) ⟨by decide, by decide⟩ rfl hl.1 (Nat.le_of_ble_eq_true rfl) dX9_tellFacts_44 ⟨Nat.zero_le _, Nat.zero_le _⟩) (fun r4 S3 H locs hV hM => ?_)
      refine lv_istore_n (lv' := [(3, .int r4), (0, .ref a0), (1, .ref a1), (2, .int x2)]) hx hb dX9_tellFacts_47 rfl hl (by decide) rfl (fun ls hl => ?_)
      refine lv_aload_n hx hb dX9_tellFacts_48 rfl (lv_at hl 2 rfl) ?_
      refine lv_iconst (v := 0) hx hb dX9_tellFacts_49 (by decide) ?_
      refine lv_aload_n hx hb dX9_tellFacts_50 rfl (lv_at hl 1 rfl) ?_
      have hk5 := hM.1
      have hM := hM.2
      refine x_getI C hV wf_X9_9 hk5 dX9_tellFacts_51 ?_
      have hk6 := hM.1
      have hM := hM.2
      have hi7 := hM.1
      have hM := hM.2
      obtain ⟨S8, eS8⟩ : ∃ z : PS, z = S3.setA a1 (0 : Int32).toNatClampNeg (S3.I 640 a0) := ⟨_, rfl⟩
      have hM := hM S8 eS8
      refine x_iast C hV hk6 hi7 eS8 dX9_tellFacts_54 (fun H locs hV => ?_)
      refine lv_aload_n hx hb dX9_tellFacts_55 rfl (lv_at hl 2 rfl) ?_
      refine lv_iconst (v := 1) hx hb dX9_tellFacts_56 (by decide) ?_
      refine lv_aload_n hx hb dX9_tellFacts_57 rfl (lv_at hl 1 rfl) ?_
      have hk9 := kp_A eS8 hk5
      refine x_getI C hV wf_X9_27 hk9 dX9_tellFacts_58 ?_
      have hk10 := kp_A eS8 hk6
      have hi11 := hM.1
      have hM := hM.2
      obtain ⟨S12, eS12⟩ : ∃ z : PS, z = S8.setA a1 (1 : Int32).toNatClampNeg (S8.I 645 a0) := ⟨_, rfl⟩
      have hM := hM S12 eS12
      refine x_iast C hV hk10 hi11 eS12 dX9_tellFacts_61 (fun H locs hV => ?_)
      refine lv_aload_n hx hb dX9_tellFacts_62 rfl (lv_at hl 2 rfl) ?_
      refine lv_iconst (v := 2) hx hb dX9_tellFacts_63 (by decide) ?_
      refine lv_iload_n hx hb dX9_tellFacts_64 rfl (lv_at hl 0 rfl) ?_
      refine lv_if_ne (tgt := 72) hx hb dX9_tellFacts_65 (by decide) (fun c13 => ?_) (fun c13 => ?_)
      · have hM := ite_f c13 hM
        refine lv_aload_n hx hb dX9_tellFacts_72 rfl (lv_at hl 1 rfl) ?_
        refine lv_iconst (v := 0) hx hb dX9_tellFacts_73 (by decide) ?_
        refine lv_iconst (v := 0) hx hb dX9_tellFacts_74 (by decide) ?_
        refine lv_sipush (v := 999) hx hb dX9_tellFacts_75 (by decide) ?_
        have hk14 := kp_A eS12 hk9
        refine x_ci hV (x_runV (As := [.int 0, .int 0, .int 999]) (rest := [.int 2, .ref a1]) C hV mi_X9_sumRuns wl_X9_148 hk14 (c_X9_sumRuns hM) ⟨by decide, by decide⟩ rfl hl.1 (Nat.le_of_ble_eq_true rfl) dX9_tellFacts_78 ⟨Nat.zero_le _, Nat.zero_le _⟩) (fun r16 S15 H locs hV hM => ?_)
        refine lv_iload_n hx hb dX9_tellFacts_81 rfl (lv_at hl 0 rfl) ?_
        have hne17 := hM.1
        have hM := hM.2
        refine lv_idiv hx hb dX9_tellFacts_82 hne17 ?_
        exact tq_X9_tellFacts_83 C _ _ _ _ _ _ _ _ _ _ hM hV (lv_sub hl [1, 2, 3] rfl)
      have hM := ite_t c13 hM
      refine lv_iconst (v := 0) hx hb dX9_tellFacts_68 (by decide) ?_
      refine lv_goto (tgt := 83) hx hb dX9_tellFacts_69 (by decide) ?_
      exact tq_X9_tellFacts_83 C _ _ _ _ _ _ _ _ _ _ hM hV (lv_sub hl [1, 2, 3] rfl)
    have hM := ite_f c2 hM
    refine lv_iload_n hx hb dX9_tellFacts_12 rfl (lv_at hl 2 rfl) ?_
    refine lv_aload_n hx hb dX9_tellFacts_13 rfl (lv_at hl 0 rfl) ?_
    obtain ⟨p41, hp41, hM⟩ := hM
    refine x_getR C hV wf_X9_38 hk1 hp41 dX9_tellFacts_14 ?_
    refine lv_iload_n hx hb dX9_tellFacts_17 rfl (lv_at hl 3 rfl) ?_
    have hk42 := hM.1
    have hM := hM.2
    have hi43 := hM.1
    have hM := hM.2
    obtain ⟨p44, hp44, hM⟩ := hM
    refine x_aald C hV hk42 (by decide) rfl hi43 hp44 dX9_tellFacts_18 ?_
    have hk45 := hM.1
    have hM := hM.2
    refine x_getI C hV wf_X9_141 hk45 dX9_tellFacts_19 ?_
    refine lv_if_eq (tgt := 29) hx hb dX9_tellFacts_22 (by decide) (fun c46 => ?_) (fun c46 => ?_)
    · have hM := ite_t c46 hM
      refine lv_iconst (v := 0) hx hb dX9_tellFacts_29 (by decide) ?_
      exact tq_X9_tellFacts_30 C ih _ _ _ _ _ _ _ _ _ hM hV (lv_sub hl [0, 1, 3] rfl)
    have hM := ite_f c46 hM
    refine lv_iconst (v := 1) hx hb dX9_tellFacts_25 (by decide) ?_
    refine lv_goto (tgt := 30) hx hb dX9_tellFacts_26 (by decide) ?_
    exact tq_X9_tellFacts_30 C ih _ _ _ _ _ _ _ _ _ hM hV (lv_sub hl [0, 1, 3] rfl)
set_option maxHeartbeats 4000000 in
set_option maxRecDepth 100000 in
theorem c_X9_tellFacts {l : Launch} {D : DX} {cA : Nat → ClassId} {z0 N : Nat} {S : PS} {a0 : Nat} {a1 : Nat} {K : PS → Prop} (hM : wp_X9_tellFacts N S a0 a1 K) : MetV l yX9_tellFacts cX9_tellFacts 4 none 5 0 0 D cA z0 [.ref a0, .ref a1] S K := by
  refine x_met RX9 (by decide) rfl ?_
  intro p e s m below meth c C hin hV
  have hl := lv_entry ([.ref a0, .ref a1]) (n := 4) (Nat.le_of_ble_eq_true rfl)
  rw [lg_entry_eq]
  generalize (lg_sl ([.ref a0, .ref a1]) ++ List.replicate (4 - (lg_sl ([.ref a0, .ref a1])).length) Slot.unset).toArray = ls at hl ⊢
  have hl : lv_has ls 4 [(0, .ref a0), (1, .ref a1)] := hl
  obtain ⟨hx, hb, hml, hown, hts, hK, hz, hlk, hr⟩ := id C
  unfold wp_X9_tellFacts at hM
  refine lv_iconst (v := 0) hx hb dX9_tellFacts_0 (by decide) ?_
  refine lv_istore_n (lv' := [(2, .int 0), (0, .ref a0), (1, .ref a1)]) hx hb dX9_tellFacts_1 rfl hl (by decide) rfl (fun ls hl => ?_)
  refine lv_iconst (v := 0) hx hb dX9_tellFacts_2 (by decide) ?_
  refine lv_istore_n (lv' := [(3, .int 0), (2, .int 0), (0, .ref a0), (1, .ref a1)]) hx hb dX9_tellFacts_3 rfl hl (by decide) rfl (fun ls hl => ?_)
  exact tq_X9_tellFacts_4 C N _ _ _ _ _ _ _ _ hM hV (lv_sub hl [2, 3, 1, 0] rfl)

def wq_X9_weighed_82 (N : Nat) (K : Int64 → PS → Prop) (k_24 : PS → Nat → Int32 → Int64 → Int32 → Prop) (S : PS) (a0 : Nat) (x1 : Int32) (x4 : Int32) (u0 : Int64) (u1 : Int64) : Prop := ∀ v16 : Int64, v16 = (u0 * u1) → k_24 S a0 x1 v16 (x4 + 1)
def wq_X9_weighed_24 (N : Nat) (K : Int64 → PS → Prop) : Nat → PS → Nat → Int32 → Int64 → Int32 → Prop
  | 0, _, _, _, _, _ => False
  | n + 1, S, a0, x1, j2, x4 => S.K a0 = 10 ∧ if (S.I 645 a0) ≤ x4 then (K j2 S) else (wp_X9_farFrom N S a0 x1 x4 (fun r12 S11 => if 2 < r12 then (if 10 < r12 then (if 40 < r12 then (wq_X9_weighed_82 N K (fun S a0 x1 j2 x4 => wq_X9_weighed_24 N K n S a0 x1 j2 x4) S11 a0 x1 x4 j2 (1 : Int64)) else (wq_X9_weighed_82 N K (fun S a0 x1 j2 x4 => wq_X9_weighed_24 N K n S a0 x1 j2 x4) S11 a0 x1 x4 j2 (2 : Int64))) else (wq_X9_weighed_82 N K (fun S a0 x1 j2 x4 => wq_X9_weighed_24 N K n S a0 x1 j2 x4) S11 a0 x1 x4 j2 (4 : Int64))) else (wq_X9_weighed_82 N K (fun S a0 x1 j2 x4 => wq_X9_weighed_24 N K n S a0 x1 j2 x4) S11 a0 x1 x4 j2 (8 : Int64))))
def wp_X9_weighed (N : Nat) (S : PS) (a0 : Nat) (x1 : Int32) (K : Int64 → PS → Prop) : Prop := S.K a0 = 10 ∧ ∃ p2 : Nat, S.R 652 a0 = some p2 ∧ S.K p2 = 27 ∧ vp_in x1 (S.ln p2) ∧ ∃ p5 : Nat, S.Q p2 x1.toNatClampNeg = some p5 ∧ S.K p5 = 7 ∧ ∀ v7 : Int64, v7 = (S.I 448 p5).toInt64 → ∀ v8 : Int32, v8 = (if 0 < ((S.I 645 a0) - 12) then ((S.I 645 a0) - 12) else 0) → wq_X9_weighed_24 N K N S a0 x1 v7 v8
set_option maxHeartbeats 4000000 in
set_option maxRecDepth 100000 in
theorem tq_X9_weighed_82 {p : Program} {l : Launch} {e : Env} {s : State} {m : MethodId} {args : Array Value} {below : List Frame} {meth : Method} {c : Code} {D : DX} {cA : Nat → ClassId} {z0 N : Nat} {K : Int64 → PS → Prop} {k_24 : PS → Nat → Int32 → Int64 → Int32 → Prop} (C : CX p s m args meth c cX9_weighed 6 RX9 (some .long) D cA z0) (H_24 : ∀ (S : PS) (a0 : Nat) (x1 : Int32) (j2 : Int64) (x4 : Int32) (H : Heap) (locs : List Loc) (ls : Array Slot), k_24 S a0 x1 j2 x4 → XV D cA z0 s S H locs → lv_has ls 6 [(0, .ref a0), (1, .int x1), (2, .long j2), (4, .int x4)] → W p l e (rmd 3 0 0) s m args below meth c H locs 0 0 (MQ below (va_Ql K (XK D cA z0) (zA z0)) args s 0 0 (zA z0)) (F0 m 24 ls [])) : ∀ (S : PS) (a0 : Nat) (x1 : Int32) (x4 : Int32) (u0 : Int64) (u1 : Int64) (H : Heap) (locs : List Loc) (ls : Array Slot), wq_X9_weighed_82 N K k_24 S a0 x1 x4 u0 u1 → XV D cA z0 s S H locs → lv_has ls 6 [(0, .ref a0), (1, .int x1), (4, .int x4)] → W p l e (rmd 3 0 0) s m args below meth c H locs 0 0 (MQ below (va_Ql K (XK D cA z0) (zA z0)) args s 0 0 (zA z0)) (F0 m 82 ls [.long u1, .long u0]) := by
  obtain ⟨hx, hb, hml, hown, hts, hK, hz, hlk, hr⟩ := id C
  intro S a0 x1 x4 u0 u1 H locs ls hM hV hl
  unfold wq_X9_weighed_82 at hM
  refine lv_lmul hx hb dX9_weighed_82 ?_
  refine lv_topl (fun v16 ev16 => ?_)
  have hM := hM v16 ev16
  refine lv_lstore_n (lv' := [(2, .long v16), (0, .ref a0), (1, .int x1), (4, .int x4)]) hx hb dX9_weighed_83 rfl hl (by decide) rfl (fun ls hl => ?_)
  refine lv_iinc (v := (x4 + 1)) (lv' := [(4, .int (x4 + 1)), (2, .long v16), (0, .ref a0), (1, .int x1)]) hx hb dX9_weighed_84 hl (k := 3) rfl rfl (by decide) rfl (fun ls hl => ?_)
  refine lv_goto (tgt := 24) hx hb dX9_weighed_87 (by decide) ?_
  exact H_24 _ _ _ _ _ _ _ _ hM hV (lv_sub hl [2, 3, 1, 0] rfl)
set_option maxHeartbeats 4000000 in
set_option maxRecDepth 100000 in
theorem tq_X9_weighed_24 {p : Program} {l : Launch} {e : Env} {s : State} {m : MethodId} {args : Array Value} {below : List Frame} {meth : Method} {c : Code} {D : DX} {cA : Nat → ClassId} {z0 N : Nat} {K : Int64 → PS → Prop} (C : CX p s m args meth c cX9_weighed 6 RX9 (some .long) D cA z0) : ∀ (n : Nat) (S : PS) (a0 : Nat) (x1 : Int32) (j2 : Int64) (x4 : Int32) (H : Heap) (locs : List Loc) (ls : Array Slot), wq_X9_weighed_24 N K n S a0 x1 j2 x4 → XV D cA z0 s S H locs → lv_has ls 6 [(0, .ref a0), (1, .int x1), (2, .long j2), (4, .int x4)] → W p l e (rmd 3 0 0) s m args below meth c H locs 0 0 (MQ below (va_Ql K (XK D cA z0) (zA z0)) args s 0 0 (zA z0)) (F0 m 24 ls []) := by
  obtain ⟨hx, hb, hml, hown, hts, hK, hz, hlk, hr⟩ := id C
  intro n
  induction n with
  | zero => intro S a0 x1 j2 x4 H locs ls hM; exact absurd hM id
  | succ n ih =>
    intro S a0 x1 j2 x4 H locs ls hM hV hl
    rw [wq_X9_weighed_24.eq_2] at hM
    refine lv_iload hx hb dX9_weighed_24 (lv_at hl 3 rfl) ?_
    refine lv_aload_n hx hb dX9_weighed_26 rfl (lv_at hl 0 rfl) ?_
    have hk9 := hM.1
    have hM := hM.2
    refine x_getI C hV wf_X9_27 hk9 dX9_weighed_27 ?_
    refine lv_icmp_ge (tgt := 90) hx hb dX9_weighed_30 (by decide) (fun c10 => ?_) (fun c10 => ?_)
    · have hM := ite_t c10 hM
      refine lv_lload_n hx hb dX9_weighed_90 rfl (lv_at hl 2 rfl) ?_
      exact x_lret C hV hM dX9_weighed_91
    have hM := ite_f c10 hM
    refine lv_aload_n hx hb dX9_weighed_33 rfl (lv_at hl 0 rfl) ?_
    refine lv_iload_n hx hb dX9_weighed_34 rfl (lv_at hl 1 rfl) ?_
    refine lv_iload hx hb dX9_weighed_35 (lv_at hl 3 rfl) ?_
    refine x_ci hV (x_runV (As := [.int x1, .int x4]) (rest := []) C hV mi_X9_farFrom wl_X9_110 hk9 (c_X9_farFrom hM) ⟨by decide, by decide⟩ rfl hl.1 (Nat.le_of_ble_eq_true rfl) dX9_weighed_37 ⟨Nat.zero_le _, Nat.zero_le _⟩) (fun r12 S11 H locs hV hM => ?_)
    refine lv_istore (lv' := [(5, .int r12), (0, .ref a0), (1, .int x1), (2, .long j2), (4, .int x4)]) hx hb dX9_weighed_40 hl (by decide) rfl (fun ls hl => ?_)
    refine lv_lload_n hx hb dX9_weighed_42 rfl (lv_at hl 3 rfl) ?_
    refine lv_iload hx hb dX9_weighed_43 (lv_at hl 0 rfl) ?_
    refine lv_iconst (v := 2) hx hb dX9_weighed_45 (by decide) ?_
    refine lv_icmp_gt (tgt := 55) hx hb dX9_weighed_46 (by decide) (fun c13 => ?_) (fun c13 => ?_)
    · have hM := ite_t c13 hM
      refine lv_iload hx hb dX9_weighed_55 (lv_at hl 0 rfl) ?_
      refine lv_bipush (v := 10) hx hb dX9_weighed_57 (by decide) ?_
      refine lv_icmp_gt (tgt := 68) hx hb dX9_weighed_59 (by decide) (fun c14 => ?_) (fun c14 => ?_)
      · have hM := ite_t c14 hM
        refine lv_iload hx hb dX9_weighed_68 (lv_at hl 0 rfl) ?_
        refine lv_bipush (v := 40) hx hb dX9_weighed_70 (by decide) ?_
        refine lv_icmp_gt (tgt := 81) hx hb dX9_weighed_72 (by decide) (fun c15 => ?_) (fun c15 => ?_)
        · have hM := ite_t c15 hM
          refine lv_lconst (v := 1) hx hb dX9_weighed_81 (by decide) ?_
          exact tq_X9_weighed_82 C ih _ _ _ _ _ _ _ _ _ hM hV (lv_sub hl [1, 2, 4] rfl)
        have hM := ite_f c15 hM
        refine lv_ldc2 hx hb hown (hts _ wc_X9_126) dX9_weighed_75 ?_
        refine lv_goto (tgt := 82) hx hb dX9_weighed_78 (by decide) ?_
        exact tq_X9_weighed_82 C ih _ _ _ _ _ _ _ _ _ hM hV (lv_sub hl [1, 2, 4] rfl)
      have hM := ite_f c14 hM
      refine lv_ldc2 hx hb hown (hts _ wc_X9_124) dX9_weighed_62 ?_
      refine lv_goto (tgt := 82) hx hb dX9_weighed_65 (by decide) ?_
      exact tq_X9_weighed_82 C ih _ _ _ _ _ _ _ _ _ hM hV (lv_sub hl [1, 2, 4] rfl)
    have hM := ite_f c13 hM
    refine lv_ldc2 hx hb hown (hts _ wc_X9_122) dX9_weighed_49 ?_
    refine lv_goto (tgt := 82) hx hb dX9_weighed_52 (by decide) ?_
    exact tq_X9_weighed_82 C ih _ _ _ _ _ _ _ _ _ hM hV (lv_sub hl [1, 2, 4] rfl)
set_option maxHeartbeats 4000000 in
set_option maxRecDepth 100000 in
theorem c_X9_weighed {l : Launch} {D : DX} {cA : Nat → ClassId} {z0 N : Nat} {S : PS} {a0 : Nat} {x1 : Int32} {K : Int64 → PS → Prop} (hM : wp_X9_weighed N S a0 x1 K) : MetL l yX9_weighed cX9_weighed 6 (some .long) 3 0 0 D cA z0 [.ref a0, .int x1] S K := by
  refine x_met RX9 (by decide) rfl ?_
  intro p e s m below meth c C hin hV
  have hl := lv_entry ([.ref a0, .int x1]) (n := 6) (Nat.le_of_ble_eq_true rfl)
  rw [lg_entry_eq]
  generalize (lg_sl ([.ref a0, .int x1]) ++ List.replicate (6 - (lg_sl ([.ref a0, .int x1])).length) Slot.unset).toArray = ls at hl ⊢
  have hl : lv_has ls 6 [(0, .ref a0), (1, .int x1)] := hl
  obtain ⟨hx, hb, hml, hown, hts, hK, hz, hlk, hr⟩ := id C
  unfold wp_X9_weighed at hM
  refine lv_aload_n hx hb dX9_weighed_0 rfl (lv_at hl 0 rfl) ?_
  have hk1 := hM.1
  have hM := hM.2
  obtain ⟨p2, hp2, hM⟩ := hM
  refine x_getR C hV wf_X9_54 hk1 hp2 dX9_weighed_1 ?_
  refine lv_iload_n hx hb dX9_weighed_4 rfl (lv_at hl 1 rfl) ?_
  have hk3 := hM.1
  have hM := hM.2
  have hi4 := hM.1
  have hM := hM.2
  obtain ⟨p5, hp5, hM⟩ := hM
  refine x_aald C hV hk3 (by decide) rfl hi4 hp5 dX9_weighed_5 ?_
  have hk6 := hM.1
  have hM := hM.2
  refine x_getI C hV wf_X9_116 hk6 dX9_weighed_6 ?_
  refine lv_i2l hx hb dX9_weighed_9 rfl ?_
  refine lv_topl (fun v7 ev7 => ?_)
  have hM := hM v7 ev7
  refine lv_lstore_n (lv' := [(2, .long v7), (0, .ref a0), (1, .int x1)]) hx hb dX9_weighed_10 rfl hl (by decide) rfl (fun ls hl => ?_)
  refine lv_iconst (v := 0) hx hb dX9_weighed_11 (by decide) ?_
  refine lv_aload_n hx hb dX9_weighed_12 rfl (lv_at hl 1 rfl) ?_
  refine x_getI C hV wf_X9_27 hk1 dX9_weighed_13 ?_
  refine lv_bipush (v := 12) hx hb dX9_weighed_16 (by decide) ?_
  refine lv_isub hx hb dX9_weighed_18 ?_
  refine x_mmax C hl.1 wl_X9_119 (by decide) (by decide) (Nat.zero_le _) (Nat.zero_le _) (Nat.le_of_ble_eq_true rfl) dX9_weighed_19 ?_
  refine lv_topi (fun v8 ev8 => ?_)
  have hM := hM v8 ev8
  refine lv_istore (lv' := [(4, .int v8), (2, .long v7), (0, .ref a0), (1, .int x1)]) hx hb dX9_weighed_22 hl (by decide) rfl (fun ls hl => ?_)
  exact tq_X9_weighed_24 C N _ _ _ _ _ _ _ _ hM hV (lv_sub hl [2, 3, 1, 0] rfl)
