def MT (y : MethodName) (bytes : ByteArray) (maxL : Nat) (ret : Option FieldType) (n : Nat) : Prop := y.cls = "java/lang/String" ∧ Cond.instanceMethod y ∈ TBL ∧ Cond.selects y.cls y y ∈ TBL ∧ Cond.initialized y.cls ∈ TBL ∧ Cond.code y bytes maxL ret ∈ TBL ∧ (y.cls ≠ "java/lang/invoke/MethodHandle" ∧ y.cls ≠ "java/lang/invoke/VarHandle") ∧ (parseMethodDescriptor y.desc).map (fun d => d.parameters.length) = some n ∧ maxL ≤ 29
section
variable {p : Program} {l : Launch} {e : Env} {R : Room} {s : State} {m : MethodId} {args : Array Value} {below : List Frame} {meth : Method} {c : Code} {H : Heap} {locs : List Loc} {cells slots : Nat} {Q : State → Prop}
variable {cc : ByteArray} {nL pc : Nat} {own : String} {ret : Option FieldType} {D : DX} {cA : Nat → ClassId} {z0 : Nat} {ls : Array Slot} {rest : List Value} {S : PS} {idx : Nat}
/-- a call on a text constant -/
theorem x_runVT {y : MethodName} {bytes : ByteArray} {maxL n d mc ms i : Nat} {rt : Option FieldType} {As : List Value} {Qc : Array Value → State → Outcome → State → Prop} (C : CX p s m args meth c cc nL own ret D cA z0) (hV : XV D cA z0 s S H locs) (mi : MT y bytes maxL rt n) (hi : i < 16) (hlink : Cond.methodLink own idx y ∈ TBL) (hM : Met l y (Cond.code y bytes maxL rt :: TBL) (rmd d mc ms) (va_Pc (.ref (D.2.1 i) :: As) (XK D cA z0 S)) Qc mc ms (zA z0)) (hR : d + 1 ≤ R.frames ∧ 48 * (d + 1) ≤ R.locals)
    (hn : As.length = n) (hls : ls.size = nL) (hroom : (rest.map fun v => v.category).sum ≤ 8) (hd : decode cc pc = .ok (.invokevirtual idx, 3)) (hf : cells + mc ≤ R.cells ∧ slots + ms ≤ R.slots) :
    va_Run p l e R s m args below meth c H locs cells slots mc ms (F0 m pc ls (As.reverse ++ .ref (D.2.1 i) :: rest)) rest (Qc (Value.ref (D.2.1 i) :: As).toArray) (zA z0) := by
  have hpre := xk_pre C hV (av := .ref (D.2.1 i) :: As)
  obtain ⟨hyc, hin, hsel, hini, hcode, hnm, hpar, hm⟩ := mi
  have hB := xk_callB (R := R) (d := d) (mc := mc) (ms := ms) C hini hcode hnm hpar hm hlink hR
  obtain ⟨hx, hb, hml, hown, hts, hK, hz, hlk, hr⟩ := C
  exact va_runV (C := y.cls) ⟨hx, hb, hml, hown, hts⟩ hM ⟨hB, hts _ hin, hts _ hsel⟩ ⟨xk_blind, by rw [hyc]; exact vk_recv hz.2.1 hi hV.2, hpre⟩ rfl hn hls rfl (lv_room hroom) hd hf
theorem x_nret {K : Int32 → PS → Prop} {r : Int32} {ty : FieldType} (C : CX p s m args meth c cc nL own (some ty) D cA z0) (hV : XV D cA z0 s S H locs) (hn : narrow ty (.int r) = .int r) (hM : K r S) (hd : decode cc pc = .ok (.ireturn, 1)) : W p l e R s m args below meth c H locs cells slots (MQ below (va_Qi K (XK D cA z0) (zA z0)) args s cells slots (zA z0)) (F0 m pc ls [.int r]) := by
  obtain ⟨hx, hb, hml, hown, hts, hK, hz, hlk, hr⟩ := C
  exact W.zret hx hb hr hn (fun t ht hW => ⟨⟨r, S, rfl, hM, va_K.moved hW.alike hK, by rw [ht]; exact Nat.le_trans hz.1 hV.2.1, by rw [ht]; exact hV.1, hz.2.next hW hV.2 ht⟩, hV.2.F ht⟩) hV.2.2.2 hd
end
theorem wk_J0_9 : Cond.fieldLink RJ0 9 "java/lang/String" "value" "[B" ∈ TBL := tb_in 1749 (by decide +kernel) (by decide +kernel)
theorem wk_J0_15 : Cond.fieldLink RJ0 15 "java/lang/String" "coder" "B" ∈ TBL := tb_in 1750 (by decide +kernel) (by decide +kernel)
theorem wk_J0_38 : Cond.fieldLink RJ0 38 "java/lang/String" "COMPACT_STRINGS" "Z" ∈ TBL := tb_in 576 (by decide +kernel) (by decide +kernel)
theorem wk_J0_1053 : Cond.fieldLink RJ0 1053 "jdk/internal/util/Preconditions" "SIOOBE_FORMATTER" "Ljava/util/function/BiFunction;" ∈ TBL := tb_in 592 (by decide +kernel) (by decide +kernel)
theorem mt_J0_length_8abf5 : MT yJ0_length_8abf5 cJ0_length_8abf5 1 (some .int) 0 := ⟨by decide +kernel, tb_in 569 (by decide +kernel) (by decide +kernel), tb_in 570 (by decide +kernel) (by decide +kernel), tb_in 95 (by decide +kernel) (by decide +kernel), tb_in 571 (by decide +kernel) (by decide +kernel), by decide +kernel, by decide +kernel, by decide⟩
theorem mt_J0_charAt_5068e : MT yJ0_charAt_5068e cJ0_charAt_5068e 2 (some .char) 1 := ⟨by decide +kernel, tb_in 579 (by decide +kernel) (by decide +kernel), tb_in 580 (by decide +kernel) (by decide +kernel), tb_in 95 (by decide +kernel) (by decide +kernel), tb_in 581 (by decide +kernel) (by decide +kernel), by decide +kernel, by decide +kernel, by decide⟩
theorem mt_J0_coder_7d493 : MT yJ0_coder_7d493 cJ0_coder_7d493 1 (some .byte) 0 := ⟨by decide +kernel, tb_in 573 (by decide +kernel) (by decide +kernel), tb_in 574 (by decide +kernel) (by decide +kernel), tb_in 95 (by decide +kernel) (by decide +kernel), tb_in 575 (by decide +kernel) (by decide +kernel), by decide +kernel, by decide +kernel, by decide⟩
theorem mt_J0_isLatin1_aae02 : MT yJ0_isLatin1_aae02 cJ0_isLatin1_aae02 1 (some .boolean) 0 := ⟨by decide +kernel, tb_in 583 (by decide +kernel) (by decide +kernel), tb_in 584 (by decide +kernel) (by decide +kernel), tb_in 95 (by decide +kernel) (by decide +kernel), tb_in 585 (by decide +kernel) (by decide +kernel), by decide +kernel, by decide +kernel, by decide⟩
set_option maxHeartbeats 4000000 in
set_option maxRecDepth 100000 in
theorem c_J0_coder_7d493 {l : Launch} {D : DX} {cA : Nat → ClassId} {z0 : Nat} {S : PS} {i : Nat} {K : Int32 → PS → Prop} (hi : i < 16) (hM : K 0 S) : MetI l yJ0_coder_7d493 cJ0_coder_7d493 1 (some .byte) 0 0 0 D cA z0 [.ref (D.2.1 i)] S K := by
  refine x_met RJ0 (by decide) rfl ?_
  intro p e s m below meth c C hin hV
  have hl := lv_entry ([.ref (D.2.1 i)]) (n := 1) (Nat.le_of_ble_eq_true rfl)
  rw [lg_entry_eq]
  generalize (lg_sl ([.ref (D.2.1 i)]) ++ List.replicate (1 - (lg_sl ([.ref (D.2.1 i)])).length) Slot.unset).toArray = ls at hl ⊢
  have hl : lv_has ls 1 [(0, .ref (D.2.1 i))] := hl
  obtain ⟨hx, hb, hml, hown, hts, hK, hz, hlk, hr⟩ := id C
  refine va_gets hx hb hz.2.2.2.1 hV.2 hown (hts _ wk_J0_38) (fun _ h => h) dJ0_coder_7d493_0 ?_
  refine lv_if_eq (tgt := 13) hx hb dJ0_coder_7d493_3 (by decide) (fun c1 => absurd c1 (by decide)) (fun _ => ?_)
  refine lv_aload_n hx hb dJ0_coder_7d493_6 rfl (lv_at hl 0 rfl) ?_
  refine vk_getf hx hb (hz.2.1.1 i hi).2.1 hV.2 hown (hts _ wk_J0_15) (fun _ h => h) dJ0_coder_7d493_7 ?_
  refine lv_goto (tgt := 14) hx hb dJ0_coder_7d493_10 (by decide) ?_
  exact x_nret C hV (by decide) hM dJ0_coder_7d493_14
set_option maxHeartbeats 4000000 in
set_option maxRecDepth 100000 in
theorem c_J0_isLatin1_aae02 {l : Launch} {D : DX} {cA : Nat → ClassId} {z0 : Nat} {S : PS} {i : Nat} {K : Int32 → PS → Prop} (hi : i < 16) (hM : K 1 S) : MetI l yJ0_isLatin1_aae02 cJ0_isLatin1_aae02 1 (some .boolean) 0 0 0 D cA z0 [.ref (D.2.1 i)] S K := by
  refine x_met RJ0 (by decide) rfl ?_
  intro p e s m below meth c C hin hV
  have hl := lv_entry ([.ref (D.2.1 i)]) (n := 1) (Nat.le_of_ble_eq_true rfl)
  rw [lg_entry_eq]
  generalize (lg_sl ([.ref (D.2.1 i)]) ++ List.replicate (1 - (lg_sl ([.ref (D.2.1 i)])).length) Slot.unset).toArray = ls at hl ⊢
  have hl : lv_has ls 1 [(0, .ref (D.2.1 i))] := hl
  obtain ⟨hx, hb, hml, hown, hts, hK, hz, hlk, hr⟩ := id C
  refine va_gets hx hb hz.2.2.2.1 hV.2 hown (hts _ wk_J0_38) (fun _ h => h) dJ0_isLatin1_aae02_0 ?_
  refine lv_if_eq (tgt := 17) hx hb dJ0_isLatin1_aae02_3 (by decide) (fun c1 => absurd c1 (by decide)) (fun _ => ?_)
  refine lv_aload_n hx hb dJ0_isLatin1_aae02_6 rfl (lv_at hl 0 rfl) ?_
  refine vk_getf hx hb (hz.2.1.1 i hi).2.1 hV.2 hown (hts _ wk_J0_15) (fun _ h => h) dJ0_isLatin1_aae02_7 ?_
  refine lv_if_ne (tgt := 17) hx hb dJ0_isLatin1_aae02_10 (by decide) (fun c1 => absurd rfl c1) (fun _ => ?_)
  refine lv_iconst (v := 1) hx hb dJ0_isLatin1_aae02_13 (by decide) ?_
  refine lv_goto (tgt := 18) hx hb dJ0_isLatin1_aae02_14 (by decide) ?_
  exact x_nret C hV (by decide) hM dJ0_isLatin1_aae02_18
set_option maxHeartbeats 4000000 in
set_option maxRecDepth 100000 in
theorem c_J0_length_8abf5 {l : Launch} {D : DX} {cA : Nat → ClassId} {z0 : Nat} {S : PS} {i : Nat} {K : Int32 → PS → Prop} (hi : i < 16) (hM : K (nI (STl.getD i 0)) S) : MetI l yJ0_length_8abf5 cJ0_length_8abf5 1 (some .int) 1 0 0 D cA z0 [.ref (D.2.1 i)] S K := by
  refine x_met RJ0 (by decide) rfl ?_
  intro p e s m below meth c C hin hV
  have hl := lv_entry ([.ref (D.2.1 i)]) (n := 1) (Nat.le_of_ble_eq_true rfl)
  rw [lg_entry_eq]
  generalize (lg_sl ([.ref (D.2.1 i)]) ++ List.replicate (1 - (lg_sl ([.ref (D.2.1 i)])).length) Slot.unset).toArray = ls at hl ⊢
  have hl : lv_has ls 1 [(0, .ref (D.2.1 i))] := hl
  obtain ⟨hx, hb, hml, hown, hts, hK, hz, hlk, hr⟩ := id C
  refine lv_aload_n hx hb dJ0_length_8abf5_0 rfl (lv_at hl 0 rfl) ?_
  refine vk_getf hx hb (hz.2.1.1 i hi).2.2.1 hV.2 hown (hts _ wk_J0_9) (fun _ h => h) dJ0_length_8abf5_1 ?_
  refine va_tlen hx hb (hz.2.1.1 i hi).2.2.2 hV.2 rfl dJ0_length_8abf5_4 ?_
  refine lv_aload_n hx hb dJ0_length_8abf5_5 rfl (lv_at hl 0 rfl) ?_
  refine x_ci hV (x_runVT (As := []) (rest := [.int (Int32.ofNat (STl.getD i 0))]) C hV mt_J0_coder_7d493 hi wl_J0_335 (c_J0_coder_7d493 (K := fun r S1 => r = 0 ∧ S1 = S) hi ⟨rfl, rfl⟩) ⟨by decide, by decide⟩ rfl hl.1 (Nat.le_of_ble_eq_true rfl) dJ0_length_8abf5_6 ⟨Nat.zero_le _, Nat.zero_le _⟩) (fun r S1 H locs hW hM1 => ?_)
  obtain ⟨rfl, rfl⟩ := hM1
  clear hV
  have hV := hW
  refine lv_ishr hx hb dJ0_length_8abf5_9 ?_
  rw [sb_shr0]
  exact x_iret C hV hM dJ0_length_8abf5_10
set_option maxHeartbeats 4000000 in
set_option maxRecDepth 100000 in
theorem c_J3_checkIndex_8e157 {l : Launch} {D : DX} {cA : Nat → ClassId} {z0 : Nat} {S : PS} {x0 x1 : Int32} {r : Option Nat} {K : Int32 → PS → Prop} (h0 : ¬ x0 < 0) (h1 : x0 < x1) (hM : K x0 S) : MetI l yJ3_checkIndex_8e157 cJ3_checkIndex_8e157 3 (some .int) 0 0 0 D cA z0 [.int x0, .int x1, va_rf r] S K := by
  have core : ∀ v : Value, (v = .null ∨ ∃ t, v = .ref t) → MetI l yJ3_checkIndex_8e157 cJ3_checkIndex_8e157 3 (some .int) 0 0 0 D cA z0 [.int x0, .int x1, v] S K := by
    intro v hv
    have hl0 : ∃ L, lv_args 0 [.int x0, .int x1, v] = (0, .int x0) :: (1, .int x1) :: L := by
      rcases hv with rfl | ⟨t, rfl⟩ <;> exact ⟨_, rfl⟩
    have hl1 : (lg_sl [.int x0, .int x1, v]).length ≤ 3 := by
      rcases hv with rfl | ⟨t, rfl⟩ <;> exact Nat.le_of_ble_eq_true rfl
    refine x_met RJ3 (by decide) rfl ?_
    intro p e s m below meth c C hin hV
    have hl := lv_entry ([.int x0, .int x1, v]) (n := 3) hl1
    rw [lg_entry_eq]
    generalize (lg_sl ([.int x0, .int x1, v]) ++ List.replicate (3 - (lg_sl ([.int x0, .int x1, v])).length) Slot.unset).toArray = ls at hl ⊢
    obtain ⟨L, hL⟩ := hl0
    rw [hL] at hl
    obtain ⟨hx, hb, hml, hown, hts, hK, hz, hlk, hr⟩ := id C
    refine lv_iload_n hx hb dJ3_checkIndex_8e157_0 rfl (lv_at hl 0 rfl) ?_
    refine lv_if_lt (tgt := 9) hx hb dJ3_checkIndex_8e157_1 (by decide) (fun c1 => absurd c1 h0) (fun _ => ?_)
    refine lv_iload_n hx hb dJ3_checkIndex_8e157_4 rfl (lv_at hl 0 rfl) ?_
    refine lv_iload_n hx hb dJ3_checkIndex_8e157_5 rfl (lv_at hl 1 rfl) ?_
    refine lv_icmp_lt (tgt := 16) hx hb dJ3_checkIndex_8e157_6 (by decide) (fun _ => ?_) (fun c1 => absurd h1 c1)
    refine lv_iload_n hx hb dJ3_checkIndex_8e157_16 rfl (lv_at hl 0 rfl) ?_
    exact x_iret C hV hM dJ3_checkIndex_8e157_17
  exact core _ (by cases r with | none => exact Or.inl rfl | some t => exact Or.inr ⟨t, rfl⟩)
set_option maxHeartbeats 4000000 in
set_option maxRecDepth 100000 in
theorem c_J0_checkIndex_df160 {l : Launch} {D : DX} {cA : Nat → ClassId} {z0 : Nat} {S : PS} {x0 x1 : Int32} {K : PS → Prop} (h0 : ¬ x0 < 0) (h1 : x0 < x1) (hM : K S) : MetV l yJ0_checkIndex_df160 cJ0_checkIndex_df160 2 none 1 0 0 D cA z0 [.int x0, .int x1] S K := by
  refine x_met RJ0 (by decide) rfl ?_
  intro p e s m below meth c C hin hV
  have hl := lv_entry ([.int x0, .int x1]) (n := 2) (Nat.le_of_ble_eq_true rfl)
  rw [lg_entry_eq]
  generalize (lg_sl ([.int x0, .int x1]) ++ List.replicate (2 - (lg_sl ([.int x0, .int x1])).length) Slot.unset).toArray = ls at hl ⊢
  have hl : lv_has ls 2 [(0, .int x0), (1, .int x1)] := hl
  obtain ⟨hx, hb, hml, hown, hts, hK, hz, hlk, hr⟩ := id C
  refine lv_iload_n hx hb dJ0_checkIndex_df160_0 rfl (lv_at hl 0 rfl) ?_
  refine lv_iload_n hx hb dJ0_checkIndex_df160_1 rfl (lv_at hl 1 rfl) ?_
  have core : ∀ r : Option Nat, va_Z "jdk/internal/util/Preconditions" "SIOOBE_FORMATTER" "Ljava/util/function/BiFunction;" (va_rf r) (zA z0) s s.heap → W p l e (rmd 1 0 0) s m #[.int x0, .int x1] below meth c s.heap [] 0 0 (MQ below (va_Qv K (XK D cA z0) (zA z0)) #[.int x0, .int x1] s 0 0 (zA z0)) (F0 m 2 ls [.int x1, .int x0]) := by
    intro r hZ
    refine va_gets hx hb hZ hV.2 hown (hts _ wk_J0_1053) (fun _ h => h) dJ0_checkIndex_df160_2 ?_
    refine x_ci hV (x_runS (As := [.int x0, .int x1, va_rf r]) (rest := []) C hV ms_J3_checkIndex_8e157 wl_J0_1059 (c_J3_checkIndex_8e157 (K := fun _ S1 => S1 = S) h0 h1 rfl) ⟨by decide, by decide⟩ rfl hl.1 (Nat.le_of_ble_eq_true rfl) dJ0_checkIndex_df160_5 ⟨Nat.zero_le _, Nat.zero_le _⟩) (fun r S1 H locs hW hM1 => ?_)
    subst hM1
    clear hV
    have hV := hW
    refine lv_pop hx hb dJ0_checkIndex_df160_8 rfl ?_
    exact x_vret C hV hM dJ0_checkIndex_df160_9
  rcases hz.2.2.2.2.1 with h | ⟨t, h⟩
  · exact core none h
  · exact core (some t) h
set_option maxHeartbeats 4000000 in
set_option maxRecDepth 100000 in
theorem c_J1_charAt_3b067 {l : Launch} {D : DX} {cA : Nat → ClassId} {z0 : Nat} {S : PS} {i : Nat} {x1 : Int32} {K : Int32 → PS → Prop} (hi : i < 16) (h0 : vp_in x1 (STl.getD i 0)) (hM : K ((STb.getD i []).getD x1.toNatClampNeg 0 &&& 255) S) : MetI l yJ1_charAt_3b067 cJ1_charAt_3b067 2 (some .char) 2 0 0 D cA z0 [.ref (D.2.2 i), .int x1] S K := by
  refine x_met RJ1 (by decide) rfl ?_
  intro p e s m below meth c C hin hV
  have hl := lv_entry ([.ref (D.2.2 i), .int x1]) (n := 2) (Nat.le_of_ble_eq_true rfl)
  rw [lg_entry_eq]
  generalize (lg_sl ([.ref (D.2.2 i), .int x1]) ++ List.replicate (2 - (lg_sl ([.ref (D.2.2 i), .int x1])).length) Slot.unset).toArray = ls at hl ⊢
  have hl : lv_has ls 2 [(0, .ref (D.2.2 i)), (1, .int x1)] := hl
  obtain ⟨hx, hb, hml, hown, hts, hK, hz, hlk, hr⟩ := id C
  have hlt : STl.getD i 0 < 2 ^ 31 := by
    have : ∀ k : Fin 16, STl.getD k.val 0 < 2 ^ 31 := by decide
    exact this ⟨i, hi⟩
  refine lv_iload_n hx hb dJ1_charAt_3b067_0 rfl (lv_at hl 1 rfl) ?_
  refine lv_aload_n hx hb dJ1_charAt_3b067_1 rfl (lv_at hl 0 rfl) ?_
  refine va_tlen hx hb (hz.2.1.1 i hi).2.2.2 hV.2 rfl dJ1_charAt_3b067_2 ?_
  obtain ⟨k, hk, rfl⟩ := vp_in_of h0 hlt
  refine x_cv hV (x_runS (As := [.int (nI k), .int (Int32.ofNat (STl.getD i 0))]) (rest := []) C hV ms_J0_checkIndex_df160 wl_J1_9 (c_J0_checkIndex_df160 (K := fun S1 => S1 = S) (nI_pos (by omega)) (nI_lt hk hlt) rfl) ⟨by decide, by decide⟩ rfl hl.1 (Nat.le_of_ble_eq_true rfl) dJ1_charAt_3b067_3 ⟨Nat.zero_le _, Nat.zero_le _⟩) (fun S1 H locs hW hM1 => ?_)
  subst hM1
  clear hV
  have hV := hW
  refine lv_aload_n hx hb dJ1_charAt_3b067_6 rfl (lv_at hl 0 rfl) ?_
  refine lv_iload_n hx hb dJ1_charAt_3b067_7 rfl (lv_at hl 1 rfl) ?_
  refine va_tb hx hb (hz.2.1.1 i hi).2.2.2 hV.2 h0 rfl dJ1_charAt_3b067_8 ?_
  refine lv_sipush (v := 255) hx hb dJ1_charAt_3b067_9 (by decide) ?_
  refine lv_iand hx hb dJ1_charAt_3b067_12 ?_
  refine lv_i2c hx hb dJ1_charAt_3b067_13 (sc_c2 _) ?_
  exact x_nret C hV (sc_nar _) hM dJ1_charAt_3b067_14
set_option maxHeartbeats 4000000 in
set_option maxRecDepth 100000 in
theorem c_J0_charAt_5068e {l : Launch} {D : DX} {cA : Nat → ClassId} {z0 : Nat} {S : PS} {i : Nat} {x1 : Int32} {K : Int32 → PS → Prop} (hi : i < 16) (h0 : vp_in x1 (STl.getD i 0)) (hM : K ((STb.getD i []).getD x1.toNatClampNeg 0 &&& 255) S) : MetI l yJ0_charAt_5068e cJ0_charAt_5068e 2 (some .char) 3 0 0 D cA z0 [.ref (D.2.1 i), .int x1] S K := by
  refine x_met RJ0 (by decide) rfl ?_
  intro p e s m below meth c C hin hV
  have hl := lv_entry ([.ref (D.2.1 i), .int x1]) (n := 2) (Nat.le_of_ble_eq_true rfl)
  rw [lg_entry_eq]
  generalize (lg_sl ([.ref (D.2.1 i), .int x1]) ++ List.replicate (2 - (lg_sl ([.ref (D.2.1 i), .int x1])).length) Slot.unset).toArray = ls at hl ⊢
  have hl : lv_has ls 2 [(0, .ref (D.2.1 i)), (1, .int x1)] := hl
  obtain ⟨hx, hb, hml, hown, hts, hK, hz, hlk, hr⟩ := id C
  refine lv_aload_n hx hb dJ0_charAt_5068e_0 rfl (lv_at hl 0 rfl) ?_
  refine x_ci hV (x_runVT (As := []) (rest := []) C hV mt_J0_isLatin1_aae02 hi wl_J0_492 (c_J0_isLatin1_aae02 (K := fun r S1 => r = 1 ∧ S1 = S) hi ⟨rfl, rfl⟩) ⟨by decide, by decide⟩ rfl hl.1 (Nat.le_of_ble_eq_true rfl) dJ0_charAt_5068e_1 ⟨Nat.zero_le _, Nat.zero_le _⟩) (fun r S1 H locs hW hM1 => ?_)
  obtain ⟨rfl, rfl⟩ := hM1
  clear hV
  have hV := hW
  refine lv_if_eq (tgt := 16) hx hb dJ0_charAt_5068e_4 (by decide) (fun c1 => absurd c1 (by decide)) (fun _ => ?_)
  refine lv_aload_n hx hb dJ0_charAt_5068e_7 rfl (lv_at hl 0 rfl) ?_
  refine vk_getf hx hb (hz.2.1.1 i hi).2.2.1 hV.2 hown (hts _ wk_J0_9) (fun _ h => h) dJ0_charAt_5068e_8 ?_
  refine lv_iload_n hx hb dJ0_charAt_5068e_11 rfl (lv_at hl 1 rfl) ?_
  refine x_ci hV (x_runS (As := [.ref (D.2.2 i), .int x1]) (rest := []) C hV ms_J1_charAt_3b067 wl_J0_495 (c_J1_charAt_3b067 (K := fun r S2 => r = ((STb.getD i []).getD x1.toNatClampNeg 0 &&& 255) ∧ S2 = S1) hi h0 ⟨rfl, rfl⟩) ⟨by decide, by decide⟩ rfl hl.1 (Nat.le_of_ble_eq_true rfl) dJ0_charAt_5068e_12 ⟨Nat.zero_le _, Nat.zero_le _⟩) (fun r S2 H locs hW2 hM1 => ?_)
  obtain ⟨rfl, rfl⟩ := hM1
  clear hV
  have hV := hW2
  exact x_nret C hV (sc_nar _) hM dJ0_charAt_5068e_15
def wq_J7_fill_53178_5 (N : Nat) (K : PS → Prop) : Nat → PS → Nat → Int32 → Int32 → Int32 → Prop
  | 0, _, _, _, _, _ => False
  | n + 1, S, a0, x1, x2, x3 => if x3 ≤ x2 then (K S) else (S.K a0 = 20 ∧ vp_in x2 (S.ln a0) ∧ ∀ S6 : PS, S6 = S.setA a0 x2.toNatClampNeg x1 → wq_J7_fill_53178_5 N K n S6 a0 x1 (x2 + 1) x3)
def wp_J7_fill_53178 (N : Nat) (S : PS) (a0 : Nat) (x1 : Int32) (K : PS → Prop) : Prop := S.K a0 = 20 ∧ ∀ v2 : Int32, v2 = (nI (S.ln a0)) → wq_J7_fill_53178_5 N K N S a0 x1 0 v2
set_option maxHeartbeats 4000000 in
set_option maxRecDepth 100000 in
theorem tq_J7_fill_53178_5 {p : Program} {l : Launch} {e : Env} {s : State} {m : MethodId} {args : Array Value} {below : List Frame} {meth : Method} {c : Code} {D : DX} {cA : Nat → ClassId} {z0 N : Nat} {K : PS → Prop} (C : CX p s m args meth c cJ7_fill_53178 4 RJ7 none D cA z0) : ∀ (n : Nat) (S : PS) (a0 : Nat) (x1 : Int32) (x2 : Int32) (x3 : Int32) (H : Heap) (locs : List Loc) (ls : Array Slot), wq_J7_fill_53178_5 N K n S a0 x1 x2 x3 → XV D cA z0 s S H locs → lv_has ls 4 [(0, .ref a0), (1, .int x1), (2, .int x2), (3, .int x3)] → W p l e (rmd 0 0 0) s m args below meth c H locs 0 0 (MQ below (va_Qv K (XK D cA z0) (zA z0)) args s 0 0 (zA z0)) (F0 m 5 ls []) := by
  obtain ⟨hx, hb, hml, hown, hts, hK, hz, hlk, hr⟩ := id C
  intro n
  induction n with
  | zero => intro S a0 x1 x2 x3 H locs ls hM; exact absurd hM id
  | succ n ih =>
    intro S a0 x1 x2 x3 H locs ls hM hV hl
    rw [wq_J7_fill_53178_5.eq_2] at hM
    refine lv_iload_n hx hb dJ7_fill_53178_5 rfl (lv_at hl 2 rfl) ?_
    refine lv_iload_n hx hb dJ7_fill_53178_6 rfl (lv_at hl 3 rfl) ?_
    refine lv_icmp_ge (tgt := 20) hx hb dJ7_fill_53178_7 (by decide) (fun c3 => ?_) (fun c3 => ?_)
    · have hM := ite_t c3 hM
      exact x_vret C hV hM dJ7_fill_53178_20
    have hM := ite_f c3 hM
    refine lv_aload_n hx hb dJ7_fill_53178_10 rfl (lv_at hl 0 rfl) ?_
    refine lv_iload_n hx hb dJ7_fill_53178_11 rfl (lv_at hl 2 rfl) ?_
    refine lv_iload_n hx hb dJ7_fill_53178_12 rfl (lv_at hl 1 rfl) ?_
    have hk4 := hM.1
    have hM := hM.2
    have hi5 := hM.1
    have hM := hM.2
    obtain ⟨S6, eS6⟩ : ∃ z : PS, z = S.setA a0 x2.toNatClampNeg x1 := ⟨_, rfl⟩
    have hM := hM S6 eS6
    refine x_iast C hV hk4 hi5 eS6 dJ7_fill_53178_13 (fun H locs hV => ?_)
    refine lv_iinc (v := (x2 + 1)) (lv' := [(2, .int (x2 + 1)), (0, .ref a0), (1, .int x1), (3, .int x3)]) hx hb dJ7_fill_53178_14 hl (k := 2) rfl rfl (by decide) rfl (fun ls hl => ?_)
    refine lv_goto (tgt := 5) hx hb dJ7_fill_53178_17 (by decide) ?_
    exact ih _ _ _ _ _ _ _ _ hM hV (lv_sub hl [1, 2, 0, 3] rfl)
set_option maxHeartbeats 4000000 in
set_option maxRecDepth 100000 in
theorem c_J7_fill_53178 {l : Launch} {D : DX} {cA : Nat → ClassId} {z0 N : Nat} {S : PS} {a0 : Nat} {x1 : Int32} {K : PS → Prop} (hM : wp_J7_fill_53178 N S a0 x1 K) : MetV l yJ7_fill_53178 cJ7_fill_53178 4 none 0 0 0 D cA z0 [.ref a0, .int x1] S K := by
  refine x_met RJ7 (by decide) rfl ?_
  intro p e s m below meth c C hin hV
  have hl := lv_entry ([.ref a0, .int x1]) (n := 4) (Nat.le_of_ble_eq_true rfl)
  rw [lg_entry_eq]
  generalize (lg_sl ([.ref a0, .int x1]) ++ List.replicate (4 - (lg_sl ([.ref a0, .int x1])).length) Slot.unset).toArray = ls at hl ⊢
  have hl : lv_has ls 4 [(0, .ref a0), (1, .int x1)] := hl
  obtain ⟨hx, hb, hml, hown, hts, hK, hz, hlk, hr⟩ := id C
  unfold wp_J7_fill_53178 at hM
  refine lv_iconst (v := 0) hx hb dJ7_fill_53178_0 (by decide) ?_
  refine lv_istore_n (lv' := [(2, .int 0), (0, .ref a0), (1, .int x1)]) hx hb dJ7_fill_53178_1 rfl hl (by decide) rfl (fun ls hl => ?_)
  refine lv_aload_n hx hb dJ7_fill_53178_2 rfl (lv_at hl 1 rfl) ?_
  have hk1 := hM.1
  have hM := hM.2
  refine x_alen C hV hk1 (by decide) rfl dJ7_fill_53178_3 ?_
  refine lv_topi (fun v2 ev2 => ?_)
  have hM := hM v2 ev2
  refine lv_istore_n (lv' := [(3, .int v2), (2, .int 0), (0, .ref a0), (1, .int x1)]) hx hb dJ7_fill_53178_4 rfl hl (by decide) rfl (fun ls hl => ?_)
  exact tq_J7_fill_53178_5 C N _ _ _ _ _ _ _ _ hM hV (lv_sub hl [2, 3, 1, 0] rfl)

