abbrev MetT (l : Launch) (y : MethodName) (bytes : ByteArray) (maxL : Nat) (ret : Option FieldType) (d mc ms : Nat) (D : DX) (cA : Nat → ClassId) (z0 : Nat) (av : List Value) (S : PS) (K : Nat → PS → Prop) : Prop := Met l y (Cond.code y bytes maxL ret :: TBL) (rmd d mc ms) (va_Pc av (XK D cA z0 S)) (va_Qr (S := Nat × PS) (fun u => K u.1 u.2) (fun u a t => a = D.2.1 u.1 ∧ XK D cA z0 u.2 t) (zA z0)) mc ms (zA z0)
section
variable {p : Program} {l : Launch} {e : Env} {R : Room} {s : State} {m : MethodId} {args : Array Value} {below : List Frame} {meth : Method} {c : Code} {H : Heap} {locs : List Loc} {cells slots mc ms : Nat} {Q : State → Prop}
variable {cc : ByteArray} {nL pc : Nat} {own : String} {ret : Option FieldType} {D : DX} {cA : Nat → ClassId} {z0 : Nat} {ls : Array Slot} {rest : List Value} {S : PS} {idx : Nat}
theorem x_ct {st0 : List Value} {a : Array Value} {K : Nat → PS → Prop} (hV : XV D cA z0 s S H locs) (hr : va_Run p l e R s m args below meth c H locs cells slots mc ms (F0 m pc ls st0) rest (va_Qr (S := Nat × PS) (fun u => K u.1 u.2) (fun u a t => a = D.2.1 u.1 ∧ XK D cA z0 u.2 t) (zA z0) a) (zA z0))
    (kk : ∀ (r : Nat) (S1 : PS) (H1 : Heap) (locs1 : List Loc), XV D cA z0 s S1 H1 locs1 → K r S1 → W p l e R s m args below meth c H1 locs1 (cells + mc) (slots + ms) Q (F0 m (pc + 3) ls (.ref (D.2.1 r) :: rest))) : W p l e R s m args below meth c H locs cells slots Q (F0 m pc ls st0) :=
  va_callr hr hV.2 (fun _ _ h => h) (fun _ h => h) (fun u ra t H1 locs1 ht hvm hp hB _ _ hS => by
    obtain ⟨rfl, hB⟩ := hB
    exact kk u.1 u.2 H1 locs1 ⟨by rw [← ht]; exact hB.2.2.1, hS⟩ hp)
theorem x_tret {K : Nat → PS → Prop} {i : Nat} {x : String} (C : CX p s m args meth c cc nL own (some (.object x)) D cA z0) (hV : XV D cA z0 s S H locs) (hM : K i S) (hd : decode cc pc = .ok (.areturn, 1)) : W p l e R s m args below meth c H locs cells slots (MQ below (va_Qr (S := Nat × PS) (fun u => K u.1 u.2) (fun u a t => a = D.2.1 u.1 ∧ XK D cA z0 u.2 t) (zA z0)) args s cells slots (zA z0)) (F0 m pc ls [.ref (D.2.1 i)]) := by
  obtain ⟨hx, hb, hml, hown, hts, hK, hz, hlk, hr⟩ := C
  exact W.aret hx hb hr (Or.inl ⟨_, rfl⟩) (Or.inr ⟨_, rfl⟩) (fun t ht hW => ⟨⟨(i, S), D.2.1 i, rfl, hM, rfl, va_K.moved hW.alike hK, by rw [ht]; exact Nat.le_trans hz.1 hV.2.1, by rw [ht]; exact hV.1, hz.2.next hW hV.2 ht⟩, hV.2.F ht⟩) hV.2.2.2 hd
end
def wp_J0_length_8abf5 (N : Nat) (S : PS) (a0 : Nat) (K : Int32 → PS → Prop) : Prop := a0 < 16 ∧ K (nI (STl.getD a0 0)) S
def wp_J0_charAt_5068e (N : Nat) (S : PS) (a0 : Nat) (x1 : Int32) (K : Int32 → PS → Prop) : Prop := a0 < 16 ∧ vp_in x1 (STl.getD a0 0) ∧ K ((STb.getD a0 []).getD x1.toNatClampNeg 0 &&& 255) S
theorem ct_J0_length_8abf5 {l : Launch} {D : DX} {cA : Nat → ClassId} {z0 N : Nat} {S : PS} {a0 : Nat} {K : Int32 → PS → Prop} (hM : wp_J0_length_8abf5 N S a0 K) : MetI l yJ0_length_8abf5 cJ0_length_8abf5 1 (some .int) 1 0 0 D cA z0 [.ref (D.2.1 a0)] S K := c_J0_length_8abf5 hM.1 hM.2
theorem ct_J0_charAt_5068e {l : Launch} {D : DX} {cA : Nat → ClassId} {z0 N : Nat} {S : PS} {a0 : Nat} {x1 : Int32} {K : Int32 → PS → Prop} (hM : wp_J0_charAt_5068e N S a0 x1 K) : MetI l yJ0_charAt_5068e cJ0_charAt_5068e 2 (some .char) 3 0 0 D cA z0 [.ref (D.2.1 a0), .int x1] S K := c_J0_charAt_5068e hM.1 hM.2.1 hM.2.2
def wp_X8_spelling (N : Nat) (S : PS) (x0 : Int32) (K : Nat → PS → Prop) : Prop := if x0 = 300 then (K 0 S) else if x0 = 301 then (K 1 S) else if x0 = 302 then (K 2 S) else if x0 = 303 then (K 3 S) else if x0 = 304 then (K 4 S) else if x0 = 305 then (K 5 S) else if x0 = 306 then (K 6 S) else if x0 = 307 then (K 7 S) else if x0 = 308 then (K 8 S) else if x0 = 309 then (K 9 S) else if x0 = 310 then (K 10 S) else if x0 = 311 then (K 11 S) else if x0 = 312 then (K 12 S) else if x0 = 313 then (K 13 S) else if x0 = 314 then (K 14 S) else K 15 S
set_option maxHeartbeats 4000000 in
set_option maxRecDepth 100000 in
theorem c_X8_spelling {l : Launch} {D : DX} {cA : Nat → ClassId} {z0 N : Nat} {S : PS} {x0 : Int32} {K : Nat → PS → Prop} (hM : wp_X8_spelling N S x0 K) : MetT l yX8_spelling cX8_spelling 1 (some (.object "java/lang/String")) 0 0 0 D cA z0 [.int x0] S K := by
  refine x_met RX8 (by decide) rfl ?_
  intro p e s m below meth c C hin hV
  have hl := lv_entry ([.int x0]) (n := 1) (Nat.le_of_ble_eq_true rfl)
  rw [lg_entry_eq]
  generalize (lg_sl ([.int x0]) ++ List.replicate (1 - (lg_sl ([.int x0])).length) Slot.unset).toArray = ls at hl ⊢
  have hl : lv_has ls 1 [(0, .int x0)] := hl
  obtain ⟨hx, hb, hml, hown, hts, hK, hz, hlk, hr⟩ := id C
  unfold wp_X8_spelling at hM
  refine lv_iload_n hx hb dX8_spelling_0 rfl (lv_at hl 0 rfl) ?_
  by_cases c1 : x0 = 300
  · have hM := ite_t c1 hM
    refine lv_tableIn (tgt := 76) (off := 75) hx hb dX8_spelling_1 (by rw [c1]; decide) (by rw [c1]; decide) (by rw [c1]; decide) (by decide) ?_
    refine va_ldcS hx hb hown (hz.2.2.1 0 (by decide)) dX8_spelling_76 ?_
    exact x_tret C hV hM dX8_spelling_78
  have hM := ite_f c1 hM
  by_cases c2 : x0 = 301
  · have hM := ite_t c2 hM
    refine lv_tableIn (tgt := 79) (off := 78) hx hb dX8_spelling_1 (by rw [c2]; decide) (by rw [c2]; decide) (by rw [c2]; decide) (by decide) ?_
    refine va_ldcS hx hb hown (hz.2.2.1 1 (by decide)) dX8_spelling_79 ?_
    exact x_tret C hV hM dX8_spelling_81
  have hM := ite_f c2 hM
  by_cases c3 : x0 = 302
  · have hM := ite_t c3 hM
    refine lv_tableIn (tgt := 82) (off := 81) hx hb dX8_spelling_1 (by rw [c3]; decide) (by rw [c3]; decide) (by rw [c3]; decide) (by decide) ?_
    refine va_ldcS hx hb hown (hz.2.2.1 2 (by decide)) dX8_spelling_82 ?_
    exact x_tret C hV hM dX8_spelling_84
  have hM := ite_f c3 hM
  by_cases c4 : x0 = 303
  · have hM := ite_t c4 hM
    refine lv_tableIn (tgt := 85) (off := 84) hx hb dX8_spelling_1 (by rw [c4]; decide) (by rw [c4]; decide) (by rw [c4]; decide) (by decide) ?_
    refine va_ldcS hx hb hown (hz.2.2.1 3 (by decide)) dX8_spelling_85 ?_
    exact x_tret C hV hM dX8_spelling_87
  have hM := ite_f c4 hM
  by_cases c5 : x0 = 304
  · have hM := ite_t c5 hM
    refine lv_tableIn (tgt := 88) (off := 87) hx hb dX8_spelling_1 (by rw [c5]; decide) (by rw [c5]; decide) (by rw [c5]; decide) (by decide) ?_
    refine va_ldcS hx hb hown (hz.2.2.1 4 (by decide)) dX8_spelling_88 ?_
    exact x_tret C hV hM dX8_spelling_90
  have hM := ite_f c5 hM
  by_cases c6 : x0 = 305
  · have hM := ite_t c6 hM
    refine lv_tableIn (tgt := 91) (off := 90) hx hb dX8_spelling_1 (by rw [c6]; decide) (by rw [c6]; decide) (by rw [c6]; decide) (by decide) ?_
    refine va_ldcS hx hb hown (hz.2.2.1 5 (by decide)) dX8_spelling_91 ?_
    exact x_tret C hV hM dX8_spelling_93
  have hM := ite_f c6 hM
  by_cases c7 : x0 = 306
  · have hM := ite_t c7 hM
    refine lv_tableIn (tgt := 94) (off := 93) hx hb dX8_spelling_1 (by rw [c7]; decide) (by rw [c7]; decide) (by rw [c7]; decide) (by decide) ?_
    refine va_ldcS hx hb hown (hz.2.2.1 6 (by decide)) dX8_spelling_94 ?_
    exact x_tret C hV hM dX8_spelling_96
  have hM := ite_f c7 hM
  by_cases c8 : x0 = 307
  · have hM := ite_t c8 hM
    refine lv_tableIn (tgt := 97) (off := 96) hx hb dX8_spelling_1 (by rw [c8]; decide) (by rw [c8]; decide) (by rw [c8]; decide) (by decide) ?_
    refine va_ldcS hx hb hown (hz.2.2.1 7 (by decide)) dX8_spelling_97 ?_
    exact x_tret C hV hM dX8_spelling_99
  have hM := ite_f c8 hM
  by_cases c9 : x0 = 308
  · have hM := ite_t c9 hM
    refine lv_tableIn (tgt := 100) (off := 99) hx hb dX8_spelling_1 (by rw [c9]; decide) (by rw [c9]; decide) (by rw [c9]; decide) (by decide) ?_
    refine va_ldcS hx hb hown (hz.2.2.1 8 (by decide)) dX8_spelling_100 ?_
    exact x_tret C hV hM dX8_spelling_102
  have hM := ite_f c9 hM
  by_cases c10 : x0 = 309
  · have hM := ite_t c10 hM
    refine lv_tableIn (tgt := 103) (off := 102) hx hb dX8_spelling_1 (by rw [c10]; decide) (by rw [c10]; decide) (by rw [c10]; decide) (by decide) ?_
    refine va_ldcS hx hb hown (hz.2.2.1 9 (by decide)) dX8_spelling_103 ?_
    exact x_tret C hV hM dX8_spelling_105
  have hM := ite_f c10 hM
  by_cases c11 : x0 = 310
  · have hM := ite_t c11 hM
    refine lv_tableIn (tgt := 106) (off := 105) hx hb dX8_spelling_1 (by rw [c11]; decide) (by rw [c11]; decide) (by rw [c11]; decide) (by decide) ?_
    refine va_ldcS hx hb hown (hz.2.2.1 10 (by decide)) dX8_spelling_106 ?_
    exact x_tret C hV hM dX8_spelling_108
  have hM := ite_f c11 hM
  by_cases c12 : x0 = 311
  · have hM := ite_t c12 hM
    refine lv_tableIn (tgt := 109) (off := 108) hx hb dX8_spelling_1 (by rw [c12]; decide) (by rw [c12]; decide) (by rw [c12]; decide) (by decide) ?_
    refine va_ldcS hx hb hown (hz.2.2.1 11 (by decide)) dX8_spelling_109 ?_
    exact x_tret C hV hM dX8_spelling_111
  have hM := ite_f c12 hM
  by_cases c13 : x0 = 312
  · have hM := ite_t c13 hM
    refine lv_tableIn (tgt := 112) (off := 111) hx hb dX8_spelling_1 (by rw [c13]; decide) (by rw [c13]; decide) (by rw [c13]; decide) (by decide) ?_
    refine va_ldcS hx hb hown (hz.2.2.1 12 (by decide)) dX8_spelling_112 ?_
    exact x_tret C hV hM dX8_spelling_114
  have hM := ite_f c13 hM
  by_cases c14 : x0 = 313
  · have hM := ite_t c14 hM
    refine lv_tableIn (tgt := 115) (off := 114) hx hb dX8_spelling_1 (by rw [c14]; decide) (by rw [c14]; decide) (by rw [c14]; decide) (by decide) ?_
    refine va_ldcS hx hb hown (hz.2.2.1 13 (by decide)) dX8_spelling_115 ?_
    exact x_tret C hV hM dX8_spelling_117
  have hM := ite_f c14 hM
  by_cases c15 : x0 = 314
  · have hM := ite_t c15 hM
    refine lv_tableIn (tgt := 118) (off := 117) hx hb dX8_spelling_1 (by rw [c15]; decide) (by rw [c15]; decide) (by rw [c15]; decide) (by decide) ?_
    refine va_ldcS hx hb hown (hz.2.2.1 14 (by decide)) dX8_spelling_118 ?_
    exact x_tret C hV hM dX8_spelling_120
  have hM := ite_f c15 hM
  refine lv_tableOut (tgt := 121) hx hb dX8_spelling_1 (by have q0 := lv_neT c1 (a := 300) (by decide); have q1 := lv_neT c2 (a := 301) (by decide); have q2 := lv_neT c3 (a := 302) (by decide); have q3 := lv_neT c4 (a := 303) (by decide); have q4 := lv_neT c5 (a := 304) (by decide); have q5 := lv_neT c6 (a := 305) (by decide); have q6 := lv_neT c7 (a := 306) (by decide); have q7 := lv_neT c8 (a := 307) (by decide); have q8 := lv_neT c9 (a := 308) (by decide); have q9 := lv_neT c10 (a := 309) (by decide); have q10 := lv_neT c11 (a := 310) (by decide); have q11 := lv_neT c12 (a := 311) (by decide); have q12 := lv_neT c13 (a := 312) (by decide); have q13 := lv_neT c14 (a := 313) (by decide); have q14 := lv_neT c15 (a := 314) (by decide); omega) (by decide) ?_
  refine va_ldcS hx hb hown (hz.2.2.1 15 (by decide)) dX8_spelling_121 ?_
  exact x_tret C hV hM dX8_spelling_123

def wq_X8_isSpelled_15 (N : Nat) (K : Int32 → PS → Prop) : Nat → PS → Nat → Nat → Int32 → Int32 → Prop
  | 0, _, _, _, _, _ => False
  | n + 1, S, a0, a1, x2, x4 => wp_J0_length_8abf5 N S a0 (fun r5 S4 => if r5 ≤ x4 then (K 1 S4) else (wp_J0_charAt_5068e N S4 a0 x4 (fun r8 S7 => S7.K a1 = 21 ∧ vp_in (x2 + x4) (S7.ln a1) ∧ if r8 = (S7.A a1 (x2 + x4).toNatClampNeg) then (wq_X8_isSpelled_15 N K n S7 a0 a1 x2 (x4 + 1)) else (K 0 S7))))
def wp_X8_isSpelled (N : Nat) (S : PS) (a0 : Nat) (a1 : Nat) (x2 : Int32) (x3 : Int32) (K : Int32 → PS → Prop) : Prop := wp_J0_length_8abf5 N S a0 (fun r2 S1 => if r2 = (x3 - x2) then (wq_X8_isSpelled_15 N K N S1 a0 a1 x2 0) else (K 0 S1))
set_option maxHeartbeats 4000000 in
set_option maxRecDepth 100000 in
theorem tq_X8_isSpelled_15 {p : Program} {l : Launch} {e : Env} {s : State} {m : MethodId} {args : Array Value} {below : List Frame} {meth : Method} {c : Code} {D : DX} {cA : Nat → ClassId} {z0 N : Nat} {K : Int32 → PS → Prop} (C : CX p s m args meth c cX8_isSpelled 5 RX8 (some .boolean) D cA z0) : ∀ (n : Nat) (S : PS) (a0 : Nat) (a1 : Nat) (x2 : Int32) (x4 : Int32) (H : Heap) (locs : List Loc) (ls : Array Slot), wq_X8_isSpelled_15 N K n S a0 a1 x2 x4 → XV D cA z0 s S H locs → lv_has ls 5 [(0, .ref (D.2.1 a0)), (1, .ref a1), (2, .int x2), (4, .int x4)] → W p l e (rmd 4 0 0) s m args below meth c H locs 0 0 (MQ below (va_Qi (fun r S => (r = 0 ∨ r = 1) ∧ K r S) (XK D cA z0) (zA z0)) args s 0 0 (zA z0)) (F0 m 15 ls []) := by
  obtain ⟨hx, hb, hml, hown, hts, hK, hz, hlk, hr⟩ := id C
  intro n
  induction n with
  | zero => intro S a0 a1 x2 x4 H locs ls hM; exact absurd hM id
  | succ n ih =>
    intro S a0 a1 x2 x4 H locs ls hM hV hl
    rw [wq_X8_isSpelled_15.eq_2] at hM
    refine lv_iload hx hb dX8_isSpelled_15 (lv_at hl 3 rfl) ?_
    refine lv_aload_n hx hb dX8_isSpelled_17 rfl (lv_at hl 0 rfl) ?_
    refine x_ci hV (x_runVT (As := []) (rest := [.int x4]) C hV mt_J0_length_8abf5 hM.1 wl_X8_58 (ct_J0_length_8abf5 hM) ⟨by decide, by decide⟩ rfl hl.1 (Nat.le_of_ble_eq_true rfl) dX8_isSpelled_18 ⟨Nat.zero_le _, Nat.zero_le _⟩) (fun r5 S4 H locs hV hM => ?_)
    refine lv_icmp_ge (tgt := 47) hx hb dX8_isSpelled_21 (by decide) (fun c6 => ?_) (fun c6 => ?_)
    · have hM := ite_t c6 hM
      refine lv_iconst (v := 1) hx hb dX8_isSpelled_47 (by decide) ?_
      exact x_zret C hV (by decide) hM dX8_isSpelled_48
    have hM := ite_f c6 hM
    refine lv_aload_n hx hb dX8_isSpelled_24 rfl (lv_at hl 0 rfl) ?_
    refine lv_iload hx hb dX8_isSpelled_25 (lv_at hl 3 rfl) ?_
    refine x_ci hV (x_runVT (As := [.int x4]) (rest := []) C hV mt_J0_charAt_5068e hM.1 wl_X8_64 (ct_J0_charAt_5068e hM) ⟨by decide, by decide⟩ rfl hl.1 (Nat.le_of_ble_eq_true rfl) dX8_isSpelled_27 ⟨Nat.zero_le _, Nat.zero_le _⟩) (fun r8 S7 H locs hV hM => ?_)
    refine lv_aload_n hx hb dX8_isSpelled_30 rfl (lv_at hl 1 rfl) ?_
    refine lv_iload_n hx hb dX8_isSpelled_31 rfl (lv_at hl 2 rfl) ?_
    refine lv_iload hx hb dX8_isSpelled_32 (lv_at hl 3 rfl) ?_
    refine lv_iadd hx hb dX8_isSpelled_34 ?_
    have hk9 := hM.1
    have hM := hM.2
    have hi10 := hM.1
    have hM := hM.2
    refine x_cald C hV hk9 hi10 dX8_isSpelled_35 ?_
    refine lv_icmp_eq (tgt := 41) hx hb dX8_isSpelled_36 (by decide) (fun c11 => ?_) (fun c11 => ?_)
    · have hM := ite_t c11 hM
      refine lv_iinc (v := (x4 + 1)) (lv' := [(4, .int (x4 + 1)), (0, .ref (D.2.1 a0)), (1, .ref a1), (2, .int x2)]) hx hb dX8_isSpelled_41 hl (k := 3) rfl rfl (by decide) rfl (fun ls hl => ?_)
      refine lv_goto (tgt := 15) hx hb dX8_isSpelled_44 (by decide) ?_
      exact ih _ _ _ _ _ _ _ _ hM hV (lv_sub hl [1, 2, 3, 0] rfl)
    have hM := ite_f c11 hM
    refine lv_iconst (v := 0) hx hb dX8_isSpelled_39 (by decide) ?_
    exact x_zret C hV (by decide) hM dX8_isSpelled_40
set_option maxHeartbeats 4000000 in
set_option maxRecDepth 100000 in
theorem c_X8_isSpelled {l : Launch} {D : DX} {cA : Nat → ClassId} {z0 N : Nat} {S : PS} {a0 : Nat} {a1 : Nat} {x2 : Int32} {x3 : Int32} {K : Int32 → PS → Prop} (hM : wp_X8_isSpelled N S a0 a1 x2 x3 K) : MetI l yX8_isSpelled cX8_isSpelled 5 (some .boolean) 4 0 0 D cA z0 [.ref (D.2.1 a0), .ref a1, .int x2, .int x3] S (fun r S => (r = 0 ∨ r = 1) ∧ K r S) := by
  refine x_met RX8 (by decide) rfl ?_
  intro p e s m below meth c C hin hV
  have hl := lv_entry ([.ref (D.2.1 a0), .ref a1, .int x2, .int x3]) (n := 5) (Nat.le_of_ble_eq_true rfl)
  rw [lg_entry_eq]
  generalize (lg_sl ([.ref (D.2.1 a0), .ref a1, .int x2, .int x3]) ++ List.replicate (5 - (lg_sl ([.ref (D.2.1 a0), .ref a1, .int x2, .int x3])).length) Slot.unset).toArray = ls at hl ⊢
  have hl : lv_has ls 5 [(0, .ref (D.2.1 a0)), (1, .ref a1), (2, .int x2), (3, .int x3)] := hl
  obtain ⟨hx, hb, hml, hown, hts, hK, hz, hlk, hr⟩ := id C
  unfold wp_X8_isSpelled at hM
  refine lv_aload_n hx hb dX8_isSpelled_0 rfl (lv_at hl 0 rfl) ?_
  refine x_ci hV (x_runVT (As := []) (rest := []) C hV mt_J0_length_8abf5 hM.1 wl_X8_58 (ct_J0_length_8abf5 hM) ⟨by decide, by decide⟩ rfl hl.1 (Nat.le_of_ble_eq_true rfl) dX8_isSpelled_1 ⟨Nat.zero_le _, Nat.zero_le _⟩) (fun r2 S1 H locs hV hM => ?_)
  refine lv_iload_n hx hb dX8_isSpelled_4 rfl (lv_at hl 3 rfl) ?_
  refine lv_iload_n hx hb dX8_isSpelled_5 rfl (lv_at hl 2 rfl) ?_
  refine lv_isub hx hb dX8_isSpelled_6 ?_
  refine lv_icmp_eq (tgt := 12) hx hb dX8_isSpelled_7 (by decide) (fun c3 => ?_) (fun c3 => ?_)
  · have hM := ite_t c3 hM
    refine lv_iconst (v := 0) hx hb dX8_isSpelled_12 (by decide) ?_
    refine lv_istore (lv' := [(4, .int 0), (0, .ref (D.2.1 a0)), (1, .ref a1), (2, .int x2), (3, .int x3)]) hx hb dX8_isSpelled_13 hl (by decide) rfl (fun ls hl => ?_)
    exact tq_X8_isSpelled_15 C N _ _ _ _ _ _ _ _ hM hV (lv_sub hl [1, 2, 3, 0] rfl)
  have hM := ite_f c3 hM
  refine lv_iconst (v := 0) hx hb dX8_isSpelled_10 (by decide) ?_
  exact x_zret C hV (by decide) hM dX8_isSpelled_11

def wq_X8_wordCode_4 (N : Nat) (K : Int32 → PS → Prop) : Nat → PS → Nat → Int32 → Int32 → Int32 → Prop
  | 0, _, _, _, _, _ => False
  | n + 1, S, a0, x1, x2, x3 => if 314 < x3 then (K 257 S) else (wp_X8_spelling N S x3 (fun r3 S2 => wp_X8_isSpelled N S2 r3 a0 x1 x2 (fun r5 S4 => if r5 = 0 then (wq_X8_wordCode_4 N K n S4 a0 x1 x2 (x3 + 1)) else (K x3 S4))))
def wp_X8_wordCode (N : Nat) (S : PS) (a0 : Nat) (x1 : Int32) (x2 : Int32) (K : Int32 → PS → Prop) : Prop := wq_X8_wordCode_4 N K N S a0 x1 x2 300
set_option maxHeartbeats 4000000 in
set_option maxRecDepth 100000 in
theorem tq_X8_wordCode_4 {p : Program} {l : Launch} {e : Env} {s : State} {m : MethodId} {args : Array Value} {below : List Frame} {meth : Method} {c : Code} {D : DX} {cA : Nat → ClassId} {z0 N : Nat} {K : Int32 → PS → Prop} (C : CX p s m args meth c cX8_wordCode 4 RX8 (some .int) D cA z0) : ∀ (n : Nat) (S : PS) (a0 : Nat) (x1 : Int32) (x2 : Int32) (x3 : Int32) (H : Heap) (locs : List Loc) (ls : Array Slot), wq_X8_wordCode_4 N K n S a0 x1 x2 x3 → XV D cA z0 s S H locs → lv_has ls 4 [(0, .ref a0), (1, .int x1), (2, .int x2), (3, .int x3)] → W p l e (rmd 5 0 0) s m args below meth c H locs 0 0 (MQ below (va_Qi K (XK D cA z0) (zA z0)) args s 0 0 (zA z0)) (F0 m 4 ls []) := by
  obtain ⟨hx, hb, hml, hown, hts, hK, hz, hlk, hr⟩ := id C
  intro n
  induction n with
  | zero => intro S a0 x1 x2 x3 H locs ls hM; exact absurd hM id
  | succ n ih =>
    intro S a0 x1 x2 x3 H locs ls hM hV hl
    rw [wq_X8_wordCode_4.eq_2] at hM
    refine lv_iload_n hx hb dX8_wordCode_4 rfl (lv_at hl 3 rfl) ?_
    refine lv_sipush (v := 314) hx hb dX8_wordCode_5 (by decide) ?_
    refine lv_icmp_gt (tgt := 32) hx hb dX8_wordCode_8 (by decide) (fun c1 => ?_) (fun c1 => ?_)
    · have hM := ite_t c1 hM
      refine lv_sipush (v := 257) hx hb dX8_wordCode_32 (by decide) ?_
      exact x_iret C hV hM dX8_wordCode_35
    have hM := ite_f c1 hM
    refine lv_iload_n hx hb dX8_wordCode_11 rfl (lv_at hl 3 rfl) ?_
    refine x_ct hV (x_runS (As := [.int x3]) (rest := []) C hV ms_X8_spelling wl_X8_50 (c_X8_spelling hM) ⟨by decide, by decide⟩ rfl hl.1 (Nat.le_of_ble_eq_true rfl) dX8_wordCode_12 ⟨Nat.zero_le _, Nat.zero_le _⟩) (fun r3 S2 H locs hV hM => ?_)
    refine lv_aload_n hx hb dX8_wordCode_15 rfl (lv_at hl 0 rfl) ?_
    refine lv_iload_n hx hb dX8_wordCode_16 rfl (lv_at hl 1 rfl) ?_
    refine lv_iload_n hx hb dX8_wordCode_17 rfl (lv_at hl 2 rfl) ?_
    refine x_ci hV (x_runS (As := [.ref (D.2.1 r3), .ref a0, .int x1, .int x2]) (rest := []) C hV ms_X8_isSpelled wl_X8_54 (c_X8_isSpelled hM) ⟨by decide, by decide⟩ rfl hl.1 (Nat.le_of_ble_eq_true rfl) dX8_wordCode_18 ⟨Nat.zero_le _, Nat.zero_le _⟩) (fun r5 S4 H locs hV hM => ?_)
    have hz6 := hM.1
    have hM := hM.2
    refine lv_if_eq (tgt := 26) hx hb dX8_wordCode_21 (by decide) (fun c7 => ?_) (fun c7 => ?_)
    · have hM := ite_t c7 hM
      refine lv_iinc (v := (x3 + 1)) (lv' := [(3, .int (x3 + 1)), (0, .ref a0), (1, .int x1), (2, .int x2)]) hx hb dX8_wordCode_26 hl (k := 3) rfl rfl (by decide) rfl (fun ls hl => ?_)
      refine lv_goto (tgt := 4) hx hb dX8_wordCode_29 (by decide) ?_
      exact ih _ _ _ _ _ _ _ _ hM hV (lv_sub hl [1, 2, 3, 0] rfl)
    have hM := ite_f c7 hM
    refine lv_iload_n hx hb dX8_wordCode_24 rfl (lv_at hl 3 rfl) ?_
    exact x_iret C hV hM dX8_wordCode_25
set_option maxHeartbeats 4000000 in
set_option maxRecDepth 100000 in
theorem c_X8_wordCode {l : Launch} {D : DX} {cA : Nat → ClassId} {z0 N : Nat} {S : PS} {a0 : Nat} {x1 : Int32} {x2 : Int32} {K : Int32 → PS → Prop} (hM : wp_X8_wordCode N S a0 x1 x2 K) : MetI l yX8_wordCode cX8_wordCode 4 (some .int) 5 0 0 D cA z0 [.ref a0, .int x1, .int x2] S K := by
  refine x_met RX8 (by decide) rfl ?_
  intro p e s m below meth c C hin hV
  have hl := lv_entry ([.ref a0, .int x1, .int x2]) (n := 4) (Nat.le_of_ble_eq_true rfl)
  rw [lg_entry_eq]
  generalize (lg_sl ([.ref a0, .int x1, .int x2]) ++ List.replicate (4 - (lg_sl ([.ref a0, .int x1, .int x2])).length) Slot.unset).toArray = ls at hl ⊢
  have hl : lv_has ls 4 [(0, .ref a0), (1, .int x1), (2, .int x2)] := hl
  obtain ⟨hx, hb, hml, hown, hts, hK, hz, hlk, hr⟩ := id C
  unfold wp_X8_wordCode at hM
  refine lv_sipush (v := 300) hx hb dX8_wordCode_0 (by decide) ?_
  refine lv_istore_n (lv' := [(3, .int 300), (0, .ref a0), (1, .int x1), (2, .int x2)]) hx hb dX8_wordCode_3 rfl hl (by decide) rfl (fun ls hl => ?_)
  exact tq_X8_wordCode_4 C N _ _ _ _ _ _ _ _ hM hV (lv_sub hl [1, 2, 3, 0] rfl)

def wq_X8_readAll_171 (N : Nat) (K : PS → Prop) (S : PS) (a0 : Nat) (x2 : Int32) : Prop := S.K a0 = 9 ∧ wp_X8_add N S a0 258 0 x2 (fun S7 => K S7)
def wq_X8_readAll_162 (N : Nat) (K : PS → Prop) (k_15 : PS → Nat → Nat → Int32 → Int32 → Int32 → Prop) (S : PS) (a0 : Nat) (a1 : Nat) (x2 : Int32) (x4 : Int32) (x6 : Int32) : Prop := k_15 S a0 a1 x2 x6 (x4 + 1)
def wq_X8_readAll_140 (N : Nat) (K : PS → Prop) (k_15 : PS → Nat → Nat → Int32 → Int32 → Int32 → Prop) (S : PS) (a0 : Nat) (a1 : Nat) (x2 : Int32) (x3 : Int32) (x4 : Int32) (x6 : Int32) (b0 : Nat) (t1 : Int32) (t2 : Int32) : Prop := S.K b0 = 9 ∧ wp_X8_add N S b0 t1 t2 x3 (fun S32 => wq_X8_readAll_162 N K k_15 S32 a0 a1 x2 x4 x6)
def wq_X8_readAll_124 (N : Nat) (K : PS → Prop) (k_15 : PS → Nat → Nat → Int32 → Int32 → Int32 → Prop) (S : PS) (a0 : Nat) (a1 : Nat) (x2 : Int32) (x3 : Int32) (x4 : Int32) (x6 : Int32) (x7 : Int32) (b0 : Nat) (t1 : Int32) : Prop := if x7 = 0 then (wq_X8_readAll_140 N K k_15 S a0 a1 x2 x3 x4 x6 b0 t1 0) else (wp_X8_number N S a1 x3 x6 (fun r35 S34 => wq_X8_readAll_140 N K k_15 S34 a0 a1 x2 x3 x4 x6 b0 t1 r35))
def wq_X8_readAll_107 (N : Nat) (K : PS → Prop) (k_15 : PS → Nat → Nat → Int32 → Int32 → Int32 → Prop) (S : PS) (a0 : Nat) (a1 : Nat) (x2 : Int32) (x3 : Int32) (x4 : Int32) (x6 : Int32) (t0 : Int32) : Prop := if t0 = 0 then (wq_X8_readAll_124 N K k_15 S a0 a1 x2 x3 x4 x6 t0 a0 257) else (wq_X8_readAll_124 N K k_15 S a0 a1 x2 x3 x4 x6 t0 a0 256)
def wq_X8_readAll_15 (N : Nat) (K : PS → Prop) : Nat → PS → Nat → Nat → Int32 → Int32 → Int32 → Prop
  | 0, _, _, _, _, _, _ => False
  | n + 1, S, a0, a1, x2, x3, x4 => if 200 ≤ x4 then (wq_X8_readAll_171 N K S a0 x2) else (if x2 ≤ x3 then (wq_X8_readAll_171 N K S a0 x2) else (S.K a1 = 21 ∧ vp_in x3 (S.ln a1) ∧ ∀ v12 : Int32, v12 = (S.A a1 x3.toNatClampNeg) → ∀ v13 : Int32, v13 = (x3 + 1) → wp_X8_isLetter N S v12 (fun r15 S14 => if r15 = 0 then (wp_X8_isDigit N S14 v12 (fun r19 S18 => if r19 = 0 then (if v12 = 32 then (wq_X8_readAll_162 N K (fun S a0 a1 x2 x3 x4 => wq_X8_readAll_15 N K n S a0 a1 x2 x3 x4) S18 a0 a1 x2 x4 v13) else (S18.K a0 = 9 ∧ wp_X8_add N S18 a0 v12 0 x3 (fun S24 => wq_X8_readAll_162 N K (fun S a0 a1 x2 x3 x4 => wq_X8_readAll_15 N K n S a0 a1 x2 x3 x4) S24 a0 a1 x2 x4 v13))) else (wp_X8_endOfRun N S18 a1 x2 x3 48 57 (fun r27 S26 => if 4 < (r27 - x3) then (wq_X8_readAll_107 N K (fun S a0 a1 x2 x3 x4 => wq_X8_readAll_15 N K n S a0 a1 x2 x3 x4) S26 a0 a1 x2 x3 x4 r27 0) else (wq_X8_readAll_107 N K (fun S a0 a1 x2 x3 x4 => wq_X8_readAll_15 N K n S a0 a1 x2 x3 x4) S26 a0 a1 x2 x3 x4 r27 1))))) else (wp_X8_endOfRun N S14 a1 x2 x3 97 122 (fun r37 S36 => wp_X8_wordCode N S36 a1 x3 r37 (fun r39 S38 => S38.K a0 = 9 ∧ wp_X8_add N S38 a0 r39 0 x3 (fun S41 => wq_X8_readAll_162 N K (fun S a0 a1 x2 x3 x4 => wq_X8_readAll_15 N K n S a0 a1 x2 x3 x4) S41 a0 a1 x2 x4 r37)))))))
def wp_X8_readAll (N : Nat) (S : PS) (a0 : Nat) (a1 : Nat) (x2 : Int32) (K : PS → Prop) : Prop := S.K a0 = 9 ∧ ∀ S2 : PS, S2 = S.setI 579 a0 0 → ∀ S4 : PS, S4 = S2.setI 580 a0 0 → wq_X8_readAll_15 N K N S4 a0 a1 x2 0 0
set_option maxHeartbeats 4000000 in
set_option maxRecDepth 100000 in
theorem tq_X8_readAll_171 {p : Program} {l : Launch} {e : Env} {s : State} {m : MethodId} {args : Array Value} {below : List Frame} {meth : Method} {c : Code} {D : DX} {cA : Nat → ClassId} {z0 N : Nat} {K : PS → Prop} (C : CX p s m args meth c cX8_readAll 8 RX8 none D cA z0) : ∀ (S : PS) (a0 : Nat) (x2 : Int32) (H : Heap) (locs : List Loc) (ls : Array Slot), wq_X8_readAll_171 N K S a0 x2 → XV D cA z0 s S H locs → lv_has ls 8 [(0, .ref a0), (2, .int x2)] → W p l e (rmd 6 0 0) s m args below meth c H locs 0 0 (MQ below (va_Qv K (XK D cA z0) (zA z0)) args s 0 0 (zA z0)) (F0 m 171 ls []) := by
  obtain ⟨hx, hb, hml, hown, hts, hK, hz, hlk, hr⟩ := id C
  intro S a0 x2 H locs ls hM hV hl
  unfold wq_X8_readAll_171 at hM
  refine lv_aload_n hx hb dX8_readAll_171 rfl (lv_at hl 0 rfl) ?_
  refine lv_sipush (v := 258) hx hb dX8_readAll_172 (by decide) ?_
  refine lv_iconst (v := 0) hx hb dX8_readAll_175 (by decide) ?_
  refine lv_iload_n hx hb dX8_readAll_176 rfl (lv_at hl 1 rfl) ?_
  have hk6 := hM.1
  have hM := hM.2
  refine x_cv hV (x_runV (As := [.int 258, .int 0, .int x2]) (rest := []) C hV mi_X8_add wl_X8_40 hk6 (c_X8_add hM) ⟨by decide, by decide⟩ rfl hl.1 (Nat.le_of_ble_eq_true rfl) dX8_readAll_177 ⟨Nat.zero_le _, Nat.zero_le _⟩) (fun S7 H locs hV hM => ?_)
  exact x_vret C hV hM dX8_readAll_180
set_option maxHeartbeats 4000000 in
set_option maxRecDepth 100000 in
theorem tq_X8_readAll_162 {p : Program} {l : Launch} {e : Env} {s : State} {m : MethodId} {args : Array Value} {below : List Frame} {meth : Method} {c : Code} {D : DX} {cA : Nat → ClassId} {z0 N : Nat} {K : PS → Prop} {k_15 : PS → Nat → Nat → Int32 → Int32 → Int32 → Prop} (C : CX p s m args meth c cX8_readAll 8 RX8 none D cA z0) (H_15 : ∀ (S : PS) (a0 : Nat) (a1 : Nat) (x2 : Int32) (x3 : Int32) (x4 : Int32) (H : Heap) (locs : List Loc) (ls : Array Slot), k_15 S a0 a1 x2 x3 x4 → XV D cA z0 s S H locs → lv_has ls 8 [(0, .ref a0), (1, .ref a1), (2, .int x2), (3, .int x3), (4, .int x4)] → W p l e (rmd 6 0 0) s m args below meth c H locs 0 0 (MQ below (va_Qv K (XK D cA z0) (zA z0)) args s 0 0 (zA z0)) (F0 m 15 ls [])) : ∀ (S : PS) (a0 : Nat) (a1 : Nat) (x2 : Int32) (x4 : Int32) (x6 : Int32) (H : Heap) (locs : List Loc) (ls : Array Slot), wq_X8_readAll_162 N K k_15 S a0 a1 x2 x4 x6 → XV D cA z0 s S H locs → lv_has ls 8 [(0, .ref a0), (1, .ref a1), (2, .int x2), (4, .int x4), (6, .int x6)] → W p l e (rmd 6 0 0) s m args below meth c H locs 0 0 (MQ below (va_Qv K (XK D cA z0) (zA z0)) args s 0 0 (zA z0)) (F0 m 162 ls []) := by
  obtain ⟨hx, hb, hml, hown, hts, hK, hz, hlk, hr⟩ := id C
  intro S a0 a1 x2 x4 x6 H locs ls hM hV hl
  unfold wq_X8_readAll_162 at hM
  refine lv_iload hx hb dX8_readAll_162 (lv_at hl 4 rfl) ?_
  refine lv_istore_n (lv' := [(3, .int x6), (0, .ref a0), (1, .ref a1), (2, .int x2), (4, .int x4), (6, .int x6)]) hx hb dX8_readAll_164 rfl hl (by decide) rfl (fun ls hl => ?_)
  refine lv_iinc (v := (x4 + 1)) (lv' := [(4, .int (x4 + 1)), (3, .int x6), (0, .ref a0), (1, .ref a1), (2, .int x2), (6, .int x6)]) hx hb dX8_readAll_165 hl (k := 4) rfl rfl (by decide) rfl (fun ls hl => ?_)
  refine lv_goto (tgt := 15) hx hb dX8_readAll_168 (by decide) ?_
  exact H_15 _ _ _ _ _ _ _ _ _ hM hV (lv_sub hl [2, 3, 4, 1, 0] rfl)
set_option maxHeartbeats 4000000 in
set_option maxRecDepth 100000 in
theorem tq_X8_readAll_140 {p : Program} {l : Launch} {e : Env} {s : State} {m : MethodId} {args : Array Value} {below : List Frame} {meth : Method} {c : Code} {D : DX} {cA : Nat → ClassId} {z0 N : Nat} {K : PS → Prop} {k_15 : PS → Nat → Nat → Int32 → Int32 → Int32 → Prop} (C : CX p s m args meth c cX8_readAll 8 RX8 none D cA z0) (H_15 : ∀ (S : PS) (a0 : Nat) (a1 : Nat) (x2 : Int32) (x3 : Int32) (x4 : Int32) (H : Heap) (locs : List Loc) (ls : Array Slot), k_15 S a0 a1 x2 x3 x4 → XV D cA z0 s S H locs → lv_has ls 8 [(0, .ref a0), (1, .ref a1), (2, .int x2), (3, .int x3), (4, .int x4)] → W p l e (rmd 6 0 0) s m args below meth c H locs 0 0 (MQ below (va_Qv K (XK D cA z0) (zA z0)) args s 0 0 (zA z0)) (F0 m 15 ls [])) : ∀ (S : PS) (a0 : Nat) (a1 : Nat) (x2 : Int32) (x3 : Int32) (x4 : Int32) (x6 : Int32) (b0 : Nat) (t1 : Int32) (t2 : Int32) (H : Heap) (locs : List Loc) (ls : Array Slot), wq_X8_readAll_140 N K k_15 S a0 a1 x2 x3 x4 x6 b0 t1 t2 → XV D cA z0 s S H locs → lv_has ls 8 [(0, .ref a0), (1, .ref a1), (2, .int x2), (3, .int x3), (4, .int x4), (6, .int x6)] → W p l e (rmd 6 0 0) s m args below meth c H locs 0 0 (MQ below (va_Qv K (XK D cA z0) (zA z0)) args s 0 0 (zA z0)) (F0 m 140 ls [.int t2, .int t1, .ref b0]) := by
  obtain ⟨hx, hb, hml, hown, hts, hK, hz, hlk, hr⟩ := id C
  intro S a0 a1 x2 x3 x4 x6 b0 t1 t2 H locs ls hM hV hl
  unfold wq_X8_readAll_140 at hM
  refine lv_iload_n hx hb dX8_readAll_140 rfl (lv_at hl 3 rfl) ?_
  have hk31 := hM.1
  have hM := hM.2
  refine x_cv hV (x_runV (As := [.int t1, .int t2, .int x3]) (rest := []) C hV mi_X8_add wl_X8_40 hk31 (c_X8_add hM) ⟨by decide, by decide⟩ rfl hl.1 (Nat.le_of_ble_eq_true rfl) dX8_readAll_141 ⟨Nat.zero_le _, Nat.zero_le _⟩) (fun S32 H locs hV hM => ?_)
  refine lv_goto (tgt := 162) hx hb dX8_readAll_144 (by decide) ?_
  exact tq_X8_readAll_162 C H_15 _ _ _ _ _ _ _ _ _ hM hV (lv_sub hl [0, 1, 2, 4, 5] rfl)
set_option maxHeartbeats 4000000 in
set_option maxRecDepth 100000 in
theorem tq_X8_readAll_124 {p : Program} {l : Launch} {e : Env} {s : State} {m : MethodId} {args : Array Value} {below : List Frame} {meth : Method} {c : Code} {D : DX} {cA : Nat → ClassId} {z0 N : Nat} {K : PS → Prop} {k_15 : PS → Nat → Nat → Int32 → Int32 → Int32 → Prop} (C : CX p s m args meth c cX8_readAll 8 RX8 none D cA z0) (H_15 : ∀ (S : PS) (a0 : Nat) (a1 : Nat) (x2 : Int32) (x3 : Int32) (x4 : Int32) (H : Heap) (locs : List Loc) (ls : Array Slot), k_15 S a0 a1 x2 x3 x4 → XV D cA z0 s S H locs → lv_has ls 8 [(0, .ref a0), (1, .ref a1), (2, .int x2), (3, .int x3), (4, .int x4)] → W p l e (rmd 6 0 0) s m args below meth c H locs 0 0 (MQ below (va_Qv K (XK D cA z0) (zA z0)) args s 0 0 (zA z0)) (F0 m 15 ls [])) : ∀ (S : PS) (a0 : Nat) (a1 : Nat) (x2 : Int32) (x3 : Int32) (x4 : Int32) (x6 : Int32) (x7 : Int32) (b0 : Nat) (t1 : Int32) (H : Heap) (locs : List Loc) (ls : Array Slot), wq_X8_readAll_124 N K k_15 S a0 a1 x2 x3 x4 x6 x7 b0 t1 → XV D cA z0 s S H locs → lv_has ls 8 [(0, .ref a0), (1, .ref a1), (2, .int x2), (3, .int x3), (4, .int x4), (6, .int x6), (7, .int x7)] → W p l e (rmd 6 0 0) s m args below meth c H locs 0 0 (MQ below (va_Qv K (XK D cA z0) (zA z0)) args s 0 0 (zA z0)) (F0 m 124 ls [.int t1, .ref b0]) := by
  obtain ⟨hx, hb, hml, hown, hts, hK, hz, hlk, hr⟩ := id C
  intro S a0 a1 x2 x3 x4 x6 x7 b0 t1 H locs ls hM hV hl
  unfold wq_X8_readAll_124 at hM
  refine lv_iload hx hb dX8_readAll_124 (lv_at hl 6 rfl) ?_
  refine lv_if_eq (tgt := 139) hx hb dX8_readAll_126 (by decide) (fun c30 => ?_) (fun c30 => ?_)
  · have hM := ite_t c30 hM
    refine lv_iconst (v := 0) hx hb dX8_readAll_139 (by decide) ?_
    exact tq_X8_readAll_140 C H_15 _ _ _ _ _ _ _ _ _ _ _ _ _ hM hV (lv_sub hl [0, 1, 2, 3, 4, 5] rfl)
  have hM := ite_f c30 hM
  refine lv_aload_n hx hb dX8_readAll_129 rfl (lv_at hl 1 rfl) ?_
  refine lv_iload_n hx hb dX8_readAll_130 rfl (lv_at hl 3 rfl) ?_
  refine lv_iload hx hb dX8_readAll_131 (lv_at hl 5 rfl) ?_
  refine x_ci hV (x_runS (As := [.ref a1, .int x3, .int x6]) (rest := [.int t1, .ref b0]) C hV ms_X8_number wl_X8_47 (c_X8_number hM) ⟨by decide, by decide⟩ rfl hl.1 (Nat.le_of_ble_eq_true rfl) dX8_readAll_133 ⟨Nat.zero_le _, Nat.zero_le _⟩) (fun r35 S34 H locs hV hM => ?_)
  refine lv_goto (tgt := 140) hx hb dX8_readAll_136 (by decide) ?_
  exact tq_X8_readAll_140 C H_15 _ _ _ _ _ _ _ _ _ _ _ _ _ hM hV (lv_sub hl [0, 1, 2, 3, 4, 5] rfl)
set_option maxHeartbeats 4000000 in
set_option maxRecDepth 100000 in
theorem tq_X8_readAll_107 {p : Program} {l : Launch} {e : Env} {s : State} {m : MethodId} {args : Array Value} {below : List Frame} {meth : Method} {c : Code} {D : DX} {cA : Nat → ClassId} {z0 N : Nat} {K : PS → Prop} {k_15 : PS → Nat → Nat → Int32 → Int32 → Int32 → Prop} (C : CX p s m args meth c cX8_readAll 8 RX8 none D cA z0) (H_15 : ∀ (S : PS) (a0 : Nat) (a1 : Nat) (x2 : Int32) (x3 : Int32) (x4 : Int32) (H : Heap) (locs : List Loc) (ls : Array Slot), k_15 S a0 a1 x2 x3 x4 → XV D cA z0 s S H locs → lv_has ls 8 [(0, .ref a0), (1, .ref a1), (2, .int x2), (3, .int x3), (4, .int x4)] → W p l e (rmd 6 0 0) s m args below meth c H locs 0 0 (MQ below (va_Qv K (XK D cA z0) (zA z0)) args s 0 0 (zA z0)) (F0 m 15 ls [])) : ∀ (S : PS) (a0 : Nat) (a1 : Nat) (x2 : Int32) (x3 : Int32) (x4 : Int32) (x6 : Int32) (t0 : Int32) (H : Heap) (locs : List Loc) (ls : Array Slot), wq_X8_readAll_107 N K k_15 S a0 a1 x2 x3 x4 x6 t0 → XV D cA z0 s S H locs → lv_has ls 8 [(0, .ref a0), (1, .ref a1), (2, .int x2), (3, .int x3), (4, .int x4), (6, .int x6)] → W p l e (rmd 6 0 0) s m args below meth c H locs 0 0 (MQ below (va_Qv K (XK D cA z0) (zA z0)) args s 0 0 (zA z0)) (F0 m 107 ls [.int t0]) := by
  obtain ⟨hx, hb, hml, hown, hts, hK, hz, hlk, hr⟩ := id C
  intro S a0 a1 x2 x3 x4 x6 t0 H locs ls hM hV hl
  unfold wq_X8_readAll_107 at hM
  refine lv_istore (lv' := [(7, .int t0), (0, .ref a0), (1, .ref a1), (2, .int x2), (3, .int x3), (4, .int x4), (6, .int x6)]) hx hb dX8_readAll_107 hl (by decide) rfl (fun ls hl => ?_)
  refine lv_aload_n hx hb dX8_readAll_109 rfl (lv_at hl 1 rfl) ?_
  refine lv_iload hx hb dX8_readAll_110 (lv_at hl 0 rfl) ?_
  refine lv_if_eq (tgt := 121) hx hb dX8_readAll_112 (by decide) (fun c29 => ?_) (fun c29 => ?_)
  · have hM := ite_t c29 hM
    refine lv_sipush (v := 257) hx hb dX8_readAll_121 (by decide) ?_
    exact tq_X8_readAll_124 C H_15 _ _ _ _ _ _ _ _ _ _ _ _ _ hM hV (lv_sub hl [1, 2, 3, 4, 5, 6, 0] rfl)
  have hM := ite_f c29 hM
  refine lv_sipush (v := 256) hx hb dX8_readAll_115 (by decide) ?_
  refine lv_goto (tgt := 124) hx hb dX8_readAll_118 (by decide) ?_
  exact tq_X8_readAll_124 C H_15 _ _ _ _ _ _ _ _ _ _ _ _ _ hM hV (lv_sub hl [1, 2, 3, 4, 5, 6, 0] rfl)
set_option maxHeartbeats 4000000 in
set_option maxRecDepth 100000 in
theorem tq_X8_readAll_15 {p : Program} {l : Launch} {e : Env} {s : State} {m : MethodId} {args : Array Value} {below : List Frame} {meth : Method} {c : Code} {D : DX} {cA : Nat → ClassId} {z0 N : Nat} {K : PS → Prop} (C : CX p s m args meth c cX8_readAll 8 RX8 none D cA z0) : ∀ (n : Nat) (S : PS) (a0 : Nat) (a1 : Nat) (x2 : Int32) (x3 : Int32) (x4 : Int32) (H : Heap) (locs : List Loc) (ls : Array Slot), wq_X8_readAll_15 N K n S a0 a1 x2 x3 x4 → XV D cA z0 s S H locs → lv_has ls 8 [(0, .ref a0), (1, .ref a1), (2, .int x2), (3, .int x3), (4, .int x4)] → W p l e (rmd 6 0 0) s m args below meth c H locs 0 0 (MQ below (va_Qv K (XK D cA z0) (zA z0)) args s 0 0 (zA z0)) (F0 m 15 ls []) := by
  obtain ⟨hx, hb, hml, hown, hts, hK, hz, hlk, hr⟩ := id C
  intro n
  induction n with
  | zero => intro S a0 a1 x2 x3 x4 H locs ls hM; exact absurd hM id
  | succ n ih =>
    intro S a0 a1 x2 x3 x4 H locs ls hM hV hl
    rw [wq_X8_readAll_15.eq_2] at hM
    refine lv_iload hx hb dX8_readAll_15 (lv_at hl 4 rfl) ?_
    refine lv_sipush (v := 200) hx hb dX8_readAll_17 (by decide) ?_
    refine lv_icmp_ge (tgt := 171) hx hb dX8_readAll_20 (by decide) (fun c5 => ?_) (fun c5 => ?_)
    · have hM := ite_t c5 hM
      exact tq_X8_readAll_171 C _ _ _ _ _ _ hM hV (lv_sub hl [0, 2] rfl)
    have hM := ite_f c5 hM
    refine lv_iload_n hx hb dX8_readAll_23 rfl (lv_at hl 3 rfl) ?_
    refine lv_iload_n hx hb dX8_readAll_24 rfl (lv_at hl 2 rfl) ?_
    refine lv_icmp_ge (tgt := 171) hx hb dX8_readAll_25 (by decide) (fun c9 => ?_) (fun c9 => ?_)
    · have hM := ite_t c9 hM
      exact tq_X8_readAll_171 C _ _ _ _ _ _ hM hV (lv_sub hl [0, 2] rfl)
    have hM := ite_f c9 hM
    refine lv_aload_n hx hb dX8_readAll_28 rfl (lv_at hl 1 rfl) ?_
    refine lv_iload_n hx hb dX8_readAll_29 rfl (lv_at hl 3 rfl) ?_
    have hk10 := hM.1
    have hM := hM.2
    have hi11 := hM.1
    have hM := hM.2
    refine x_cald C hV hk10 hi11 dX8_readAll_30 ?_
    refine lv_topi (fun v12 ev12 => ?_)
    have hM := hM v12 ev12
    refine lv_istore (lv' := [(5, .int v12), (0, .ref a0), (1, .ref a1), (2, .int x2), (3, .int x3), (4, .int x4)]) hx hb dX8_readAll_31 hl (by decide) rfl (fun ls hl => ?_)
    refine lv_iload_n hx hb dX8_readAll_33 rfl (lv_at hl 4 rfl) ?_
    refine lv_iconst (v := 1) hx hb dX8_readAll_34 (by decide) ?_
    refine lv_iadd hx hb dX8_readAll_35 ?_
    refine lv_topi (fun v13 ev13 => ?_)
    have hM := hM v13 ev13
    refine lv_istore (lv' := [(6, .int v13), (5, .int v12), (0, .ref a0), (1, .ref a1), (2, .int x2), (3, .int x3), (4, .int x4)]) hx hb dX8_readAll_36 hl (by decide) rfl (fun ls hl => ?_)
    refine lv_iload hx hb dX8_readAll_38 (lv_at hl 1 rfl) ?_
    refine x_ci hV (x_runS (As := [.int v12]) (rest := []) C hV ms_X8_isLetter wl_X8_28 (c_X8_isLetter hM) ⟨by decide, by decide⟩ rfl hl.1 (Nat.le_of_ble_eq_true rfl) dX8_readAll_40 ⟨Nat.zero_le _, Nat.zero_le _⟩) (fun r15 S14 H locs hV hM => ?_)
    have hz16 := hM.1
    have hM := hM.2
    refine lv_if_eq (tgt := 74) hx hb dX8_readAll_43 (by decide) (fun c17 => ?_) (fun c17 => ?_)
    · have hM := ite_t c17 hM
      refine lv_iload hx hb dX8_readAll_74 (lv_at hl 1 rfl) ?_
      refine x_ci hV (x_runS (As := [.int v12]) (rest := []) C hV ms_X8_isDigit wl_X8_44 (c_X8_isDigit hM) ⟨by decide, by decide⟩ rfl hl.1 (Nat.le_of_ble_eq_true rfl) dX8_readAll_76 ⟨Nat.zero_le _, Nat.zero_le _⟩) (fun r19 S18 H locs hV hM => ?_)
      have hz20 := hM.1
      have hM := hM.2
      refine lv_if_eq (tgt := 147) hx hb dX8_readAll_79 (by decide) (fun c21 => ?_) (fun c21 => ?_)
      · have hM := ite_t c21 hM
        refine lv_iload hx hb dX8_readAll_147 (lv_at hl 1 rfl) ?_
        refine lv_bipush (v := 32) hx hb dX8_readAll_149 (by decide) ?_
        refine lv_icmp_eq (tgt := 162) hx hb dX8_readAll_151 (by decide) (fun c22 => ?_) (fun c22 => ?_)
        · have hM := ite_t c22 hM
          exact tq_X8_readAll_162 C ih _ _ _ _ _ _ _ _ _ hM hV (lv_sub hl [2, 3, 4, 6, 0] rfl)
        have hM := ite_f c22 hM
        refine lv_aload_n hx hb dX8_readAll_154 rfl (lv_at hl 2 rfl) ?_
        refine lv_iload hx hb dX8_readAll_155 (lv_at hl 1 rfl) ?_
        refine lv_iconst (v := 0) hx hb dX8_readAll_157 (by decide) ?_
        refine lv_iload_n hx hb dX8_readAll_158 rfl (lv_at hl 5 rfl) ?_
        have hk23 := hM.1
        have hM := hM.2
        refine x_cv hV (x_runV (As := [.int v12, .int 0, .int x3]) (rest := []) C hV mi_X8_add wl_X8_40 hk23 (c_X8_add hM) ⟨by decide, by decide⟩ rfl hl.1 (Nat.le_of_ble_eq_true rfl) dX8_readAll_159 ⟨Nat.zero_le _, Nat.zero_le _⟩) (fun S24 H locs hV hM => ?_)
        exact tq_X8_readAll_162 C ih _ _ _ _ _ _ _ _ _ hM hV (lv_sub hl [2, 3, 4, 6, 0] rfl)
      have hM := ite_f c21 hM
      refine lv_aload_n hx hb dX8_readAll_82 rfl (lv_at hl 3 rfl) ?_
      refine lv_iload_n hx hb dX8_readAll_83 rfl (lv_at hl 4 rfl) ?_
      refine lv_iload_n hx hb dX8_readAll_84 rfl (lv_at hl 5 rfl) ?_
      refine lv_bipush (v := 48) hx hb dX8_readAll_85 (by decide) ?_
      refine lv_bipush (v := 57) hx hb dX8_readAll_87 (by decide) ?_
      refine x_ci hV (x_runS (As := [.ref a1, .int x2, .int x3, .int 48, .int 57]) (rest := []) C hV ms_X8_endOfRun wl_X8_32 (c_X8_endOfRun hM) ⟨by decide, by decide⟩ rfl hl.1 (Nat.le_of_ble_eq_true rfl) dX8_readAll_89 ⟨Nat.zero_le _, Nat.zero_le _⟩) (fun r27 S26 H locs hV hM => ?_)
      refine lv_istore (lv' := [(6, .int r27), (5, .int v12), (0, .ref a0), (1, .ref a1), (2, .int x2), (3, .int x3), (4, .int x4)]) hx hb dX8_readAll_92 hl (by decide) rfl (fun ls hl => ?_)
      refine lv_iload hx hb dX8_readAll_94 (lv_at hl 0 rfl) ?_
      refine lv_iload_n hx hb dX8_readAll_96 rfl (lv_at hl 5 rfl) ?_
      refine lv_isub hx hb dX8_readAll_97 ?_
      refine lv_iconst (v := 4) hx hb dX8_readAll_98 (by decide) ?_
      refine lv_icmp_gt (tgt := 106) hx hb dX8_readAll_99 (by decide) (fun c28 => ?_) (fun c28 => ?_)
      · have hM := ite_t c28 hM
        refine lv_iconst (v := 0) hx hb dX8_readAll_106 (by decide) ?_
        exact tq_X8_readAll_107 C ih _ _ _ _ _ _ _ _ _ _ _ hM hV (lv_sub hl [2, 3, 4, 5, 6, 0] rfl)
      have hM := ite_f c28 hM
      refine lv_iconst (v := 1) hx hb dX8_readAll_102 (by decide) ?_
      refine lv_goto (tgt := 107) hx hb dX8_readAll_103 (by decide) ?_
      exact tq_X8_readAll_107 C ih _ _ _ _ _ _ _ _ _ _ _ hM hV (lv_sub hl [2, 3, 4, 5, 6, 0] rfl)
    have hM := ite_f c17 hM
    refine lv_aload_n hx hb dX8_readAll_46 rfl (lv_at hl 3 rfl) ?_
    refine lv_iload_n hx hb dX8_readAll_47 rfl (lv_at hl 4 rfl) ?_
    refine lv_iload_n hx hb dX8_readAll_48 rfl (lv_at hl 5 rfl) ?_
    refine lv_bipush (v := 97) hx hb dX8_readAll_49 (by decide) ?_
    refine lv_bipush (v := 122) hx hb dX8_readAll_51 (by decide) ?_
    refine x_ci hV (x_runS (As := [.ref a1, .int x2, .int x3, .int 97, .int 122]) (rest := []) C hV ms_X8_endOfRun wl_X8_32 (c_X8_endOfRun hM) ⟨by decide, by decide⟩ rfl hl.1 (Nat.le_of_ble_eq_true rfl) dX8_readAll_53 ⟨Nat.zero_le _, Nat.zero_le _⟩) (fun r37 S36 H locs hV hM => ?_)
    refine lv_istore (lv' := [(6, .int r37), (5, .int v12), (0, .ref a0), (1, .ref a1), (2, .int x2), (3, .int x3), (4, .int x4)]) hx hb dX8_readAll_56 hl (by decide) rfl (fun ls hl => ?_)
    refine lv_aload_n hx hb dX8_readAll_58 rfl (lv_at hl 2 rfl) ?_
    refine lv_aload_n hx hb dX8_readAll_59 rfl (lv_at hl 3 rfl) ?_
    refine lv_iload_n hx hb dX8_readAll_60 rfl (lv_at hl 5 rfl) ?_
    refine lv_iload hx hb dX8_readAll_61 (lv_at hl 0 rfl) ?_
    refine x_ci hV (x_runS (As := [.ref a1, .int x3, .int r37]) (rest := [.ref a0]) C hV ms_X8_wordCode wl_X8_36 (c_X8_wordCode hM) ⟨by decide, by decide⟩ rfl hl.1 (Nat.le_of_ble_eq_true rfl) dX8_readAll_63 ⟨Nat.zero_le _, Nat.zero_le _⟩) (fun r39 S38 H locs hV hM => ?_)
    refine lv_iconst (v := 0) hx hb dX8_readAll_66 (by decide) ?_
    refine lv_iload_n hx hb dX8_readAll_67 rfl (lv_at hl 5 rfl) ?_
    have hk40 := hM.1
    have hM := hM.2
    refine x_cv hV (x_runV (As := [.int r39, .int 0, .int x3]) (rest := []) C hV mi_X8_add wl_X8_40 hk40 (c_X8_add hM) ⟨by decide, by decide⟩ rfl hl.1 (Nat.le_of_ble_eq_true rfl) dX8_readAll_68 ⟨Nat.zero_le _, Nat.zero_le _⟩) (fun S41 H locs hV hM => ?_)
    refine lv_goto (tgt := 162) hx hb dX8_readAll_71 (by decide) ?_
    exact tq_X8_readAll_162 C ih _ _ _ _ _ _ _ _ _ hM hV (lv_sub hl [2, 3, 4, 6, 0] rfl)
set_option maxHeartbeats 4000000 in
set_option maxRecDepth 100000 in
theorem c_X8_readAll {l : Launch} {D : DX} {cA : Nat → ClassId} {z0 N : Nat} {S : PS} {a0 : Nat} {a1 : Nat} {x2 : Int32} {K : PS → Prop} (hM : wp_X8_readAll N S a0 a1 x2 K) : MetV l yX8_readAll cX8_readAll 8 none 6 0 0 D cA z0 [.ref a0, .ref a1, .int x2] S K := by
  refine x_met RX8 (by decide) rfl ?_
  intro p e s m below meth c C hin hV
  have hl := lv_entry ([.ref a0, .ref a1, .int x2]) (n := 8) (Nat.le_of_ble_eq_true rfl)
  rw [lg_entry_eq]
  generalize (lg_sl ([.ref a0, .ref a1, .int x2]) ++ List.replicate (8 - (lg_sl ([.ref a0, .ref a1, .int x2])).length) Slot.unset).toArray = ls at hl ⊢
  have hl : lv_has ls 8 [(0, .ref a0), (1, .ref a1), (2, .int x2)] := hl
  obtain ⟨hx, hb, hml, hown, hts, hK, hz, hlk, hr⟩ := id C
  unfold wp_X8_readAll at hM
  refine lv_aload_n hx hb dX8_readAll_0 rfl (lv_at hl 0 rfl) ?_
  refine lv_iconst (v := 0) hx hb dX8_readAll_1 (by decide) ?_
  have hk1 := hM.1
  have hM := hM.2
  obtain ⟨S2, eS2⟩ : ∃ z : PS, z = S.setI 579 a0 0 := ⟨_, rfl⟩
  have hM := hM S2 eS2
  refine x_putI C hV wp_X8_21 hk1 ⟨rfl, rfl⟩ eS2 dX8_readAll_2 (fun H locs hV => ?_)
  refine lv_aload_n hx hb dX8_readAll_5 rfl (lv_at hl 0 rfl) ?_
  refine lv_iconst (v := 0) hx hb dX8_readAll_6 (by decide) ?_
  have hk3 := kp_I eS2 hk1
  obtain ⟨S4, eS4⟩ : ∃ z : PS, z = S2.setI 580 a0 0 := ⟨_, rfl⟩
  have hM := hM S4 eS4
  refine x_putI C hV wp_X8_25 hk3 ⟨rfl, rfl⟩ eS4 dX8_readAll_7 (fun H locs hV => ?_)
  refine lv_iconst (v := 0) hx hb dX8_readAll_10 (by decide) ?_
  refine lv_istore_n (lv' := [(3, .int 0), (0, .ref a0), (1, .ref a1), (2, .int x2)]) hx hb dX8_readAll_11 rfl hl (by decide) rfl (fun ls hl => ?_)
  refine lv_iconst (v := 0) hx hb dX8_readAll_12 (by decide) ?_
  refine lv_istore (lv' := [(4, .int 0), (3, .int 0), (0, .ref a0), (1, .ref a1), (2, .int x2)]) hx hb dX8_readAll_13 hl (by decide) rfl (fun ls hl => ?_)
  exact tq_X8_readAll_15 C N _ _ _ _ _ _ _ _ _ hM hV (lv_sub hl [2, 3, 4, 1, 0] rfl)

def wp_X4_begin (N : Nat) (S : PS) (a0 : Nat) (x1 : Int32) (x2 : Int32) (K : PS → Prop) : Prop := S.K a0 = 5 ∧ ∀ S2 : PS, S2 = S.setI 320 a0 x1 → ∀ S4 : PS, S4 = S2.setI 321 a0 x2 → ∃ p6 : Nat, S4.R 322 a0 = some p6 ∧ wp_J7_fill_53178 N S4 p6 0 (fun S7 => K S7)
set_option maxHeartbeats 4000000 in
set_option maxRecDepth 100000 in
theorem c_X4_begin {l : Launch} {D : DX} {cA : Nat → ClassId} {z0 N : Nat} {S : PS} {a0 : Nat} {x1 : Int32} {x2 : Int32} {K : PS → Prop} (hM : wp_X4_begin N S a0 x1 x2 K) : MetV l yX4_begin cX4_begin 3 none 1 0 0 D cA z0 [.ref a0, .int x1, .int x2] S K := by
  refine x_met RX4 (by decide) rfl ?_
  intro p e s m below meth c C hin hV
  have hl := lv_entry ([.ref a0, .int x1, .int x2]) (n := 3) (Nat.le_of_ble_eq_true rfl)
  rw [lg_entry_eq]
  generalize (lg_sl ([.ref a0, .int x1, .int x2]) ++ List.replicate (3 - (lg_sl ([.ref a0, .int x1, .int x2])).length) Slot.unset).toArray = ls at hl ⊢
  have hl : lv_has ls 3 [(0, .ref a0), (1, .int x1), (2, .int x2)] := hl
  obtain ⟨hx, hb, hml, hown, hts, hK, hz, hlk, hr⟩ := id C
  unfold wp_X4_begin at hM
  refine lv_aload_n hx hb dX4_begin_0 rfl (lv_at hl 0 rfl) ?_
  refine lv_iload_n hx hb dX4_begin_1 rfl (lv_at hl 1 rfl) ?_
  have hk1 := hM.1
  have hM := hM.2
  obtain ⟨S2, eS2⟩ : ∃ z : PS, z = S.setI 320 a0 x1 := ⟨_, rfl⟩
  have hM := hM S2 eS2
  refine x_putI C hV wp_X4_9 hk1 ⟨rfl, rfl⟩ eS2 dX4_begin_2 (fun H locs hV => ?_)
  refine lv_aload_n hx hb dX4_begin_5 rfl (lv_at hl 0 rfl) ?_
  refine lv_iload_n hx hb dX4_begin_6 rfl (lv_at hl 2 rfl) ?_
  have hk3 := kp_I eS2 hk1
  obtain ⟨S4, eS4⟩ : ∃ z : PS, z = S2.setI 321 a0 x2 := ⟨_, rfl⟩
  have hM := hM S4 eS4
  refine x_putI C hV wp_X4_15 hk3 ⟨rfl, rfl⟩ eS4 dX4_begin_7 (fun H locs hV => ?_)
  refine lv_aload_n hx hb dX4_begin_10 rfl (lv_at hl 0 rfl) ?_
  have hk5 := kp_I eS4 hk3
  obtain ⟨p6, hp6, hM⟩ := hM
  refine x_getR C hV wf_X4_18 hk5 hp6 dX4_begin_11 ?_
  refine lv_iconst (v := 0) hx hb dX4_begin_14 (by decide) ?_
  refine x_cv hV (x_runS (As := [.ref p6, .int 0]) (rest := []) C hV ms_J7_fill_53178 wl_X4_22 (c_J7_fill_53178 hM) ⟨by decide, by decide⟩ rfl hl.1 (Nat.le_of_ble_eq_true rfl) dX4_begin_15 ⟨Nat.zero_le _, Nat.zero_le _⟩) (fun S7 H locs hV hM => ?_)
  exact x_vret C hV hM dX4_begin_18

def wq_X10_sheet_60 (N : Nat) (K : Int32 → PS → Prop) (S : PS) (b0 : Nat) (t1 : Int32) (t2 : Int32) : Prop := S.K b0 = 5 ∧ wp_X4_begin N S b0 t1 t2 (fun S18 => K 1 S18)
def wq_X10_sheet_43 (N : Nat) (K : Int32 → PS → Prop) (S : PS) (a0 : Nat) (x1 : Int32) (x2 : Int32) (x3 : Int32) : Prop := S.K a0 = 11 ∧ ∃ p12 : Nat, S.R 718 a0 = some p12 ∧ S.K p12 = 25 ∧ vp_in x1 (S.ln p12) ∧ ∃ p15 : Nat, S.Q p12 x1.toNatClampNeg = some p15 ∧ if x2 = (-1) then (wq_X10_sheet_60 N K S p15 x2 0) else (wq_X10_sheet_60 N K S p15 x2 x3)
def wq_X10_sheet_31 (N : Nat) (K : Int32 → PS → Prop) (S : PS) (a0 : Nat) (x1 : Int32) (x2 : Int32) (x3 : Int32) : Prop := if x2 = (-1) then (wq_X10_sheet_43 N K S a0 x1 x2 x3) else (if 0 ≤ x3 then (wq_X10_sheet_43 N K S a0 x1 x2 x3) else (K (-14) S))
def wp_X10_sheet (N : Nat) (S : PS) (a0 : Nat) (x1 : Int32) (x2 : Int32) (x3 : Int32) (K : Int32 → PS → Prop) : Prop := wp_X10_isSheet N S x1 (fun r2 S1 => if r2 = 0 then (K (-1) S1) else (wp_X10_within N S1 x2 (-1) 3 (fun r6 S5 => if r6 = 0 then (K (-1) S5) else (if x2 = (-1) then (wq_X10_sheet_31 N K S5 a0 x1 x2 x3) else (if x3 ≤ 40 then (wq_X10_sheet_31 N K S5 a0 x1 x2 x3) else (K (-1) S5))))))
set_option maxHeartbeats 4000000 in
set_option maxRecDepth 100000 in
theorem tq_X10_sheet_60 {p : Program} {l : Launch} {e : Env} {s : State} {m : MethodId} {args : Array Value} {below : List Frame} {meth : Method} {c : Code} {D : DX} {cA : Nat → ClassId} {z0 N : Nat} {K : Int32 → PS → Prop} (C : CX p s m args meth c cX10_sheet 4 RX10 (some .int) D cA z0) : ∀ (S : PS) (b0 : Nat) (t1 : Int32) (t2 : Int32) (H : Heap) (locs : List Loc) (ls : Array Slot), wq_X10_sheet_60 N K S b0 t1 t2 → XV D cA z0 s S H locs → lv_has ls 4 [] → W p l e (rmd 2 0 0) s m args below meth c H locs 0 0 (MQ below (va_Qi K (XK D cA z0) (zA z0)) args s 0 0 (zA z0)) (F0 m 60 ls [.int t2, .int t1, .ref b0]) := by
  obtain ⟨hx, hb, hml, hown, hts, hK, hz, hlk, hr⟩ := id C
  intro S b0 t1 t2 H locs ls hM hV hl
  unfold wq_X10_sheet_60 at hM
  have hk17 := hM.1
  have hM := hM.2
  refine x_cv hV (x_runV (As := [.int t1, .int t2]) (rest := []) C hV mi_X4_begin wl_X10_321 hk17 (c_X4_begin hM) ⟨by decide, by decide⟩ rfl hl.1 (Nat.le_of_ble_eq_true rfl) dX10_sheet_60 ⟨Nat.zero_le _, Nat.zero_le _⟩) (fun S18 H locs hV hM => ?_)
  refine lv_iconst (v := 1) hx hb dX10_sheet_63 (by decide) ?_
  exact x_iret C hV hM dX10_sheet_64
set_option maxHeartbeats 4000000 in
set_option maxRecDepth 100000 in
theorem tq_X10_sheet_43 {p : Program} {l : Launch} {e : Env} {s : State} {m : MethodId} {args : Array Value} {below : List Frame} {meth : Method} {c : Code} {D : DX} {cA : Nat → ClassId} {z0 N : Nat} {K : Int32 → PS → Prop} (C : CX p s m args meth c cX10_sheet 4 RX10 (some .int) D cA z0) : ∀ (S : PS) (a0 : Nat) (x1 : Int32) (x2 : Int32) (x3 : Int32) (H : Heap) (locs : List Loc) (ls : Array Slot), wq_X10_sheet_43 N K S a0 x1 x2 x3 → XV D cA z0 s S H locs → lv_has ls 4 [(0, .ref a0), (1, .int x1), (2, .int x2), (3, .int x3)] → W p l e (rmd 2 0 0) s m args below meth c H locs 0 0 (MQ below (va_Qi K (XK D cA z0) (zA z0)) args s 0 0 (zA z0)) (F0 m 43 ls []) := by
  obtain ⟨hx, hb, hml, hown, hts, hK, hz, hlk, hr⟩ := id C
  intro S a0 x1 x2 x3 H locs ls hM hV hl
  unfold wq_X10_sheet_43 at hM
  refine lv_aload_n hx hb dX10_sheet_43 rfl (lv_at hl 0 rfl) ?_
  have hk11 := hM.1
  have hM := hM.2
  obtain ⟨p12, hp12, hM⟩ := hM
  refine x_getR C hV wf_X10_75 hk11 hp12 dX10_sheet_44 ?_
  refine lv_iload_n hx hb dX10_sheet_47 rfl (lv_at hl 1 rfl) ?_
  have hk13 := hM.1
  have hM := hM.2
  have hi14 := hM.1
  have hM := hM.2
  obtain ⟨p15, hp15, hM⟩ := hM
  refine x_aald C hV hk13 (by decide) rfl hi14 hp15 dX10_sheet_48 ?_
  refine lv_iload_n hx hb dX10_sheet_49 rfl (lv_at hl 2 rfl) ?_
  refine lv_iload_n hx hb dX10_sheet_50 rfl (lv_at hl 2 rfl) ?_
  refine lv_iconst (v := (-1)) hx hb dX10_sheet_51 (by decide) ?_
  refine lv_icmp_ne (tgt := 59) hx hb dX10_sheet_52 (by decide) (fun c16 => ?_) (fun c16 => ?_)
  · have hM := ite_f c16 hM
    refine lv_iload_n hx hb dX10_sheet_59 rfl (lv_at hl 3 rfl) ?_
    exact tq_X10_sheet_60 C _ _ _ _ _ _ _ hM hV (lv_sub hl [] rfl)
  have hM := ite_t c16 hM
  refine lv_iconst (v := 0) hx hb dX10_sheet_55 (by decide) ?_
  refine lv_goto (tgt := 60) hx hb dX10_sheet_56 (by decide) ?_
  exact tq_X10_sheet_60 C _ _ _ _ _ _ _ hM hV (lv_sub hl [] rfl)
set_option maxHeartbeats 4000000 in
set_option maxRecDepth 100000 in
theorem tq_X10_sheet_31 {p : Program} {l : Launch} {e : Env} {s : State} {m : MethodId} {args : Array Value} {below : List Frame} {meth : Method} {c : Code} {D : DX} {cA : Nat → ClassId} {z0 N : Nat} {K : Int32 → PS → Prop} (C : CX p s m args meth c cX10_sheet 4 RX10 (some .int) D cA z0) : ∀ (S : PS) (a0 : Nat) (x1 : Int32) (x2 : Int32) (x3 : Int32) (H : Heap) (locs : List Loc) (ls : Array Slot), wq_X10_sheet_31 N K S a0 x1 x2 x3 → XV D cA z0 s S H locs → lv_has ls 4 [(0, .ref a0), (1, .int x1), (2, .int x2), (3, .int x3)] → W p l e (rmd 2 0 0) s m args below meth c H locs 0 0 (MQ below (va_Qi K (XK D cA z0) (zA z0)) args s 0 0 (zA z0)) (F0 m 31 ls []) := by
  obtain ⟨hx, hb, hml, hown, hts, hK, hz, hlk, hr⟩ := id C
  intro S a0 x1 x2 x3 H locs ls hM hV hl
  unfold wq_X10_sheet_31 at hM
  refine lv_iload_n hx hb dX10_sheet_31 rfl (lv_at hl 2 rfl) ?_
  refine lv_iconst (v := (-1)) hx hb dX10_sheet_32 (by decide) ?_
  refine lv_icmp_eq (tgt := 43) hx hb dX10_sheet_33 (by decide) (fun c10 => ?_) (fun c10 => ?_)
  · have hM := ite_t c10 hM
    exact tq_X10_sheet_43 C _ _ _ _ _ _ _ _ hM hV (lv_sub hl [0, 1, 2, 3] rfl)
  have hM := ite_f c10 hM
  refine lv_iload_n hx hb dX10_sheet_36 rfl (lv_at hl 3 rfl) ?_
  refine lv_if_ge (tgt := 43) hx hb dX10_sheet_37 (by decide) (fun c20 => ?_) (fun c20 => ?_)
  · have hM := ite_t c20 hM
    exact tq_X10_sheet_43 C _ _ _ _ _ _ _ _ hM hV (lv_sub hl [0, 1, 2, 3] rfl)
  have hM := ite_f c20 hM
  refine lv_bipush (v := (-14)) hx hb dX10_sheet_40 (by decide) ?_
  exact x_iret C hV hM dX10_sheet_42
set_option maxHeartbeats 4000000 in
set_option maxRecDepth 100000 in
theorem c_X10_sheet {l : Launch} {D : DX} {cA : Nat → ClassId} {z0 N : Nat} {S : PS} {a0 : Nat} {x1 : Int32} {x2 : Int32} {x3 : Int32} {K : Int32 → PS → Prop} (hM : wp_X10_sheet N S a0 x1 x2 x3 K) : MetI l yX10_sheet cX10_sheet 4 (some .int) 2 0 0 D cA z0 [.ref a0, .int x1, .int x2, .int x3] S K := by
  refine x_met RX10 (by decide) rfl ?_
  intro p e s m below meth c C hin hV
  have hl := lv_entry ([.ref a0, .int x1, .int x2, .int x3]) (n := 4) (Nat.le_of_ble_eq_true rfl)
  rw [lg_entry_eq]
  generalize (lg_sl ([.ref a0, .int x1, .int x2, .int x3]) ++ List.replicate (4 - (lg_sl ([.ref a0, .int x1, .int x2, .int x3])).length) Slot.unset).toArray = ls at hl ⊢
  have hl : lv_has ls 4 [(0, .ref a0), (1, .int x1), (2, .int x2), (3, .int x3)] := hl
  obtain ⟨hx, hb, hml, hown, hts, hK, hz, hlk, hr⟩ := id C
  unfold wp_X10_sheet at hM
  refine lv_iload_n hx hb dX10_sheet_0 rfl (lv_at hl 1 rfl) ?_
  refine x_ci hV (x_runS (As := [.int x1]) (rest := []) C hV ms_X10_isSheet wl_X10_318 (c_X10_isSheet hM) ⟨by decide, by decide⟩ rfl hl.1 (Nat.le_of_ble_eq_true rfl) dX10_sheet_1 ⟨Nat.zero_le _, Nat.zero_le _⟩) (fun r2 S1 H locs hV hM => ?_)
  have hz3 := hM.1
  have hM := hM.2
  refine lv_if_eq (tgt := 16) hx hb dX10_sheet_4 (by decide) (fun c4 => ?_) (fun c4 => ?_)
  · have hM := ite_t c4 hM
    refine lv_iconst (v := (-1)) hx hb dX10_sheet_16 (by decide) ?_
    exact x_iret C hV hM dX10_sheet_17
  have hM := ite_f c4 hM
  refine lv_iload_n hx hb dX10_sheet_7 rfl (lv_at hl 2 rfl) ?_
  refine lv_iconst (v := (-1)) hx hb dX10_sheet_8 (by decide) ?_
  refine lv_iconst (v := 3) hx hb dX10_sheet_9 (by decide) ?_
  refine x_ci hV (x_runS (As := [.int x2, .int (-1), .int 3]) (rest := []) C hV ms_X10_within wl_X10_94 (c_X10_within hM) ⟨by decide, by decide⟩ rfl hl.1 (Nat.le_of_ble_eq_true rfl) dX10_sheet_10 ⟨Nat.zero_le _, Nat.zero_le _⟩) (fun r6 S5 H locs hV hM => ?_)
  have hz7 := hM.1
  have hM := hM.2
  refine lv_if_ne (tgt := 18) hx hb dX10_sheet_13 (by decide) (fun c8 => ?_) (fun c8 => ?_)
  · have hM := ite_f c8 hM
    refine lv_iload_n hx hb dX10_sheet_18 rfl (lv_at hl 2 rfl) ?_
    refine lv_iconst (v := (-1)) hx hb dX10_sheet_19 (by decide) ?_
    refine lv_icmp_eq (tgt := 31) hx hb dX10_sheet_20 (by decide) (fun c9 => ?_) (fun c9 => ?_)
    · have hM := ite_t c9 hM
      exact tq_X10_sheet_31 C _ _ _ _ _ _ _ _ hM hV (lv_sub hl [0, 1, 2, 3] rfl)
    have hM := ite_f c9 hM
    refine lv_iload_n hx hb dX10_sheet_23 rfl (lv_at hl 3 rfl) ?_
    refine lv_bipush (v := 40) hx hb dX10_sheet_24 (by decide) ?_
    refine lv_icmp_le (tgt := 31) hx hb dX10_sheet_26 (by decide) (fun c21 => ?_) (fun c21 => ?_)
    · have hM := ite_t c21 hM
      exact tq_X10_sheet_31 C _ _ _ _ _ _ _ _ hM hV (lv_sub hl [0, 1, 2, 3] rfl)
    have hM := ite_f c21 hM
    refine lv_iconst (v := (-1)) hx hb dX10_sheet_29 (by decide) ?_
    exact x_iret C hV hM dX10_sheet_30
  have hM := ite_t c8 hM
  refine lv_iconst (v := (-1)) hx hb dX10_sheet_16 (by decide) ?_
  exact x_iret C hV hM dX10_sheet_17

def wp_X10_useTape (N : Nat) (S : PS) (a0 : Nat) (K : PS → Prop) : Prop := S.K a0 = 11 ∧ ∃ p2 : Nat, S.R 709 a0 = some p2 ∧ ∃ p3 : Nat, S.R 707 a0 = some p3 ∧ S.K p2 = 9 ∧ wp_X8_readAll N S p2 p3 (S.I 708 a0) (fun S5 => S5.K a0 = 11 ∧ ∀ S8 : PS, S8 = S5.setI 708 a0 0 → K S8)
set_option maxHeartbeats 4000000 in
set_option maxRecDepth 100000 in
theorem c_X10_useTape {l : Launch} {D : DX} {cA : Nat → ClassId} {z0 N : Nat} {S : PS} {a0 : Nat} {K : PS → Prop} (hM : wp_X10_useTape N S a0 K) : MetV l yX10_useTape cX10_useTape 1 none 7 0 0 D cA z0 [.ref a0] S K := by
  refine x_met RX10 (by decide) rfl ?_
  intro p e s m below meth c C hin hV
  have hl := lv_entry ([.ref a0]) (n := 1) (Nat.le_of_ble_eq_true rfl)
  rw [lg_entry_eq]
  generalize (lg_sl ([.ref a0]) ++ List.replicate (1 - (lg_sl ([.ref a0])).length) Slot.unset).toArray = ls at hl ⊢
  have hl : lv_has ls 1 [(0, .ref a0)] := hl
  obtain ⟨hx, hb, hml, hown, hts, hK, hz, hlk, hr⟩ := id C
  unfold wp_X10_useTape at hM
  refine lv_aload_n hx hb dX10_useTape_0 rfl (lv_at hl 0 rfl) ?_
  have hk1 := hM.1
  have hM := hM.2
  obtain ⟨p2, hp2, hM⟩ := hM
  refine x_getR C hV wf_X10_34 hk1 hp2 dX10_useTape_1 ?_
  refine lv_aload_n hx hb dX10_useTape_4 rfl (lv_at hl 0 rfl) ?_
  obtain ⟨p3, hp3, hM⟩ := hM
  refine x_getR C hV wf_X10_23 hk1 hp3 dX10_useTape_5 ?_
  refine lv_aload_n hx hb dX10_useTape_8 rfl (lv_at hl 0 rfl) ?_
  refine x_getI C hV wf_X10_27 hk1 dX10_useTape_9 ?_
  have hk4 := hM.1
  have hM := hM.2
  refine x_cv hV (x_runV (As := [.ref p3, .int (S.I 708 a0)]) (rest := []) C hV mi_X8_readAll wl_X10_399 hk4 (c_X8_readAll hM) ⟨by decide, by decide⟩ rfl hl.1 (Nat.le_of_ble_eq_true rfl) dX10_useTape_12 ⟨Nat.zero_le _, Nat.zero_le _⟩) (fun S5 H locs hV hM => ?_)
  refine lv_aload_n hx hb dX10_useTape_15 rfl (lv_at hl 0 rfl) ?_
  refine lv_iconst (v := 0) hx hb dX10_useTape_16 (by decide) ?_
  have hk7 := hM.1
  have hM := hM.2
  obtain ⟨S8, eS8⟩ : ∃ z : PS, z = S5.setI 708 a0 0 := ⟨_, rfl⟩
  have hM := hM S8 eS8
  refine x_putI C hV wp_X10_27 hk7 ⟨rfl, rfl⟩ eS8 dX10_useTape_17 (fun H locs hV => ?_)
  exact x_vret C hV hM dX10_useTape_20

def wq_X7_readWhole_72 (N : Nat) (K : Int32 → PS → Prop) (S : PS) (a0 : Nat) : Prop := S.K a0 = 8 ∧ ∃ p27 : Nat, S.R 512 a0 = some p27 ∧ S.K p27 = 9 ∧ wp_X8_isNow N S p27 258 (fun r30 S29 => (r30 = 0 ∨ r30 = 1) ∧ K r30 S29)
def wp_X7_readWhole (N : Nat) (S : PS) (a0 : Nat) (K : Int32 → PS → Prop) : Prop := S.K a0 = 8 ∧ ∀ S2 : PS, S2 = S.setI 515 a0 0 → ∀ S4 : PS, S4 = S2.setI 516 a0 0 → ∃ p6 : Nat, S4.R 512 a0 = some p6 ∧ S4.K p6 = 9 ∧ wp_X8_take N S4 p6 300 (fun r9 S8 => if r9 = 0 then (S8.K a0 = 8 ∧ ∃ p13 : Nat, S8.R 512 a0 = some p13 ∧ S8.K p13 = 9 ∧ wp_X8_take N S8 p13 301 (fun r16 S15 => if r16 = 0 then (S15.K a0 = 8 ∧ ∀ S20 : PS, S20 = S15.setI 514 a0 2 → wp_X7_readClauses N S20 a0 (fun r23 S22 => if r23 = 0 then (K 0 S22) else (wq_X7_readWhole_72 N K S22 a0))) else (S15.K a0 = 8 ∧ ∀ S34 : PS, S34 = S15.setI 514 a0 1 → wp_X7_readBy N S34 a0 (fun r37 S36 => if r37 = 0 then (K 0 S36) else (wq_X7_readWhole_72 N K S36 a0))))) else (S8.K a0 = 8 ∧ ∀ S41 : PS, S41 = S8.setI 514 a0 0 → wq_X7_readWhole_72 N K S41 a0))
set_option maxHeartbeats 4000000 in
set_option maxRecDepth 100000 in
theorem tq_X7_readWhole_72 {p : Program} {l : Launch} {e : Env} {s : State} {m : MethodId} {args : Array Value} {below : List Frame} {meth : Method} {c : Code} {D : DX} {cA : Nat → ClassId} {z0 N : Nat} {K : Int32 → PS → Prop} (C : CX p s m args meth c cX7_readWhole 1 RX7 (some .boolean) D cA z0) : ∀ (S : PS) (a0 : Nat) (H : Heap) (locs : List Loc) (ls : Array Slot), wq_X7_readWhole_72 N K S a0 → XV D cA z0 s S H locs → lv_has ls 1 [(0, .ref a0)] → W p l e (rmd 4 0 0) s m args below meth c H locs 0 0 (MQ below (va_Qi (fun r S => (r = 0 ∨ r = 1) ∧ K r S) (XK D cA z0) (zA z0)) args s 0 0 (zA z0)) (F0 m 72 ls []) := by
  obtain ⟨hx, hb, hml, hown, hts, hK, hz, hlk, hr⟩ := id C
  intro S a0 H locs ls hM hV hl
  unfold wq_X7_readWhole_72 at hM
  refine lv_aload_n hx hb dX7_readWhole_72 rfl (lv_at hl 0 rfl) ?_
  have hk26 := hM.1
  have hM := hM.2
  obtain ⟨p27, hp27, hM⟩ := hM
  refine x_getR C hV wf_X7_25 hk26 hp27 dX7_readWhole_73 ?_
  refine lv_sipush (v := 258) hx hb dX7_readWhole_76 (by decide) ?_
  have hk28 := hM.1
  have hM := hM.2
  refine x_ci hV (x_runV (As := [.int 258]) (rest := []) C hV mi_X8_isNow wl_X7_42 hk28 (c_X8_isNow hM) ⟨by decide, by decide⟩ rfl hl.1 (Nat.le_of_ble_eq_true rfl) dX7_readWhole_79 ⟨Nat.zero_le _, Nat.zero_le _⟩) (fun r30 S29 H locs hV hM => ?_)
  have hz31 := hM.1
  have hM := hM.2
  have hz32 := hM.1
  have hM := hM.2
  exact x_zret C hV hz32 hM dX7_readWhole_82
set_option maxHeartbeats 4000000 in
set_option maxRecDepth 100000 in
theorem c_X7_readWhole {l : Launch} {D : DX} {cA : Nat → ClassId} {z0 N : Nat} {S : PS} {a0 : Nat} {K : Int32 → PS → Prop} (hM : wp_X7_readWhole N S a0 K) : MetI l yX7_readWhole cX7_readWhole 1 (some .boolean) 4 0 0 D cA z0 [.ref a0] S (fun r S => (r = 0 ∨ r = 1) ∧ K r S) := by
  refine x_met RX7 (by decide) rfl ?_
  intro p e s m below meth c C hin hV
  have hl := lv_entry ([.ref a0]) (n := 1) (Nat.le_of_ble_eq_true rfl)
  rw [lg_entry_eq]
  generalize (lg_sl ([.ref a0]) ++ List.replicate (1 - (lg_sl ([.ref a0])).length) Slot.unset).toArray = ls at hl ⊢
  have hl : lv_has ls 1 [(0, .ref a0)] := hl
  obtain ⟨hx, hb, hml, hown, hts, hK, hz, hlk, hr⟩ := id C
  unfold wp_X7_readWhole at hM
  refine lv_aload_n hx hb dX7_readWhole_0 rfl (lv_at hl 0 rfl) ?_
  refine lv_iconst (v := 0) hx hb dX7_readWhole_1 (by decide) ?_
  have hk1 := hM.1
  have hM := hM.2
  obtain ⟨S2, eS2⟩ : ∃ z : PS, z = S.setI 515 a0 0 := ⟨_, rfl⟩
  have hM := hM S2 eS2
  refine x_putI C hV wp_X7_19 hk1 ⟨rfl, rfl⟩ eS2 dX7_readWhole_2 (fun H locs hV => ?_)
  refine lv_aload_n hx hb dX7_readWhole_5 rfl (lv_at hl 0 rfl) ?_
  refine lv_iconst (v := 0) hx hb dX7_readWhole_6 (by decide) ?_
  have hk3 := kp_I eS2 hk1
  obtain ⟨S4, eS4⟩ : ∃ z : PS, z = S2.setI 516 a0 0 := ⟨_, rfl⟩
  have hM := hM S4 eS4
  refine x_putI C hV wp_X7_22 hk3 ⟨rfl, rfl⟩ eS4 dX7_readWhole_7 (fun H locs hV => ?_)
  refine lv_aload_n hx hb dX7_readWhole_10 rfl (lv_at hl 0 rfl) ?_
  have hk5 := kp_I eS4 hk3
  obtain ⟨p6, hp6, hM⟩ := hM
  refine x_getR C hV wf_X7_25 hk5 hp6 dX7_readWhole_11 ?_
  refine lv_sipush (v := 300) hx hb dX7_readWhole_14 (by decide) ?_
  have hk7 := hM.1
  have hM := hM.2
  refine x_ci hV (x_runV (As := [.int 300]) (rest := []) C hV mi_X8_take wl_X7_29 hk7 (c_X8_take hM) ⟨by decide, by decide⟩ rfl hl.1 (Nat.le_of_ble_eq_true rfl) dX7_readWhole_17 ⟨Nat.zero_le _, Nat.zero_le _⟩) (fun r9 S8 H locs hV hM => ?_)
  have hz10 := hM.1
  have hM := hM.2
  refine lv_if_eq (tgt := 31) hx hb dX7_readWhole_20 (by decide) (fun c11 => ?_) (fun c11 => ?_)
  · have hM := ite_t c11 hM
    refine lv_aload_n hx hb dX7_readWhole_31 rfl (lv_at hl 0 rfl) ?_
    have hk12 := hM.1
    have hM := hM.2
    obtain ⟨p13, hp13, hM⟩ := hM
    refine x_getR C hV wf_X7_25 hk12 hp13 dX7_readWhole_32 ?_
    refine lv_sipush (v := 301) hx hb dX7_readWhole_35 (by decide) ?_
    have hk14 := hM.1
    have hM := hM.2
    refine x_ci hV (x_runV (As := [.int 301]) (rest := []) C hV mi_X8_take wl_X7_29 hk14 (c_X8_take hM) ⟨by decide, by decide⟩ rfl hl.1 (Nat.le_of_ble_eq_true rfl) dX7_readWhole_38 ⟨Nat.zero_le _, Nat.zero_le _⟩) (fun r16 S15 H locs hV hM => ?_)
    have hz17 := hM.1
    have hM := hM.2
    refine lv_if_eq (tgt := 58) hx hb dX7_readWhole_41 (by decide) (fun c18 => ?_) (fun c18 => ?_)
    · have hM := ite_t c18 hM
      refine lv_aload_n hx hb dX7_readWhole_58 rfl (lv_at hl 0 rfl) ?_
      refine lv_iconst (v := 2) hx hb dX7_readWhole_59 (by decide) ?_
      have hk19 := hM.1
      have hM := hM.2
      obtain ⟨S20, eS20⟩ : ∃ z : PS, z = S15.setI 514 a0 2 := ⟨_, rfl⟩
      have hM := hM S20 eS20
      refine x_putI C hV wp_X7_15 hk19 ⟨rfl, rfl⟩ eS20 dX7_readWhole_60 (fun H locs hV => ?_)
      refine lv_aload_n hx hb dX7_readWhole_63 rfl (lv_at hl 0 rfl) ?_
      have hk21 := kp_I eS20 hk19
      refine x_ci hV (x_runV (As := []) (rest := []) C hV mi_X7_readClauses wl_X7_39 hk21 (c_X7_readClauses hM) ⟨by decide, by decide⟩ rfl hl.1 (Nat.le_of_ble_eq_true rfl) dX7_readWhole_64 ⟨Nat.zero_le _, Nat.zero_le _⟩) (fun r23 S22 H locs hV hM => ?_)
      have hz24 := hM.1
      have hM := hM.2
      refine lv_if_ne (tgt := 72) hx hb dX7_readWhole_67 (by decide) (fun c25 => ?_) (fun c25 => ?_)
      · have hM := ite_f c25 hM
        exact tq_X7_readWhole_72 C _ _ _ _ _ hM hV (lv_sub hl [0] rfl)
      have hM := ite_t c25 hM
      refine lv_iconst (v := 0) hx hb dX7_readWhole_70 (by decide) ?_
      exact x_zret C hV (by decide) hM dX7_readWhole_71
    have hM := ite_f c18 hM
    refine lv_aload_n hx hb dX7_readWhole_44 rfl (lv_at hl 0 rfl) ?_
    refine lv_iconst (v := 1) hx hb dX7_readWhole_45 (by decide) ?_
    have hk33 := hM.1
    have hM := hM.2
    obtain ⟨S34, eS34⟩ : ∃ z : PS, z = S15.setI 514 a0 1 := ⟨_, rfl⟩
    have hM := hM S34 eS34
    refine x_putI C hV wp_X7_15 hk33 ⟨rfl, rfl⟩ eS34 dX7_readWhole_46 (fun H locs hV => ?_)
    refine lv_aload_n hx hb dX7_readWhole_49 rfl (lv_at hl 0 rfl) ?_
    have hk35 := kp_I eS34 hk33
    refine x_ci hV (x_runV (As := []) (rest := []) C hV mi_X7_readBy wl_X7_35 hk35 (c_X7_readBy hM) ⟨by decide, by decide⟩ rfl hl.1 (Nat.le_of_ble_eq_true rfl) dX7_readWhole_50 ⟨Nat.zero_le _, Nat.zero_le _⟩) (fun r37 S36 H locs hV hM => ?_)
    have hz38 := hM.1
    have hM := hM.2
    refine lv_if_ne (tgt := 72) hx hb dX7_readWhole_53 (by decide) (fun c39 => ?_) (fun c39 => ?_)
    · have hM := ite_f c39 hM
      exact tq_X7_readWhole_72 C _ _ _ _ _ hM hV (lv_sub hl [0] rfl)
    have hM := ite_t c39 hM
    refine lv_iconst (v := 0) hx hb dX7_readWhole_56 (by decide) ?_
    exact x_zret C hV (by decide) hM dX7_readWhole_57
  have hM := ite_f c11 hM
  refine lv_aload_n hx hb dX7_readWhole_23 rfl (lv_at hl 0 rfl) ?_
  refine lv_iconst (v := 0) hx hb dX7_readWhole_24 (by decide) ?_
  have hk40 := hM.1
  have hM := hM.2
  obtain ⟨S41, eS41⟩ : ∃ z : PS, z = S8.setI 514 a0 0 := ⟨_, rfl⟩
  have hM := hM S41 eS41
  refine x_putI C hV wp_X7_15 hk40 ⟨rfl, rfl⟩ eS41 dX7_readWhole_25 (fun H locs hV => ?_)
  refine lv_goto (tgt := 72) hx hb dX7_readWhole_28 (by decide) ?_
  exact tq_X7_readWhole_72 C _ _ _ _ _ hM hV (lv_sub hl [0] rfl)

