def wq_X11_jump_176 (N : Nat) (K : Int64 → PS → Prop) (k_62 : PS → Nat → Int32 → Int32 → Int64 → Int64 → Int64 → Int64 → Int32 → Int32 → Prop) (S : PS) (a0 : Nat) (x2 : Int32) (x3 : Int32) (j4 : Int64) (j6 : Int64) (x13 : Int32) (j14 : Int64) (j16 : Int64) : Prop := k_62 S a0 x2 x3 j4 j6 j14 j16 x13 (x13 + 1)
def wq_X11_jump_155 (N : Nat) (K : Int64 → PS → Prop) (k_62 : PS → Nat → Int32 → Int32 → Int64 → Int64 → Int64 → Int64 → Int32 → Int32 → Prop) (S : PS) (a0 : Nat) (x2 : Int32) (x3 : Int32) (j4 : Int64) (j6 : Int64) (j8 : Int64) (j10 : Int64) (x12 : Int32) (x13 : Int32) (j14 : Int64) (j16 : Int64) (j18 : Int64) (u0 : Int64) : Prop := if x12 = 0 then (wq_X11_jump_176 N K k_62 S a0 x2 x3 j4 j6 x13 j14 j16) else (if (lg_cmp (j18 * j10) (u0 * j16)) ≤ 0 then (k_62 S a0 x2 x3 j4 j6 j8 j10 x12 (x13 + 1)) else (wq_X11_jump_176 N K k_62 S a0 x2 x3 j4 j6 x13 j14 j16))
def wq_X11_jump_138 (N : Nat) (K : Int64 → PS → Prop) (k_62 : PS → Nat → Int32 → Int32 → Int64 → Int64 → Int64 → Int64 → Int32 → Int32 → Prop) (S : PS) (a0 : Nat) (x2 : Int32) (x3 : Int32) (j4 : Int64) (j6 : Int64) (j8 : Int64) (j10 : Int64) (x12 : Int32) (x13 : Int32) (j14 : Int64) (j16 : Int64) (u0 : Int64) : Prop := if 0 ≤ (lg_cmp j8 (0 : Int64)) then (wq_X11_jump_155 N K k_62 S a0 x2 x3 j4 j6 j8 j10 x12 x13 j14 j16 u0 j8) else (wq_X11_jump_155 N K k_62 S a0 x2 x3 j4 j6 j8 j10 x12 x13 j14 j16 u0 (-j8))
def wq_X11_jump_62 (N : Nat) (K : Int64 → PS → Prop) : Nat → PS → Nat → Int32 → Int32 → Int64 → Int64 → Int64 → Int64 → Int32 → Int32 → Prop
  | 0, _, _, _, _, _, _, _, _, _, _ => False
  | n + 1, S, a0, x2, x3, j4, j6, j8, j10, x12, x13 => if x3 ≤ x13 then (S.K a0 = 12 ∧ wp_X11_lowest N S a0 j8 j10 (fun S18 => if x2 = 0 then (S18.K a0 = 12 ∧ ∃ p25 : Nat, S18.R 775 a0 = some p25 ∧ ∃ p26 : Nat, S18.R 794 a0 = some p26 ∧ S18.K p26 = 20 ∧ vp_in x12 (S18.ln p26) ∧ S18.K p25 = 20 ∧ vp_in (3 * (S18.A p26 x12.toNatClampNeg)) (S18.ln p25) ∧ K ((S18.A p25 (3 * (S18.A p26 x12.toNatClampNeg)).toNatClampNeg).toInt64) S18) else (if x2 = 1 then (S18.K a0 = 12 ∧ K (S18.J 790 a0) S18) else (S18.K a0 = 12 ∧ K (S18.J 791 a0) S18)))) else (S.K a0 = 12 ∧ ∃ p32 : Nat, S.R 775 a0 = some p32 ∧ ∃ p33 : Nat, S.R 794 a0 = some p33 ∧ S.K p33 = 20 ∧ vp_in (x13 - 1) (S.ln p33) ∧ S.K p32 = 20 ∧ vp_in ((3 * (S.A p33 (x13 - 1).toNatClampNeg)) + 2) (S.ln p32) ∧ ∀ v38 : Int64, v38 = (j6 + (S.A p32 ((3 * (S.A p33 (x13 - 1).toNatClampNeg)) + 2).toNatClampNeg).toInt64) → ∀ v39 : Int64, v39 = (((j4 - v38) * x13.toInt64) - (v38 * (x3 - x13).toInt64)) → ∀ v40 : Int64, v40 = (x13.toInt64 * (x3 - x13).toInt64) → if 0 ≤ (lg_cmp v39 (0 : Int64)) then (wq_X11_jump_138 N K (fun S a0 x2 x3 j4 j6 j8 j10 x12 x13 => wq_X11_jump_62 N K n S a0 x2 x3 j4 j6 j8 j10 x12 x13) S a0 x2 x3 j4 v38 j8 j10 x12 x13 v39 v40 v39) else (wq_X11_jump_138 N K (fun S a0 x2 x3 j4 j6 j8 j10 x12 x13 => wq_X11_jump_62 N K n S a0 x2 x3 j4 j6 j8 j10 x12 x13) S a0 x2 x3 j4 v38 j8 j10 x12 x13 v39 v40 (-v39)))
def wp_X11_jump (N : Nat) (S : PS) (a0 : Nat) (x1 : Int32) (x2 : Int32) (K : Int64 → PS → Prop) : Prop := wp_X11_isSide N S x1 (fun r2 S1 => if r2 = 0 then (K (-2147483648 : Int64) S1) else (wp_X11_in N S1 x2 0 2 (fun r6 S5 => if r6 = 0 then (K (-2147483648 : Int64) S5) else (S5.K a0 = 12 ∧ wp_X11_sortRuns N S5 a0 x1 (fun r11 S10 => if 2 ≤ r11 then (S10.K a0 = 12 ∧ wp_X11_sumOf N S10 a0 x1 0 999 (fun r15 S14 => wq_X11_jump_62 N K N S14 a0 x2 r11 r15.toInt64 (0 : Int64) (0 : Int64) (1 : Int64) 0 1)) else (K (-2147483648 : Int64) S10))))))
set_option maxHeartbeats 4000000 in
set_option maxRecDepth 100000 in
theorem tq_X11_jump_176 {p : Program} {l : Launch} {e : Env} {s : State} {m : MethodId} {args : Array Value} {below : List Frame} {meth : Method} {c : Code} {D : DX} {cA : Nat → ClassId} {z0 N : Nat} {K : Int64 → PS → Prop} {k_62 : PS → Nat → Int32 → Int32 → Int64 → Int64 → Int64 → Int64 → Int32 → Int32 → Prop} (C : CX p s m args meth c cX11_jump 22 RX11 (some .long) D cA z0) (H_62 : ∀ (S : PS) (a0 : Nat) (x2 : Int32) (x3 : Int32) (j4 : Int64) (j6 : Int64) (j8 : Int64) (j10 : Int64) (x12 : Int32) (x13 : Int32) (H : Heap) (locs : List Loc) (ls : Array Slot), k_62 S a0 x2 x3 j4 j6 j8 j10 x12 x13 → XV D cA z0 s S H locs → lv_has ls 22 [(0, .ref a0), (2, .int x2), (3, .int x3), (4, .long j4), (6, .long j6), (8, .long j8), (10, .long j10), (12, .int x12), (13, .int x13)] → W p l e (rmd 2 0 0) s m args below meth c H locs 0 0 (MQ below (va_Ql K (XK D cA z0) (zA z0)) args s 0 0 (zA z0)) (F0 m 62 ls [])) : ∀ (S : PS) (a0 : Nat) (x2 : Int32) (x3 : Int32) (j4 : Int64) (j6 : Int64) (x13 : Int32) (j14 : Int64) (j16 : Int64) (H : Heap) (locs : List Loc) (ls : Array Slot), wq_X11_jump_176 N K k_62 S a0 x2 x3 j4 j6 x13 j14 j16 → XV D cA z0 s S H locs → lv_has ls 22 [(0, .ref a0), (2, .int x2), (3, .int x3), (4, .long j4), (6, .long j6), (13, .int x13), (14, .long j14), (16, .long j16)] → W p l e (rmd 2 0 0) s m args below meth c H locs 0 0 (MQ below (va_Ql K (XK D cA z0) (zA z0)) args s 0 0 (zA z0)) (F0 m 176 ls []) := by
  obtain ⟨hx, hb, hml, hown, hts, hK, hz, hlk, hr⟩ := id C
  intro S a0 x2 x3 j4 j6 x13 j14 j16 H locs ls hM hV hl
  unfold wq_X11_jump_176 at hM
  refine lv_iload hx hb dX11_jump_176 (lv_at hl 5 rfl) ?_
  refine lv_istore (lv' := [(12, .int x13), (0, .ref a0), (2, .int x2), (3, .int x3), (4, .long j4), (6, .long j6), (13, .int x13), (14, .long j14), (16, .long j16)]) hx hb dX11_jump_178 hl (by decide) rfl (fun ls hl => ?_)
  refine lv_lload hx hb dX11_jump_180 (lv_at hl 7 rfl) ?_
  refine lv_lstore (lv' := [(8, .long j14), (12, .int x13), (0, .ref a0), (2, .int x2), (3, .int x3), (4, .long j4), (6, .long j6), (13, .int x13), (14, .long j14), (16, .long j16)]) hx hb dX11_jump_182 hl (by decide) rfl (fun ls hl => ?_)
  refine lv_lload hx hb dX11_jump_184 (lv_at hl 9 rfl) ?_
  refine lv_lstore (lv' := [(10, .long j16), (8, .long j14), (12, .int x13), (0, .ref a0), (2, .int x2), (3, .int x3), (4, .long j4), (6, .long j6), (13, .int x13), (14, .long j14), (16, .long j16)]) hx hb dX11_jump_186 hl (by decide) rfl (fun ls hl => ?_)
  refine lv_iinc (v := (x13 + 1)) (lv' := [(13, .int (x13 + 1)), (10, .long j16), (8, .long j14), (12, .int x13), (0, .ref a0), (2, .int x2), (3, .int x3), (4, .long j4), (6, .long j6), (14, .long j14), (16, .long j16)]) hx hb dX11_jump_188 hl (k := 8) rfl rfl (by decide) rfl (fun ls hl => ?_)
  refine lv_goto (tgt := 62) hx hb dX11_jump_191 (by decide) ?_
  exact H_62 _ _ _ _ _ _ _ _ _ _ _ _ _ hM hV (lv_sub hl [4, 5, 6, 7, 8, 2, 1, 3, 0] rfl)
set_option maxHeartbeats 4000000 in
set_option maxRecDepth 100000 in
theorem tq_X11_jump_155 {p : Program} {l : Launch} {e : Env} {s : State} {m : MethodId} {args : Array Value} {below : List Frame} {meth : Method} {c : Code} {D : DX} {cA : Nat → ClassId} {z0 N : Nat} {K : Int64 → PS → Prop} {k_62 : PS → Nat → Int32 → Int32 → Int64 → Int64 → Int64 → Int64 → Int32 → Int32 → Prop} (C : CX p s m args meth c cX11_jump 22 RX11 (some .long) D cA z0) (H_62 : ∀ (S : PS) (a0 : Nat) (x2 : Int32) (x3 : Int32) (j4 : Int64) (j6 : Int64) (j8 : Int64) (j10 : Int64) (x12 : Int32) (x13 : Int32) (H : Heap) (locs : List Loc) (ls : Array Slot), k_62 S a0 x2 x3 j4 j6 j8 j10 x12 x13 → XV D cA z0 s S H locs → lv_has ls 22 [(0, .ref a0), (2, .int x2), (3, .int x3), (4, .long j4), (6, .long j6), (8, .long j8), (10, .long j10), (12, .int x12), (13, .int x13)] → W p l e (rmd 2 0 0) s m args below meth c H locs 0 0 (MQ below (va_Ql K (XK D cA z0) (zA z0)) args s 0 0 (zA z0)) (F0 m 62 ls [])) : ∀ (S : PS) (a0 : Nat) (x2 : Int32) (x3 : Int32) (j4 : Int64) (j6 : Int64) (j8 : Int64) (j10 : Int64) (x12 : Int32) (x13 : Int32) (j14 : Int64) (j16 : Int64) (j18 : Int64) (u0 : Int64) (H : Heap) (locs : List Loc) (ls : Array Slot), wq_X11_jump_155 N K k_62 S a0 x2 x3 j4 j6 j8 j10 x12 x13 j14 j16 j18 u0 → XV D cA z0 s S H locs → lv_has ls 22 [(0, .ref a0), (2, .int x2), (3, .int x3), (4, .long j4), (6, .long j6), (8, .long j8), (10, .long j10), (12, .int x12), (13, .int x13), (14, .long j14), (16, .long j16), (18, .long j18)] → W p l e (rmd 2 0 0) s m args below meth c H locs 0 0 (MQ below (va_Ql K (XK D cA z0) (zA z0)) args s 0 0 (zA z0)) (F0 m 155 ls [.long u0]) := by
  obtain ⟨hx, hb, hml, hown, hts, hK, hz, hlk, hr⟩ := id C
  intro S a0 x2 x3 j4 j6 j8 j10 x12 x13 j14 j16 j18 u0 H locs ls hM hV hl
  unfold wq_X11_jump_155 at hM
  refine lv_lstore (lv' := [(20, .long u0), (0, .ref a0), (2, .int x2), (3, .int x3), (4, .long j4), (6, .long j6), (8, .long j8), (10, .long j10), (12, .int x12), (13, .int x13), (14, .long j14), (16, .long j16), (18, .long j18)]) hx hb dX11_jump_155 hl (by decide) rfl (fun ls hl => ?_)
  refine lv_iload hx hb dX11_jump_157 (lv_at hl 8 rfl) ?_
  refine lv_if_eq (tgt := 176) hx hb dX11_jump_159 (by decide) (fun c43 => ?_) (fun c43 => ?_)
  · have hM := ite_t c43 hM
    exact tq_X11_jump_176 C H_62 _ _ _ _ _ _ _ _ _ _ _ _ hM hV (lv_sub hl [1, 2, 3, 4, 5, 9, 10, 11] rfl)
  have hM := ite_f c43 hM
  refine lv_lload hx hb dX11_jump_162 (lv_at hl 12 rfl) ?_
  refine lv_lload hx hb dX11_jump_164 (lv_at hl 7 rfl) ?_
  refine lv_lmul hx hb dX11_jump_166 ?_
  refine lv_lload hx hb dX11_jump_167 (lv_at hl 0 rfl) ?_
  refine lv_lload hx hb dX11_jump_169 (lv_at hl 11 rfl) ?_
  refine lv_lmul hx hb dX11_jump_171 ?_
  refine W.lcmp hx hb dX11_jump_172 ?_
  refine lv_if_le (tgt := 188) hx hb dX11_jump_173 (by decide) (fun c44 => ?_) (fun c44 => ?_)
  · have hM := ite_t c44 hM
    refine lv_iinc (v := (x13 + 1)) (lv' := [(13, .int (x13 + 1)), (20, .long u0), (0, .ref a0), (2, .int x2), (3, .int x3), (4, .long j4), (6, .long j6), (8, .long j8), (10, .long j10), (12, .int x12), (14, .long j14), (16, .long j16), (18, .long j18)]) hx hb dX11_jump_188 hl (k := 9) rfl rfl (by decide) rfl (fun ls hl => ?_)
    refine lv_goto (tgt := 62) hx hb dX11_jump_191 (by decide) ?_
    exact H_62 _ _ _ _ _ _ _ _ _ _ _ _ _ hM hV (lv_sub hl [2, 3, 4, 5, 6, 7, 8, 9, 0] rfl)
  have hM := ite_f c44 hM
  exact tq_X11_jump_176 C H_62 _ _ _ _ _ _ _ _ _ _ _ _ hM hV (lv_sub hl [1, 2, 3, 4, 5, 9, 10, 11] rfl)
set_option maxHeartbeats 4000000 in
set_option maxRecDepth 100000 in
theorem tq_X11_jump_138 {p : Program} {l : Launch} {e : Env} {s : State} {m : MethodId} {args : Array Value} {below : List Frame} {meth : Method} {c : Code} {D : DX} {cA : Nat → ClassId} {z0 N : Nat} {K : Int64 → PS → Prop} {k_62 : PS → Nat → Int32 → Int32 → Int64 → Int64 → Int64 → Int64 → Int32 → Int32 → Prop} (C : CX p s m args meth c cX11_jump 22 RX11 (some .long) D cA z0) (H_62 : ∀ (S : PS) (a0 : Nat) (x2 : Int32) (x3 : Int32) (j4 : Int64) (j6 : Int64) (j8 : Int64) (j10 : Int64) (x12 : Int32) (x13 : Int32) (H : Heap) (locs : List Loc) (ls : Array Slot), k_62 S a0 x2 x3 j4 j6 j8 j10 x12 x13 → XV D cA z0 s S H locs → lv_has ls 22 [(0, .ref a0), (2, .int x2), (3, .int x3), (4, .long j4), (6, .long j6), (8, .long j8), (10, .long j10), (12, .int x12), (13, .int x13)] → W p l e (rmd 2 0 0) s m args below meth c H locs 0 0 (MQ below (va_Ql K (XK D cA z0) (zA z0)) args s 0 0 (zA z0)) (F0 m 62 ls [])) : ∀ (S : PS) (a0 : Nat) (x2 : Int32) (x3 : Int32) (j4 : Int64) (j6 : Int64) (j8 : Int64) (j10 : Int64) (x12 : Int32) (x13 : Int32) (j14 : Int64) (j16 : Int64) (u0 : Int64) (H : Heap) (locs : List Loc) (ls : Array Slot), wq_X11_jump_138 N K k_62 S a0 x2 x3 j4 j6 j8 j10 x12 x13 j14 j16 u0 → XV D cA z0 s S H locs → lv_has ls 22 [(0, .ref a0), (2, .int x2), (3, .int x3), (4, .long j4), (6, .long j6), (8, .long j8), (10, .long j10), (12, .int x12), (13, .int x13), (14, .long j14), (16, .long j16)] → W p l e (rmd 2 0 0) s m args below meth c H locs 0 0 (MQ below (va_Ql K (XK D cA z0) (zA z0)) args s 0 0 (zA z0)) (F0 m 138 ls [.long u0]) := by
  obtain ⟨hx, hb, hml, hown, hts, hK, hz, hlk, hr⟩ := id C
  intro S a0 x2 x3 j4 j6 j8 j10 x12 x13 j14 j16 u0 H locs ls hM hV hl
  unfold wq_X11_jump_138 at hM
  refine lv_lstore (lv' := [(18, .long u0), (0, .ref a0), (2, .int x2), (3, .int x3), (4, .long j4), (6, .long j6), (8, .long j8), (10, .long j10), (12, .int x12), (13, .int x13), (14, .long j14), (16, .long j16)]) hx hb dX11_jump_138 hl (by decide) rfl (fun ls hl => ?_)
  refine lv_lload hx hb dX11_jump_140 (lv_at hl 6 rfl) ?_
  refine lv_lconst (v := 0) hx hb dX11_jump_142 (by decide) ?_
  refine W.lcmp hx hb dX11_jump_143 ?_
  refine lv_if_ge (tgt := 153) hx hb dX11_jump_144 (by decide) (fun c42 => ?_) (fun c42 => ?_)
  · have hM := ite_t c42 hM
    refine lv_lload hx hb dX11_jump_153 (lv_at hl 6 rfl) ?_
    exact tq_X11_jump_155 C H_62 _ _ _ _ _ _ _ _ _ _ _ _ _ _ _ _ _ hM hV (lv_sub hl [1, 2, 3, 4, 5, 6, 7, 8, 9, 10, 11, 0] rfl)
  have hM := ite_f c42 hM
  refine lv_lload hx hb dX11_jump_147 (lv_at hl 6 rfl) ?_
  refine lv_lneg hx hb dX11_jump_149 ?_
  refine lv_goto (tgt := 155) hx hb dX11_jump_150 (by decide) ?_
  exact tq_X11_jump_155 C H_62 _ _ _ _ _ _ _ _ _ _ _ _ _ _ _ _ _ hM hV (lv_sub hl [1, 2, 3, 4, 5, 6, 7, 8, 9, 10, 11, 0] rfl)
set_option maxHeartbeats 4000000 in
set_option maxRecDepth 100000 in
theorem tq_X11_jump_62 {p : Program} {l : Launch} {e : Env} {s : State} {m : MethodId} {args : Array Value} {below : List Frame} {meth : Method} {c : Code} {D : DX} {cA : Nat → ClassId} {z0 N : Nat} {K : Int64 → PS → Prop} (C : CX p s m args meth c cX11_jump 22 RX11 (some .long) D cA z0) : ∀ (n : Nat) (S : PS) (a0 : Nat) (x2 : Int32) (x3 : Int32) (j4 : Int64) (j6 : Int64) (j8 : Int64) (j10 : Int64) (x12 : Int32) (x13 : Int32) (H : Heap) (locs : List Loc) (ls : Array Slot), wq_X11_jump_62 N K n S a0 x2 x3 j4 j6 j8 j10 x12 x13 → XV D cA z0 s S H locs → lv_has ls 22 [(0, .ref a0), (2, .int x2), (3, .int x3), (4, .long j4), (6, .long j6), (8, .long j8), (10, .long j10), (12, .int x12), (13, .int x13)] → W p l e (rmd 2 0 0) s m args below meth c H locs 0 0 (MQ below (va_Ql K (XK D cA z0) (zA z0)) args s 0 0 (zA z0)) (F0 m 62 ls []) := by
  obtain ⟨hx, hb, hml, hown, hts, hK, hz, hlk, hr⟩ := id C
  intro n
  induction n with
  | zero => intro S a0 x2 x3 j4 j6 j8 j10 x12 x13 H locs ls hM; exact absurd hM id
  | succ n ih =>
    intro S a0 x2 x3 j4 j6 j8 j10 x12 x13 H locs ls hM hV hl
    rw [wq_X11_jump_62.eq_2] at hM
    refine lv_iload hx hb dX11_jump_62 (lv_at hl 8 rfl) ?_
    refine lv_iload_n hx hb dX11_jump_64 rfl (lv_at hl 2 rfl) ?_
    refine lv_icmp_ge (tgt := 194) hx hb dX11_jump_65 (by decide) (fun c16 => ?_) (fun c16 => ?_)
    · have hM := ite_t c16 hM
      refine lv_aload_n hx hb dX11_jump_194 rfl (lv_at hl 0 rfl) ?_
      refine lv_lload hx hb dX11_jump_195 (lv_at hl 5 rfl) ?_
      refine lv_lload hx hb dX11_jump_197 (lv_at hl 6 rfl) ?_
      have hk17 := hM.1
      have hM := hM.2
      refine x_cv hV (x_runV (As := [.long j8, .long j10]) (rest := []) C hV mi_X11_lowest wl_X11_257 hk17 (c_X11_lowest hM) ⟨by decide, by decide⟩ rfl hl.1 (Nat.le_of_ble_eq_true rfl) dX11_jump_199 ⟨Nat.zero_le _, Nat.zero_le _⟩) (fun S18 H locs hV hM => ?_)
      refine lv_iload_n hx hb dX11_jump_202 rfl (lv_at hl 1 rfl) ?_
      refine lv_if_ne (tgt := 224) hx hb dX11_jump_203 (by decide) (fun c20 => ?_) (fun c20 => ?_)
      · have hM := ite_f c20 hM
        refine lv_iload_n hx hb dX11_jump_224 rfl (lv_at hl 1 rfl) ?_
        refine lv_iconst (v := 1) hx hb dX11_jump_225 (by decide) ?_
        refine lv_icmp_ne (tgt := 236) hx hb dX11_jump_226 (by decide) (fun c21 => ?_) (fun c21 => ?_)
        · have hM := ite_f c21 hM
          refine lv_aload_n hx hb dX11_jump_236 rfl (lv_at hl 0 rfl) ?_
          have hk22 := hM.1
          have hM := hM.2
          refine x_getJ C hV wf_X11_244 hk22 dX11_jump_237 ?_
          exact x_lret C hV hM dX11_jump_240
        have hM := ite_t c21 hM
        refine lv_aload_n hx hb dX11_jump_229 rfl (lv_at hl 0 rfl) ?_
        have hk23 := hM.1
        have hM := hM.2
        refine x_getJ C hV wf_X11_241 hk23 dX11_jump_230 ?_
        refine lv_goto (tgt := 240) hx hb dX11_jump_233 (by decide) ?_
        exact x_lret C hV hM dX11_jump_240
      have hM := ite_t c20 hM
      refine lv_aload_n hx hb dX11_jump_206 rfl (lv_at hl 0 rfl) ?_
      have hk24 := hM.1
      have hM := hM.2
      obtain ⟨p25, hp25, hM⟩ := hM
      refine x_getR C hV wf_X11_17 hk24 hp25 dX11_jump_207 ?_
      refine lv_iconst (v := 3) hx hb dX11_jump_210 (by decide) ?_
      refine lv_aload_n hx hb dX11_jump_211 rfl (lv_at hl 0 rfl) ?_
      obtain ⟨p26, hp26, hM⟩ := hM
      refine x_getR C hV wf_X11_38 hk24 hp26 dX11_jump_212 ?_
      refine lv_iload hx hb dX11_jump_215 (lv_at hl 7 rfl) ?_
      have hk27 := hM.1
      have hM := hM.2
      have hi28 := hM.1
      have hM := hM.2
      refine x_iald C hV hk27 hi28 dX11_jump_217 ?_
      refine lv_imul hx hb dX11_jump_218 ?_
      have hk29 := hM.1
      have hM := hM.2
      have hi30 := hM.1
      have hM := hM.2
      refine x_iald C hV hk29 hi30 dX11_jump_219 ?_
      refine lv_i2l hx hb dX11_jump_220 rfl ?_
      refine lv_goto (tgt := 240) hx hb dX11_jump_221 (by decide) ?_
      exact x_lret C hV hM dX11_jump_240
    have hM := ite_f c16 hM
    refine lv_lload hx hb dX11_jump_68 (lv_at hl 4 rfl) ?_
    refine lv_aload_n hx hb dX11_jump_70 rfl (lv_at hl 0 rfl) ?_
    have hk31 := hM.1
    have hM := hM.2
    obtain ⟨p32, hp32, hM⟩ := hM
    refine x_getR C hV wf_X11_17 hk31 hp32 dX11_jump_71 ?_
    refine lv_iconst (v := 3) hx hb dX11_jump_74 (by decide) ?_
    refine lv_aload_n hx hb dX11_jump_75 rfl (lv_at hl 0 rfl) ?_
    obtain ⟨p33, hp33, hM⟩ := hM
    refine x_getR C hV wf_X11_38 hk31 hp33 dX11_jump_76 ?_
    refine lv_iload hx hb dX11_jump_79 (lv_at hl 8 rfl) ?_
    refine lv_iconst (v := 1) hx hb dX11_jump_81 (by decide) ?_
    refine lv_isub hx hb dX11_jump_82 ?_
    have hk34 := hM.1
    have hM := hM.2
    have hi35 := hM.1
    have hM := hM.2
    refine x_iald C hV hk34 hi35 dX11_jump_83 ?_
    refine lv_imul hx hb dX11_jump_84 ?_
    refine lv_iconst (v := 2) hx hb dX11_jump_85 (by decide) ?_
    refine lv_iadd hx hb dX11_jump_86 ?_
    have hk36 := hM.1
    have hM := hM.2
    have hi37 := hM.1
    have hM := hM.2
    refine x_iald C hV hk36 hi37 dX11_jump_87 ?_
    refine lv_i2l hx hb dX11_jump_88 rfl ?_
    refine lv_ladd hx hb dX11_jump_89 ?_
    refine lv_topl (fun v38 ev38 => ?_)
    have hM := hM v38 ev38
    refine lv_lstore (lv' := [(6, .long v38), (0, .ref a0), (2, .int x2), (3, .int x3), (4, .long j4), (8, .long j8), (10, .long j10), (12, .int x12), (13, .int x13)]) hx hb dX11_jump_90 hl (by decide) rfl (fun ls hl => ?_)
    refine lv_lload hx hb dX11_jump_92 (lv_at hl 4 rfl) ?_
    refine lv_lload hx hb dX11_jump_94 (lv_at hl 0 rfl) ?_
    refine lv_lsub hx hb dX11_jump_96 ?_
    refine lv_iload hx hb dX11_jump_97 (lv_at hl 8 rfl) ?_
    refine lv_i2l hx hb dX11_jump_99 rfl ?_
    refine lv_lmul hx hb dX11_jump_100 ?_
    refine lv_lload hx hb dX11_jump_101 (lv_at hl 0 rfl) ?_
    refine lv_iload_n hx hb dX11_jump_103 rfl (lv_at hl 3 rfl) ?_
    refine lv_iload hx hb dX11_jump_104 (lv_at hl 8 rfl) ?_
    refine lv_isub hx hb dX11_jump_106 ?_
    refine lv_i2l hx hb dX11_jump_107 rfl ?_
    refine lv_lmul hx hb dX11_jump_108 ?_
    refine lv_lsub hx hb dX11_jump_109 ?_
    refine lv_topl (fun v39 ev39 => ?_)
    have hM := hM v39 ev39
    refine lv_lstore (lv' := [(14, .long v39), (6, .long v38), (0, .ref a0), (2, .int x2), (3, .int x3), (4, .long j4), (8, .long j8), (10, .long j10), (12, .int x12), (13, .int x13)]) hx hb dX11_jump_110 hl (by decide) rfl (fun ls hl => ?_)
    refine lv_iload hx hb dX11_jump_112 (lv_at hl 9 rfl) ?_
    refine lv_i2l hx hb dX11_jump_114 rfl ?_
    refine lv_iload_n hx hb dX11_jump_115 rfl (lv_at hl 4 rfl) ?_
    refine lv_iload hx hb dX11_jump_116 (lv_at hl 9 rfl) ?_
    refine lv_isub hx hb dX11_jump_118 ?_
    refine lv_i2l hx hb dX11_jump_119 rfl ?_
    refine lv_lmul hx hb dX11_jump_120 ?_
    refine lv_topl (fun v40 ev40 => ?_)
    have hM := hM v40 ev40
    refine lv_lstore (lv' := [(16, .long v40), (14, .long v39), (6, .long v38), (0, .ref a0), (2, .int x2), (3, .int x3), (4, .long j4), (8, .long j8), (10, .long j10), (12, .int x12), (13, .int x13)]) hx hb dX11_jump_121 hl (by decide) rfl (fun ls hl => ?_)
    refine lv_lload hx hb dX11_jump_123 (lv_at hl 1 rfl) ?_
    refine lv_lconst (v := 0) hx hb dX11_jump_125 (by decide) ?_
    refine W.lcmp hx hb dX11_jump_126 ?_
    refine lv_if_ge (tgt := 136) hx hb dX11_jump_127 (by decide) (fun c41 => ?_) (fun c41 => ?_)
    · have hM := ite_t c41 hM
      refine lv_lload hx hb dX11_jump_136 (lv_at hl 1 rfl) ?_
      exact tq_X11_jump_138 C ih _ _ _ _ _ _ _ _ _ _ _ _ _ _ _ _ hM hV (lv_sub hl [3, 4, 5, 6, 2, 7, 8, 9, 10, 1, 0] rfl)
    have hM := ite_f c41 hM
    refine lv_lload hx hb dX11_jump_130 (lv_at hl 1 rfl) ?_
    refine lv_lneg hx hb dX11_jump_132 ?_
    refine lv_goto (tgt := 138) hx hb dX11_jump_133 (by decide) ?_
    exact tq_X11_jump_138 C ih _ _ _ _ _ _ _ _ _ _ _ _ _ _ _ _ hM hV (lv_sub hl [3, 4, 5, 6, 2, 7, 8, 9, 10, 1, 0] rfl)
set_option maxHeartbeats 4000000 in
set_option maxRecDepth 100000 in
theorem c_X11_jump {l : Launch} {D : DX} {cA : Nat → ClassId} {z0 N : Nat} {S : PS} {a0 : Nat} {x1 : Int32} {x2 : Int32} {K : Int64 → PS → Prop} (hM : wp_X11_jump N S a0 x1 x2 K) : MetL l yX11_jump cX11_jump 22 (some .long) 2 0 0 D cA z0 [.ref a0, .int x1, .int x2] S K := by
  refine x_met RX11 (by decide) rfl ?_
  intro p e s m below meth c C hin hV
  have hl := lv_entry ([.ref a0, .int x1, .int x2]) (n := 22) (Nat.le_of_ble_eq_true rfl)
  rw [lg_entry_eq]
  generalize (lg_sl ([.ref a0, .int x1, .int x2]) ++ List.replicate (22 - (lg_sl ([.ref a0, .int x1, .int x2])).length) Slot.unset).toArray = ls at hl ⊢
  have hl : lv_has ls 22 [(0, .ref a0), (1, .int x1), (2, .int x2)] := hl
  obtain ⟨hx, hb, hml, hown, hts, hK, hz, hlk, hr⟩ := id C
  unfold wp_X11_jump at hM
  refine lv_iload_n hx hb dX11_jump_0 rfl (lv_at hl 1 rfl) ?_
  refine x_ci hV (x_runS (As := [.int x1]) (rest := []) C hV ms_X11_isSide wl_X11_119 (c_X11_isSide hM) ⟨by decide, by decide⟩ rfl hl.1 (Nat.le_of_ble_eq_true rfl) dX11_jump_1 ⟨Nat.zero_le _, Nat.zero_le _⟩) (fun r2 S1 H locs hV hM => ?_)
  have hz3 := hM.1
  have hM := hM.2
  refine lv_if_eq (tgt := 16) hx hb dX11_jump_4 (by decide) (fun c4 => ?_) (fun c4 => ?_)
  · have hM := ite_t c4 hM
    refine lv_ldc2 hx hb hown (hts _ wc_X11_285) dX11_jump_16 ?_
    exact x_lret C hV hM dX11_jump_19
  have hM := ite_f c4 hM
  refine lv_iload_n hx hb dX11_jump_7 rfl (lv_at hl 2 rfl) ?_
  refine lv_iconst (v := 0) hx hb dX11_jump_8 (by decide) ?_
  refine lv_iconst (v := 2) hx hb dX11_jump_9 (by decide) ?_
  refine x_ci hV (x_runS (As := [.int x2, .int 0, .int 2]) (rest := []) C hV ms_X11_in wl_X11_87 (c_X11_in hM) ⟨by decide, by decide⟩ rfl hl.1 (Nat.le_of_ble_eq_true rfl) dX11_jump_10 ⟨Nat.zero_le _, Nat.zero_le _⟩) (fun r6 S5 H locs hV hM => ?_)
  have hz7 := hM.1
  have hM := hM.2
  refine lv_if_ne (tgt := 20) hx hb dX11_jump_13 (by decide) (fun c8 => ?_) (fun c8 => ?_)
  · have hM := ite_f c8 hM
    refine lv_aload_n hx hb dX11_jump_20 rfl (lv_at hl 0 rfl) ?_
    refine lv_iload_n hx hb dX11_jump_21 rfl (lv_at hl 1 rfl) ?_
    have hk9 := hM.1
    have hM := hM.2
    refine x_ci hV (x_runV (As := [.int x1]) (rest := []) C hV mi_X11_sortRuns wl_X11_287 hk9 (c_X11_sortRuns hM) ⟨by decide, by decide⟩ rfl hl.1 (Nat.le_of_ble_eq_true rfl) dX11_jump_22 ⟨Nat.zero_le _, Nat.zero_le _⟩) (fun r11 S10 H locs hV hM => ?_)
    refine lv_istore_n (lv' := [(3, .int r11), (0, .ref a0), (1, .int x1), (2, .int x2)]) hx hb dX11_jump_25 rfl hl (by decide) rfl (fun ls hl => ?_)
    refine lv_iload_n hx hb dX11_jump_26 rfl (lv_at hl 0 rfl) ?_
    refine lv_iconst (v := 2) hx hb dX11_jump_27 (by decide) ?_
    refine lv_icmp_ge (tgt := 35) hx hb dX11_jump_28 (by decide) (fun c12 => ?_) (fun c12 => ?_)
    · have hM := ite_t c12 hM
      refine lv_aload_n hx hb dX11_jump_35 rfl (lv_at hl 1 rfl) ?_
      refine lv_iload_n hx hb dX11_jump_36 rfl (lv_at hl 2 rfl) ?_
      refine lv_iconst (v := 0) hx hb dX11_jump_37 (by decide) ?_
      refine lv_sipush (v := 999) hx hb dX11_jump_38 (by decide) ?_
      have hk13 := hM.1
      have hM := hM.2
      refine x_ci hV (x_runV (As := [.int x1, .int 0, .int 999]) (rest := []) C hV mi_X11_sumOf wl_X11_279 hk13 (c_X11_sumOf hM) ⟨by decide, by decide⟩ rfl hl.1 (Nat.le_of_ble_eq_true rfl) dX11_jump_41 ⟨Nat.zero_le _, Nat.zero_le _⟩) (fun r15 S14 H locs hV hM => ?_)
      refine lv_i2l hx hb dX11_jump_44 rfl ?_
      refine lv_lstore (lv' := [(4, .long r15.toInt64), (3, .int r11), (0, .ref a0), (1, .int x1), (2, .int x2)]) hx hb dX11_jump_45 hl (by decide) rfl (fun ls hl => ?_)
      refine lv_lconst (v := 0) hx hb dX11_jump_47 (by decide) ?_
      refine lv_lstore (lv' := [(6, .long (0 : Int64)), (4, .long r15.toInt64), (3, .int r11), (0, .ref a0), (1, .int x1), (2, .int x2)]) hx hb dX11_jump_48 hl (by decide) rfl (fun ls hl => ?_)
      refine lv_lconst (v := 0) hx hb dX11_jump_50 (by decide) ?_
      refine lv_lstore (lv' := [(8, .long (0 : Int64)), (6, .long (0 : Int64)), (4, .long r15.toInt64), (3, .int r11), (0, .ref a0), (1, .int x1), (2, .int x2)]) hx hb dX11_jump_51 hl (by decide) rfl (fun ls hl => ?_)
      refine lv_lconst (v := 1) hx hb dX11_jump_53 (by decide) ?_
      refine lv_lstore (lv' := [(10, .long (1 : Int64)), (8, .long (0 : Int64)), (6, .long (0 : Int64)), (4, .long r15.toInt64), (3, .int r11), (0, .ref a0), (1, .int x1), (2, .int x2)]) hx hb dX11_jump_54 hl (by decide) rfl (fun ls hl => ?_)
      refine lv_iconst (v := 0) hx hb dX11_jump_56 (by decide) ?_
      refine lv_istore (lv' := [(12, .int 0), (10, .long (1 : Int64)), (8, .long (0 : Int64)), (6, .long (0 : Int64)), (4, .long r15.toInt64), (3, .int r11), (0, .ref a0), (1, .int x1), (2, .int x2)]) hx hb dX11_jump_57 hl (by decide) rfl (fun ls hl => ?_)
      refine lv_iconst (v := 1) hx hb dX11_jump_59 (by decide) ?_
      refine lv_istore (lv' := [(13, .int 1), (12, .int 0), (10, .long (1 : Int64)), (8, .long (0 : Int64)), (6, .long (0 : Int64)), (4, .long r15.toInt64), (3, .int r11), (0, .ref a0), (1, .int x1), (2, .int x2)]) hx hb dX11_jump_60 hl (by decide) rfl (fun ls hl => ?_)
      exact tq_X11_jump_62 C N _ _ _ _ _ _ _ _ _ _ _ _ _ hM hV (lv_sub hl [7, 9, 6, 5, 4, 3, 2, 1, 0] rfl)
    have hM := ite_f c12 hM
    refine lv_ldc2 hx hb hown (hts _ wc_X11_285) dX11_jump_31 ?_
    exact x_lret C hV hM dX11_jump_34
  have hM := ite_t c8 hM
  refine lv_ldc2 hx hb hown (hts _ wc_X11_285) dX11_jump_16 ?_
  exact x_lret C hV hM dX11_jump_19

def wp_X11_keep (N : Nat) (S : PS) (a0 : Nat) (K : Int32 → PS → Prop) : Prop := S.K a0 = 12 ∧ wp_X11_moveAll N S a0 1 (fun S2 => S2.K a0 = 12 ∧ ∀ S5 : PS, S5 = S2.setI 818 a0 1 → K 1 S5)
set_option maxHeartbeats 4000000 in
set_option maxRecDepth 100000 in
theorem c_X11_keep {l : Launch} {D : DX} {cA : Nat → ClassId} {z0 N : Nat} {S : PS} {a0 : Nat} {K : Int32 → PS → Prop} (hM : wp_X11_keep N S a0 K) : MetI l yX11_keep cX11_keep 1 (some .int) 2 0 0 D cA z0 [.ref a0] S K := by
  refine x_met RX11 (by decide) rfl ?_
  intro p e s m below meth c C hin hV
  have hl := lv_entry ([.ref a0]) (n := 1) (Nat.le_of_ble_eq_true rfl)
  rw [lg_entry_eq]
  generalize (lg_sl ([.ref a0]) ++ List.replicate (1 - (lg_sl ([.ref a0])).length) Slot.unset).toArray = ls at hl ⊢
  have hl : lv_has ls 1 [(0, .ref a0)] := hl
  obtain ⟨hx, hb, hml, hown, hts, hK, hz, hlk, hr⟩ := id C
  unfold wp_X11_keep at hM
  refine lv_aload_n hx hb dX11_keep_0 rfl (lv_at hl 0 rfl) ?_
  refine lv_iconst (v := 1) hx hb dX11_keep_1 (by decide) ?_
  have hk1 := hM.1
  have hM := hM.2
  refine x_cv hV (x_runV (As := [.int 1]) (rest := []) C hV mi_X11_moveAll wl_X11_449 hk1 (c_X11_moveAll hM) ⟨by decide, by decide⟩ rfl hl.1 (Nat.le_of_ble_eq_true rfl) dX11_keep_2 ⟨Nat.zero_le _, Nat.zero_le _⟩) (fun S2 H locs hV hM => ?_)
  refine lv_aload_n hx hb dX11_keep_5 rfl (lv_at hl 0 rfl) ?_
  refine lv_iconst (v := 1) hx hb dX11_keep_6 (by decide) ?_
  have hk4 := hM.1
  have hM := hM.2
  obtain ⟨S5, eS5⟩ : ∃ z : PS, z = S2.setI 818 a0 1 := ⟨_, rfl⟩
  have hM := hM S5 eS5
  refine x_putI C hV wp_X11_453 hk4 (nz_b (by decide)) eS5 dX11_keep_7 (fun H locs hV => ?_)
  refine lv_iconst (v := 1) hx hb dX11_keep_10 (by decide) ?_
  exact x_iret C hV hM dX11_keep_11

def wp_X11_later (N : Nat) (S : PS) (a0 : Nat) (x1 : Int32) (K : Int32 → PS → Prop) : Prop := wp_X11_in N S x1 1 99 (fun r2 S1 => if r2 = 0 then (K (-1) S1) else (S1.K a0 = 12 ∧ if ((S1.I 768 a0) + x1) ≤ 999 then (∀ S7 : PS, S7 = S1.setI 768 a0 ((S1.I 768 a0) + x1) → K (S7.I 768 a0) S7) else (K (-2) S1)))
set_option maxHeartbeats 4000000 in
set_option maxRecDepth 100000 in
theorem c_X11_later {l : Launch} {D : DX} {cA : Nat → ClassId} {z0 N : Nat} {S : PS} {a0 : Nat} {x1 : Int32} {K : Int32 → PS → Prop} (hM : wp_X11_later N S a0 x1 K) : MetI l yX11_later cX11_later 2 (some .int) 1 0 0 D cA z0 [.ref a0, .int x1] S K := by
  refine x_met RX11 (by decide) rfl ?_
  intro p e s m below meth c C hin hV
  have hl := lv_entry ([.ref a0, .int x1]) (n := 2) (Nat.le_of_ble_eq_true rfl)
  rw [lg_entry_eq]
  generalize (lg_sl ([.ref a0, .int x1]) ++ List.replicate (2 - (lg_sl ([.ref a0, .int x1])).length) Slot.unset).toArray = ls at hl ⊢
  have hl : lv_has ls 2 [(0, .ref a0), (1, .int x1)] := hl
  obtain ⟨hx, hb, hml, hown, hts, hK, hz, hlk, hr⟩ := id C
  unfold wp_X11_later at hM
  refine lv_iload_n hx hb dX11_later_0 rfl (lv_at hl 1 rfl) ?_
  refine lv_iconst (v := 1) hx hb dX11_later_1 (by decide) ?_
  refine lv_bipush (v := 99) hx hb dX11_later_2 (by decide) ?_
  refine x_ci hV (x_runS (As := [.int x1, .int 1, .int 99]) (rest := []) C hV ms_X11_in wl_X11_87 (c_X11_in hM) ⟨by decide, by decide⟩ rfl hl.1 (Nat.le_of_ble_eq_true rfl) dX11_later_4 ⟨Nat.zero_le _, Nat.zero_le _⟩) (fun r2 S1 H locs hV hM => ?_)
  have hz3 := hM.1
  have hM := hM.2
  refine lv_if_ne (tgt := 12) hx hb dX11_later_7 (by decide) (fun c4 => ?_) (fun c4 => ?_)
  · have hM := ite_f c4 hM
    refine lv_aload_n hx hb dX11_later_12 rfl (lv_at hl 0 rfl) ?_
    have hk5 := hM.1
    have hM := hM.2
    refine x_getI C hV wf_X11_103 hk5 dX11_later_13 ?_
    refine lv_iload_n hx hb dX11_later_16 rfl (lv_at hl 1 rfl) ?_
    refine lv_iadd hx hb dX11_later_17 ?_
    refine lv_sipush (v := 999) hx hb dX11_later_18 (by decide) ?_
    refine lv_icmp_le (tgt := 27) hx hb dX11_later_21 (by decide) (fun c6 => ?_) (fun c6 => ?_)
    · have hM := ite_t c6 hM
      refine lv_aload_n hx hb dX11_later_27 rfl (lv_at hl 0 rfl) ?_
      refine lv_dup hx hb dX11_later_28 rfl ?_
      refine x_getI C hV wf_X11_103 hk5 dX11_later_29 ?_
      refine lv_iload_n hx hb dX11_later_32 rfl (lv_at hl 1 rfl) ?_
      refine lv_iadd hx hb dX11_later_33 ?_
      obtain ⟨S7, eS7⟩ : ∃ z : PS, z = S1.setI 768 a0 ((S1.I 768 a0) + x1) := ⟨_, rfl⟩
      have hM := hM S7 eS7
      refine x_putI C hV wp_X11_103 hk5 ⟨rfl, rfl⟩ eS7 dX11_later_34 (fun H locs hV => ?_)
      refine lv_aload_n hx hb dX11_later_37 rfl (lv_at hl 0 rfl) ?_
      have hk8 := kp_I eS7 hk5
      refine x_getI C hV wf_X11_103 hk8 dX11_later_38 ?_
      exact x_iret C hV hM dX11_later_41
    have hM := ite_f c6 hM
    refine lv_bipush (v := (-2)) hx hb dX11_later_24 (by decide) ?_
    exact x_iret C hV hM dX11_later_26
  have hM := ite_t c4 hM
  refine lv_iconst (v := (-1)) hx hb dX11_later_10 (by decide) ?_
  exact x_iret C hV hM dX11_later_11

def wq_X11_parting_40 (N : Nat) (K : Int32 → PS → Prop) (k_5 : PS → Nat → Int32 → Int32 → Int32 → Int32 → Prop) (S : PS) (a0 : Nat) (x1 : Int32) (x2 : Int32) (x4 : Int32) (t0 : Int32) (t1 : Int32) : Prop := ∀ v9 : Int32, v9 = (t0 ||| t1) → k_5 S a0 x1 x2 v9 (x4 + 1)
def wq_X11_parting_5 (N : Nat) (K : Int32 → PS → Prop) : Nat → PS → Nat → Int32 → Int32 → Int32 → Int32 → Prop
  | 0, _, _, _, _, _, _ => False
  | n + 1, S, a0, x1, x2, x3, x4 => S.K a0 = 12 ∧ if (S.I 772 a0) ≤ x4 then (K x3 S) else (wp_X11_findsBy N S a0 x1 x4 (fun r4 S3 => S3.K a0 = 12 ∧ wp_X11_findsBy N S3 a0 x2 x4 (fun r7 S6 => if r4 = r7 then (wq_X11_parting_40 N K (fun S a0 x1 x2 x3 x4 => wq_X11_parting_5 N K n S a0 x1 x2 x3 x4) S6 a0 x1 x2 x4 x3 0) else (wq_X11_parting_40 N K (fun S a0 x1 x2 x3 x4 => wq_X11_parting_5 N K n S a0 x1 x2 x3 x4) S6 a0 x1 x2 x4 x3 ((1 : Int32) <<< (x4 &&& 31))))))
def wp_X11_parting (N : Nat) (S : PS) (a0 : Nat) (x1 : Int32) (x2 : Int32) (K : Int32 → PS → Prop) : Prop := wq_X11_parting_5 N K N S a0 x1 x2 0 0
set_option maxHeartbeats 4000000 in
set_option maxRecDepth 100000 in
theorem tq_X11_parting_40 {p : Program} {l : Launch} {e : Env} {s : State} {m : MethodId} {args : Array Value} {below : List Frame} {meth : Method} {c : Code} {D : DX} {cA : Nat → ClassId} {z0 N : Nat} {K : Int32 → PS → Prop} {k_5 : PS → Nat → Int32 → Int32 → Int32 → Int32 → Prop} (C : CX p s m args meth c cX11_parting 5 RX11 (some .int) D cA z0) (H_5 : ∀ (S : PS) (a0 : Nat) (x1 : Int32) (x2 : Int32) (x3 : Int32) (x4 : Int32) (H : Heap) (locs : List Loc) (ls : Array Slot), k_5 S a0 x1 x2 x3 x4 → XV D cA z0 s S H locs → lv_has ls 5 [(0, .ref a0), (1, .int x1), (2, .int x2), (3, .int x3), (4, .int x4)] → W p l e (rmd 1 0 0) s m args below meth c H locs 0 0 (MQ below (va_Qi K (XK D cA z0) (zA z0)) args s 0 0 (zA z0)) (F0 m 5 ls [])) : ∀ (S : PS) (a0 : Nat) (x1 : Int32) (x2 : Int32) (x4 : Int32) (t0 : Int32) (t1 : Int32) (H : Heap) (locs : List Loc) (ls : Array Slot), wq_X11_parting_40 N K k_5 S a0 x1 x2 x4 t0 t1 → XV D cA z0 s S H locs → lv_has ls 5 [(0, .ref a0), (1, .int x1), (2, .int x2), (4, .int x4)] → W p l e (rmd 1 0 0) s m args below meth c H locs 0 0 (MQ below (va_Qi K (XK D cA z0) (zA z0)) args s 0 0 (zA z0)) (F0 m 40 ls [.int t1, .int t0]) := by
  obtain ⟨hx, hb, hml, hown, hts, hK, hz, hlk, hr⟩ := id C
  intro S a0 x1 x2 x4 t0 t1 H locs ls hM hV hl
  unfold wq_X11_parting_40 at hM
  refine lv_ior hx hb dX11_parting_40 ?_
  refine lv_topi (fun v9 ev9 => ?_)
  have hM := hM v9 ev9
  refine lv_istore_n (lv' := [(3, .int v9), (0, .ref a0), (1, .int x1), (2, .int x2), (4, .int x4)]) hx hb dX11_parting_41 rfl hl (by decide) rfl (fun ls hl => ?_)
  refine lv_iinc (v := (x4 + 1)) (lv' := [(4, .int (x4 + 1)), (3, .int v9), (0, .ref a0), (1, .int x1), (2, .int x2)]) hx hb dX11_parting_42 hl (k := 4) rfl rfl (by decide) rfl (fun ls hl => ?_)
  refine lv_goto (tgt := 5) hx hb dX11_parting_45 (by decide) ?_
  exact H_5 _ _ _ _ _ _ _ _ _ hM hV (lv_sub hl [2, 3, 4, 1, 0] rfl)
set_option maxHeartbeats 4000000 in
set_option maxRecDepth 100000 in
theorem tq_X11_parting_5 {p : Program} {l : Launch} {e : Env} {s : State} {m : MethodId} {args : Array Value} {below : List Frame} {meth : Method} {c : Code} {D : DX} {cA : Nat → ClassId} {z0 N : Nat} {K : Int32 → PS → Prop} (C : CX p s m args meth c cX11_parting 5 RX11 (some .int) D cA z0) : ∀ (n : Nat) (S : PS) (a0 : Nat) (x1 : Int32) (x2 : Int32) (x3 : Int32) (x4 : Int32) (H : Heap) (locs : List Loc) (ls : Array Slot), wq_X11_parting_5 N K n S a0 x1 x2 x3 x4 → XV D cA z0 s S H locs → lv_has ls 5 [(0, .ref a0), (1, .int x1), (2, .int x2), (3, .int x3), (4, .int x4)] → W p l e (rmd 1 0 0) s m args below meth c H locs 0 0 (MQ below (va_Qi K (XK D cA z0) (zA z0)) args s 0 0 (zA z0)) (F0 m 5 ls []) := by
  obtain ⟨hx, hb, hml, hown, hts, hK, hz, hlk, hr⟩ := id C
  intro n
  induction n with
  | zero => intro S a0 x1 x2 x3 x4 H locs ls hM; exact absurd hM id
  | succ n ih =>
    intro S a0 x1 x2 x3 x4 H locs ls hM hV hl
    rw [wq_X11_parting_5.eq_2] at hM
    refine lv_iload hx hb dX11_parting_5 (lv_at hl 4 rfl) ?_
    refine lv_aload_n hx hb dX11_parting_7 rfl (lv_at hl 0 rfl) ?_
    have hk1 := hM.1
    have hM := hM.2
    refine x_getI C hV wf_X11_84 hk1 dX11_parting_8 ?_
    refine lv_icmp_ge (tgt := 48) hx hb dX11_parting_11 (by decide) (fun c2 => ?_) (fun c2 => ?_)
    · have hM := ite_t c2 hM
      refine lv_iload_n hx hb dX11_parting_48 rfl (lv_at hl 3 rfl) ?_
      exact x_iret C hV hM dX11_parting_49
    have hM := ite_f c2 hM
    refine lv_iload_n hx hb dX11_parting_14 rfl (lv_at hl 3 rfl) ?_
    refine lv_aload_n hx hb dX11_parting_15 rfl (lv_at hl 0 rfl) ?_
    refine lv_iload_n hx hb dX11_parting_16 rfl (lv_at hl 1 rfl) ?_
    refine lv_iload hx hb dX11_parting_17 (lv_at hl 4 rfl) ?_
    refine x_ci hV (x_runV (As := [.int x1, .int x4]) (rest := [.int x3]) C hV mi_X11_findsBy wl_X11_226 hk1 (c_X11_findsBy hM) ⟨by decide, by decide⟩ rfl hl.1 (Nat.le_of_ble_eq_true rfl) dX11_parting_19 ⟨Nat.zero_le _, Nat.zero_le _⟩) (fun r4 S3 H locs hV hM => ?_)
    refine lv_aload_n hx hb dX11_parting_22 rfl (lv_at hl 0 rfl) ?_
    refine lv_iload_n hx hb dX11_parting_23 rfl (lv_at hl 2 rfl) ?_
    refine lv_iload hx hb dX11_parting_24 (lv_at hl 4 rfl) ?_
    have hk5 := hM.1
    have hM := hM.2
    refine x_ci hV (x_runV (As := [.int x2, .int x4]) (rest := [.int r4, .int x3]) C hV mi_X11_findsBy wl_X11_226 hk5 (c_X11_findsBy hM) ⟨by decide, by decide⟩ rfl hl.1 (Nat.le_of_ble_eq_true rfl) dX11_parting_26 ⟨Nat.zero_le _, Nat.zero_le _⟩) (fun r7 S6 H locs hV hM => ?_)
    refine lv_icmp_eq (tgt := 39) hx hb dX11_parting_29 (by decide) (fun c8 => ?_) (fun c8 => ?_)
    · have hM := ite_t c8 hM
      refine lv_iconst (v := 0) hx hb dX11_parting_39 (by decide) ?_
      exact tq_X11_parting_40 C ih _ _ _ _ _ _ _ _ _ _ hM hV (lv_sub hl [0, 1, 2, 4] rfl)
    have hM := ite_f c8 hM
    refine lv_iconst (v := 1) hx hb dX11_parting_32 (by decide) ?_
    refine lv_iload hx hb dX11_parting_33 (lv_at hl 4 rfl) ?_
    refine lv_ishl hx hb dX11_parting_35 ?_
    refine lv_goto (tgt := 40) hx hb dX11_parting_36 (by decide) ?_
    exact tq_X11_parting_40 C ih _ _ _ _ _ _ _ _ _ _ hM hV (lv_sub hl [0, 1, 2, 4] rfl)
set_option maxHeartbeats 4000000 in
set_option maxRecDepth 100000 in
theorem c_X11_parting {l : Launch} {D : DX} {cA : Nat → ClassId} {z0 N : Nat} {S : PS} {a0 : Nat} {x1 : Int32} {x2 : Int32} {K : Int32 → PS → Prop} (hM : wp_X11_parting N S a0 x1 x2 K) : MetI l yX11_parting cX11_parting 5 (some .int) 1 0 0 D cA z0 [.ref a0, .int x1, .int x2] S K := by
  refine x_met RX11 (by decide) rfl ?_
  intro p e s m below meth c C hin hV
  have hl := lv_entry ([.ref a0, .int x1, .int x2]) (n := 5) (Nat.le_of_ble_eq_true rfl)
  rw [lg_entry_eq]
  generalize (lg_sl ([.ref a0, .int x1, .int x2]) ++ List.replicate (5 - (lg_sl ([.ref a0, .int x1, .int x2])).length) Slot.unset).toArray = ls at hl ⊢
  have hl : lv_has ls 5 [(0, .ref a0), (1, .int x1), (2, .int x2)] := hl
  obtain ⟨hx, hb, hml, hown, hts, hK, hz, hlk, hr⟩ := id C
  unfold wp_X11_parting at hM
  refine lv_iconst (v := 0) hx hb dX11_parting_0 (by decide) ?_
  refine lv_istore_n (lv' := [(3, .int 0), (0, .ref a0), (1, .int x1), (2, .int x2)]) hx hb dX11_parting_1 rfl hl (by decide) rfl (fun ls hl => ?_)
  refine lv_iconst (v := 0) hx hb dX11_parting_2 (by decide) ?_
  refine lv_istore (lv' := [(4, .int 0), (3, .int 0), (0, .ref a0), (1, .int x1), (2, .int x2)]) hx hb dX11_parting_3 hl (by decide) rfl (fun ls hl => ?_)
  exact tq_X11_parting_5 C N _ _ _ _ _ _ _ _ _ hM hV (lv_sub hl [2, 3, 4, 1, 0] rfl)

def wq_X11_least_236 (N : Nat) (K : Int32 → PS → Prop) (k_117 : PS → Nat → Int32 → Int32 → Int32 → Int32 → Int32 → Prop) (S : PS) (a0 : Nat) (x2 : Int32) (x3 : Int32) (x6 : Int32) (x7 : Int32) : Prop := k_117 S a0 x2 x3 x6 x7 (x6 + 1)
def wq_X11_least_211 (N : Nat) (K : Int32 → PS → Prop) (k_117 : PS → Nat → Int32 → Int32 → Int32 → Int32 → Int32 → Prop) (k_182 : PS → Nat → Int32 → Int32 → Int32 → Int32 → Int32 → Int32 → Int32 → Int32 → Prop) (S : PS) (a0 : Nat) (x2 : Int32) (x3 : Int32) (x4 : Int32) (x5 : Int32) (x6 : Int32) (x7 : Int32) (x9 : Int32) (t0 : Int32) : Prop := k_182 S a0 x2 x3 x4 x5 x6 x7 t0 (x9 + 1)
def wq_X11_least_210 (N : Nat) (K : Int32 → PS → Prop) (k_117 : PS → Nat → Int32 → Int32 → Int32 → Int32 → Int32 → Prop) (k_182 : PS → Nat → Int32 → Int32 → Int32 → Int32 → Int32 → Int32 → Int32 → Int32 → Prop) (S : PS) (a0 : Nat) (x2 : Int32) (x3 : Int32) (x4 : Int32) (x5 : Int32) (x6 : Int32) (x7 : Int32) (x9 : Int32) : Prop := wq_X11_least_211 N K k_117 k_182 S a0 x2 x3 x4 x5 x6 x7 x9 0
def wq_X11_least_182 (N : Nat) (K : Int32 → PS → Prop) (k_117 : PS → Nat → Int32 → Int32 → Int32 → Int32 → Int32 → Prop) : Nat → PS → Nat → Int32 → Int32 → Int32 → Int32 → Int32 → Int32 → Int32 → Int32 → Prop
  | 0, _, _, _, _, _, _, _, _, _, _ => False
  | n + 1, S, a0, x2, x3, x4, x5, x6, x7, x8, x9 => if x3 ≤ x9 then (if x8 = 0 then (k_117 S a0 x2 x3 x4 x5 (x6 + 1)) else (if x5 < 0 then (wq_X11_least_236 N K k_117 S a0 x2 x3 x6 x7) else (if x5 ≤ x7 then (k_117 S a0 x2 x3 x4 x5 (x6 + 1)) else (wq_X11_least_236 N K k_117 S a0 x2 x3 x6 x7)))) else (if x8 = 0 then (wq_X11_least_210 N K k_117 (fun S a0 x2 x3 x4 x5 x6 x7 x8 x9 => wq_X11_least_182 N K k_117 n S a0 x2 x3 x4 x5 x6 x7 x8 x9) S a0 x2 x3 x4 x5 x6 x7 x9) else (S.K a0 = 12 ∧ ∃ p23 : Nat, S.R 792 a0 = some p23 ∧ S.K p23 = 20 ∧ vp_in x9 (S.ln p23) ∧ if (x6 &&& (S.A p23 x9.toNatClampNeg)) = 0 then (wq_X11_least_210 N K k_117 (fun S a0 x2 x3 x4 x5 x6 x7 x8 x9 => wq_X11_least_182 N K k_117 n S a0 x2 x3 x4 x5 x6 x7 x8 x9) S a0 x2 x3 x4 x5 x6 x7 x9) else (wq_X11_least_211 N K k_117 (fun S a0 x2 x3 x4 x5 x6 x7 x8 x9 => wq_X11_least_182 N K k_117 n S a0 x2 x3 x4 x5 x6 x7 x8 x9) S a0 x2 x3 x4 x5 x6 x7 x9 1)))
def wq_X11_least_167 (N : Nat) (K : Int32 → PS → Prop) (k_117 : PS → Nat → Int32 → Int32 → Int32 → Int32 → Int32 → Prop) (k_134 : PS → Nat → Int32 → Int32 → Int32 → Int32 → Int32 → Int32 → Int32 → Prop) (S : PS) (a0 : Nat) (x2 : Int32) (x3 : Int32) (x4 : Int32) (x5 : Int32) (x6 : Int32) (x8 : Int32) (t0 : Int32) (t1 : Int32) : Prop := ∀ v28 : Int32, v28 = (t0 + t1) → k_134 S a0 x2 x3 x4 x5 x6 v28 (x8 + 1)
def wq_X11_least_134 (N : Nat) (K : Int32 → PS → Prop) (k_117 : PS → Nat → Int32 → Int32 → Int32 → Int32 → Int32 → Prop) : Nat → PS → Nat → Int32 → Int32 → Int32 → Int32 → Int32 → Int32 → Int32 → Prop
  | 0, _, _, _, _, _, _, _, _, _ => False
  | n + 1, S, a0, x2, x3, x4, x5, x6, x7, x8 => S.K a0 = 12 ∧ if (S.I 772 a0) ≤ x8 then (wq_X11_least_182 N K k_117 N S a0 x2 x3 x4 x5 x6 x7 1 0) else (if ((x6 >>> (x8 &&& 31)) &&& 1) = 1 then (wp_X11_its N S a0 x8 4 (fun r30 S29 => wq_X11_least_167 N K k_117 (fun S a0 x2 x3 x4 x5 x6 x7 x8 => wq_X11_least_134 N K k_117 n S a0 x2 x3 x4 x5 x6 x7 x8) S29 a0 x2 x3 x4 x5 x6 x8 x7 r30)) else (wq_X11_least_167 N K k_117 (fun S a0 x2 x3 x4 x5 x6 x7 x8 => wq_X11_least_134 N K k_117 n S a0 x2 x3 x4 x5 x6 x7 x8) S a0 x2 x3 x4 x5 x6 x8 x7 0))
def wq_X11_least_117 (N : Nat) (K : Int32 → PS → Prop) : Nat → PS → Nat → Int32 → Int32 → Int32 → Int32 → Int32 → Prop
  | 0, _, _, _, _, _, _, _ => False
  | n + 1, S, a0, x2, x3, x4, x5, x6 => S.K a0 = 12 ∧ if ((1 : Int32) <<< ((S.I 772 a0) &&& 31)) ≤ x6 then (if x2 = 0 then (K x4 S) else (K x5 S)) else (wq_X11_least_134 N K (fun S a0 x2 x3 x4 x5 x6 => wq_X11_least_117 N K n S a0 x2 x3 x4 x5 x6) N S a0 x2 x3 x4 x5 x6 0 0)
def wq_X11_least_78 (N : Nat) (K : Int32 → PS → Prop) (k_22 : PS → Nat → Int32 → Int32 → Int32 → Int32 → Prop) (k_37 : PS → Nat → Int32 → Int32 → Int32 → Int32 → Int32 → Prop) (S : PS) (a0 : Nat) (x1 : Int32) (x2 : Int32) (x3 : Int32) (x4 : Int32) (x5 : Int32) (t0 : Int32) : Prop := if t0 = 0 then (k_37 S a0 x1 x2 x3 x4 (x5 + 1)) else (S.K a0 = 12 ∧ ∃ p37 : Nat, S.R 792 a0 = some p37 ∧ S.K p37 = 20 ∧ vp_in x3 (S.ln p37) ∧ ∀ S40 : PS, S40 = S.setA p37 x3.toNatClampNeg t0 → k_37 S40 a0 x1 x2 (x3 + 1) x4 (x5 + 1))
def wq_X11_least_77 (N : Nat) (K : Int32 → PS → Prop) (k_22 : PS → Nat → Int32 → Int32 → Int32 → Int32 → Prop) (k_37 : PS → Nat → Int32 → Int32 → Int32 → Int32 → Int32 → Prop) (S : PS) (a0 : Nat) (x1 : Int32) (x2 : Int32) (x3 : Int32) (x4 : Int32) (x5 : Int32) : Prop := wq_X11_least_78 N K k_22 k_37 S a0 x1 x2 x3 x4 x5 0
def wq_X11_least_37 (N : Nat) (K : Int32 → PS → Prop) (k_22 : PS → Nat → Int32 → Int32 → Int32 → Int32 → Prop) : Nat → PS → Nat → Int32 → Int32 → Int32 → Int32 → Int32 → Prop
  | 0, _, _, _, _, _, _, _ => False
  | n + 1, S, a0, x1, x2, x3, x4, x5 => S.K a0 = 12 ∧ if (S.I 776 a0) ≤ x5 then (k_22 S a0 x1 x2 x3 (x4 + 1)) else (if ((x1 >>> (x4 &&& 31)) &&& 1) = 1 then (if ((x1 >>> (x5 &&& 31)) &&& 1) = 1 then (wp_X11_parting N S a0 x4 x5 (fun r43 S42 => wq_X11_least_78 N K k_22 (fun S a0 x1 x2 x3 x4 x5 => wq_X11_least_37 N K k_22 n S a0 x1 x2 x3 x4 x5) S42 a0 x1 x2 x3 x4 x5 r43)) else (wq_X11_least_77 N K k_22 (fun S a0 x1 x2 x3 x4 x5 => wq_X11_least_37 N K k_22 n S a0 x1 x2 x3 x4 x5) S a0 x1 x2 x3 x4 x5)) else (wq_X11_least_77 N K k_22 (fun S a0 x1 x2 x3 x4 x5 => wq_X11_least_37 N K k_22 n S a0 x1 x2 x3 x4 x5) S a0 x1 x2 x3 x4 x5))
def wq_X11_least_22 (N : Nat) (K : Int32 → PS → Prop) : Nat → PS → Nat → Int32 → Int32 → Int32 → Int32 → Prop
  | 0, _, _, _, _, _, _ => False
  | n + 1, S, a0, x1, x2, x3, x4 => S.K a0 = 12 ∧ if (S.I 776 a0) ≤ x4 then (wq_X11_least_117 N K N S a0 x2 x3 0 (-1) 0) else (∀ v31 : Int32, v31 = (x4 + 1) → wq_X11_least_37 N K (fun S a0 x1 x2 x3 x4 => wq_X11_least_22 N K n S a0 x1 x2 x3 x4) N S a0 x1 x2 x3 x4 v31)
def wp_X11_least (N : Nat) (S : PS) (a0 : Nat) (x1 : Int32) (x2 : Int32) (K : Int32 → PS → Prop) : Prop := S.K a0 = 12 ∧ wp_X11_isSet N S a0 x1 (fun r3 S2 => if r3 = 0 then (K (-1) S2) else (wp_X11_isSide N S2 x2 (fun r7 S6 => if r7 = 0 then (K (-1) S6) else (wq_X11_least_22 N K N S6 a0 x1 x2 0 0))))
set_option maxHeartbeats 4000000 in
set_option maxRecDepth 100000 in
theorem tq_X11_least_236 {p : Program} {l : Launch} {e : Env} {s : State} {m : MethodId} {args : Array Value} {below : List Frame} {meth : Method} {c : Code} {D : DX} {cA : Nat → ClassId} {z0 N : Nat} {K : Int32 → PS → Prop} {k_117 : PS → Nat → Int32 → Int32 → Int32 → Int32 → Int32 → Prop} (C : CX p s m args meth c cX11_least 10 RX11 (some .int) D cA z0) (H_117 : ∀ (S : PS) (a0 : Nat) (x2 : Int32) (x3 : Int32) (x4 : Int32) (x5 : Int32) (x6 : Int32) (H : Heap) (locs : List Loc) (ls : Array Slot), k_117 S a0 x2 x3 x4 x5 x6 → XV D cA z0 s S H locs → lv_has ls 10 [(0, .ref a0), (2, .int x2), (3, .int x3), (4, .int x4), (5, .int x5), (6, .int x6)] → W p l e (rmd 2 0 0) s m args below meth c H locs 0 0 (MQ below (va_Qi K (XK D cA z0) (zA z0)) args s 0 0 (zA z0)) (F0 m 117 ls [])) : ∀ (S : PS) (a0 : Nat) (x2 : Int32) (x3 : Int32) (x6 : Int32) (x7 : Int32) (H : Heap) (locs : List Loc) (ls : Array Slot), wq_X11_least_236 N K k_117 S a0 x2 x3 x6 x7 → XV D cA z0 s S H locs → lv_has ls 10 [(0, .ref a0), (2, .int x2), (3, .int x3), (6, .int x6), (7, .int x7)] → W p l e (rmd 2 0 0) s m args below meth c H locs 0 0 (MQ below (va_Qi K (XK D cA z0) (zA z0)) args s 0 0 (zA z0)) (F0 m 236 ls []) := by
  obtain ⟨hx, hb, hml, hown, hts, hK, hz, hlk, hr⟩ := id C
  intro S a0 x2 x3 x6 x7 H locs ls hM hV hl
  unfold wq_X11_least_236 at hM
  refine lv_iload hx hb dX11_least_236 (lv_at hl 4 rfl) ?_
  refine lv_istore (lv' := [(5, .int x7), (0, .ref a0), (2, .int x2), (3, .int x3), (6, .int x6), (7, .int x7)]) hx hb dX11_least_238 hl (by decide) rfl (fun ls hl => ?_)
  refine lv_iload hx hb dX11_least_240 (lv_at hl 4 rfl) ?_
  refine lv_istore (lv' := [(4, .int x6), (5, .int x7), (0, .ref a0), (2, .int x2), (3, .int x3), (6, .int x6), (7, .int x7)]) hx hb dX11_least_242 hl (by decide) rfl (fun ls hl => ?_)
  refine lv_iinc (v := (x6 + 1)) (lv' := [(6, .int (x6 + 1)), (4, .int x6), (5, .int x7), (0, .ref a0), (2, .int x2), (3, .int x3), (7, .int x7)]) hx hb dX11_least_244 hl (k := 5) rfl rfl (by decide) rfl (fun ls hl => ?_)
  refine lv_goto (tgt := 117) hx hb dX11_least_247 (by decide) ?_
  exact H_117 _ _ _ _ _ _ _ _ _ _ hM hV (lv_sub hl [3, 4, 5, 1, 2, 0] rfl)
set_option maxHeartbeats 4000000 in
set_option maxRecDepth 100000 in
theorem tq_X11_least_211 {p : Program} {l : Launch} {e : Env} {s : State} {m : MethodId} {args : Array Value} {below : List Frame} {meth : Method} {c : Code} {D : DX} {cA : Nat → ClassId} {z0 N : Nat} {K : Int32 → PS → Prop} {k_117 : PS → Nat → Int32 → Int32 → Int32 → Int32 → Int32 → Prop} {k_182 : PS → Nat → Int32 → Int32 → Int32 → Int32 → Int32 → Int32 → Int32 → Int32 → Prop} (C : CX p s m args meth c cX11_least 10 RX11 (some .int) D cA z0) (H_117 : ∀ (S : PS) (a0 : Nat) (x2 : Int32) (x3 : Int32) (x4 : Int32) (x5 : Int32) (x6 : Int32) (H : Heap) (locs : List Loc) (ls : Array Slot), k_117 S a0 x2 x3 x4 x5 x6 → XV D cA z0 s S H locs → lv_has ls 10 [(0, .ref a0), (2, .int x2), (3, .int x3), (4, .int x4), (5, .int x5), (6, .int x6)] → W p l e (rmd 2 0 0) s m args below meth c H locs 0 0 (MQ below (va_Qi K (XK D cA z0) (zA z0)) args s 0 0 (zA z0)) (F0 m 117 ls [])) (H_182 : ∀ (S : PS) (a0 : Nat) (x2 : Int32) (x3 : Int32) (x4 : Int32) (x5 : Int32) (x6 : Int32) (x7 : Int32) (x8 : Int32) (x9 : Int32) (H : Heap) (locs : List Loc) (ls : Array Slot), k_182 S a0 x2 x3 x4 x5 x6 x7 x8 x9 → XV D cA z0 s S H locs → lv_has ls 10 [(0, .ref a0), (2, .int x2), (3, .int x3), (4, .int x4), (5, .int x5), (6, .int x6), (7, .int x7), (8, .int x8), (9, .int x9)] → W p l e (rmd 2 0 0) s m args below meth c H locs 0 0 (MQ below (va_Qi K (XK D cA z0) (zA z0)) args s 0 0 (zA z0)) (F0 m 182 ls [])) : ∀ (S : PS) (a0 : Nat) (x2 : Int32) (x3 : Int32) (x4 : Int32) (x5 : Int32) (x6 : Int32) (x7 : Int32) (x9 : Int32) (t0 : Int32) (H : Heap) (locs : List Loc) (ls : Array Slot), wq_X11_least_211 N K k_117 k_182 S a0 x2 x3 x4 x5 x6 x7 x9 t0 → XV D cA z0 s S H locs → lv_has ls 10 [(0, .ref a0), (2, .int x2), (3, .int x3), (4, .int x4), (5, .int x5), (6, .int x6), (7, .int x7), (9, .int x9)] → W p l e (rmd 2 0 0) s m args below meth c H locs 0 0 (MQ below (va_Qi K (XK D cA z0) (zA z0)) args s 0 0 (zA z0)) (F0 m 211 ls [.int t0]) := by
  obtain ⟨hx, hb, hml, hown, hts, hK, hz, hlk, hr⟩ := id C
  intro S a0 x2 x3 x4 x5 x6 x7 x9 t0 H locs ls hM hV hl
  unfold wq_X11_least_211 at hM
  refine lv_istore (lv' := [(8, .int t0), (0, .ref a0), (2, .int x2), (3, .int x3), (4, .int x4), (5, .int x5), (6, .int x6), (7, .int x7), (9, .int x9)]) hx hb dX11_least_211 hl (by decide) rfl (fun ls hl => ?_)
  refine lv_iinc (v := (x9 + 1)) (lv' := [(9, .int (x9 + 1)), (8, .int t0), (0, .ref a0), (2, .int x2), (3, .int x3), (4, .int x4), (5, .int x5), (6, .int x6), (7, .int x7)]) hx hb dX11_least_213 hl (k := 8) rfl rfl (by decide) rfl (fun ls hl => ?_)
  refine lv_goto (tgt := 182) hx hb dX11_least_216 (by decide) ?_
  exact H_182 _ _ _ _ _ _ _ _ _ _ _ _ _ hM hV (lv_sub hl [2, 3, 4, 5, 6, 7, 8, 1, 0] rfl)
set_option maxHeartbeats 4000000 in
set_option maxRecDepth 100000 in
theorem tq_X11_least_210 {p : Program} {l : Launch} {e : Env} {s : State} {m : MethodId} {args : Array Value} {below : List Frame} {meth : Method} {c : Code} {D : DX} {cA : Nat → ClassId} {z0 N : Nat} {K : Int32 → PS → Prop} {k_117 : PS → Nat → Int32 → Int32 → Int32 → Int32 → Int32 → Prop} {k_182 : PS → Nat → Int32 → Int32 → Int32 → Int32 → Int32 → Int32 → Int32 → Int32 → Prop} (C : CX p s m args meth c cX11_least 10 RX11 (some .int) D cA z0) (H_117 : ∀ (S : PS) (a0 : Nat) (x2 : Int32) (x3 : Int32) (x4 : Int32) (x5 : Int32) (x6 : Int32) (H : Heap) (locs : List Loc) (ls : Array Slot), k_117 S a0 x2 x3 x4 x5 x6 → XV D cA z0 s S H locs → lv_has ls 10 [(0, .ref a0), (2, .int x2), (3, .int x3), (4, .int x4), (5, .int x5), (6, .int x6)] → W p l e (rmd 2 0 0) s m args below meth c H locs 0 0 (MQ below (va_Qi K (XK D cA z0) (zA z0)) args s 0 0 (zA z0)) (F0 m 117 ls [])) (H_182 : ∀ (S : PS) (a0 : Nat) (x2 : Int32) (x3 : Int32) (x4 : Int32) (x5 : Int32) (x6 : Int32) (x7 : Int32) (x8 : Int32) (x9 : Int32) (H : Heap) (locs : List Loc) (ls : Array Slot), k_182 S a0 x2 x3 x4 x5 x6 x7 x8 x9 → XV D cA z0 s S H locs → lv_has ls 10 [(0, .ref a0), (2, .int x2), (3, .int x3), (4, .int x4), (5, .int x5), (6, .int x6), (7, .int x7), (8, .int x8), (9, .int x9)] → W p l e (rmd 2 0 0) s m args below meth c H locs 0 0 (MQ below (va_Qi K (XK D cA z0) (zA z0)) args s 0 0 (zA z0)) (F0 m 182 ls [])) : ∀ (S : PS) (a0 : Nat) (x2 : Int32) (x3 : Int32) (x4 : Int32) (x5 : Int32) (x6 : Int32) (x7 : Int32) (x9 : Int32) (H : Heap) (locs : List Loc) (ls : Array Slot), wq_X11_least_210 N K k_117 k_182 S a0 x2 x3 x4 x5 x6 x7 x9 → XV D cA z0 s S H locs → lv_has ls 10 [(0, .ref a0), (2, .int x2), (3, .int x3), (4, .int x4), (5, .int x5), (6, .int x6), (7, .int x7), (9, .int x9)] → W p l e (rmd 2 0 0) s m args below meth c H locs 0 0 (MQ below (va_Qi K (XK D cA z0) (zA z0)) args s 0 0 (zA z0)) (F0 m 210 ls []) := by
  obtain ⟨hx, hb, hml, hown, hts, hK, hz, hlk, hr⟩ := id C
  intro S a0 x2 x3 x4 x5 x6 x7 x9 H locs ls hM hV hl
  unfold wq_X11_least_210 at hM
  refine lv_iconst (v := 0) hx hb dX11_least_210 (by decide) ?_
  exact tq_X11_least_211 C H_117 H_182 _ _ _ _ _ _ _ _ _ _ _ _ _ hM hV (lv_sub hl [0, 1, 2, 3, 4, 5, 6, 7] rfl)
set_option maxHeartbeats 4000000 in
set_option maxRecDepth 100000 in
theorem tq_X11_least_182 {p : Program} {l : Launch} {e : Env} {s : State} {m : MethodId} {args : Array Value} {below : List Frame} {meth : Method} {c : Code} {D : DX} {cA : Nat → ClassId} {z0 N : Nat} {K : Int32 → PS → Prop} {k_117 : PS → Nat → Int32 → Int32 → Int32 → Int32 → Int32 → Prop} (C : CX p s m args meth c cX11_least 10 RX11 (some .int) D cA z0) (H_117 : ∀ (S : PS) (a0 : Nat) (x2 : Int32) (x3 : Int32) (x4 : Int32) (x5 : Int32) (x6 : Int32) (H : Heap) (locs : List Loc) (ls : Array Slot), k_117 S a0 x2 x3 x4 x5 x6 → XV D cA z0 s S H locs → lv_has ls 10 [(0, .ref a0), (2, .int x2), (3, .int x3), (4, .int x4), (5, .int x5), (6, .int x6)] → W p l e (rmd 2 0 0) s m args below meth c H locs 0 0 (MQ below (va_Qi K (XK D cA z0) (zA z0)) args s 0 0 (zA z0)) (F0 m 117 ls [])) : ∀ (n : Nat) (S : PS) (a0 : Nat) (x2 : Int32) (x3 : Int32) (x4 : Int32) (x5 : Int32) (x6 : Int32) (x7 : Int32) (x8 : Int32) (x9 : Int32) (H : Heap) (locs : List Loc) (ls : Array Slot), wq_X11_least_182 N K k_117 n S a0 x2 x3 x4 x5 x6 x7 x8 x9 → XV D cA z0 s S H locs → lv_has ls 10 [(0, .ref a0), (2, .int x2), (3, .int x3), (4, .int x4), (5, .int x5), (6, .int x6), (7, .int x7), (8, .int x8), (9, .int x9)] → W p l e (rmd 2 0 0) s m args below meth c H locs 0 0 (MQ below (va_Qi K (XK D cA z0) (zA z0)) args s 0 0 (zA z0)) (F0 m 182 ls []) := by
  obtain ⟨hx, hb, hml, hown, hts, hK, hz, hlk, hr⟩ := id C
  intro n
  induction n with
  | zero => intro S a0 x2 x3 x4 x5 x6 x7 x8 x9 H locs ls hM; exact absurd hM id
  | succ n ih =>
    intro S a0 x2 x3 x4 x5 x6 x7 x8 x9 H locs ls hM hV hl
    rw [wq_X11_least_182.eq_2] at hM
    refine lv_iload hx hb dX11_least_182 (lv_at hl 8 rfl) ?_
    refine lv_iload_n hx hb dX11_least_184 rfl (lv_at hl 2 rfl) ?_
    refine lv_icmp_ge (tgt := 219) hx hb dX11_least_185 (by decide) (fun c17 => ?_) (fun c17 => ?_)
    · have hM := ite_t c17 hM
      refine lv_iload hx hb dX11_least_219 (lv_at hl 7 rfl) ?_
      refine lv_if_eq (tgt := 244) hx hb dX11_least_221 (by decide) (fun c18 => ?_) (fun c18 => ?_)
      · have hM := ite_t c18 hM
        refine lv_iinc (v := (x6 + 1)) (lv' := [(6, .int (x6 + 1)), (0, .ref a0), (2, .int x2), (3, .int x3), (4, .int x4), (5, .int x5), (7, .int x7), (8, .int x8), (9, .int x9)]) hx hb dX11_least_244 hl (k := 5) rfl rfl (by decide) rfl (fun ls hl => ?_)
        refine lv_goto (tgt := 117) hx hb dX11_least_247 (by decide) ?_
        exact H_117 _ _ _ _ _ _ _ _ _ _ hM hV (lv_sub hl [1, 2, 3, 4, 5, 0] rfl)
      have hM := ite_f c18 hM
      refine lv_iload hx hb dX11_least_224 (lv_at hl 4 rfl) ?_
      refine lv_if_lt (tgt := 236) hx hb dX11_least_226 (by decide) (fun c19 => ?_) (fun c19 => ?_)
      · have hM := ite_t c19 hM
        exact tq_X11_least_236 C H_117 _ _ _ _ _ _ _ _ _ hM hV (lv_sub hl [0, 1, 2, 5, 6] rfl)
      have hM := ite_f c19 hM
      refine lv_iload hx hb dX11_least_229 (lv_at hl 6 rfl) ?_
      refine lv_iload hx hb dX11_least_231 (lv_at hl 4 rfl) ?_
      refine lv_icmp_ge (tgt := 244) hx hb dX11_least_233 (by decide) (fun c20 => ?_) (fun c20 => ?_)
      · have hM := ite_t c20 hM
        refine lv_iinc (v := (x6 + 1)) (lv' := [(6, .int (x6 + 1)), (0, .ref a0), (2, .int x2), (3, .int x3), (4, .int x4), (5, .int x5), (7, .int x7), (8, .int x8), (9, .int x9)]) hx hb dX11_least_244 hl (k := 5) rfl rfl (by decide) rfl (fun ls hl => ?_)
        refine lv_goto (tgt := 117) hx hb dX11_least_247 (by decide) ?_
        exact H_117 _ _ _ _ _ _ _ _ _ _ hM hV (lv_sub hl [1, 2, 3, 4, 5, 0] rfl)
      have hM := ite_f c20 hM
      exact tq_X11_least_236 C H_117 _ _ _ _ _ _ _ _ _ hM hV (lv_sub hl [0, 1, 2, 5, 6] rfl)
    have hM := ite_f c17 hM
    refine lv_iload hx hb dX11_least_188 (lv_at hl 7 rfl) ?_
    refine lv_if_eq (tgt := 210) hx hb dX11_least_190 (by decide) (fun c21 => ?_) (fun c21 => ?_)
    · have hM := ite_t c21 hM
      exact tq_X11_least_210 C H_117 ih _ _ _ _ _ _ _ _ _ _ _ _ hM hV (lv_sub hl [0, 1, 2, 3, 4, 5, 6, 8] rfl)
    have hM := ite_f c21 hM
    refine lv_iload hx hb dX11_least_193 (lv_at hl 5 rfl) ?_
    refine lv_aload_n hx hb dX11_least_195 rfl (lv_at hl 0 rfl) ?_
    have hk22 := hM.1
    have hM := hM.2
    obtain ⟨p23, hp23, hM⟩ := hM
    refine x_getR C hV wf_X11_35 hk22 hp23 dX11_least_196 ?_
    refine lv_iload hx hb dX11_least_199 (lv_at hl 8 rfl) ?_
    have hk24 := hM.1
    have hM := hM.2
    have hi25 := hM.1
    have hM := hM.2
    refine x_iald C hV hk24 hi25 dX11_least_201 ?_
    refine lv_iand hx hb dX11_least_202 ?_
    refine lv_if_eq (tgt := 210) hx hb dX11_least_203 (by decide) (fun c26 => ?_) (fun c26 => ?_)
    · have hM := ite_t c26 hM
      exact tq_X11_least_210 C H_117 ih _ _ _ _ _ _ _ _ _ _ _ _ hM hV (lv_sub hl [0, 1, 2, 3, 4, 5, 6, 8] rfl)
    have hM := ite_f c26 hM
    refine lv_iconst (v := 1) hx hb dX11_least_206 (by decide) ?_
    refine lv_goto (tgt := 211) hx hb dX11_least_207 (by decide) ?_
    exact tq_X11_least_211 C H_117 ih _ _ _ _ _ _ _ _ _ _ _ _ _ hM hV (lv_sub hl [0, 1, 2, 3, 4, 5, 6, 8] rfl)
set_option maxHeartbeats 4000000 in
set_option maxRecDepth 100000 in
theorem tq_X11_least_167 {p : Program} {l : Launch} {e : Env} {s : State} {m : MethodId} {args : Array Value} {below : List Frame} {meth : Method} {c : Code} {D : DX} {cA : Nat → ClassId} {z0 N : Nat} {K : Int32 → PS → Prop} {k_117 : PS → Nat → Int32 → Int32 → Int32 → Int32 → Int32 → Prop} {k_134 : PS → Nat → Int32 → Int32 → Int32 → Int32 → Int32 → Int32 → Int32 → Prop} (C : CX p s m args meth c cX11_least 10 RX11 (some .int) D cA z0) (H_117 : ∀ (S : PS) (a0 : Nat) (x2 : Int32) (x3 : Int32) (x4 : Int32) (x5 : Int32) (x6 : Int32) (H : Heap) (locs : List Loc) (ls : Array Slot), k_117 S a0 x2 x3 x4 x5 x6 → XV D cA z0 s S H locs → lv_has ls 10 [(0, .ref a0), (2, .int x2), (3, .int x3), (4, .int x4), (5, .int x5), (6, .int x6)] → W p l e (rmd 2 0 0) s m args below meth c H locs 0 0 (MQ below (va_Qi K (XK D cA z0) (zA z0)) args s 0 0 (zA z0)) (F0 m 117 ls [])) (H_134 : ∀ (S : PS) (a0 : Nat) (x2 : Int32) (x3 : Int32) (x4 : Int32) (x5 : Int32) (x6 : Int32) (x7 : Int32) (x8 : Int32) (H : Heap) (locs : List Loc) (ls : Array Slot), k_134 S a0 x2 x3 x4 x5 x6 x7 x8 → XV D cA z0 s S H locs → lv_has ls 10 [(0, .ref a0), (2, .int x2), (3, .int x3), (4, .int x4), (5, .int x5), (6, .int x6), (7, .int x7), (8, .int x8)] → W p l e (rmd 2 0 0) s m args below meth c H locs 0 0 (MQ below (va_Qi K (XK D cA z0) (zA z0)) args s 0 0 (zA z0)) (F0 m 134 ls [])) : ∀ (S : PS) (a0 : Nat) (x2 : Int32) (x3 : Int32) (x4 : Int32) (x5 : Int32) (x6 : Int32) (x8 : Int32) (t0 : Int32) (t1 : Int32) (H : Heap) (locs : List Loc) (ls : Array Slot), wq_X11_least_167 N K k_117 k_134 S a0 x2 x3 x4 x5 x6 x8 t0 t1 → XV D cA z0 s S H locs → lv_has ls 10 [(0, .ref a0), (2, .int x2), (3, .int x3), (4, .int x4), (5, .int x5), (6, .int x6), (8, .int x8)] → W p l e (rmd 2 0 0) s m args below meth c H locs 0 0 (MQ below (va_Qi K (XK D cA z0) (zA z0)) args s 0 0 (zA z0)) (F0 m 167 ls [.int t1, .int t0]) := by
  obtain ⟨hx, hb, hml, hown, hts, hK, hz, hlk, hr⟩ := id C
  intro S a0 x2 x3 x4 x5 x6 x8 t0 t1 H locs ls hM hV hl
  unfold wq_X11_least_167 at hM
  refine lv_iadd hx hb dX11_least_167 ?_
  refine lv_topi (fun v28 ev28 => ?_)
  have hM := hM v28 ev28
  refine lv_istore (lv' := [(7, .int v28), (0, .ref a0), (2, .int x2), (3, .int x3), (4, .int x4), (5, .int x5), (6, .int x6), (8, .int x8)]) hx hb dX11_least_168 hl (by decide) rfl (fun ls hl => ?_)
  refine lv_iinc (v := (x8 + 1)) (lv' := [(8, .int (x8 + 1)), (7, .int v28), (0, .ref a0), (2, .int x2), (3, .int x3), (4, .int x4), (5, .int x5), (6, .int x6)]) hx hb dX11_least_170 hl (k := 7) rfl rfl (by decide) rfl (fun ls hl => ?_)
  refine lv_goto (tgt := 134) hx hb dX11_least_173 (by decide) ?_
  exact H_134 _ _ _ _ _ _ _ _ _ _ _ _ hM hV (lv_sub hl [2, 3, 4, 5, 6, 7, 1, 0] rfl)
set_option maxHeartbeats 4000000 in
set_option maxRecDepth 100000 in
theorem tq_X11_least_134 {p : Program} {l : Launch} {e : Env} {s : State} {m : MethodId} {args : Array Value} {below : List Frame} {meth : Method} {c : Code} {D : DX} {cA : Nat → ClassId} {z0 N : Nat} {K : Int32 → PS → Prop} {k_117 : PS → Nat → Int32 → Int32 → Int32 → Int32 → Int32 → Prop} (C : CX p s m args meth c cX11_least 10 RX11 (some .int) D cA z0) (H_117 : ∀ (S : PS) (a0 : Nat) (x2 : Int32) (x3 : Int32) (x4 : Int32) (x5 : Int32) (x6 : Int32) (H : Heap) (locs : List Loc) (ls : Array Slot), k_117 S a0 x2 x3 x4 x5 x6 → XV D cA z0 s S H locs → lv_has ls 10 [(0, .ref a0), (2, .int x2), (3, .int x3), (4, .int x4), (5, .int x5), (6, .int x6)] → W p l e (rmd 2 0 0) s m args below meth c H locs 0 0 (MQ below (va_Qi K (XK D cA z0) (zA z0)) args s 0 0 (zA z0)) (F0 m 117 ls [])) : ∀ (n : Nat) (S : PS) (a0 : Nat) (x2 : Int32) (x3 : Int32) (x4 : Int32) (x5 : Int32) (x6 : Int32) (x7 : Int32) (x8 : Int32) (H : Heap) (locs : List Loc) (ls : Array Slot), wq_X11_least_134 N K k_117 n S a0 x2 x3 x4 x5 x6 x7 x8 → XV D cA z0 s S H locs → lv_has ls 10 [(0, .ref a0), (2, .int x2), (3, .int x3), (4, .int x4), (5, .int x5), (6, .int x6), (7, .int x7), (8, .int x8)] → W p l e (rmd 2 0 0) s m args below meth c H locs 0 0 (MQ below (va_Qi K (XK D cA z0) (zA z0)) args s 0 0 (zA z0)) (F0 m 134 ls []) := by
  obtain ⟨hx, hb, hml, hown, hts, hK, hz, hlk, hr⟩ := id C
  intro n
  induction n with
  | zero => intro S a0 x2 x3 x4 x5 x6 x7 x8 H locs ls hM; exact absurd hM id
  | succ n ih =>
    intro S a0 x2 x3 x4 x5 x6 x7 x8 H locs ls hM hV hl
    rw [wq_X11_least_134.eq_2] at hM
    refine lv_iload hx hb dX11_least_134 (lv_at hl 7 rfl) ?_
    refine lv_aload_n hx hb dX11_least_136 rfl (lv_at hl 0 rfl) ?_
    have hk15 := hM.1
    have hM := hM.2
    refine x_getI C hV wf_X11_84 hk15 dX11_least_137 ?_
    refine lv_icmp_ge (tgt := 176) hx hb dX11_least_140 (by decide) (fun c16 => ?_) (fun c16 => ?_)
    · have hM := ite_t c16 hM
      refine lv_iconst (v := 1) hx hb dX11_least_176 (by decide) ?_
      refine lv_istore (lv' := [(8, .int 1), (0, .ref a0), (2, .int x2), (3, .int x3), (4, .int x4), (5, .int x5), (6, .int x6), (7, .int x7)]) hx hb dX11_least_177 hl (by decide) rfl (fun ls hl => ?_)
      refine lv_iconst (v := 0) hx hb dX11_least_179 (by decide) ?_
      refine lv_istore (lv' := [(9, .int 0), (8, .int 1), (0, .ref a0), (2, .int x2), (3, .int x3), (4, .int x4), (5, .int x5), (6, .int x6), (7, .int x7)]) hx hb dX11_least_180 hl (by decide) rfl (fun ls hl => ?_)
      exact tq_X11_least_182 C H_117 N _ _ _ _ _ _ _ _ _ _ _ _ _ hM hV (lv_sub hl [2, 3, 4, 5, 6, 7, 8, 1, 0] rfl)
    have hM := ite_f c16 hM
    refine lv_iload hx hb dX11_least_143 (lv_at hl 6 rfl) ?_
    refine lv_iload hx hb dX11_least_145 (lv_at hl 5 rfl) ?_
    refine lv_iload hx hb dX11_least_147 (lv_at hl 7 rfl) ?_
    refine lv_ishr hx hb dX11_least_149 ?_
    refine lv_iconst (v := 1) hx hb dX11_least_150 (by decide) ?_
    refine lv_iand hx hb dX11_least_151 ?_
    refine lv_iconst (v := 1) hx hb dX11_least_152 (by decide) ?_
    refine lv_icmp_ne (tgt := 166) hx hb dX11_least_153 (by decide) (fun c27 => ?_) (fun c27 => ?_)
    · have hM := ite_f c27 hM
      refine lv_iconst (v := 0) hx hb dX11_least_166 (by decide) ?_
      exact tq_X11_least_167 C H_117 ih _ _ _ _ _ _ _ _ _ _ _ _ _ hM hV (lv_sub hl [0, 1, 2, 3, 4, 5, 7] rfl)
    have hM := ite_t c27 hM
    refine lv_aload_n hx hb dX11_least_156 rfl (lv_at hl 0 rfl) ?_
    refine lv_iload hx hb dX11_least_157 (lv_at hl 7 rfl) ?_
    refine lv_iconst (v := 4) hx hb dX11_least_159 (by decide) ?_
    refine x_ci hV (x_runV (As := [.int x8, .int 4]) (rest := [.int x7]) C hV mi_X11_its wl_X11_94 hk15 (c_X11_its hM) ⟨by decide, by decide⟩ rfl hl.1 (Nat.le_of_ble_eq_true rfl) dX11_least_160 ⟨Nat.zero_le _, Nat.zero_le _⟩) (fun r30 S29 H locs hV hM => ?_)
    refine lv_goto (tgt := 167) hx hb dX11_least_163 (by decide) ?_
    exact tq_X11_least_167 C H_117 ih _ _ _ _ _ _ _ _ _ _ _ _ _ hM hV (lv_sub hl [0, 1, 2, 3, 4, 5, 7] rfl)
set_option maxHeartbeats 4000000 in
set_option maxRecDepth 100000 in
theorem tq_X11_least_117 {p : Program} {l : Launch} {e : Env} {s : State} {m : MethodId} {args : Array Value} {below : List Frame} {meth : Method} {c : Code} {D : DX} {cA : Nat → ClassId} {z0 N : Nat} {K : Int32 → PS → Prop} (C : CX p s m args meth c cX11_least 10 RX11 (some .int) D cA z0) : ∀ (n : Nat) (S : PS) (a0 : Nat) (x2 : Int32) (x3 : Int32) (x4 : Int32) (x5 : Int32) (x6 : Int32) (H : Heap) (locs : List Loc) (ls : Array Slot), wq_X11_least_117 N K n S a0 x2 x3 x4 x5 x6 → XV D cA z0 s S H locs → lv_has ls 10 [(0, .ref a0), (2, .int x2), (3, .int x3), (4, .int x4), (5, .int x5), (6, .int x6)] → W p l e (rmd 2 0 0) s m args below meth c H locs 0 0 (MQ below (va_Qi K (XK D cA z0) (zA z0)) args s 0 0 (zA z0)) (F0 m 117 ls []) := by
  obtain ⟨hx, hb, hml, hown, hts, hK, hz, hlk, hr⟩ := id C
  intro n
  induction n with
  | zero => intro S a0 x2 x3 x4 x5 x6 H locs ls hM; exact absurd hM id
  | succ n ih =>
    intro S a0 x2 x3 x4 x5 x6 H locs ls hM hV hl
    rw [wq_X11_least_117.eq_2] at hM
    refine lv_iload hx hb dX11_least_117 (lv_at hl 5 rfl) ?_
    refine lv_iconst (v := 1) hx hb dX11_least_119 (by decide) ?_
    refine lv_aload_n hx hb dX11_least_120 rfl (lv_at hl 0 rfl) ?_
    have hk12 := hM.1
    have hM := hM.2
    refine x_getI C hV wf_X11_84 hk12 dX11_least_121 ?_
    refine lv_ishl hx hb dX11_least_124 ?_
    refine lv_icmp_ge (tgt := 250) hx hb dX11_least_125 (by decide) (fun c13 => ?_) (fun c13 => ?_)
    · have hM := ite_t c13 hM
      refine lv_iload_n hx hb dX11_least_250 rfl (lv_at hl 1 rfl) ?_
      refine lv_if_ne (tgt := 259) hx hb dX11_least_251 (by decide) (fun c14 => ?_) (fun c14 => ?_)
      · have hM := ite_f c14 hM
        refine lv_iload hx hb dX11_least_259 (lv_at hl 4 rfl) ?_
        exact x_iret C hV hM dX11_least_261
      have hM := ite_t c14 hM
      refine lv_iload hx hb dX11_least_254 (lv_at hl 3 rfl) ?_
      refine lv_goto (tgt := 261) hx hb dX11_least_256 (by decide) ?_
      exact x_iret C hV hM dX11_least_261
    have hM := ite_f c13 hM
    refine lv_iconst (v := 0) hx hb dX11_least_128 (by decide) ?_
    refine lv_istore (lv' := [(7, .int 0), (0, .ref a0), (2, .int x2), (3, .int x3), (4, .int x4), (5, .int x5), (6, .int x6)]) hx hb dX11_least_129 hl (by decide) rfl (fun ls hl => ?_)
    refine lv_iconst (v := 0) hx hb dX11_least_131 (by decide) ?_
    refine lv_istore (lv' := [(8, .int 0), (7, .int 0), (0, .ref a0), (2, .int x2), (3, .int x3), (4, .int x4), (5, .int x5), (6, .int x6)]) hx hb dX11_least_132 hl (by decide) rfl (fun ls hl => ?_)
    exact tq_X11_least_134 C ih N _ _ _ _ _ _ _ _ _ _ _ _ hM hV (lv_sub hl [2, 3, 4, 5, 6, 7, 1, 0] rfl)
set_option maxHeartbeats 4000000 in
set_option maxRecDepth 100000 in
theorem tq_X11_least_78 {p : Program} {l : Launch} {e : Env} {s : State} {m : MethodId} {args : Array Value} {below : List Frame} {meth : Method} {c : Code} {D : DX} {cA : Nat → ClassId} {z0 N : Nat} {K : Int32 → PS → Prop} {k_22 : PS → Nat → Int32 → Int32 → Int32 → Int32 → Prop} {k_37 : PS → Nat → Int32 → Int32 → Int32 → Int32 → Int32 → Prop} (C : CX p s m args meth c cX11_least 10 RX11 (some .int) D cA z0) (H_22 : ∀ (S : PS) (a0 : Nat) (x1 : Int32) (x2 : Int32) (x3 : Int32) (x4 : Int32) (H : Heap) (locs : List Loc) (ls : Array Slot), k_22 S a0 x1 x2 x3 x4 → XV D cA z0 s S H locs → lv_has ls 10 [(0, .ref a0), (1, .int x1), (2, .int x2), (3, .int x3), (4, .int x4)] → W p l e (rmd 2 0 0) s m args below meth c H locs 0 0 (MQ below (va_Qi K (XK D cA z0) (zA z0)) args s 0 0 (zA z0)) (F0 m 22 ls [])) (H_37 : ∀ (S : PS) (a0 : Nat) (x1 : Int32) (x2 : Int32) (x3 : Int32) (x4 : Int32) (x5 : Int32) (H : Heap) (locs : List Loc) (ls : Array Slot), k_37 S a0 x1 x2 x3 x4 x5 → XV D cA z0 s S H locs → lv_has ls 10 [(0, .ref a0), (1, .int x1), (2, .int x2), (3, .int x3), (4, .int x4), (5, .int x5)] → W p l e (rmd 2 0 0) s m args below meth c H locs 0 0 (MQ below (va_Qi K (XK D cA z0) (zA z0)) args s 0 0 (zA z0)) (F0 m 37 ls [])) : ∀ (S : PS) (a0 : Nat) (x1 : Int32) (x2 : Int32) (x3 : Int32) (x4 : Int32) (x5 : Int32) (t0 : Int32) (H : Heap) (locs : List Loc) (ls : Array Slot), wq_X11_least_78 N K k_22 k_37 S a0 x1 x2 x3 x4 x5 t0 → XV D cA z0 s S H locs → lv_has ls 10 [(0, .ref a0), (1, .int x1), (2, .int x2), (3, .int x3), (4, .int x4), (5, .int x5)] → W p l e (rmd 2 0 0) s m args below meth c H locs 0 0 (MQ below (va_Qi K (XK D cA z0) (zA z0)) args s 0 0 (zA z0)) (F0 m 78 ls [.int t0]) := by
  obtain ⟨hx, hb, hml, hown, hts, hK, hz, hlk, hr⟩ := id C
  intro S a0 x1 x2 x3 x4 x5 t0 H locs ls hM hV hl
  unfold wq_X11_least_78 at hM
  refine lv_istore (lv' := [(6, .int t0), (0, .ref a0), (1, .int x1), (2, .int x2), (3, .int x3), (4, .int x4), (5, .int x5)]) hx hb dX11_least_78 hl (by decide) rfl (fun ls hl => ?_)
  refine lv_iload hx hb dX11_least_80 (lv_at hl 0 rfl) ?_
  refine lv_if_eq (tgt := 96) hx hb dX11_least_82 (by decide) (fun c35 => ?_) (fun c35 => ?_)
  · have hM := ite_t c35 hM
    refine lv_iinc (v := (x5 + 1)) (lv' := [(5, .int (x5 + 1)), (6, .int t0), (0, .ref a0), (1, .int x1), (2, .int x2), (3, .int x3), (4, .int x4)]) hx hb dX11_least_96 hl (k := 6) rfl rfl (by decide) rfl (fun ls hl => ?_)
    refine lv_goto (tgt := 37) hx hb dX11_least_99 (by decide) ?_
    exact H_37 _ _ _ _ _ _ _ _ _ _ hM hV (lv_sub hl [2, 3, 4, 5, 6, 0] rfl)
  have hM := ite_f c35 hM
  refine lv_aload_n hx hb dX11_least_85 rfl (lv_at hl 1 rfl) ?_
  have hk36 := hM.1
  have hM := hM.2
  obtain ⟨p37, hp37, hM⟩ := hM
  refine x_getR C hV wf_X11_35 hk36 hp37 dX11_least_86 ?_
  refine lv_iload_n hx hb dX11_least_89 rfl (lv_at hl 4 rfl) ?_
  refine lv_iload hx hb dX11_least_90 (lv_at hl 0 rfl) ?_
  have hk38 := hM.1
  have hM := hM.2
  have hi39 := hM.1
  have hM := hM.2
  obtain ⟨S40, eS40⟩ : ∃ z : PS, z = S.setA p37 x3.toNatClampNeg t0 := ⟨_, rfl⟩
  have hM := hM S40 eS40
  refine x_iast C hV hk38 hi39 eS40 dX11_least_92 (fun H locs hV => ?_)
  refine lv_iinc (v := (x3 + 1)) (lv' := [(3, .int (x3 + 1)), (6, .int t0), (0, .ref a0), (1, .int x1), (2, .int x2), (4, .int x4), (5, .int x5)]) hx hb dX11_least_93 hl (k := 4) rfl rfl (by decide) rfl (fun ls hl => ?_)
  refine lv_iinc (v := (x5 + 1)) (lv' := [(5, .int (x5 + 1)), (3, .int (x3 + 1)), (6, .int t0), (0, .ref a0), (1, .int x1), (2, .int x2), (4, .int x4)]) hx hb dX11_least_96 hl (k := 6) rfl rfl (by decide) rfl (fun ls hl => ?_)
  refine lv_goto (tgt := 37) hx hb dX11_least_99 (by decide) ?_
  exact H_37 _ _ _ _ _ _ _ _ _ _ hM hV (lv_sub hl [3, 4, 5, 1, 6, 0] rfl)
set_option maxHeartbeats 4000000 in
set_option maxRecDepth 100000 in
theorem tq_X11_least_77 {p : Program} {l : Launch} {e : Env} {s : State} {m : MethodId} {args : Array Value} {below : List Frame} {meth : Method} {c : Code} {D : DX} {cA : Nat → ClassId} {z0 N : Nat} {K : Int32 → PS → Prop} {k_22 : PS → Nat → Int32 → Int32 → Int32 → Int32 → Prop} {k_37 : PS → Nat → Int32 → Int32 → Int32 → Int32 → Int32 → Prop} (C : CX p s m args meth c cX11_least 10 RX11 (some .int) D cA z0) (H_22 : ∀ (S : PS) (a0 : Nat) (x1 : Int32) (x2 : Int32) (x3 : Int32) (x4 : Int32) (H : Heap) (locs : List Loc) (ls : Array Slot), k_22 S a0 x1 x2 x3 x4 → XV D cA z0 s S H locs → lv_has ls 10 [(0, .ref a0), (1, .int x1), (2, .int x2), (3, .int x3), (4, .int x4)] → W p l e (rmd 2 0 0) s m args below meth c H locs 0 0 (MQ below (va_Qi K (XK D cA z0) (zA z0)) args s 0 0 (zA z0)) (F0 m 22 ls [])) (H_37 : ∀ (S : PS) (a0 : Nat) (x1 : Int32) (x2 : Int32) (x3 : Int32) (x4 : Int32) (x5 : Int32) (H : Heap) (locs : List Loc) (ls : Array Slot), k_37 S a0 x1 x2 x3 x4 x5 → XV D cA z0 s S H locs → lv_has ls 10 [(0, .ref a0), (1, .int x1), (2, .int x2), (3, .int x3), (4, .int x4), (5, .int x5)] → W p l e (rmd 2 0 0) s m args below meth c H locs 0 0 (MQ below (va_Qi K (XK D cA z0) (zA z0)) args s 0 0 (zA z0)) (F0 m 37 ls [])) : ∀ (S : PS) (a0 : Nat) (x1 : Int32) (x2 : Int32) (x3 : Int32) (x4 : Int32) (x5 : Int32) (H : Heap) (locs : List Loc) (ls : Array Slot), wq_X11_least_77 N K k_22 k_37 S a0 x1 x2 x3 x4 x5 → XV D cA z0 s S H locs → lv_has ls 10 [(0, .ref a0), (1, .int x1), (2, .int x2), (3, .int x3), (4, .int x4), (5, .int x5)] → W p l e (rmd 2 0 0) s m args below meth c H locs 0 0 (MQ below (va_Qi K (XK D cA z0) (zA z0)) args s 0 0 (zA z0)) (F0 m 77 ls []) := by
  obtain ⟨hx, hb, hml, hown, hts, hK, hz, hlk, hr⟩ := id C
  intro S a0 x1 x2 x3 x4 x5 H locs ls hM hV hl
  unfold wq_X11_least_77 at hM
  refine lv_iconst (v := 0) hx hb dX11_least_77 (by decide) ?_
  exact tq_X11_least_78 C H_22 H_37 _ _ _ _ _ _ _ _ _ _ _ hM hV (lv_sub hl [0, 1, 2, 3, 4, 5] rfl)
set_option maxHeartbeats 4000000 in
set_option maxRecDepth 100000 in
theorem tq_X11_least_37 {p : Program} {l : Launch} {e : Env} {s : State} {m : MethodId} {args : Array Value} {below : List Frame} {meth : Method} {c : Code} {D : DX} {cA : Nat → ClassId} {z0 N : Nat} {K : Int32 → PS → Prop} {k_22 : PS → Nat → Int32 → Int32 → Int32 → Int32 → Prop} (C : CX p s m args meth c cX11_least 10 RX11 (some .int) D cA z0) (H_22 : ∀ (S : PS) (a0 : Nat) (x1 : Int32) (x2 : Int32) (x3 : Int32) (x4 : Int32) (H : Heap) (locs : List Loc) (ls : Array Slot), k_22 S a0 x1 x2 x3 x4 → XV D cA z0 s S H locs → lv_has ls 10 [(0, .ref a0), (1, .int x1), (2, .int x2), (3, .int x3), (4, .int x4)] → W p l e (rmd 2 0 0) s m args below meth c H locs 0 0 (MQ below (va_Qi K (XK D cA z0) (zA z0)) args s 0 0 (zA z0)) (F0 m 22 ls [])) : ∀ (n : Nat) (S : PS) (a0 : Nat) (x1 : Int32) (x2 : Int32) (x3 : Int32) (x4 : Int32) (x5 : Int32) (H : Heap) (locs : List Loc) (ls : Array Slot), wq_X11_least_37 N K k_22 n S a0 x1 x2 x3 x4 x5 → XV D cA z0 s S H locs → lv_has ls 10 [(0, .ref a0), (1, .int x1), (2, .int x2), (3, .int x3), (4, .int x4), (5, .int x5)] → W p l e (rmd 2 0 0) s m args below meth c H locs 0 0 (MQ below (va_Qi K (XK D cA z0) (zA z0)) args s 0 0 (zA z0)) (F0 m 37 ls []) := by
  obtain ⟨hx, hb, hml, hown, hts, hK, hz, hlk, hr⟩ := id C
  intro n
  induction n with
  | zero => intro S a0 x1 x2 x3 x4 x5 H locs ls hM; exact absurd hM id
  | succ n ih =>
    intro S a0 x1 x2 x3 x4 x5 H locs ls hM hV hl
    rw [wq_X11_least_37.eq_2] at hM
    refine lv_iload hx hb dX11_least_37 (lv_at hl 5 rfl) ?_
    refine lv_aload_n hx hb dX11_least_39 rfl (lv_at hl 0 rfl) ?_
    have hk32 := hM.1
    have hM := hM.2
    refine x_getI C hV wf_X11_91 hk32 dX11_least_40 ?_
    refine lv_icmp_ge (tgt := 102) hx hb dX11_least_43 (by decide) (fun c33 => ?_) (fun c33 => ?_)
    · have hM := ite_t c33 hM
      refine lv_iinc (v := (x4 + 1)) (lv' := [(4, .int (x4 + 1)), (0, .ref a0), (1, .int x1), (2, .int x2), (3, .int x3), (5, .int x5)]) hx hb dX11_least_102 hl (k := 4) rfl rfl (by decide) rfl (fun ls hl => ?_)
      refine lv_goto (tgt := 22) hx hb dX11_least_105 (by decide) ?_
      exact H_22 _ _ _ _ _ _ _ _ _ hM hV (lv_sub hl [1, 2, 3, 4, 0] rfl)
    have hM := ite_f c33 hM
    refine lv_iload_n hx hb dX11_least_46 rfl (lv_at hl 1 rfl) ?_
    refine lv_iload hx hb dX11_least_47 (lv_at hl 4 rfl) ?_
    refine lv_ishr hx hb dX11_least_49 ?_
    refine lv_iconst (v := 1) hx hb dX11_least_50 (by decide) ?_
    refine lv_iand hx hb dX11_least_51 ?_
    refine lv_iconst (v := 1) hx hb dX11_least_52 (by decide) ?_
    refine lv_icmp_ne (tgt := 77) hx hb dX11_least_53 (by decide) (fun c34 => ?_) (fun c34 => ?_)
    · have hM := ite_f c34 hM
      exact tq_X11_least_77 C H_22 ih _ _ _ _ _ _ _ _ _ _ hM hV (lv_sub hl [0, 1, 2, 3, 4, 5] rfl)
    have hM := ite_t c34 hM
    refine lv_iload_n hx hb dX11_least_56 rfl (lv_at hl 1 rfl) ?_
    refine lv_iload hx hb dX11_least_57 (lv_at hl 5 rfl) ?_
    refine lv_ishr hx hb dX11_least_59 ?_
    refine lv_iconst (v := 1) hx hb dX11_least_60 (by decide) ?_
    refine lv_iand hx hb dX11_least_61 ?_
    refine lv_iconst (v := 1) hx hb dX11_least_62 (by decide) ?_
    refine lv_icmp_ne (tgt := 77) hx hb dX11_least_63 (by decide) (fun c41 => ?_) (fun c41 => ?_)
    · have hM := ite_f c41 hM
      exact tq_X11_least_77 C H_22 ih _ _ _ _ _ _ _ _ _ _ hM hV (lv_sub hl [0, 1, 2, 3, 4, 5] rfl)
    have hM := ite_t c41 hM
    refine lv_aload_n hx hb dX11_least_66 rfl (lv_at hl 0 rfl) ?_
    refine lv_iload hx hb dX11_least_67 (lv_at hl 4 rfl) ?_
    refine lv_iload hx hb dX11_least_69 (lv_at hl 5 rfl) ?_
    refine x_ci hV (x_runV (As := [.int x4, .int x5]) (rest := []) C hV mi_X11_parting wl_X11_267 hk32 (c_X11_parting hM) ⟨by decide, by decide⟩ rfl hl.1 (Nat.le_of_ble_eq_true rfl) dX11_least_71 ⟨Nat.zero_le _, Nat.zero_le _⟩) (fun r43 S42 H locs hV hM => ?_)
    refine lv_goto (tgt := 78) hx hb dX11_least_74 (by decide) ?_
    exact tq_X11_least_78 C H_22 ih _ _ _ _ _ _ _ _ _ _ _ hM hV (lv_sub hl [0, 1, 2, 3, 4, 5] rfl)
set_option maxHeartbeats 4000000 in
set_option maxRecDepth 100000 in
theorem tq_X11_least_22 {p : Program} {l : Launch} {e : Env} {s : State} {m : MethodId} {args : Array Value} {below : List Frame} {meth : Method} {c : Code} {D : DX} {cA : Nat → ClassId} {z0 N : Nat} {K : Int32 → PS → Prop} (C : CX p s m args meth c cX11_least 10 RX11 (some .int) D cA z0) : ∀ (n : Nat) (S : PS) (a0 : Nat) (x1 : Int32) (x2 : Int32) (x3 : Int32) (x4 : Int32) (H : Heap) (locs : List Loc) (ls : Array Slot), wq_X11_least_22 N K n S a0 x1 x2 x3 x4 → XV D cA z0 s S H locs → lv_has ls 10 [(0, .ref a0), (1, .int x1), (2, .int x2), (3, .int x3), (4, .int x4)] → W p l e (rmd 2 0 0) s m args below meth c H locs 0 0 (MQ below (va_Qi K (XK D cA z0) (zA z0)) args s 0 0 (zA z0)) (F0 m 22 ls []) := by
  obtain ⟨hx, hb, hml, hown, hts, hK, hz, hlk, hr⟩ := id C
  intro n
  induction n with
  | zero => intro S a0 x1 x2 x3 x4 H locs ls hM; exact absurd hM id
  | succ n ih =>
    intro S a0 x1 x2 x3 x4 H locs ls hM hV hl
    rw [wq_X11_least_22.eq_2] at hM
    refine lv_iload hx hb dX11_least_22 (lv_at hl 4 rfl) ?_
    refine lv_aload_n hx hb dX11_least_24 rfl (lv_at hl 0 rfl) ?_
    have hk10 := hM.1
    have hM := hM.2
    refine x_getI C hV wf_X11_91 hk10 dX11_least_25 ?_
    refine lv_icmp_ge (tgt := 108) hx hb dX11_least_28 (by decide) (fun c11 => ?_) (fun c11 => ?_)
    · have hM := ite_t c11 hM
      refine lv_iconst (v := 0) hx hb dX11_least_108 (by decide) ?_
      refine lv_istore (lv' := [(4, .int 0), (0, .ref a0), (1, .int x1), (2, .int x2), (3, .int x3)]) hx hb dX11_least_109 hl (by decide) rfl (fun ls hl => ?_)
      refine lv_iconst (v := (-1)) hx hb dX11_least_111 (by decide) ?_
      refine lv_istore (lv' := [(5, .int (-1)), (4, .int 0), (0, .ref a0), (1, .int x1), (2, .int x2), (3, .int x3)]) hx hb dX11_least_112 hl (by decide) rfl (fun ls hl => ?_)
      refine lv_iconst (v := 0) hx hb dX11_least_114 (by decide) ?_
      refine lv_istore (lv' := [(6, .int 0), (5, .int (-1)), (4, .int 0), (0, .ref a0), (1, .int x1), (2, .int x2), (3, .int x3)]) hx hb dX11_least_115 hl (by decide) rfl (fun ls hl => ?_)
      exact tq_X11_least_117 C N _ _ _ _ _ _ _ _ _ _ hM hV (lv_sub hl [3, 5, 6, 2, 1, 0] rfl)
    have hM := ite_f c11 hM
    refine lv_iload hx hb dX11_least_31 (lv_at hl 4 rfl) ?_
    refine lv_iconst (v := 1) hx hb dX11_least_33 (by decide) ?_
    refine lv_iadd hx hb dX11_least_34 ?_
    refine lv_topi (fun v31 ev31 => ?_)
    have hM := hM v31 ev31
    refine lv_istore (lv' := [(5, .int v31), (0, .ref a0), (1, .int x1), (2, .int x2), (3, .int x3), (4, .int x4)]) hx hb dX11_least_35 hl (by decide) rfl (fun ls hl => ?_)
    exact tq_X11_least_37 C ih N _ _ _ _ _ _ _ _ _ _ hM hV (lv_sub hl [1, 2, 3, 4, 5, 0] rfl)
set_option maxHeartbeats 4000000 in
set_option maxRecDepth 100000 in
theorem c_X11_least {l : Launch} {D : DX} {cA : Nat → ClassId} {z0 N : Nat} {S : PS} {a0 : Nat} {x1 : Int32} {x2 : Int32} {K : Int32 → PS → Prop} (hM : wp_X11_least N S a0 x1 x2 K) : MetI l yX11_least cX11_least 10 (some .int) 2 0 0 D cA z0 [.ref a0, .int x1, .int x2] S K := by
  refine x_met RX11 (by decide) rfl ?_
  intro p e s m below meth c C hin hV
  have hl := lv_entry ([.ref a0, .int x1, .int x2]) (n := 10) (Nat.le_of_ble_eq_true rfl)
  rw [lg_entry_eq]
  generalize (lg_sl ([.ref a0, .int x1, .int x2]) ++ List.replicate (10 - (lg_sl ([.ref a0, .int x1, .int x2])).length) Slot.unset).toArray = ls at hl ⊢
  have hl : lv_has ls 10 [(0, .ref a0), (1, .int x1), (2, .int x2)] := hl
  obtain ⟨hx, hb, hml, hown, hts, hK, hz, hlk, hr⟩ := id C
  unfold wp_X11_least at hM
  refine lv_aload_n hx hb dX11_least_0 rfl (lv_at hl 0 rfl) ?_
  refine lv_iload_n hx hb dX11_least_1 rfl (lv_at hl 1 rfl) ?_
  have hk1 := hM.1
  have hM := hM.2
  refine x_ci hV (x_runV (As := [.int x1]) (rest := []) C hV mi_X11_isSet wl_X11_261 hk1 (c_X11_isSet hM) ⟨by decide, by decide⟩ rfl hl.1 (Nat.le_of_ble_eq_true rfl) dX11_least_2 ⟨Nat.zero_le _, Nat.zero_le _⟩) (fun r3 S2 H locs hV hM => ?_)
  have hz4 := hM.1
  have hM := hM.2
  refine lv_if_eq (tgt := 15) hx hb dX11_least_5 (by decide) (fun c5 => ?_) (fun c5 => ?_)
  · have hM := ite_t c5 hM
    refine lv_iconst (v := (-1)) hx hb dX11_least_15 (by decide) ?_
    exact x_iret C hV hM dX11_least_16
  have hM := ite_f c5 hM
  refine lv_iload_n hx hb dX11_least_8 rfl (lv_at hl 2 rfl) ?_
  refine x_ci hV (x_runS (As := [.int x2]) (rest := []) C hV ms_X11_isSide wl_X11_119 (c_X11_isSide hM) ⟨by decide, by decide⟩ rfl hl.1 (Nat.le_of_ble_eq_true rfl) dX11_least_9 ⟨Nat.zero_le _, Nat.zero_le _⟩) (fun r7 S6 H locs hV hM => ?_)
  have hz8 := hM.1
  have hM := hM.2
  refine lv_if_ne (tgt := 17) hx hb dX11_least_12 (by decide) (fun c9 => ?_) (fun c9 => ?_)
  · have hM := ite_f c9 hM
    refine lv_iconst (v := 0) hx hb dX11_least_17 (by decide) ?_
    refine lv_istore_n (lv' := [(3, .int 0), (0, .ref a0), (1, .int x1), (2, .int x2)]) hx hb dX11_least_18 rfl hl (by decide) rfl (fun ls hl => ?_)
    refine lv_iconst (v := 0) hx hb dX11_least_19 (by decide) ?_
    refine lv_istore (lv' := [(4, .int 0), (3, .int 0), (0, .ref a0), (1, .int x1), (2, .int x2)]) hx hb dX11_least_20 hl (by decide) rfl (fun ls hl => ?_)
    exact tq_X11_least_22 C N _ _ _ _ _ _ _ _ _ hM hV (lv_sub hl [2, 3, 4, 1, 0] rfl)
  have hM := ite_t c9 hM
  refine lv_iconst (v := (-1)) hx hb dX11_least_15 (by decide) ?_
  exact x_iret C hV hM dX11_least_16

def wp_X11_likely (N : Nat) (S : PS) (a0 : Nat) (K : Int32 → PS → Prop) : Prop := S.K a0 = 12 ∧ wp_X11_likelyOne N S a0 (fun r3 S2 => K r3 S2)
set_option maxHeartbeats 4000000 in
set_option maxRecDepth 100000 in
theorem c_X11_likely {l : Launch} {D : DX} {cA : Nat → ClassId} {z0 N : Nat} {S : PS} {a0 : Nat} {K : Int32 → PS → Prop} (hM : wp_X11_likely N S a0 K) : MetI l yX11_likely cX11_likely 1 (some .int) 6 0 0 D cA z0 [.ref a0] S K := by
  refine x_met RX11 (by decide) rfl ?_
  intro p e s m below meth c C hin hV
  have hl := lv_entry ([.ref a0]) (n := 1) (Nat.le_of_ble_eq_true rfl)
  rw [lg_entry_eq]
  generalize (lg_sl ([.ref a0]) ++ List.replicate (1 - (lg_sl ([.ref a0])).length) Slot.unset).toArray = ls at hl ⊢
  have hl : lv_has ls 1 [(0, .ref a0)] := hl
  obtain ⟨hx, hb, hml, hown, hts, hK, hz, hlk, hr⟩ := id C
  unfold wp_X11_likely at hM
  refine lv_aload_n hx hb dX11_likely_0 rfl (lv_at hl 0 rfl) ?_
  have hk1 := hM.1
  have hM := hM.2
  refine x_ci hV (x_runV (As := []) (rest := []) C hV mi_X11_likelyOne wl_X11_238 hk1 (c_X11_likelyOne hM) ⟨by decide, by decide⟩ rfl hl.1 (Nat.le_of_ble_eq_true rfl) dX11_likely_1 ⟨Nat.zero_le _, Nat.zero_le _⟩) (fun r3 S2 H locs hV hM => ?_)
  exact x_iret C hV hM dX11_likely_4

def wp_X11_lots (N : Nat) (S : PS) (a0 : Nat) (x1 : Int32) (K : Int32 → PS → Prop) : Prop := S.K a0 = 12 ∧ ∀ S2 : PS, S2 = S.setI 770 a0 x1 → K 1 S2
set_option maxHeartbeats 4000000 in
set_option maxRecDepth 100000 in
theorem c_X11_lots {l : Launch} {D : DX} {cA : Nat → ClassId} {z0 N : Nat} {S : PS} {a0 : Nat} {x1 : Int32} {K : Int32 → PS → Prop} (hM : wp_X11_lots N S a0 x1 K) : MetI l yX11_lots cX11_lots 2 (some .int) 0 0 0 D cA z0 [.ref a0, .int x1] S K := by
  refine x_met RX11 (by decide) rfl ?_
  intro p e s m below meth c C hin hV
  have hl := lv_entry ([.ref a0, .int x1]) (n := 2) (Nat.le_of_ble_eq_true rfl)
  rw [lg_entry_eq]
  generalize (lg_sl ([.ref a0, .int x1]) ++ List.replicate (2 - (lg_sl ([.ref a0, .int x1])).length) Slot.unset).toArray = ls at hl ⊢
  have hl : lv_has ls 2 [(0, .ref a0), (1, .int x1)] := hl
  obtain ⟨hx, hb, hml, hown, hts, hK, hz, hlk, hr⟩ := id C
  unfold wp_X11_lots at hM
  refine lv_aload_n hx hb dX11_lots_0 rfl (lv_at hl 0 rfl) ?_
  refine lv_iload_n hx hb dX11_lots_1 rfl (lv_at hl 1 rfl) ?_
  have hk1 := hM.1
  have hM := hM.2
  obtain ⟨S2, eS2⟩ : ∃ z : PS, z = S.setI 770 a0 x1 := ⟨_, rfl⟩
  have hM := hM S2 eS2
  refine x_putI C hV wp_X11_7 hk1 ⟨rfl, rfl⟩ eS2 dX11_lots_2 (fun H locs hV => ?_)
  refine lv_iconst (v := 1) hx hb dX11_lots_5 (by decide) ?_
  exact x_iret C hV hM dX11_lots_6

def wp_X11_many (N : Nat) (S : PS) (a0 : Nat) (x1 : Int32) (K : Int32 → PS → Prop) : Prop := if x1 = 0 then (S.K a0 = 12 ∧ K (S.I 772 a0) S) else if x1 = 1 then (S.K a0 = 12 ∧ K (S.I 774 a0) S) else if x1 = 2 then (S.K a0 = 12 ∧ K (S.I 776 a0) S) else if x1 = 3 then (S.K a0 = 12 ∧ K (S.I 778 a0) S) else if x1 = 4 then (S.K a0 = 12 ∧ K (S.I 805 a0) S) else if x1 = 5 then (S.K a0 = 12 ∧ K (S.I 782 a0) S) else if x1 = 6 then (S.K a0 = 12 ∧ K (S.I 816 a0) S) else if x1 = 7 then (S.K a0 = 12 ∧ K (S.I 768 a0) S) else K (-1) S
set_option maxHeartbeats 4000000 in
set_option maxRecDepth 100000 in
theorem c_X11_many {l : Launch} {D : DX} {cA : Nat → ClassId} {z0 N : Nat} {S : PS} {a0 : Nat} {x1 : Int32} {K : Int32 → PS → Prop} (hM : wp_X11_many N S a0 x1 K) : MetI l yX11_many cX11_many 2 (some .int) 0 0 0 D cA z0 [.ref a0, .int x1] S K := by
  refine x_met RX11 (by decide) rfl ?_
  intro p e s m below meth c C hin hV
  have hl := lv_entry ([.ref a0, .int x1]) (n := 2) (Nat.le_of_ble_eq_true rfl)
  rw [lg_entry_eq]
  generalize (lg_sl ([.ref a0, .int x1]) ++ List.replicate (2 - (lg_sl ([.ref a0, .int x1])).length) Slot.unset).toArray = ls at hl ⊢
  have hl : lv_has ls 2 [(0, .ref a0), (1, .int x1)] := hl
  obtain ⟨hx, hb, hml, hown, hts, hK, hz, hlk, hr⟩ := id C
  unfold wp_X11_many at hM
  refine lv_iload_n hx hb dX11_many_0 rfl (lv_at hl 1 rfl) ?_
  by_cases c1 : x1 = 0
  · have hM := ite_t c1 hM
    refine lv_tableIn (tgt := 48) (off := 47) hx hb dX11_many_1 (by rw [c1]; decide) (by rw [c1]; decide) (by rw [c1]; decide) (by decide) ?_
    refine lv_aload_n hx hb dX11_many_48 rfl (lv_at hl 0 rfl) ?_
    have hk2 := hM.1
    have hM := hM.2
    refine x_getI C hV wf_X11_84 hk2 dX11_many_49 ?_
    exact x_iret C hV hM dX11_many_52
  have hM := ite_f c1 hM
  by_cases c3 : x1 = 1
  · have hM := ite_t c3 hM
    refine lv_tableIn (tgt := 53) (off := 52) hx hb dX11_many_1 (by rw [c3]; decide) (by rw [c3]; decide) (by rw [c3]; decide) (by decide) ?_
    refine lv_aload_n hx hb dX11_many_53 rfl (lv_at hl 0 rfl) ?_
    have hk4 := hM.1
    have hM := hM.2
    refine x_getI C hV wf_X11_116 hk4 dX11_many_54 ?_
    exact x_iret C hV hM dX11_many_57
  have hM := ite_f c3 hM
  by_cases c5 : x1 = 2
  · have hM := ite_t c5 hM
    refine lv_tableIn (tgt := 58) (off := 57) hx hb dX11_many_1 (by rw [c5]; decide) (by rw [c5]; decide) (by rw [c5]; decide) (by decide) ?_
    refine lv_aload_n hx hb dX11_many_58 rfl (lv_at hl 0 rfl) ?_
    have hk6 := hM.1
    have hM := hM.2
    refine x_getI C hV wf_X11_91 hk6 dX11_many_59 ?_
    exact x_iret C hV hM dX11_many_62
  have hM := ite_f c5 hM
  by_cases c7 : x1 = 3
  · have hM := ite_t c7 hM
    refine lv_tableIn (tgt := 63) (off := 62) hx hb dX11_many_1 (by rw [c7]; decide) (by rw [c7]; decide) (by rw [c7]; decide) (by decide) ?_
    refine lv_aload_n hx hb dX11_many_63 rfl (lv_at hl 0 rfl) ?_
    have hk8 := hM.1
    have hM := hM.2
    refine x_getI C hV wf_X11_364 hk8 dX11_many_64 ?_
    exact x_iret C hV hM dX11_many_67
  have hM := ite_f c7 hM
  by_cases c9 : x1 = 4
  · have hM := ite_t c9 hM
    refine lv_tableIn (tgt := 68) (off := 67) hx hb dX11_many_1 (by rw [c9]; decide) (by rw [c9]; decide) (by rw [c9]; decide) (by decide) ?_
    refine lv_aload_n hx hb dX11_many_68 rfl (lv_at hl 0 rfl) ?_
    have hk10 := hM.1
    have hM := hM.2
    refine x_getI C hV wf_X11_382 hk10 dX11_many_69 ?_
    exact x_iret C hV hM dX11_many_72
  have hM := ite_f c9 hM
  by_cases c11 : x1 = 5
  · have hM := ite_t c11 hM
    refine lv_tableIn (tgt := 73) (off := 72) hx hb dX11_many_1 (by rw [c11]; decide) (by rw [c11]; decide) (by rw [c11]; decide) (by decide) ?_
    refine lv_aload_n hx hb dX11_many_73 rfl (lv_at hl 0 rfl) ?_
    have hk12 := hM.1
    have hM := hM.2
    refine x_getI C hV wf_X11_137 hk12 dX11_many_74 ?_
    exact x_iret C hV hM dX11_many_77
  have hM := ite_f c11 hM
  by_cases c13 : x1 = 6
  · have hM := ite_t c13 hM
    refine lv_tableIn (tgt := 78) (off := 77) hx hb dX11_many_1 (by rw [c13]; decide) (by rw [c13]; decide) (by rw [c13]; decide) (by decide) ?_
    refine lv_aload_n hx hb dX11_many_78 rfl (lv_at hl 0 rfl) ?_
    have hk14 := hM.1
    have hM := hM.2
    refine x_getI C hV wf_X11_403 hk14 dX11_many_79 ?_
    exact x_iret C hV hM dX11_many_82
  have hM := ite_f c13 hM
  by_cases c15 : x1 = 7
  · have hM := ite_t c15 hM
    refine lv_tableIn (tgt := 83) (off := 82) hx hb dX11_many_1 (by rw [c15]; decide) (by rw [c15]; decide) (by rw [c15]; decide) (by decide) ?_
    refine lv_aload_n hx hb dX11_many_83 rfl (lv_at hl 0 rfl) ?_
    have hk16 := hM.1
    have hM := hM.2
    refine x_getI C hV wf_X11_103 hk16 dX11_many_84 ?_
    exact x_iret C hV hM dX11_many_87
  have hM := ite_f c15 hM
  refine lv_tableOut (tgt := 88) hx hb dX11_many_1 (by have q0 := lv_neT c1 (a := 0) (by decide); have q1 := lv_neT c3 (a := 1) (by decide); have q2 := lv_neT c5 (a := 2) (by decide); have q3 := lv_neT c7 (a := 3) (by decide); have q4 := lv_neT c9 (a := 4) (by decide); have q5 := lv_neT c11 (a := 5) (by decide); have q6 := lv_neT c13 (a := 6) (by decide); have q7 := lv_neT c15 (a := 7) (by decide); omega) (by decide) ?_
  refine lv_iconst (v := (-1)) hx hb dX11_many_88 (by decide) ?_
  exact x_iret C hV hM dX11_many_89

def wp_X11_miss (N : Nat) (S : PS) (a0 : Nat) (x1 : Int32) (K : Int32 → PS → Prop) : Prop := S.K a0 = 12 ∧ wp_X11_isStory N S a0 x1 (fun r3 S2 => if r3 = 0 then (K (-1) S2) else (S2.K a0 = 12 ∧ wp_X11_missOf N S2 a0 x1 (fun r8 S7 => K r8 S7)))
set_option maxHeartbeats 4000000 in
set_option maxRecDepth 100000 in
theorem c_X11_miss {l : Launch} {D : DX} {cA : Nat → ClassId} {z0 N : Nat} {S : PS} {a0 : Nat} {x1 : Int32} {K : Int32 → PS → Prop} (hM : wp_X11_miss N S a0 x1 K) : MetI l yX11_miss cX11_miss 2 (some .int) 5 0 0 D cA z0 [.ref a0, .int x1] S K := by
  refine x_met RX11 (by decide) rfl ?_
  intro p e s m below meth c C hin hV
  have hl := lv_entry ([.ref a0, .int x1]) (n := 2) (Nat.le_of_ble_eq_true rfl)
  rw [lg_entry_eq]
  generalize (lg_sl ([.ref a0, .int x1]) ++ List.replicate (2 - (lg_sl ([.ref a0, .int x1])).length) Slot.unset).toArray = ls at hl ⊢
  have hl : lv_has ls 2 [(0, .ref a0), (1, .int x1)] := hl
  obtain ⟨hx, hb, hml, hown, hts, hK, hz, hlk, hr⟩ := id C
  unfold wp_X11_miss at hM
  refine lv_aload_n hx hb dX11_miss_0 rfl (lv_at hl 0 rfl) ?_
  refine lv_iload_n hx hb dX11_miss_1 rfl (lv_at hl 1 rfl) ?_
  have hk1 := hM.1
  have hM := hM.2
  refine x_ci hV (x_runV (As := [.int x1]) (rest := []) C hV mi_X11_isStory wl_X11_220 hk1 (c_X11_isStory hM) ⟨by decide, by decide⟩ rfl hl.1 (Nat.le_of_ble_eq_true rfl) dX11_miss_2 ⟨Nat.zero_le _, Nat.zero_le _⟩) (fun r3 S2 H locs hV hM => ?_)
  have hz4 := hM.1
  have hM := hM.2
  refine lv_if_eq (tgt := 16) hx hb dX11_miss_5 (by decide) (fun c5 => ?_) (fun c5 => ?_)
  · have hM := ite_t c5 hM
    refine lv_iconst (v := (-1)) hx hb dX11_miss_16 (by decide) ?_
    exact x_iret C hV hM dX11_miss_17
  have hM := ite_f c5 hM
  refine lv_aload_n hx hb dX11_miss_8 rfl (lv_at hl 0 rfl) ?_
  refine lv_iload_n hx hb dX11_miss_9 rfl (lv_at hl 1 rfl) ?_
  have hk6 := hM.1
  have hM := hM.2
  refine x_ci hV (x_runV (As := [.int x1]) (rest := []) C hV mi_X11_missOf wl_X11_235 hk6 (c_X11_missOf hM) ⟨by decide, by decide⟩ rfl hl.1 (Nat.le_of_ble_eq_true rfl) dX11_miss_10 ⟨Nat.zero_le _, Nat.zero_le _⟩) (fun r8 S7 H locs hV hM => ?_)
  refine lv_goto (tgt := 17) hx hb dX11_miss_13 (by decide) ?_
  exact x_iret C hV hM dX11_miss_17

def wp_X11_month (N : Nat) (S : PS) (a0 : Nat) (x1 : Int32) (x2 : Int32) (x3 : Int32) (K : Int64 → PS → Prop) : Prop := wp_X11_in N S x1 0 33 (fun r2 S1 => if r2 = 0 then (K (-2147483648 : Int64) S1) else (wp_X11_isSide N S1 x2 (fun r6 S5 => if r6 = 0 then (K (-2147483648 : Int64) S5) else (wp_X11_isSide N S5 x3 (fun r10 S9 => if r10 = 0 then (K (-2147483648 : Int64) S9) else (S9.K a0 = 12 ∧ wp_X11_sumOf N S9 a0 x2 (30 * x1) ((30 * x1) + 29) (fun r15 S14 => S14.K a0 = 12 ∧ if (S14.I 793 a0) = 0 then (K (-2147483648 : Int64) S14) else (wp_X11_lowest N S14 a0 r15.toInt64 ((S14.I 793 a0).toInt64) (fun S18 => if x3 = 0 then (S18.K a0 = 12 ∧ K (S18.J 790 a0) S18) else (S18.K a0 = 12 ∧ K (S18.J 791 a0) S18))))))))))
set_option maxHeartbeats 4000000 in
set_option maxRecDepth 100000 in
theorem c_X11_month {l : Launch} {D : DX} {cA : Nat → ClassId} {z0 N : Nat} {S : PS} {a0 : Nat} {x1 : Int32} {x2 : Int32} {x3 : Int32} {K : Int64 → PS → Prop} (hM : wp_X11_month N S a0 x1 x2 x3 K) : MetL l yX11_month cX11_month 5 (some .long) 2 0 0 D cA z0 [.ref a0, .int x1, .int x2, .int x3] S K := by
  refine x_met RX11 (by decide) rfl ?_
  intro p e s m below meth c C hin hV
  have hl := lv_entry ([.ref a0, .int x1, .int x2, .int x3]) (n := 5) (Nat.le_of_ble_eq_true rfl)
  rw [lg_entry_eq]
  generalize (lg_sl ([.ref a0, .int x1, .int x2, .int x3]) ++ List.replicate (5 - (lg_sl ([.ref a0, .int x1, .int x2, .int x3])).length) Slot.unset).toArray = ls at hl ⊢
  have hl : lv_has ls 5 [(0, .ref a0), (1, .int x1), (2, .int x2), (3, .int x3)] := hl
  obtain ⟨hx, hb, hml, hown, hts, hK, hz, hlk, hr⟩ := id C
  unfold wp_X11_month at hM
  refine lv_iload_n hx hb dX11_month_0 rfl (lv_at hl 1 rfl) ?_
  refine lv_iconst (v := 0) hx hb dX11_month_1 (by decide) ?_
  refine lv_bipush (v := 33) hx hb dX11_month_2 (by decide) ?_
  refine x_ci hV (x_runS (As := [.int x1, .int 0, .int 33]) (rest := []) C hV ms_X11_in wl_X11_87 (c_X11_in hM) ⟨by decide, by decide⟩ rfl hl.1 (Nat.le_of_ble_eq_true rfl) dX11_month_4 ⟨Nat.zero_le _, Nat.zero_le _⟩) (fun r2 S1 H locs hV hM => ?_)
  have hz3 := hM.1
  have hM := hM.2
  refine lv_if_eq (tgt := 24) hx hb dX11_month_7 (by decide) (fun c4 => ?_) (fun c4 => ?_)
  · have hM := ite_t c4 hM
    refine lv_ldc2 hx hb hown (hts _ wc_X11_285) dX11_month_24 ?_
    exact x_lret C hV hM dX11_month_27
  have hM := ite_f c4 hM
  refine lv_iload_n hx hb dX11_month_10 rfl (lv_at hl 2 rfl) ?_
  refine x_ci hV (x_runS (As := [.int x2]) (rest := []) C hV ms_X11_isSide wl_X11_119 (c_X11_isSide hM) ⟨by decide, by decide⟩ rfl hl.1 (Nat.le_of_ble_eq_true rfl) dX11_month_11 ⟨Nat.zero_le _, Nat.zero_le _⟩) (fun r6 S5 H locs hV hM => ?_)
  have hz7 := hM.1
  have hM := hM.2
  refine lv_if_eq (tgt := 24) hx hb dX11_month_14 (by decide) (fun c8 => ?_) (fun c8 => ?_)
  · have hM := ite_t c8 hM
    refine lv_ldc2 hx hb hown (hts _ wc_X11_285) dX11_month_24 ?_
    exact x_lret C hV hM dX11_month_27
  have hM := ite_f c8 hM
  refine lv_iload_n hx hb dX11_month_17 rfl (lv_at hl 3 rfl) ?_
  refine x_ci hV (x_runS (As := [.int x3]) (rest := []) C hV ms_X11_isSide wl_X11_119 (c_X11_isSide hM) ⟨by decide, by decide⟩ rfl hl.1 (Nat.le_of_ble_eq_true rfl) dX11_month_18 ⟨Nat.zero_le _, Nat.zero_le _⟩) (fun r10 S9 H locs hV hM => ?_)
  have hz11 := hM.1
  have hM := hM.2
  refine lv_if_ne (tgt := 28) hx hb dX11_month_21 (by decide) (fun c12 => ?_) (fun c12 => ?_)
  · have hM := ite_f c12 hM
    refine lv_aload_n hx hb dX11_month_28 rfl (lv_at hl 0 rfl) ?_
    refine lv_iload_n hx hb dX11_month_29 rfl (lv_at hl 2 rfl) ?_
    refine lv_bipush (v := 30) hx hb dX11_month_30 (by decide) ?_
    refine lv_iload_n hx hb dX11_month_32 rfl (lv_at hl 1 rfl) ?_
    refine lv_imul hx hb dX11_month_33 ?_
    refine lv_bipush (v := 30) hx hb dX11_month_34 (by decide) ?_
    refine lv_iload_n hx hb dX11_month_36 rfl (lv_at hl 1 rfl) ?_
    refine lv_imul hx hb dX11_month_37 ?_
    refine lv_bipush (v := 29) hx hb dX11_month_38 (by decide) ?_
    refine lv_iadd hx hb dX11_month_40 ?_
    have hk13 := hM.1
    have hM := hM.2
    refine x_ci hV (x_runV (As := [.int x2, .int (30 * x1), .int ((30 * x1) + 29)]) (rest := []) C hV mi_X11_sumOf wl_X11_279 hk13 (c_X11_sumOf hM) ⟨by decide, by decide⟩ rfl hl.1 (Nat.le_of_ble_eq_true rfl) dX11_month_41 ⟨Nat.zero_le _, Nat.zero_le _⟩) (fun r15 S14 H locs hV hM => ?_)
    refine lv_istore (lv' := [(4, .int r15), (0, .ref a0), (1, .int x1), (2, .int x2), (3, .int x3)]) hx hb dX11_month_44 hl (by decide) rfl (fun ls hl => ?_)
    refine lv_aload_n hx hb dX11_month_46 rfl (lv_at hl 1 rfl) ?_
    have hk16 := hM.1
    have hM := hM.2
    refine x_getI C hV wf_X11_276 hk16 dX11_month_47 ?_
    refine lv_if_ne (tgt := 57) hx hb dX11_month_50 (by decide) (fun c17 => ?_) (fun c17 => ?_)
    · have hM := ite_f c17 hM
      refine lv_aload_n hx hb dX11_month_57 rfl (lv_at hl 1 rfl) ?_
      refine lv_iload hx hb dX11_month_58 (lv_at hl 0 rfl) ?_
      refine lv_i2l hx hb dX11_month_60 rfl ?_
      refine lv_aload_n hx hb dX11_month_61 rfl (lv_at hl 1 rfl) ?_
      refine x_getI C hV wf_X11_276 hk16 dX11_month_62 ?_
      refine lv_i2l hx hb dX11_month_65 rfl ?_
      refine x_cv hV (x_runV (As := [.long r15.toInt64, .long ((S14.I 793 a0).toInt64)]) (rest := []) C hV mi_X11_lowest wl_X11_257 hk16 (c_X11_lowest hM) ⟨by decide, by decide⟩ rfl hl.1 (Nat.le_of_ble_eq_true rfl) dX11_month_66 ⟨Nat.zero_le _, Nat.zero_le _⟩) (fun S18 H locs hV hM => ?_)
      refine lv_iload_n hx hb dX11_month_69 rfl (lv_at hl 4 rfl) ?_
      refine lv_if_ne (tgt := 80) hx hb dX11_month_70 (by decide) (fun c20 => ?_) (fun c20 => ?_)
      · have hM := ite_f c20 hM
        refine lv_aload_n hx hb dX11_month_80 rfl (lv_at hl 1 rfl) ?_
        have hk21 := hM.1
        have hM := hM.2
        refine x_getJ C hV wf_X11_244 hk21 dX11_month_81 ?_
        exact x_lret C hV hM dX11_month_84
      have hM := ite_t c20 hM
      refine lv_aload_n hx hb dX11_month_73 rfl (lv_at hl 1 rfl) ?_
      have hk22 := hM.1
      have hM := hM.2
      refine x_getJ C hV wf_X11_241 hk22 dX11_month_74 ?_
      refine lv_goto (tgt := 84) hx hb dX11_month_77 (by decide) ?_
      exact x_lret C hV hM dX11_month_84
    have hM := ite_t c17 hM
    refine lv_ldc2 hx hb hown (hts _ wc_X11_285) dX11_month_53 ?_
    exact x_lret C hV hM dX11_month_56
  have hM := ite_t c12 hM
  refine lv_ldc2 hx hb hown (hts _ wc_X11_285) dX11_month_24 ?_
  exact x_lret C hV hM dX11_month_27

def wq_X11_partedBy_72 (N : Nat) (K : Int32 → PS → Prop) (k_5 : PS → Nat → Int32 → Int32 → Int32 → Int32 → Prop) (k_20 : PS → Nat → Int32 → Int32 → Int32 → Int32 → Int32 → Prop) (S : PS) (a0 : Nat) (x1 : Int32) (x2 : Int32) (x4 : Int32) (x5 : Int32) (t0 : Int32) (t1 : Int32) : Prop := ∀ v7 : Int32, v7 = (t0 + t1) → k_20 S a0 x1 x2 v7 x4 (x5 + 1)
def wq_X11_partedBy_71 (N : Nat) (K : Int32 → PS → Prop) (k_5 : PS → Nat → Int32 → Int32 → Int32 → Int32 → Prop) (k_20 : PS → Nat → Int32 → Int32 → Int32 → Int32 → Int32 → Prop) (S : PS) (a0 : Nat) (x1 : Int32) (x2 : Int32) (x4 : Int32) (x5 : Int32) (t0 : Int32) : Prop := wq_X11_partedBy_72 N K k_5 k_20 S a0 x1 x2 x4 x5 t0 0
def wq_X11_partedBy_20 (N : Nat) (K : Int32 → PS → Prop) (k_5 : PS → Nat → Int32 → Int32 → Int32 → Int32 → Prop) : Nat → PS → Nat → Int32 → Int32 → Int32 → Int32 → Int32 → Prop
  | 0, _, _, _, _, _, _, _ => False
  | n + 1, S, a0, x1, x2, x3, x4, x5 => S.K a0 = 12 ∧ if (S.I 776 a0) ≤ x5 then (k_5 S a0 x1 x2 x3 (x4 + 1)) else (if ((x1 >>> (x4 &&& 31)) &&& 1) = 1 then (if ((x1 >>> (x5 &&& 31)) &&& 1) = 1 then (wp_X11_findsBy N S a0 x4 x2 (fun r10 S9 => S9.K a0 = 12 ∧ wp_X11_findsBy N S9 a0 x5 x2 (fun r13 S12 => if r10 = r13 then (wq_X11_partedBy_71 N K k_5 (fun S a0 x1 x2 x3 x4 x5 => wq_X11_partedBy_20 N K k_5 n S a0 x1 x2 x3 x4 x5) S12 a0 x1 x2 x4 x5 x3) else (wq_X11_partedBy_72 N K k_5 (fun S a0 x1 x2 x3 x4 x5 => wq_X11_partedBy_20 N K k_5 n S a0 x1 x2 x3 x4 x5) S12 a0 x1 x2 x4 x5 x3 1)))) else (wq_X11_partedBy_71 N K k_5 (fun S a0 x1 x2 x3 x4 x5 => wq_X11_partedBy_20 N K k_5 n S a0 x1 x2 x3 x4 x5) S a0 x1 x2 x4 x5 x3)) else (wq_X11_partedBy_71 N K k_5 (fun S a0 x1 x2 x3 x4 x5 => wq_X11_partedBy_20 N K k_5 n S a0 x1 x2 x3 x4 x5) S a0 x1 x2 x4 x5 x3))
def wq_X11_partedBy_5 (N : Nat) (K : Int32 → PS → Prop) : Nat → PS → Nat → Int32 → Int32 → Int32 → Int32 → Prop
  | 0, _, _, _, _, _, _ => False
  | n + 1, S, a0, x1, x2, x3, x4 => S.K a0 = 12 ∧ if (S.I 776 a0) ≤ x4 then (K x3 S) else (∀ v3 : Int32, v3 = (x4 + 1) → wq_X11_partedBy_20 N K (fun S a0 x1 x2 x3 x4 => wq_X11_partedBy_5 N K n S a0 x1 x2 x3 x4) N S a0 x1 x2 x3 x4 v3)
def wp_X11_partedBy (N : Nat) (S : PS) (a0 : Nat) (x1 : Int32) (x2 : Int32) (K : Int32 → PS → Prop) : Prop := wq_X11_partedBy_5 N K N S a0 x1 x2 0 0
set_option maxHeartbeats 4000000 in
set_option maxRecDepth 100000 in
theorem tq_X11_partedBy_72 {p : Program} {l : Launch} {e : Env} {s : State} {m : MethodId} {args : Array Value} {below : List Frame} {meth : Method} {c : Code} {D : DX} {cA : Nat → ClassId} {z0 N : Nat} {K : Int32 → PS → Prop} {k_5 : PS → Nat → Int32 → Int32 → Int32 → Int32 → Prop} {k_20 : PS → Nat → Int32 → Int32 → Int32 → Int32 → Int32 → Prop} (C : CX p s m args meth c cX11_partedBy 6 RX11 (some .int) D cA z0) (H_5 : ∀ (S : PS) (a0 : Nat) (x1 : Int32) (x2 : Int32) (x3 : Int32) (x4 : Int32) (H : Heap) (locs : List Loc) (ls : Array Slot), k_5 S a0 x1 x2 x3 x4 → XV D cA z0 s S H locs → lv_has ls 6 [(0, .ref a0), (1, .int x1), (2, .int x2), (3, .int x3), (4, .int x4)] → W p l e (rmd 1 0 0) s m args below meth c H locs 0 0 (MQ below (va_Qi K (XK D cA z0) (zA z0)) args s 0 0 (zA z0)) (F0 m 5 ls [])) (H_20 : ∀ (S : PS) (a0 : Nat) (x1 : Int32) (x2 : Int32) (x3 : Int32) (x4 : Int32) (x5 : Int32) (H : Heap) (locs : List Loc) (ls : Array Slot), k_20 S a0 x1 x2 x3 x4 x5 → XV D cA z0 s S H locs → lv_has ls 6 [(0, .ref a0), (1, .int x1), (2, .int x2), (3, .int x3), (4, .int x4), (5, .int x5)] → W p l e (rmd 1 0 0) s m args below meth c H locs 0 0 (MQ below (va_Qi K (XK D cA z0) (zA z0)) args s 0 0 (zA z0)) (F0 m 20 ls [])) : ∀ (S : PS) (a0 : Nat) (x1 : Int32) (x2 : Int32) (x4 : Int32) (x5 : Int32) (t0 : Int32) (t1 : Int32) (H : Heap) (locs : List Loc) (ls : Array Slot), wq_X11_partedBy_72 N K k_5 k_20 S a0 x1 x2 x4 x5 t0 t1 → XV D cA z0 s S H locs → lv_has ls 6 [(0, .ref a0), (1, .int x1), (2, .int x2), (4, .int x4), (5, .int x5)] → W p l e (rmd 1 0 0) s m args below meth c H locs 0 0 (MQ below (va_Qi K (XK D cA z0) (zA z0)) args s 0 0 (zA z0)) (F0 m 72 ls [.int t1, .int t0]) := by
  obtain ⟨hx, hb, hml, hown, hts, hK, hz, hlk, hr⟩ := id C
  intro S a0 x1 x2 x4 x5 t0 t1 H locs ls hM hV hl
  unfold wq_X11_partedBy_72 at hM
  refine lv_iadd hx hb dX11_partedBy_72 ?_
  refine lv_topi (fun v7 ev7 => ?_)
  have hM := hM v7 ev7
  refine lv_istore_n (lv' := [(3, .int v7), (0, .ref a0), (1, .int x1), (2, .int x2), (4, .int x4), (5, .int x5)]) hx hb dX11_partedBy_73 rfl hl (by decide) rfl (fun ls hl => ?_)
  refine lv_iinc (v := (x5 + 1)) (lv' := [(5, .int (x5 + 1)), (3, .int v7), (0, .ref a0), (1, .int x1), (2, .int x2), (4, .int x4)]) hx hb dX11_partedBy_74 hl (k := 5) rfl rfl (by decide) rfl (fun ls hl => ?_)
  refine lv_goto (tgt := 20) hx hb dX11_partedBy_77 (by decide) ?_
  exact H_20 _ _ _ _ _ _ _ _ _ _ hM hV (lv_sub hl [2, 3, 4, 1, 5, 0] rfl)
set_option maxHeartbeats 4000000 in
set_option maxRecDepth 100000 in
theorem tq_X11_partedBy_71 {p : Program} {l : Launch} {e : Env} {s : State} {m : MethodId} {args : Array Value} {below : List Frame} {meth : Method} {c : Code} {D : DX} {cA : Nat → ClassId} {z0 N : Nat} {K : Int32 → PS → Prop} {k_5 : PS → Nat → Int32 → Int32 → Int32 → Int32 → Prop} {k_20 : PS → Nat → Int32 → Int32 → Int32 → Int32 → Int32 → Prop} (C : CX p s m args meth c cX11_partedBy 6 RX11 (some .int) D cA z0) (H_5 : ∀ (S : PS) (a0 : Nat) (x1 : Int32) (x2 : Int32) (x3 : Int32) (x4 : Int32) (H : Heap) (locs : List Loc) (ls : Array Slot), k_5 S a0 x1 x2 x3 x4 → XV D cA z0 s S H locs → lv_has ls 6 [(0, .ref a0), (1, .int x1), (2, .int x2), (3, .int x3), (4, .int x4)] → W p l e (rmd 1 0 0) s m args below meth c H locs 0 0 (MQ below (va_Qi K (XK D cA z0) (zA z0)) args s 0 0 (zA z0)) (F0 m 5 ls [])) (H_20 : ∀ (S : PS) (a0 : Nat) (x1 : Int32) (x2 : Int32) (x3 : Int32) (x4 : Int32) (x5 : Int32) (H : Heap) (locs : List Loc) (ls : Array Slot), k_20 S a0 x1 x2 x3 x4 x5 → XV D cA z0 s S H locs → lv_has ls 6 [(0, .ref a0), (1, .int x1), (2, .int x2), (3, .int x3), (4, .int x4), (5, .int x5)] → W p l e (rmd 1 0 0) s m args below meth c H locs 0 0 (MQ below (va_Qi K (XK D cA z0) (zA z0)) args s 0 0 (zA z0)) (F0 m 20 ls [])) : ∀ (S : PS) (a0 : Nat) (x1 : Int32) (x2 : Int32) (x4 : Int32) (x5 : Int32) (t0 : Int32) (H : Heap) (locs : List Loc) (ls : Array Slot), wq_X11_partedBy_71 N K k_5 k_20 S a0 x1 x2 x4 x5 t0 → XV D cA z0 s S H locs → lv_has ls 6 [(0, .ref a0), (1, .int x1), (2, .int x2), (4, .int x4), (5, .int x5)] → W p l e (rmd 1 0 0) s m args below meth c H locs 0 0 (MQ below (va_Qi K (XK D cA z0) (zA z0)) args s 0 0 (zA z0)) (F0 m 71 ls [.int t0]) := by
  obtain ⟨hx, hb, hml, hown, hts, hK, hz, hlk, hr⟩ := id C
  intro S a0 x1 x2 x4 x5 t0 H locs ls hM hV hl
  unfold wq_X11_partedBy_71 at hM
  refine lv_iconst (v := 0) hx hb dX11_partedBy_71 (by decide) ?_
  exact tq_X11_partedBy_72 C H_5 H_20 _ _ _ _ _ _ _ _ _ _ _ hM hV (lv_sub hl [0, 1, 2, 3, 4] rfl)
set_option maxHeartbeats 4000000 in
set_option maxRecDepth 100000 in
theorem tq_X11_partedBy_20 {p : Program} {l : Launch} {e : Env} {s : State} {m : MethodId} {args : Array Value} {below : List Frame} {meth : Method} {c : Code} {D : DX} {cA : Nat → ClassId} {z0 N : Nat} {K : Int32 → PS → Prop} {k_5 : PS → Nat → Int32 → Int32 → Int32 → Int32 → Prop} (C : CX p s m args meth c cX11_partedBy 6 RX11 (some .int) D cA z0) (H_5 : ∀ (S : PS) (a0 : Nat) (x1 : Int32) (x2 : Int32) (x3 : Int32) (x4 : Int32) (H : Heap) (locs : List Loc) (ls : Array Slot), k_5 S a0 x1 x2 x3 x4 → XV D cA z0 s S H locs → lv_has ls 6 [(0, .ref a0), (1, .int x1), (2, .int x2), (3, .int x3), (4, .int x4)] → W p l e (rmd 1 0 0) s m args below meth c H locs 0 0 (MQ below (va_Qi K (XK D cA z0) (zA z0)) args s 0 0 (zA z0)) (F0 m 5 ls [])) : ∀ (n : Nat) (S : PS) (a0 : Nat) (x1 : Int32) (x2 : Int32) (x3 : Int32) (x4 : Int32) (x5 : Int32) (H : Heap) (locs : List Loc) (ls : Array Slot), wq_X11_partedBy_20 N K k_5 n S a0 x1 x2 x3 x4 x5 → XV D cA z0 s S H locs → lv_has ls 6 [(0, .ref a0), (1, .int x1), (2, .int x2), (3, .int x3), (4, .int x4), (5, .int x5)] → W p l e (rmd 1 0 0) s m args below meth c H locs 0 0 (MQ below (va_Qi K (XK D cA z0) (zA z0)) args s 0 0 (zA z0)) (F0 m 20 ls []) := by
  obtain ⟨hx, hb, hml, hown, hts, hK, hz, hlk, hr⟩ := id C
  intro n
  induction n with
  | zero => intro S a0 x1 x2 x3 x4 x5 H locs ls hM; exact absurd hM id
  | succ n ih =>
    intro S a0 x1 x2 x3 x4 x5 H locs ls hM hV hl
    rw [wq_X11_partedBy_20.eq_2] at hM
    refine lv_iload hx hb dX11_partedBy_20 (lv_at hl 5 rfl) ?_
    refine lv_aload_n hx hb dX11_partedBy_22 rfl (lv_at hl 0 rfl) ?_
    have hk4 := hM.1
    have hM := hM.2
    refine x_getI C hV wf_X11_91 hk4 dX11_partedBy_23 ?_
    refine lv_icmp_ge (tgt := 80) hx hb dX11_partedBy_26 (by decide) (fun c5 => ?_) (fun c5 => ?_)
    · have hM := ite_t c5 hM
      refine lv_iinc (v := (x4 + 1)) (lv' := [(4, .int (x4 + 1)), (0, .ref a0), (1, .int x1), (2, .int x2), (3, .int x3), (5, .int x5)]) hx hb dX11_partedBy_80 hl (k := 4) rfl rfl (by decide) rfl (fun ls hl => ?_)
      refine lv_goto (tgt := 5) hx hb dX11_partedBy_83 (by decide) ?_
      exact H_5 _ _ _ _ _ _ _ _ _ hM hV (lv_sub hl [1, 2, 3, 4, 0] rfl)
    have hM := ite_f c5 hM
    refine lv_iload_n hx hb dX11_partedBy_29 rfl (lv_at hl 3 rfl) ?_
    refine lv_iload_n hx hb dX11_partedBy_30 rfl (lv_at hl 1 rfl) ?_
    refine lv_iload hx hb dX11_partedBy_31 (lv_at hl 4 rfl) ?_
    refine lv_ishr hx hb dX11_partedBy_33 ?_
    refine lv_iconst (v := 1) hx hb dX11_partedBy_34 (by decide) ?_
    refine lv_iand hx hb dX11_partedBy_35 ?_
    refine lv_iconst (v := 1) hx hb dX11_partedBy_36 (by decide) ?_
    refine lv_icmp_ne (tgt := 71) hx hb dX11_partedBy_37 (by decide) (fun c6 => ?_) (fun c6 => ?_)
    · have hM := ite_f c6 hM
      exact tq_X11_partedBy_71 C H_5 ih _ _ _ _ _ _ _ _ _ _ hM hV (lv_sub hl [0, 1, 2, 4, 5] rfl)
    have hM := ite_t c6 hM
    refine lv_iload_n hx hb dX11_partedBy_40 rfl (lv_at hl 1 rfl) ?_
    refine lv_iload hx hb dX11_partedBy_41 (lv_at hl 5 rfl) ?_
    refine lv_ishr hx hb dX11_partedBy_43 ?_
    refine lv_iconst (v := 1) hx hb dX11_partedBy_44 (by decide) ?_
    refine lv_iand hx hb dX11_partedBy_45 ?_
    refine lv_iconst (v := 1) hx hb dX11_partedBy_46 (by decide) ?_
    refine lv_icmp_ne (tgt := 71) hx hb dX11_partedBy_47 (by decide) (fun c8 => ?_) (fun c8 => ?_)
    · have hM := ite_f c8 hM
      exact tq_X11_partedBy_71 C H_5 ih _ _ _ _ _ _ _ _ _ _ hM hV (lv_sub hl [0, 1, 2, 4, 5] rfl)
    have hM := ite_t c8 hM
    refine lv_aload_n hx hb dX11_partedBy_50 rfl (lv_at hl 0 rfl) ?_
    refine lv_iload hx hb dX11_partedBy_51 (lv_at hl 4 rfl) ?_
    refine lv_iload_n hx hb dX11_partedBy_53 rfl (lv_at hl 2 rfl) ?_
    refine x_ci hV (x_runV (As := [.int x4, .int x2]) (rest := [.int x3]) C hV mi_X11_findsBy wl_X11_226 hk4 (c_X11_findsBy hM) ⟨by decide, by decide⟩ rfl hl.1 (Nat.le_of_ble_eq_true rfl) dX11_partedBy_54 ⟨Nat.zero_le _, Nat.zero_le _⟩) (fun r10 S9 H locs hV hM => ?_)
    refine lv_aload_n hx hb dX11_partedBy_57 rfl (lv_at hl 0 rfl) ?_
    refine lv_iload hx hb dX11_partedBy_58 (lv_at hl 5 rfl) ?_
    refine lv_iload_n hx hb dX11_partedBy_60 rfl (lv_at hl 2 rfl) ?_
    have hk11 := hM.1
    have hM := hM.2
    refine x_ci hV (x_runV (As := [.int x5, .int x2]) (rest := [.int r10, .int x3]) C hV mi_X11_findsBy wl_X11_226 hk11 (c_X11_findsBy hM) ⟨by decide, by decide⟩ rfl hl.1 (Nat.le_of_ble_eq_true rfl) dX11_partedBy_61 ⟨Nat.zero_le _, Nat.zero_le _⟩) (fun r13 S12 H locs hV hM => ?_)
    refine lv_icmp_eq (tgt := 71) hx hb dX11_partedBy_64 (by decide) (fun c14 => ?_) (fun c14 => ?_)
    · have hM := ite_t c14 hM
      exact tq_X11_partedBy_71 C H_5 ih _ _ _ _ _ _ _ _ _ _ hM hV (lv_sub hl [0, 1, 2, 4, 5] rfl)
    have hM := ite_f c14 hM
    refine lv_iconst (v := 1) hx hb dX11_partedBy_67 (by decide) ?_
    refine lv_goto (tgt := 72) hx hb dX11_partedBy_68 (by decide) ?_
    exact tq_X11_partedBy_72 C H_5 ih _ _ _ _ _ _ _ _ _ _ _ hM hV (lv_sub hl [0, 1, 2, 4, 5] rfl)
set_option maxHeartbeats 4000000 in
set_option maxRecDepth 100000 in
theorem tq_X11_partedBy_5 {p : Program} {l : Launch} {e : Env} {s : State} {m : MethodId} {args : Array Value} {below : List Frame} {meth : Method} {c : Code} {D : DX} {cA : Nat → ClassId} {z0 N : Nat} {K : Int32 → PS → Prop} (C : CX p s m args meth c cX11_partedBy 6 RX11 (some .int) D cA z0) : ∀ (n : Nat) (S : PS) (a0 : Nat) (x1 : Int32) (x2 : Int32) (x3 : Int32) (x4 : Int32) (H : Heap) (locs : List Loc) (ls : Array Slot), wq_X11_partedBy_5 N K n S a0 x1 x2 x3 x4 → XV D cA z0 s S H locs → lv_has ls 6 [(0, .ref a0), (1, .int x1), (2, .int x2), (3, .int x3), (4, .int x4)] → W p l e (rmd 1 0 0) s m args below meth c H locs 0 0 (MQ below (va_Qi K (XK D cA z0) (zA z0)) args s 0 0 (zA z0)) (F0 m 5 ls []) := by
  obtain ⟨hx, hb, hml, hown, hts, hK, hz, hlk, hr⟩ := id C
  intro n
  induction n with
  | zero => intro S a0 x1 x2 x3 x4 H locs ls hM; exact absurd hM id
  | succ n ih =>
    intro S a0 x1 x2 x3 x4 H locs ls hM hV hl
    rw [wq_X11_partedBy_5.eq_2] at hM
    refine lv_iload hx hb dX11_partedBy_5 (lv_at hl 4 rfl) ?_
    refine lv_aload_n hx hb dX11_partedBy_7 rfl (lv_at hl 0 rfl) ?_
    have hk1 := hM.1
    have hM := hM.2
    refine x_getI C hV wf_X11_91 hk1 dX11_partedBy_8 ?_
    refine lv_icmp_ge (tgt := 86) hx hb dX11_partedBy_11 (by decide) (fun c2 => ?_) (fun c2 => ?_)
    · have hM := ite_t c2 hM
      refine lv_iload_n hx hb dX11_partedBy_86 rfl (lv_at hl 3 rfl) ?_
      exact x_iret C hV hM dX11_partedBy_87
    have hM := ite_f c2 hM
    refine lv_iload hx hb dX11_partedBy_14 (lv_at hl 4 rfl) ?_
    refine lv_iconst (v := 1) hx hb dX11_partedBy_16 (by decide) ?_
    refine lv_iadd hx hb dX11_partedBy_17 ?_
    refine lv_topi (fun v3 ev3 => ?_)
    have hM := hM v3 ev3
    refine lv_istore (lv' := [(5, .int v3), (0, .ref a0), (1, .int x1), (2, .int x2), (3, .int x3), (4, .int x4)]) hx hb dX11_partedBy_18 hl (by decide) rfl (fun ls hl => ?_)
    exact tq_X11_partedBy_20 C ih N _ _ _ _ _ _ _ _ _ _ hM hV (lv_sub hl [1, 2, 3, 4, 5, 0] rfl)
set_option maxHeartbeats 4000000 in
set_option maxRecDepth 100000 in
theorem c_X11_partedBy {l : Launch} {D : DX} {cA : Nat → ClassId} {z0 N : Nat} {S : PS} {a0 : Nat} {x1 : Int32} {x2 : Int32} {K : Int32 → PS → Prop} (hM : wp_X11_partedBy N S a0 x1 x2 K) : MetI l yX11_partedBy cX11_partedBy 6 (some .int) 1 0 0 D cA z0 [.ref a0, .int x1, .int x2] S K := by
  refine x_met RX11 (by decide) rfl ?_
  intro p e s m below meth c C hin hV
  have hl := lv_entry ([.ref a0, .int x1, .int x2]) (n := 6) (Nat.le_of_ble_eq_true rfl)
  rw [lg_entry_eq]
  generalize (lg_sl ([.ref a0, .int x1, .int x2]) ++ List.replicate (6 - (lg_sl ([.ref a0, .int x1, .int x2])).length) Slot.unset).toArray = ls at hl ⊢
  have hl : lv_has ls 6 [(0, .ref a0), (1, .int x1), (2, .int x2)] := hl
  obtain ⟨hx, hb, hml, hown, hts, hK, hz, hlk, hr⟩ := id C
  unfold wp_X11_partedBy at hM
  refine lv_iconst (v := 0) hx hb dX11_partedBy_0 (by decide) ?_
  refine lv_istore_n (lv' := [(3, .int 0), (0, .ref a0), (1, .int x1), (2, .int x2)]) hx hb dX11_partedBy_1 rfl hl (by decide) rfl (fun ls hl => ?_)
  refine lv_iconst (v := 0) hx hb dX11_partedBy_2 (by decide) ?_
  refine lv_istore (lv' := [(4, .int 0), (3, .int 0), (0, .ref a0), (1, .int x1), (2, .int x2)]) hx hb dX11_partedBy_3 hl (by decide) rfl (fun ls hl => ?_)
  exact tq_X11_partedBy_5 C N _ _ _ _ _ _ _ _ _ hM hV (lv_sub hl [2, 3, 4, 1, 0] rfl)

def wq_X11_next_98 (N : Nat) (K : Int32 → PS → Prop) (k_26 : PS → Nat → Int32 → Int32 → Int32 → Int32 → Int32 → Prop) (S : PS) (a0 : Nat) (x1 : Int32) (x2 : Int32) (x5 : Int32) (x6 : Int32) : Prop := k_26 S a0 x1 x2 x5 x6 (x5 + 1)
def wq_X11_next_84 (N : Nat) (K : Int32 → PS → Prop) (k_26 : PS → Nat → Int32 → Int32 → Int32 → Int32 → Int32 → Prop) (S : PS) (a0 : Nat) (x1 : Int32) (x2 : Int32) (x3 : Int32) (x4 : Int32) (x5 : Int32) (x6 : Int32) (t0 : Int32) : Prop := if x4 < x6 then (wq_X11_next_98 N K k_26 S a0 x1 x2 x5 x6) else (if t0 = 0 then (k_26 S a0 x1 x2 x3 x4 (x5 + 1)) else (wq_X11_next_98 N K k_26 S a0 x1 x2 x5 x6))
def wq_X11_next_83 (N : Nat) (K : Int32 → PS → Prop) (k_26 : PS → Nat → Int32 → Int32 → Int32 → Int32 → Int32 → Prop) (S : PS) (a0 : Nat) (x1 : Int32) (x2 : Int32) (x3 : Int32) (x4 : Int32) (x5 : Int32) (x6 : Int32) : Prop := wq_X11_next_84 N K k_26 S a0 x1 x2 x3 x4 x5 x6 0
def wq_X11_next_72 (N : Nat) (K : Int32 → PS → Prop) (k_26 : PS → Nat → Int32 → Int32 → Int32 → Int32 → Int32 → Prop) (S : PS) (a0 : Nat) (x1 : Int32) (x2 : Int32) (x3 : Int32) (x4 : Int32) (x5 : Int32) (x6 : Int32) (t0 : Int32) (b1 : Nat) (t2 : Int32) : Prop := S.K b1 = 12 ∧ wp_X11_its N S b1 t2 4 (fun r26 S25 => if r26 ≤ t0 then (wq_X11_next_83 N K k_26 S25 a0 x1 x2 x3 x4 x5 x6) else (wq_X11_next_84 N K k_26 S25 a0 x1 x2 x3 x4 x5 x6 1))
def wq_X11_next_26 (N : Nat) (K : Int32 → PS → Prop) : Nat → PS → Nat → Int32 → Int32 → Int32 → Int32 → Int32 → Prop
  | 0, _, _, _, _, _, _, _ => False
  | n + 1, S, a0, x1, x2, x3, x4, x5 => S.K a0 = 12 ∧ if (S.I 772 a0) ≤ x5 then (if 0 ≤ x3 then (if x2 = 0 then (K x3 S) else (K x4 S)) else (K (-3) S)) else (wp_X11_partedBy N S a0 x1 x5 (fun r15 S14 => if r15 = x4 then (if x3 < 0 then (wq_X11_next_83 N K (fun S a0 x1 x2 x3 x4 x5 => wq_X11_next_26 N K n S a0 x1 x2 x3 x4 x5) S14 a0 x1 x2 x3 x4 x5 r15) else (S14.K a0 = 12 ∧ wp_X11_its N S14 a0 x5 4 (fun r22 S21 => if 0 ≤ x3 then (wq_X11_next_72 N K (fun S a0 x1 x2 x3 x4 x5 => wq_X11_next_26 N K n S a0 x1 x2 x3 x4 x5) S21 a0 x1 x2 x3 x4 x5 r15 r22 a0 x3) else (wq_X11_next_72 N K (fun S a0 x1 x2 x3 x4 x5 => wq_X11_next_26 N K n S a0 x1 x2 x3 x4 x5) S21 a0 x1 x2 x3 x4 x5 r15 r22 a0 0)))) else (wq_X11_next_83 N K (fun S a0 x1 x2 x3 x4 x5 => wq_X11_next_26 N K n S a0 x1 x2 x3 x4 x5) S14 a0 x1 x2 x3 x4 x5 r15)))
def wp_X11_next (N : Nat) (S : PS) (a0 : Nat) (x1 : Int32) (x2 : Int32) (K : Int32 → PS → Prop) : Prop := S.K a0 = 12 ∧ wp_X11_isSet N S a0 x1 (fun r3 S2 => if r3 = 0 then (K (-1) S2) else (wp_X11_isSide N S2 x2 (fun r7 S6 => if r7 = 0 then (K (-1) S6) else (wq_X11_next_26 N K N S6 a0 x1 x2 (-3) 0 0))))
set_option maxHeartbeats 4000000 in
set_option maxRecDepth 100000 in
theorem tq_X11_next_98 {p : Program} {l : Launch} {e : Env} {s : State} {m : MethodId} {args : Array Value} {below : List Frame} {meth : Method} {c : Code} {D : DX} {cA : Nat → ClassId} {z0 N : Nat} {K : Int32 → PS → Prop} {k_26 : PS → Nat → Int32 → Int32 → Int32 → Int32 → Int32 → Prop} (C : CX p s m args meth c cX11_next 8 RX11 (some .int) D cA z0) (H_26 : ∀ (S : PS) (a0 : Nat) (x1 : Int32) (x2 : Int32) (x3 : Int32) (x4 : Int32) (x5 : Int32) (H : Heap) (locs : List Loc) (ls : Array Slot), k_26 S a0 x1 x2 x3 x4 x5 → XV D cA z0 s S H locs → lv_has ls 8 [(0, .ref a0), (1, .int x1), (2, .int x2), (3, .int x3), (4, .int x4), (5, .int x5)] → W p l e (rmd 2 0 0) s m args below meth c H locs 0 0 (MQ below (va_Qi K (XK D cA z0) (zA z0)) args s 0 0 (zA z0)) (F0 m 26 ls [])) : ∀ (S : PS) (a0 : Nat) (x1 : Int32) (x2 : Int32) (x5 : Int32) (x6 : Int32) (H : Heap) (locs : List Loc) (ls : Array Slot), wq_X11_next_98 N K k_26 S a0 x1 x2 x5 x6 → XV D cA z0 s S H locs → lv_has ls 8 [(0, .ref a0), (1, .int x1), (2, .int x2), (5, .int x5), (6, .int x6)] → W p l e (rmd 2 0 0) s m args below meth c H locs 0 0 (MQ below (va_Qi K (XK D cA z0) (zA z0)) args s 0 0 (zA z0)) (F0 m 98 ls []) := by
  obtain ⟨hx, hb, hml, hown, hts, hK, hz, hlk, hr⟩ := id C
  intro S a0 x1 x2 x5 x6 H locs ls hM hV hl
  unfold wq_X11_next_98 at hM
  refine lv_iload hx hb dX11_next_98 (lv_at hl 4 rfl) ?_
  refine lv_istore (lv' := [(4, .int x6), (0, .ref a0), (1, .int x1), (2, .int x2), (5, .int x5), (6, .int x6)]) hx hb dX11_next_100 hl (by decide) rfl (fun ls hl => ?_)
  refine lv_iload hx hb dX11_next_102 (lv_at hl 4 rfl) ?_
  refine lv_istore_n (lv' := [(3, .int x5), (4, .int x6), (0, .ref a0), (1, .int x1), (2, .int x2), (5, .int x5), (6, .int x6)]) hx hb dX11_next_104 rfl hl (by decide) rfl (fun ls hl => ?_)
  refine lv_iinc (v := (x5 + 1)) (lv' := [(5, .int (x5 + 1)), (3, .int x5), (4, .int x6), (0, .ref a0), (1, .int x1), (2, .int x2), (6, .int x6)]) hx hb dX11_next_105 hl (k := 5) rfl rfl (by decide) rfl (fun ls hl => ?_)
  refine lv_goto (tgt := 26) hx hb dX11_next_108 (by decide) ?_
  exact H_26 _ _ _ _ _ _ _ _ _ _ hM hV (lv_sub hl [3, 4, 5, 1, 2, 0] rfl)
set_option maxHeartbeats 4000000 in
set_option maxRecDepth 100000 in
theorem tq_X11_next_84 {p : Program} {l : Launch} {e : Env} {s : State} {m : MethodId} {args : Array Value} {below : List Frame} {meth : Method} {c : Code} {D : DX} {cA : Nat → ClassId} {z0 N : Nat} {K : Int32 → PS → Prop} {k_26 : PS → Nat → Int32 → Int32 → Int32 → Int32 → Int32 → Prop} (C : CX p s m args meth c cX11_next 8 RX11 (some .int) D cA z0) (H_26 : ∀ (S : PS) (a0 : Nat) (x1 : Int32) (x2 : Int32) (x3 : Int32) (x4 : Int32) (x5 : Int32) (H : Heap) (locs : List Loc) (ls : Array Slot), k_26 S a0 x1 x2 x3 x4 x5 → XV D cA z0 s S H locs → lv_has ls 8 [(0, .ref a0), (1, .int x1), (2, .int x2), (3, .int x3), (4, .int x4), (5, .int x5)] → W p l e (rmd 2 0 0) s m args below meth c H locs 0 0 (MQ below (va_Qi K (XK D cA z0) (zA z0)) args s 0 0 (zA z0)) (F0 m 26 ls [])) : ∀ (S : PS) (a0 : Nat) (x1 : Int32) (x2 : Int32) (x3 : Int32) (x4 : Int32) (x5 : Int32) (x6 : Int32) (t0 : Int32) (H : Heap) (locs : List Loc) (ls : Array Slot), wq_X11_next_84 N K k_26 S a0 x1 x2 x3 x4 x5 x6 t0 → XV D cA z0 s S H locs → lv_has ls 8 [(0, .ref a0), (1, .int x1), (2, .int x2), (3, .int x3), (4, .int x4), (5, .int x5), (6, .int x6)] → W p l e (rmd 2 0 0) s m args below meth c H locs 0 0 (MQ below (va_Qi K (XK D cA z0) (zA z0)) args s 0 0 (zA z0)) (F0 m 84 ls [.int t0]) := by
  obtain ⟨hx, hb, hml, hown, hts, hK, hz, hlk, hr⟩ := id C
  intro S a0 x1 x2 x3 x4 x5 x6 t0 H locs ls hM hV hl
  unfold wq_X11_next_84 at hM
  refine lv_istore (lv' := [(7, .int t0), (0, .ref a0), (1, .int x1), (2, .int x2), (3, .int x3), (4, .int x4), (5, .int x5), (6, .int x6)]) hx hb dX11_next_84 hl (by decide) rfl (fun ls hl => ?_)
  refine lv_iload hx hb dX11_next_86 (lv_at hl 7 rfl) ?_
  refine lv_iload hx hb dX11_next_88 (lv_at hl 5 rfl) ?_
  refine lv_icmp_gt (tgt := 98) hx hb dX11_next_90 (by decide) (fun c17 => ?_) (fun c17 => ?_)
  · have hM := ite_t c17 hM
    exact tq_X11_next_98 C H_26 _ _ _ _ _ _ _ _ _ hM hV (lv_sub hl [1, 2, 3, 6, 7] rfl)
  have hM := ite_f c17 hM
  refine lv_iload hx hb dX11_next_93 (lv_at hl 0 rfl) ?_
  refine lv_if_eq (tgt := 105) hx hb dX11_next_95 (by decide) (fun c18 => ?_) (fun c18 => ?_)
  · have hM := ite_t c18 hM
    refine lv_iinc (v := (x5 + 1)) (lv' := [(5, .int (x5 + 1)), (7, .int t0), (0, .ref a0), (1, .int x1), (2, .int x2), (3, .int x3), (4, .int x4), (6, .int x6)]) hx hb dX11_next_105 hl (k := 6) rfl rfl (by decide) rfl (fun ls hl => ?_)
    refine lv_goto (tgt := 26) hx hb dX11_next_108 (by decide) ?_
    exact H_26 _ _ _ _ _ _ _ _ _ _ hM hV (lv_sub hl [2, 3, 4, 5, 6, 0] rfl)
  have hM := ite_f c18 hM
  exact tq_X11_next_98 C H_26 _ _ _ _ _ _ _ _ _ hM hV (lv_sub hl [1, 2, 3, 6, 7] rfl)
set_option maxHeartbeats 4000000 in
set_option maxRecDepth 100000 in
theorem tq_X11_next_83 {p : Program} {l : Launch} {e : Env} {s : State} {m : MethodId} {args : Array Value} {below : List Frame} {meth : Method} {c : Code} {D : DX} {cA : Nat → ClassId} {z0 N : Nat} {K : Int32 → PS → Prop} {k_26 : PS → Nat → Int32 → Int32 → Int32 → Int32 → Int32 → Prop} (C : CX p s m args meth c cX11_next 8 RX11 (some .int) D cA z0) (H_26 : ∀ (S : PS) (a0 : Nat) (x1 : Int32) (x2 : Int32) (x3 : Int32) (x4 : Int32) (x5 : Int32) (H : Heap) (locs : List Loc) (ls : Array Slot), k_26 S a0 x1 x2 x3 x4 x5 → XV D cA z0 s S H locs → lv_has ls 8 [(0, .ref a0), (1, .int x1), (2, .int x2), (3, .int x3), (4, .int x4), (5, .int x5)] → W p l e (rmd 2 0 0) s m args below meth c H locs 0 0 (MQ below (va_Qi K (XK D cA z0) (zA z0)) args s 0 0 (zA z0)) (F0 m 26 ls [])) : ∀ (S : PS) (a0 : Nat) (x1 : Int32) (x2 : Int32) (x3 : Int32) (x4 : Int32) (x5 : Int32) (x6 : Int32) (H : Heap) (locs : List Loc) (ls : Array Slot), wq_X11_next_83 N K k_26 S a0 x1 x2 x3 x4 x5 x6 → XV D cA z0 s S H locs → lv_has ls 8 [(0, .ref a0), (1, .int x1), (2, .int x2), (3, .int x3), (4, .int x4), (5, .int x5), (6, .int x6)] → W p l e (rmd 2 0 0) s m args below meth c H locs 0 0 (MQ below (va_Qi K (XK D cA z0) (zA z0)) args s 0 0 (zA z0)) (F0 m 83 ls []) := by
  obtain ⟨hx, hb, hml, hown, hts, hK, hz, hlk, hr⟩ := id C
  intro S a0 x1 x2 x3 x4 x5 x6 H locs ls hM hV hl
  unfold wq_X11_next_83 at hM
  refine lv_iconst (v := 0) hx hb dX11_next_83 (by decide) ?_
  exact tq_X11_next_84 C H_26 _ _ _ _ _ _ _ _ _ _ _ _ hM hV (lv_sub hl [0, 1, 2, 3, 4, 5, 6] rfl)
set_option maxHeartbeats 4000000 in
set_option maxRecDepth 100000 in
theorem tq_X11_next_72 {p : Program} {l : Launch} {e : Env} {s : State} {m : MethodId} {args : Array Value} {below : List Frame} {meth : Method} {c : Code} {D : DX} {cA : Nat → ClassId} {z0 N : Nat} {K : Int32 → PS → Prop} {k_26 : PS → Nat → Int32 → Int32 → Int32 → Int32 → Int32 → Prop} (C : CX p s m args meth c cX11_next 8 RX11 (some .int) D cA z0) (H_26 : ∀ (S : PS) (a0 : Nat) (x1 : Int32) (x2 : Int32) (x3 : Int32) (x4 : Int32) (x5 : Int32) (H : Heap) (locs : List Loc) (ls : Array Slot), k_26 S a0 x1 x2 x3 x4 x5 → XV D cA z0 s S H locs → lv_has ls 8 [(0, .ref a0), (1, .int x1), (2, .int x2), (3, .int x3), (4, .int x4), (5, .int x5)] → W p l e (rmd 2 0 0) s m args below meth c H locs 0 0 (MQ below (va_Qi K (XK D cA z0) (zA z0)) args s 0 0 (zA z0)) (F0 m 26 ls [])) : ∀ (S : PS) (a0 : Nat) (x1 : Int32) (x2 : Int32) (x3 : Int32) (x4 : Int32) (x5 : Int32) (x6 : Int32) (t0 : Int32) (b1 : Nat) (t2 : Int32) (H : Heap) (locs : List Loc) (ls : Array Slot), wq_X11_next_72 N K k_26 S a0 x1 x2 x3 x4 x5 x6 t0 b1 t2 → XV D cA z0 s S H locs → lv_has ls 8 [(0, .ref a0), (1, .int x1), (2, .int x2), (3, .int x3), (4, .int x4), (5, .int x5), (6, .int x6)] → W p l e (rmd 2 0 0) s m args below meth c H locs 0 0 (MQ below (va_Qi K (XK D cA z0) (zA z0)) args s 0 0 (zA z0)) (F0 m 72 ls [.int t2, .ref b1, .int t0]) := by
  obtain ⟨hx, hb, hml, hown, hts, hK, hz, hlk, hr⟩ := id C
  intro S a0 x1 x2 x3 x4 x5 x6 t0 b1 t2 H locs ls hM hV hl
  unfold wq_X11_next_72 at hM
  refine lv_iconst (v := 4) hx hb dX11_next_72 (by decide) ?_
  have hk24 := hM.1
  have hM := hM.2
  refine x_ci hV (x_runV (As := [.int t2, .int 4]) (rest := [.int t0]) C hV mi_X11_its wl_X11_94 hk24 (c_X11_its hM) ⟨by decide, by decide⟩ rfl hl.1 (Nat.le_of_ble_eq_true rfl) dX11_next_73 ⟨Nat.zero_le _, Nat.zero_le _⟩) (fun r26 S25 H locs hV hM => ?_)
  refine lv_icmp_ge (tgt := 83) hx hb dX11_next_76 (by decide) (fun c27 => ?_) (fun c27 => ?_)
  · have hM := ite_t c27 hM
    exact tq_X11_next_83 C H_26 _ _ _ _ _ _ _ _ _ _ _ hM hV (lv_sub hl [0, 1, 2, 3, 4, 5, 6] rfl)
  have hM := ite_f c27 hM
  refine lv_iconst (v := 1) hx hb dX11_next_79 (by decide) ?_
  refine lv_goto (tgt := 84) hx hb dX11_next_80 (by decide) ?_
  exact tq_X11_next_84 C H_26 _ _ _ _ _ _ _ _ _ _ _ _ hM hV (lv_sub hl [0, 1, 2, 3, 4, 5, 6] rfl)
set_option maxHeartbeats 4000000 in
set_option maxRecDepth 100000 in
theorem tq_X11_next_26 {p : Program} {l : Launch} {e : Env} {s : State} {m : MethodId} {args : Array Value} {below : List Frame} {meth : Method} {c : Code} {D : DX} {cA : Nat → ClassId} {z0 N : Nat} {K : Int32 → PS → Prop} (C : CX p s m args meth c cX11_next 8 RX11 (some .int) D cA z0) : ∀ (n : Nat) (S : PS) (a0 : Nat) (x1 : Int32) (x2 : Int32) (x3 : Int32) (x4 : Int32) (x5 : Int32) (H : Heap) (locs : List Loc) (ls : Array Slot), wq_X11_next_26 N K n S a0 x1 x2 x3 x4 x5 → XV D cA z0 s S H locs → lv_has ls 8 [(0, .ref a0), (1, .int x1), (2, .int x2), (3, .int x3), (4, .int x4), (5, .int x5)] → W p l e (rmd 2 0 0) s m args below meth c H locs 0 0 (MQ below (va_Qi K (XK D cA z0) (zA z0)) args s 0 0 (zA z0)) (F0 m 26 ls []) := by
  obtain ⟨hx, hb, hml, hown, hts, hK, hz, hlk, hr⟩ := id C
  intro n
  induction n with
  | zero => intro S a0 x1 x2 x3 x4 x5 H locs ls hM; exact absurd hM id
  | succ n ih =>
    intro S a0 x1 x2 x3 x4 x5 H locs ls hM hV hl
    rw [wq_X11_next_26.eq_2] at hM
    refine lv_iload hx hb dX11_next_26 (lv_at hl 5 rfl) ?_
    refine lv_aload_n hx hb dX11_next_28 rfl (lv_at hl 0 rfl) ?_
    have hk10 := hM.1
    have hM := hM.2
    refine x_getI C hV wf_X11_84 hk10 dX11_next_29 ?_
    refine lv_icmp_ge (tgt := 111) hx hb dX11_next_32 (by decide) (fun c11 => ?_) (fun c11 => ?_)
    · have hM := ite_t c11 hM
      refine lv_iload_n hx hb dX11_next_111 rfl (lv_at hl 3 rfl) ?_
      refine lv_if_ge (tgt := 120) hx hb dX11_next_112 (by decide) (fun c12 => ?_) (fun c12 => ?_)
      · have hM := ite_t c12 hM
        refine lv_iload_n hx hb dX11_next_120 rfl (lv_at hl 2 rfl) ?_
        refine lv_if_ne (tgt := 128) hx hb dX11_next_121 (by decide) (fun c13 => ?_) (fun c13 => ?_)
        · have hM := ite_f c13 hM
          refine lv_iload hx hb dX11_next_128 (lv_at hl 4 rfl) ?_
          exact x_iret C hV hM dX11_next_130
        have hM := ite_t c13 hM
        refine lv_iload_n hx hb dX11_next_124 rfl (lv_at hl 3 rfl) ?_
        refine lv_goto (tgt := 130) hx hb dX11_next_125 (by decide) ?_
        exact x_iret C hV hM dX11_next_130
      have hM := ite_f c12 hM
      refine lv_bipush (v := (-3)) hx hb dX11_next_115 (by decide) ?_
      refine lv_goto (tgt := 130) hx hb dX11_next_117 (by decide) ?_
      exact x_iret C hV hM dX11_next_130
    have hM := ite_f c11 hM
    refine lv_aload_n hx hb dX11_next_35 rfl (lv_at hl 0 rfl) ?_
    refine lv_iload_n hx hb dX11_next_36 rfl (lv_at hl 1 rfl) ?_
    refine lv_iload hx hb dX11_next_37 (lv_at hl 5 rfl) ?_
    refine x_ci hV (x_runV (As := [.int x1, .int x5]) (rest := []) C hV mi_X11_partedBy wl_X11_264 hk10 (c_X11_partedBy hM) ⟨by decide, by decide⟩ rfl hl.1 (Nat.le_of_ble_eq_true rfl) dX11_next_39 ⟨Nat.zero_le _, Nat.zero_le _⟩) (fun r15 S14 H locs hV hM => ?_)
    refine lv_istore (lv' := [(6, .int r15), (0, .ref a0), (1, .int x1), (2, .int x2), (3, .int x3), (4, .int x4), (5, .int x5)]) hx hb dX11_next_42 hl (by decide) rfl (fun ls hl => ?_)
    refine lv_iload hx hb dX11_next_44 (lv_at hl 0 rfl) ?_
    refine lv_iload hx hb dX11_next_46 (lv_at hl 5 rfl) ?_
    refine lv_icmp_ne (tgt := 83) hx hb dX11_next_48 (by decide) (fun c16 => ?_) (fun c16 => ?_)
    · have hM := ite_f c16 hM
      exact tq_X11_next_83 C ih _ _ _ _ _ _ _ _ _ _ _ hM hV (lv_sub hl [1, 2, 3, 4, 5, 6, 0] rfl)
    have hM := ite_t c16 hM
    refine lv_iload_n hx hb dX11_next_51 rfl (lv_at hl 4 rfl) ?_
    refine lv_if_lt (tgt := 83) hx hb dX11_next_52 (by decide) (fun c19 => ?_) (fun c19 => ?_)
    · have hM := ite_t c19 hM
      exact tq_X11_next_83 C ih _ _ _ _ _ _ _ _ _ _ _ hM hV (lv_sub hl [1, 2, 3, 4, 5, 6, 0] rfl)
    have hM := ite_f c19 hM
    refine lv_aload_n hx hb dX11_next_55 rfl (lv_at hl 1 rfl) ?_
    refine lv_iload hx hb dX11_next_56 (lv_at hl 6 rfl) ?_
    refine lv_iconst (v := 4) hx hb dX11_next_58 (by decide) ?_
    have hk20 := hM.1
    have hM := hM.2
    refine x_ci hV (x_runV (As := [.int x5, .int 4]) (rest := []) C hV mi_X11_its wl_X11_94 hk20 (c_X11_its hM) ⟨by decide, by decide⟩ rfl hl.1 (Nat.le_of_ble_eq_true rfl) dX11_next_59 ⟨Nat.zero_le _, Nat.zero_le _⟩) (fun r22 S21 H locs hV hM => ?_)
    refine lv_aload_n hx hb dX11_next_62 rfl (lv_at hl 1 rfl) ?_
    refine lv_iload_n hx hb dX11_next_63 rfl (lv_at hl 4 rfl) ?_
    refine lv_if_ge (tgt := 71) hx hb dX11_next_64 (by decide) (fun c23 => ?_) (fun c23 => ?_)
    · have hM := ite_t c23 hM
      refine lv_iload_n hx hb dX11_next_71 rfl (lv_at hl 4 rfl) ?_
      exact tq_X11_next_72 C ih _ _ _ _ _ _ _ _ _ _ _ _ _ _ hM hV (lv_sub hl [1, 2, 3, 4, 5, 6, 0] rfl)
    have hM := ite_f c23 hM
    refine lv_iconst (v := 0) hx hb dX11_next_67 (by decide) ?_
    refine lv_goto (tgt := 72) hx hb dX11_next_68 (by decide) ?_
    exact tq_X11_next_72 C ih _ _ _ _ _ _ _ _ _ _ _ _ _ _ hM hV (lv_sub hl [1, 2, 3, 4, 5, 6, 0] rfl)
set_option maxHeartbeats 4000000 in
set_option maxRecDepth 100000 in
theorem c_X11_next {l : Launch} {D : DX} {cA : Nat → ClassId} {z0 N : Nat} {S : PS} {a0 : Nat} {x1 : Int32} {x2 : Int32} {K : Int32 → PS → Prop} (hM : wp_X11_next N S a0 x1 x2 K) : MetI l yX11_next cX11_next 8 (some .int) 2 0 0 D cA z0 [.ref a0, .int x1, .int x2] S K := by
  refine x_met RX11 (by decide) rfl ?_
  intro p e s m below meth c C hin hV
  have hl := lv_entry ([.ref a0, .int x1, .int x2]) (n := 8) (Nat.le_of_ble_eq_true rfl)
  rw [lg_entry_eq]
  generalize (lg_sl ([.ref a0, .int x1, .int x2]) ++ List.replicate (8 - (lg_sl ([.ref a0, .int x1, .int x2])).length) Slot.unset).toArray = ls at hl ⊢
  have hl : lv_has ls 8 [(0, .ref a0), (1, .int x1), (2, .int x2)] := hl
  obtain ⟨hx, hb, hml, hown, hts, hK, hz, hlk, hr⟩ := id C
  unfold wp_X11_next at hM
  refine lv_aload_n hx hb dX11_next_0 rfl (lv_at hl 0 rfl) ?_
  refine lv_iload_n hx hb dX11_next_1 rfl (lv_at hl 1 rfl) ?_
  have hk1 := hM.1
  have hM := hM.2
  refine x_ci hV (x_runV (As := [.int x1]) (rest := []) C hV mi_X11_isSet wl_X11_261 hk1 (c_X11_isSet hM) ⟨by decide, by decide⟩ rfl hl.1 (Nat.le_of_ble_eq_true rfl) dX11_next_2 ⟨Nat.zero_le _, Nat.zero_le _⟩) (fun r3 S2 H locs hV hM => ?_)
  have hz4 := hM.1
  have hM := hM.2
  refine lv_if_eq (tgt := 15) hx hb dX11_next_5 (by decide) (fun c5 => ?_) (fun c5 => ?_)
  · have hM := ite_t c5 hM
    refine lv_iconst (v := (-1)) hx hb dX11_next_15 (by decide) ?_
    exact x_iret C hV hM dX11_next_16
  have hM := ite_f c5 hM
  refine lv_iload_n hx hb dX11_next_8 rfl (lv_at hl 2 rfl) ?_
  refine x_ci hV (x_runS (As := [.int x2]) (rest := []) C hV ms_X11_isSide wl_X11_119 (c_X11_isSide hM) ⟨by decide, by decide⟩ rfl hl.1 (Nat.le_of_ble_eq_true rfl) dX11_next_9 ⟨Nat.zero_le _, Nat.zero_le _⟩) (fun r7 S6 H locs hV hM => ?_)
  have hz8 := hM.1
  have hM := hM.2
  refine lv_if_ne (tgt := 17) hx hb dX11_next_12 (by decide) (fun c9 => ?_) (fun c9 => ?_)
  · have hM := ite_f c9 hM
    refine lv_bipush (v := (-3)) hx hb dX11_next_17 (by decide) ?_
    refine lv_istore_n (lv' := [(3, .int (-3)), (0, .ref a0), (1, .int x1), (2, .int x2)]) hx hb dX11_next_19 rfl hl (by decide) rfl (fun ls hl => ?_)
    refine lv_iconst (v := 0) hx hb dX11_next_20 (by decide) ?_
    refine lv_istore (lv' := [(4, .int 0), (3, .int (-3)), (0, .ref a0), (1, .int x1), (2, .int x2)]) hx hb dX11_next_21 hl (by decide) rfl (fun ls hl => ?_)
    refine lv_iconst (v := 0) hx hb dX11_next_23 (by decide) ?_
    refine lv_istore (lv' := [(5, .int 0), (4, .int 0), (3, .int (-3)), (0, .ref a0), (1, .int x1), (2, .int x2)]) hx hb dX11_next_24 hl (by decide) rfl (fun ls hl => ?_)
    exact tq_X11_next_26 C N _ _ _ _ _ _ _ _ _ _ hM hV (lv_sub hl [3, 4, 5, 2, 1, 0] rfl)
  have hM := ite_t c9 hM
  refine lv_iconst (v := (-1)) hx hb dX11_next_15 (by decide) ?_
  exact x_iret C hV hM dX11_next_16

def wp_X11_noise (N : Nat) (S : PS) (a0 : Nat) (x1 : Int32) (K : Int32 → PS → Prop) : Prop := wp_X11_in N S x1 0 20 (fun r2 S1 => if r2 = 0 then (K (-1) S1) else (S1.K a0 = 12 ∧ ∀ v6 : Int32, v6 = (S1.I 769 a0) → ∀ S7 : PS, S7 = S1.setI 769 a0 x1 → K v6 S7))
set_option maxHeartbeats 4000000 in
set_option maxRecDepth 100000 in
theorem c_X11_noise {l : Launch} {D : DX} {cA : Nat → ClassId} {z0 N : Nat} {S : PS} {a0 : Nat} {x1 : Int32} {K : Int32 → PS → Prop} (hM : wp_X11_noise N S a0 x1 K) : MetI l yX11_noise cX11_noise 3 (some .int) 1 0 0 D cA z0 [.ref a0, .int x1] S K := by
  refine x_met RX11 (by decide) rfl ?_
  intro p e s m below meth c C hin hV
  have hl := lv_entry ([.ref a0, .int x1]) (n := 3) (Nat.le_of_ble_eq_true rfl)
  rw [lg_entry_eq]
  generalize (lg_sl ([.ref a0, .int x1]) ++ List.replicate (3 - (lg_sl ([.ref a0, .int x1])).length) Slot.unset).toArray = ls at hl ⊢
  have hl : lv_has ls 3 [(0, .ref a0), (1, .int x1)] := hl
  obtain ⟨hx, hb, hml, hown, hts, hK, hz, hlk, hr⟩ := id C
  unfold wp_X11_noise at hM
  refine lv_iload_n hx hb dX11_noise_0 rfl (lv_at hl 1 rfl) ?_
  refine lv_iconst (v := 0) hx hb dX11_noise_1 (by decide) ?_
  refine lv_bipush (v := 20) hx hb dX11_noise_2 (by decide) ?_
  refine x_ci hV (x_runS (As := [.int x1, .int 0, .int 20]) (rest := []) C hV ms_X11_in wl_X11_87 (c_X11_in hM) ⟨by decide, by decide⟩ rfl hl.1 (Nat.le_of_ble_eq_true rfl) dX11_noise_4 ⟨Nat.zero_le _, Nat.zero_le _⟩) (fun r2 S1 H locs hV hM => ?_)
  have hz3 := hM.1
  have hM := hM.2
  refine lv_if_ne (tgt := 12) hx hb dX11_noise_7 (by decide) (fun c4 => ?_) (fun c4 => ?_)
  · have hM := ite_f c4 hM
    refine lv_aload_n hx hb dX11_noise_12 rfl (lv_at hl 0 rfl) ?_
    have hk5 := hM.1
    have hM := hM.2
    refine x_getI C hV wf_X11_113 hk5 dX11_noise_13 ?_
    refine lv_topi (fun v6 ev6 => ?_)
    have hM := hM v6 ev6
    refine lv_istore_n (lv' := [(2, .int v6), (0, .ref a0), (1, .int x1)]) hx hb dX11_noise_16 rfl hl (by decide) rfl (fun ls hl => ?_)
    refine lv_aload_n hx hb dX11_noise_17 rfl (lv_at hl 1 rfl) ?_
    refine lv_iload_n hx hb dX11_noise_18 rfl (lv_at hl 2 rfl) ?_
    obtain ⟨S7, eS7⟩ : ∃ z : PS, z = S1.setI 769 a0 x1 := ⟨_, rfl⟩
    have hM := hM S7 eS7
    refine x_putI C hV wp_X11_113 hk5 ⟨rfl, rfl⟩ eS7 dX11_noise_19 (fun H locs hV => ?_)
    refine lv_iload_n hx hb dX11_noise_22 rfl (lv_at hl 0 rfl) ?_
    exact x_iret C hV hM dX11_noise_23
  have hM := ite_t c4 hM
  refine lv_iconst (v := (-1)) hx hb dX11_noise_10 (by decide) ?_
  exact x_iret C hV hM dX11_noise_11

def wq_X11_weightOf_91 (N : Nat) (K : Int64 → PS → Prop) (k_33 : PS → Nat → Int32 → Int64 → Int32 → Prop) (S : PS) (a0 : Nat) (x1 : Int32) (x4 : Int32) (u0 : Int64) (u1 : Int64) : Prop := ∀ v14 : Int64, v14 = (u0 * u1) → k_33 S a0 x1 v14 (x4 + 1)
def wq_X11_weightOf_33 (N : Nat) (K : Int64 → PS → Prop) : Nat → PS → Nat → Int32 → Int64 → Int32 → Prop
  | 0, _, _, _, _, _ => False
  | n + 1, S, a0, x1, j2, x4 => S.K a0 = 12 ∧ if (S.I 774 a0) ≤ x4 then (K j2 S) else (wp_X11_far N S a0 x1 x4 (fun r10 S9 => if 2 < r10 then (if 10 < r10 then (if 40 < r10 then (wq_X11_weightOf_91 N K (fun S a0 x1 j2 x4 => wq_X11_weightOf_33 N K n S a0 x1 j2 x4) S9 a0 x1 x4 j2 (1 : Int64)) else (wq_X11_weightOf_91 N K (fun S a0 x1 j2 x4 => wq_X11_weightOf_33 N K n S a0 x1 j2 x4) S9 a0 x1 x4 j2 (2 : Int64))) else (wq_X11_weightOf_91 N K (fun S a0 x1 j2 x4 => wq_X11_weightOf_33 N K n S a0 x1 j2 x4) S9 a0 x1 x4 j2 (4 : Int64))) else (wq_X11_weightOf_91 N K (fun S a0 x1 j2 x4 => wq_X11_weightOf_33 N K n S a0 x1 j2 x4) S9 a0 x1 x4 j2 (8 : Int64))))
def wq_X11_weightOf_31 (N : Nat) (K : Int64 → PS → Prop) (S : PS) (a0 : Nat) (x1 : Int32) (j2 : Int64) (t0 : Int32) : Prop := wq_X11_weightOf_33 N K N S a0 x1 j2 t0
def wp_X11_weightOf (N : Nat) (S : PS) (a0 : Nat) (x1 : Int32) (K : Int64 → PS → Prop) : Prop := S.K a0 = 12 ∧ ∃ p2 : Nat, S.R 777 a0 = some p2 ∧ S.K p2 = 20 ∧ vp_in (16 * x1) (S.ln p2) ∧ ∀ v5 : Int64, v5 = (S.A p2 (16 * x1).toNatClampNeg).toInt64 → if (S.I 774 a0) ≤ 12 then (wq_X11_weightOf_31 N K S a0 x1 v5 0) else (wq_X11_weightOf_31 N K S a0 x1 v5 ((S.I 774 a0) - 12))
set_option maxHeartbeats 4000000 in
set_option maxRecDepth 100000 in
theorem tq_X11_weightOf_91 {p : Program} {l : Launch} {e : Env} {s : State} {m : MethodId} {args : Array Value} {below : List Frame} {meth : Method} {c : Code} {D : DX} {cA : Nat → ClassId} {z0 N : Nat} {K : Int64 → PS → Prop} {k_33 : PS → Nat → Int32 → Int64 → Int32 → Prop} (C : CX p s m args meth c cX11_weightOf 6 RX11 (some .long) D cA z0) (H_33 : ∀ (S : PS) (a0 : Nat) (x1 : Int32) (j2 : Int64) (x4 : Int32) (H : Heap) (locs : List Loc) (ls : Array Slot), k_33 S a0 x1 j2 x4 → XV D cA z0 s S H locs → lv_has ls 6 [(0, .ref a0), (1, .int x1), (2, .long j2), (4, .int x4)] → W p l e (rmd 4 0 0) s m args below meth c H locs 0 0 (MQ below (va_Ql K (XK D cA z0) (zA z0)) args s 0 0 (zA z0)) (F0 m 33 ls [])) : ∀ (S : PS) (a0 : Nat) (x1 : Int32) (x4 : Int32) (u0 : Int64) (u1 : Int64) (H : Heap) (locs : List Loc) (ls : Array Slot), wq_X11_weightOf_91 N K k_33 S a0 x1 x4 u0 u1 → XV D cA z0 s S H locs → lv_has ls 6 [(0, .ref a0), (1, .int x1), (4, .int x4)] → W p l e (rmd 4 0 0) s m args below meth c H locs 0 0 (MQ below (va_Ql K (XK D cA z0) (zA z0)) args s 0 0 (zA z0)) (F0 m 91 ls [.long u1, .long u0]) := by
  obtain ⟨hx, hb, hml, hown, hts, hK, hz, hlk, hr⟩ := id C
  intro S a0 x1 x4 u0 u1 H locs ls hM hV hl
  unfold wq_X11_weightOf_91 at hM
  refine lv_lmul hx hb dX11_weightOf_91 ?_
  refine lv_topl (fun v14 ev14 => ?_)
  have hM := hM v14 ev14
  refine lv_lstore_n (lv' := [(2, .long v14), (0, .ref a0), (1, .int x1), (4, .int x4)]) hx hb dX11_weightOf_92 rfl hl (by decide) rfl (fun ls hl => ?_)
  refine lv_iinc (v := (x4 + 1)) (lv' := [(4, .int (x4 + 1)), (2, .long v14), (0, .ref a0), (1, .int x1)]) hx hb dX11_weightOf_93 hl (k := 3) rfl rfl (by decide) rfl (fun ls hl => ?_)
  refine lv_goto (tgt := 33) hx hb dX11_weightOf_96 (by decide) ?_
  exact H_33 _ _ _ _ _ _ _ _ hM hV (lv_sub hl [2, 3, 1, 0] rfl)
set_option maxHeartbeats 4000000 in
set_option maxRecDepth 100000 in
theorem tq_X11_weightOf_33 {p : Program} {l : Launch} {e : Env} {s : State} {m : MethodId} {args : Array Value} {below : List Frame} {meth : Method} {c : Code} {D : DX} {cA : Nat → ClassId} {z0 N : Nat} {K : Int64 → PS → Prop} (C : CX p s m args meth c cX11_weightOf 6 RX11 (some .long) D cA z0) : ∀ (n : Nat) (S : PS) (a0 : Nat) (x1 : Int32) (j2 : Int64) (x4 : Int32) (H : Heap) (locs : List Loc) (ls : Array Slot), wq_X11_weightOf_33 N K n S a0 x1 j2 x4 → XV D cA z0 s S H locs → lv_has ls 6 [(0, .ref a0), (1, .int x1), (2, .long j2), (4, .int x4)] → W p l e (rmd 4 0 0) s m args below meth c H locs 0 0 (MQ below (va_Ql K (XK D cA z0) (zA z0)) args s 0 0 (zA z0)) (F0 m 33 ls []) := by
  obtain ⟨hx, hb, hml, hown, hts, hK, hz, hlk, hr⟩ := id C
  intro n
  induction n with
  | zero => intro S a0 x1 j2 x4 H locs ls hM; exact absurd hM id
  | succ n ih =>
    intro S a0 x1 j2 x4 H locs ls hM hV hl
    rw [wq_X11_weightOf_33.eq_2] at hM
    refine lv_iload hx hb dX11_weightOf_33 (lv_at hl 3 rfl) ?_
    refine lv_aload_n hx hb dX11_weightOf_35 rfl (lv_at hl 0 rfl) ?_
    have hk7 := hM.1
    have hM := hM.2
    refine x_getI C hV wf_X11_116 hk7 dX11_weightOf_36 ?_
    refine lv_icmp_ge (tgt := 99) hx hb dX11_weightOf_39 (by decide) (fun c8 => ?_) (fun c8 => ?_)
    · have hM := ite_t c8 hM
      refine lv_lload_n hx hb dX11_weightOf_99 rfl (lv_at hl 2 rfl) ?_
      exact x_lret C hV hM dX11_weightOf_100
    have hM := ite_f c8 hM
    refine lv_aload_n hx hb dX11_weightOf_42 rfl (lv_at hl 0 rfl) ?_
    refine lv_iload_n hx hb dX11_weightOf_43 rfl (lv_at hl 1 rfl) ?_
    refine lv_iload hx hb dX11_weightOf_44 (lv_at hl 3 rfl) ?_
    refine x_ci hV (x_runV (As := [.int x1, .int x4]) (rest := []) C hV mi_X11_far wl_X11_232 hk7 (c_X11_far hM) ⟨by decide, by decide⟩ rfl hl.1 (Nat.le_of_ble_eq_true rfl) dX11_weightOf_46 ⟨Nat.zero_le _, Nat.zero_le _⟩) (fun r10 S9 H locs hV hM => ?_)
    refine lv_istore (lv' := [(5, .int r10), (0, .ref a0), (1, .int x1), (2, .long j2), (4, .int x4)]) hx hb dX11_weightOf_49 hl (by decide) rfl (fun ls hl => ?_)
    refine lv_lload_n hx hb dX11_weightOf_51 rfl (lv_at hl 3 rfl) ?_
    refine lv_iload hx hb dX11_weightOf_52 (lv_at hl 0 rfl) ?_
    refine lv_iconst (v := 2) hx hb dX11_weightOf_54 (by decide) ?_
    refine lv_icmp_gt (tgt := 64) hx hb dX11_weightOf_55 (by decide) (fun c11 => ?_) (fun c11 => ?_)
    · have hM := ite_t c11 hM
      refine lv_iload hx hb dX11_weightOf_64 (lv_at hl 0 rfl) ?_
      refine lv_bipush (v := 10) hx hb dX11_weightOf_66 (by decide) ?_
      refine lv_icmp_gt (tgt := 77) hx hb dX11_weightOf_68 (by decide) (fun c12 => ?_) (fun c12 => ?_)
      · have hM := ite_t c12 hM
        refine lv_iload hx hb dX11_weightOf_77 (lv_at hl 0 rfl) ?_
        refine lv_bipush (v := 40) hx hb dX11_weightOf_79 (by decide) ?_
        refine lv_icmp_gt (tgt := 90) hx hb dX11_weightOf_81 (by decide) (fun c13 => ?_) (fun c13 => ?_)
        · have hM := ite_t c13 hM
          refine lv_lconst (v := 1) hx hb dX11_weightOf_90 (by decide) ?_
          exact tq_X11_weightOf_91 C ih _ _ _ _ _ _ _ _ _ hM hV (lv_sub hl [1, 2, 4] rfl)
        have hM := ite_f c13 hM
        refine lv_ldc2 hx hb hown (hts _ wc_X11_251) dX11_weightOf_84 ?_
        refine lv_goto (tgt := 91) hx hb dX11_weightOf_87 (by decide) ?_
        exact tq_X11_weightOf_91 C ih _ _ _ _ _ _ _ _ _ hM hV (lv_sub hl [1, 2, 4] rfl)
      have hM := ite_f c12 hM
      refine lv_ldc2 hx hb hown (hts _ wc_X11_249) dX11_weightOf_71 ?_
      refine lv_goto (tgt := 91) hx hb dX11_weightOf_74 (by decide) ?_
      exact tq_X11_weightOf_91 C ih _ _ _ _ _ _ _ _ _ hM hV (lv_sub hl [1, 2, 4] rfl)
    have hM := ite_f c11 hM
    refine lv_ldc2 hx hb hown (hts _ wc_X11_247) dX11_weightOf_58 ?_
    refine lv_goto (tgt := 91) hx hb dX11_weightOf_61 (by decide) ?_
    exact tq_X11_weightOf_91 C ih _ _ _ _ _ _ _ _ _ hM hV (lv_sub hl [1, 2, 4] rfl)
set_option maxHeartbeats 4000000 in
set_option maxRecDepth 100000 in
theorem tq_X11_weightOf_31 {p : Program} {l : Launch} {e : Env} {s : State} {m : MethodId} {args : Array Value} {below : List Frame} {meth : Method} {c : Code} {D : DX} {cA : Nat → ClassId} {z0 N : Nat} {K : Int64 → PS → Prop} (C : CX p s m args meth c cX11_weightOf 6 RX11 (some .long) D cA z0) : ∀ (S : PS) (a0 : Nat) (x1 : Int32) (j2 : Int64) (t0 : Int32) (H : Heap) (locs : List Loc) (ls : Array Slot), wq_X11_weightOf_31 N K S a0 x1 j2 t0 → XV D cA z0 s S H locs → lv_has ls 6 [(0, .ref a0), (1, .int x1), (2, .long j2)] → W p l e (rmd 4 0 0) s m args below meth c H locs 0 0 (MQ below (va_Ql K (XK D cA z0) (zA z0)) args s 0 0 (zA z0)) (F0 m 31 ls [.int t0]) := by
  obtain ⟨hx, hb, hml, hown, hts, hK, hz, hlk, hr⟩ := id C
  intro S a0 x1 j2 t0 H locs ls hM hV hl
  unfold wq_X11_weightOf_31 at hM
  refine lv_istore (lv' := [(4, .int t0), (0, .ref a0), (1, .int x1), (2, .long j2)]) hx hb dX11_weightOf_31 hl (by decide) rfl (fun ls hl => ?_)
  exact tq_X11_weightOf_33 C N _ _ _ _ _ _ _ _ hM hV (lv_sub hl [1, 2, 3, 0] rfl)
set_option maxHeartbeats 4000000 in
set_option maxRecDepth 100000 in
theorem c_X11_weightOf {l : Launch} {D : DX} {cA : Nat → ClassId} {z0 N : Nat} {S : PS} {a0 : Nat} {x1 : Int32} {K : Int64 → PS → Prop} (hM : wp_X11_weightOf N S a0 x1 K) : MetL l yX11_weightOf cX11_weightOf 6 (some .long) 4 0 0 D cA z0 [.ref a0, .int x1] S K := by
  refine x_met RX11 (by decide) rfl ?_
  intro p e s m below meth c C hin hV
  have hl := lv_entry ([.ref a0, .int x1]) (n := 6) (Nat.le_of_ble_eq_true rfl)
  rw [lg_entry_eq]
  generalize (lg_sl ([.ref a0, .int x1]) ++ List.replicate (6 - (lg_sl ([.ref a0, .int x1])).length) Slot.unset).toArray = ls at hl ⊢
  have hl : lv_has ls 6 [(0, .ref a0), (1, .int x1)] := hl
  obtain ⟨hx, hb, hml, hown, hts, hK, hz, hlk, hr⟩ := id C
  unfold wp_X11_weightOf at hM
  refine lv_aload_n hx hb dX11_weightOf_0 rfl (lv_at hl 0 rfl) ?_
  have hk1 := hM.1
  have hM := hM.2
  obtain ⟨p2, hp2, hM⟩ := hM
  refine x_getR C hV wf_X11_20 hk1 hp2 dX11_weightOf_1 ?_
  refine lv_bipush (v := 16) hx hb dX11_weightOf_4 (by decide) ?_
  refine lv_iload_n hx hb dX11_weightOf_6 rfl (lv_at hl 1 rfl) ?_
  refine lv_imul hx hb dX11_weightOf_7 ?_
  have hk3 := hM.1
  have hM := hM.2
  have hi4 := hM.1
  have hM := hM.2
  refine x_iald C hV hk3 hi4 dX11_weightOf_8 ?_
  refine lv_i2l hx hb dX11_weightOf_9 rfl ?_
  refine lv_topl (fun v5 ev5 => ?_)
  have hM := hM v5 ev5
  refine lv_lstore_n (lv' := [(2, .long v5), (0, .ref a0), (1, .int x1)]) hx hb dX11_weightOf_10 rfl hl (by decide) rfl (fun ls hl => ?_)
  refine lv_aload_n hx hb dX11_weightOf_11 rfl (lv_at hl 1 rfl) ?_
  refine x_getI C hV wf_X11_116 hk1 dX11_weightOf_12 ?_
  refine lv_bipush (v := 12) hx hb dX11_weightOf_15 (by decide) ?_
  refine lv_icmp_le (tgt := 30) hx hb dX11_weightOf_17 (by decide) (fun c6 => ?_) (fun c6 => ?_)
  · have hM := ite_t c6 hM
    refine lv_iconst (v := 0) hx hb dX11_weightOf_30 (by decide) ?_
    exact tq_X11_weightOf_31 C _ _ _ _ _ _ _ _ hM hV (lv_sub hl [1, 2, 0] rfl)
  have hM := ite_f c6 hM
  refine lv_aload_n hx hb dX11_weightOf_20 rfl (lv_at hl 1 rfl) ?_
  refine x_getI C hV wf_X11_116 hk1 dX11_weightOf_21 ?_
  refine lv_bipush (v := 12) hx hb dX11_weightOf_24 (by decide) ?_
  refine lv_isub hx hb dX11_weightOf_26 ?_
  refine lv_goto (tgt := 31) hx hb dX11_weightOf_27 (by decide) ?_
  exact tq_X11_weightOf_31 C _ _ _ _ _ _ _ _ hM hV (lv_sub hl [1, 2, 0] rfl)

def wq_X11_odds_24 (N : Nat) (K : Int64 → PS → Prop) : Nat → PS → Nat → Int32 → Int32 → Int64 → Int32 → Prop
  | 0, _, _, _, _, _, _ => False
  | n + 1, S, a0, x1, x2, j3, x5 => S.K a0 = 12 ∧ if (S.I 776 a0) ≤ x5 then (wp_X11_weightOf N S a0 x1 (fun r13 S12 => S12.K a0 = 12 ∧ wp_X11_lowest N S12 a0 r13 j3 (fun S15 => if x2 = 0 then (S15.K a0 = 12 ∧ K (S15.J 790 a0) S15) else (S15.K a0 = 12 ∧ K (S15.J 791 a0) S15)))) else (wp_X11_weightOf N S a0 x5 (fun r21 S20 => ∀ v22 : Int64, v22 = (j3 + r21) → wq_X11_odds_24 N K n S20 a0 x1 x2 v22 (x5 + 1)))
def wp_X11_odds (N : Nat) (S : PS) (a0 : Nat) (x1 : Int32) (x2 : Int32) (K : Int64 → PS → Prop) : Prop := S.K a0 = 12 ∧ wp_X11_isStory N S a0 x1 (fun r3 S2 => if r3 = 0 then (K (-1 : Int64) S2) else (wp_X11_isSide N S2 x2 (fun r7 S6 => if r7 = 0 then (K (-1 : Int64) S6) else (wq_X11_odds_24 N K N S6 a0 x1 x2 (0 : Int64) 0))))
set_option maxHeartbeats 4000000 in
set_option maxRecDepth 100000 in
theorem tq_X11_odds_24 {p : Program} {l : Launch} {e : Env} {s : State} {m : MethodId} {args : Array Value} {below : List Frame} {meth : Method} {c : Code} {D : DX} {cA : Nat → ClassId} {z0 N : Nat} {K : Int64 → PS → Prop} (C : CX p s m args meth c cX11_odds 6 RX11 (some .long) D cA z0) : ∀ (n : Nat) (S : PS) (a0 : Nat) (x1 : Int32) (x2 : Int32) (j3 : Int64) (x5 : Int32) (H : Heap) (locs : List Loc) (ls : Array Slot), wq_X11_odds_24 N K n S a0 x1 x2 j3 x5 → XV D cA z0 s S H locs → lv_has ls 6 [(0, .ref a0), (1, .int x1), (2, .int x2), (3, .long j3), (5, .int x5)] → W p l e (rmd 5 0 0) s m args below meth c H locs 0 0 (MQ below (va_Ql K (XK D cA z0) (zA z0)) args s 0 0 (zA z0)) (F0 m 24 ls []) := by
  obtain ⟨hx, hb, hml, hown, hts, hK, hz, hlk, hr⟩ := id C
  intro n
  induction n with
  | zero => intro S a0 x1 x2 j3 x5 H locs ls hM; exact absurd hM id
  | succ n ih =>
    intro S a0 x1 x2 j3 x5 H locs ls hM hV hl
    rw [wq_X11_odds_24.eq_2] at hM
    refine lv_iload hx hb dX11_odds_24 (lv_at hl 4 rfl) ?_
    refine lv_aload_n hx hb dX11_odds_26 rfl (lv_at hl 0 rfl) ?_
    have hk10 := hM.1
    have hM := hM.2
    refine x_getI C hV wf_X11_91 hk10 dX11_odds_27 ?_
    refine lv_icmp_ge (tgt := 48) hx hb dX11_odds_30 (by decide) (fun c11 => ?_) (fun c11 => ?_)
    · have hM := ite_t c11 hM
      refine lv_aload_n hx hb dX11_odds_48 rfl (lv_at hl 0 rfl) ?_
      refine lv_aload_n hx hb dX11_odds_49 rfl (lv_at hl 0 rfl) ?_
      refine lv_iload_n hx hb dX11_odds_50 rfl (lv_at hl 1 rfl) ?_
      refine x_cl hV (x_runV (As := [.int x1]) (rest := [.ref a0]) C hV mi_X11_weightOf wl_X11_253 hk10 (c_X11_weightOf hM) ⟨by decide, by decide⟩ rfl hl.1 (Nat.le_of_ble_eq_true rfl) dX11_odds_51 ⟨Nat.zero_le _, Nat.zero_le _⟩) (fun r13 S12 H locs hV hM => ?_)
      refine lv_lload_n hx hb dX11_odds_54 rfl (lv_at hl 3 rfl) ?_
      have hk14 := hM.1
      have hM := hM.2
      refine x_cv hV (x_runV (As := [.long r13, .long j3]) (rest := []) C hV mi_X11_lowest wl_X11_257 hk14 (c_X11_lowest hM) ⟨by decide, by decide⟩ rfl hl.1 (Nat.le_of_ble_eq_true rfl) dX11_odds_55 ⟨Nat.zero_le _, Nat.zero_le _⟩) (fun S15 H locs hV hM => ?_)
      refine lv_iload_n hx hb dX11_odds_58 rfl (lv_at hl 2 rfl) ?_
      refine lv_if_ne (tgt := 69) hx hb dX11_odds_59 (by decide) (fun c17 => ?_) (fun c17 => ?_)
      · have hM := ite_f c17 hM
        refine lv_aload_n hx hb dX11_odds_69 rfl (lv_at hl 0 rfl) ?_
        have hk18 := hM.1
        have hM := hM.2
        refine x_getJ C hV wf_X11_244 hk18 dX11_odds_70 ?_
        exact x_lret C hV hM dX11_odds_73
      have hM := ite_t c17 hM
      refine lv_aload_n hx hb dX11_odds_62 rfl (lv_at hl 0 rfl) ?_
      have hk19 := hM.1
      have hM := hM.2
      refine x_getJ C hV wf_X11_241 hk19 dX11_odds_63 ?_
      refine lv_goto (tgt := 73) hx hb dX11_odds_66 (by decide) ?_
      exact x_lret C hV hM dX11_odds_73
    have hM := ite_f c11 hM
    refine lv_lload_n hx hb dX11_odds_33 rfl (lv_at hl 3 rfl) ?_
    refine lv_aload_n hx hb dX11_odds_34 rfl (lv_at hl 0 rfl) ?_
    refine lv_iload hx hb dX11_odds_35 (lv_at hl 4 rfl) ?_
    refine x_cl hV (x_runV (As := [.int x5]) (rest := [.long j3]) C hV mi_X11_weightOf wl_X11_253 hk10 (c_X11_weightOf hM) ⟨by decide, by decide⟩ rfl hl.1 (Nat.le_of_ble_eq_true rfl) dX11_odds_37 ⟨Nat.zero_le _, Nat.zero_le _⟩) (fun r21 S20 H locs hV hM => ?_)
    refine lv_ladd hx hb dX11_odds_40 ?_
    refine lv_topl (fun v22 ev22 => ?_)
    have hM := hM v22 ev22
    refine lv_lstore_n (lv' := [(3, .long v22), (0, .ref a0), (1, .int x1), (2, .int x2), (5, .int x5)]) hx hb dX11_odds_41 rfl hl (by decide) rfl (fun ls hl => ?_)
    refine lv_iinc (v := (x5 + 1)) (lv' := [(5, .int (x5 + 1)), (3, .long v22), (0, .ref a0), (1, .int x1), (2, .int x2)]) hx hb dX11_odds_42 hl (k := 4) rfl rfl (by decide) rfl (fun ls hl => ?_)
    refine lv_goto (tgt := 24) hx hb dX11_odds_45 (by decide) ?_
    exact ih _ _ _ _ _ _ _ _ _ hM hV (lv_sub hl [2, 3, 4, 1, 0] rfl)
set_option maxHeartbeats 4000000 in
set_option maxRecDepth 100000 in
theorem c_X11_odds {l : Launch} {D : DX} {cA : Nat → ClassId} {z0 N : Nat} {S : PS} {a0 : Nat} {x1 : Int32} {x2 : Int32} {K : Int64 → PS → Prop} (hM : wp_X11_odds N S a0 x1 x2 K) : MetL l yX11_odds cX11_odds 6 (some .long) 5 0 0 D cA z0 [.ref a0, .int x1, .int x2] S K := by
  refine x_met RX11 (by decide) rfl ?_
  intro p e s m below meth c C hin hV
  have hl := lv_entry ([.ref a0, .int x1, .int x2]) (n := 6) (Nat.le_of_ble_eq_true rfl)
  rw [lg_entry_eq]
  generalize (lg_sl ([.ref a0, .int x1, .int x2]) ++ List.replicate (6 - (lg_sl ([.ref a0, .int x1, .int x2])).length) Slot.unset).toArray = ls at hl ⊢
  have hl : lv_has ls 6 [(0, .ref a0), (1, .int x1), (2, .int x2)] := hl
  obtain ⟨hx, hb, hml, hown, hts, hK, hz, hlk, hr⟩ := id C
  unfold wp_X11_odds at hM
  refine lv_aload_n hx hb dX11_odds_0 rfl (lv_at hl 0 rfl) ?_
  refine lv_iload_n hx hb dX11_odds_1 rfl (lv_at hl 1 rfl) ?_
  have hk1 := hM.1
  have hM := hM.2
  refine x_ci hV (x_runV (As := [.int x1]) (rest := []) C hV mi_X11_isStory wl_X11_220 hk1 (c_X11_isStory hM) ⟨by decide, by decide⟩ rfl hl.1 (Nat.le_of_ble_eq_true rfl) dX11_odds_2 ⟨Nat.zero_le _, Nat.zero_le _⟩) (fun r3 S2 H locs hV hM => ?_)
  have hz4 := hM.1
  have hM := hM.2
  refine lv_if_eq (tgt := 15) hx hb dX11_odds_5 (by decide) (fun c5 => ?_) (fun c5 => ?_)
  · have hM := ite_t c5 hM
    refine lv_ldc2 hx hb hown (hts _ wc_X11_171) dX11_odds_15 ?_
    exact x_lret C hV hM dX11_odds_18
  have hM := ite_f c5 hM
  refine lv_iload_n hx hb dX11_odds_8 rfl (lv_at hl 2 rfl) ?_
  refine x_ci hV (x_runS (As := [.int x2]) (rest := []) C hV ms_X11_isSide wl_X11_119 (c_X11_isSide hM) ⟨by decide, by decide⟩ rfl hl.1 (Nat.le_of_ble_eq_true rfl) dX11_odds_9 ⟨Nat.zero_le _, Nat.zero_le _⟩) (fun r7 S6 H locs hV hM => ?_)
  have hz8 := hM.1
  have hM := hM.2
  refine lv_if_ne (tgt := 19) hx hb dX11_odds_12 (by decide) (fun c9 => ?_) (fun c9 => ?_)
  · have hM := ite_f c9 hM
    refine lv_lconst (v := 0) hx hb dX11_odds_19 (by decide) ?_
    refine lv_lstore_n (lv' := [(3, .long (0 : Int64)), (0, .ref a0), (1, .int x1), (2, .int x2)]) hx hb dX11_odds_20 rfl hl (by decide) rfl (fun ls hl => ?_)
    refine lv_iconst (v := 0) hx hb dX11_odds_21 (by decide) ?_
    refine lv_istore (lv' := [(5, .int 0), (3, .long (0 : Int64)), (0, .ref a0), (1, .int x1), (2, .int x2)]) hx hb dX11_odds_22 hl (by decide) rfl (fun ls hl => ?_)
    exact tq_X11_odds_24 C N _ _ _ _ _ _ _ _ _ hM hV (lv_sub hl [2, 3, 4, 1, 0] rfl)
  have hM := ite_t c9 hM
  refine lv_ldc2 hx hb hown (hts _ wc_X11_171) dX11_odds_15 ?_
  exact x_lret C hV hM dX11_odds_18

def wp_X11_of (N : Nat) (S : PS) (a0 : Nat) (x1 : Int32) (x2 : Int32) (K : Int32 → PS → Prop) : Prop := S.K a0 = 12 ∧ wp_X11_isPart N S a0 x1 (fun r3 S2 => if r3 = 0 then (K (-2147483648) S2) else (wp_X11_in N S2 x2 0 6 (fun r7 S6 => if r7 = 0 then (K (-2147483648) S6) else (S6.K a0 = 12 ∧ wp_X11_its N S6 a0 x1 x2 (fun r12 S11 => K r12 S11)))))
set_option maxHeartbeats 4000000 in
set_option maxRecDepth 100000 in
theorem c_X11_of {l : Launch} {D : DX} {cA : Nat → ClassId} {z0 N : Nat} {S : PS} {a0 : Nat} {x1 : Int32} {x2 : Int32} {K : Int32 → PS → Prop} (hM : wp_X11_of N S a0 x1 x2 K) : MetI l yX11_of cX11_of 3 (some .int) 2 0 0 D cA z0 [.ref a0, .int x1, .int x2] S K := by
  refine x_met RX11 (by decide) rfl ?_
  intro p e s m below meth c C hin hV
  have hl := lv_entry ([.ref a0, .int x1, .int x2]) (n := 3) (Nat.le_of_ble_eq_true rfl)
  rw [lg_entry_eq]
  generalize (lg_sl ([.ref a0, .int x1, .int x2]) ++ List.replicate (3 - (lg_sl ([.ref a0, .int x1, .int x2])).length) Slot.unset).toArray = ls at hl ⊢
  have hl : lv_has ls 3 [(0, .ref a0), (1, .int x1), (2, .int x2)] := hl
  obtain ⟨hx, hb, hml, hown, hts, hK, hz, hlk, hr⟩ := id C
  unfold wp_X11_of at hM
  refine lv_aload_n hx hb dX11_of_0 rfl (lv_at hl 0 rfl) ?_
  refine lv_iload_n hx hb dX11_of_1 rfl (lv_at hl 1 rfl) ?_
  have hk1 := hM.1
  have hM := hM.2
  refine x_ci hV (x_runV (As := [.int x1]) (rest := []) C hV mi_X11_isPart wl_X11_98 hk1 (c_X11_isPart hM) ⟨by decide, by decide⟩ rfl hl.1 (Nat.le_of_ble_eq_true rfl) dX11_of_2 ⟨Nat.zero_le _, Nat.zero_le _⟩) (fun r3 S2 H locs hV hM => ?_)
  have hz4 := hM.1
  have hM := hM.2
  refine lv_if_eq (tgt := 27) hx hb dX11_of_5 (by decide) (fun c5 => ?_) (fun c5 => ?_)
  · have hM := ite_t c5 hM
    refine lv_ldc hx hb hown (hts _ wc_X11_102) dX11_of_27 ?_
    exact x_iret C hV hM dX11_of_29
  have hM := ite_f c5 hM
  refine lv_iload_n hx hb dX11_of_8 rfl (lv_at hl 2 rfl) ?_
  refine lv_iconst (v := 0) hx hb dX11_of_9 (by decide) ?_
  refine lv_bipush (v := 6) hx hb dX11_of_10 (by decide) ?_
  refine x_ci hV (x_runS (As := [.int x2, .int 0, .int 6]) (rest := []) C hV ms_X11_in wl_X11_87 (c_X11_in hM) ⟨by decide, by decide⟩ rfl hl.1 (Nat.le_of_ble_eq_true rfl) dX11_of_12 ⟨Nat.zero_le _, Nat.zero_le _⟩) (fun r7 S6 H locs hV hM => ?_)
  have hz8 := hM.1
  have hM := hM.2
  refine lv_if_eq (tgt := 27) hx hb dX11_of_15 (by decide) (fun c9 => ?_) (fun c9 => ?_)
  · have hM := ite_t c9 hM
    refine lv_ldc hx hb hown (hts _ wc_X11_102) dX11_of_27 ?_
    exact x_iret C hV hM dX11_of_29
  have hM := ite_f c9 hM
  refine lv_aload_n hx hb dX11_of_18 rfl (lv_at hl 0 rfl) ?_
  refine lv_iload_n hx hb dX11_of_19 rfl (lv_at hl 1 rfl) ?_
  refine lv_iload_n hx hb dX11_of_20 rfl (lv_at hl 2 rfl) ?_
  have hk10 := hM.1
  have hM := hM.2
  refine x_ci hV (x_runV (As := [.int x1, .int x2]) (rest := []) C hV mi_X11_its wl_X11_94 hk10 (c_X11_its hM) ⟨by decide, by decide⟩ rfl hl.1 (Nat.le_of_ble_eq_true rfl) dX11_of_21 ⟨Nat.zero_le _, Nat.zero_le _⟩) (fun r12 S11 H locs hV hM => ?_)
  refine lv_goto (tgt := 29) hx hb dX11_of_24 (by decide) ?_
  exact x_iret C hV hM dX11_of_29

def wp_X11_older (N : Nat) (S : PS) (a0 : Nat) (x1 : Int32) (x2 : Int32) (x3 : Int32) (K : Int32 → PS → Prop) : Prop := S.K a0 = 12 ∧ wp_X11_in N S x1 0 (S.I 768 a0) (fun r3 S2 => if r3 = 0 then (K (-1) S2) else (wp_X11_isSide N S2 x2 (fun r7 S6 => if r7 = 0 then (K (-1) S6) else (wp_X11_in N S6 x3 (-9999) 9999 (fun r11 S10 => if r11 = 0 then (K (-1) S10) else (S10.K a0 = 12 ∧ wp_X11_addRun N S10 a0 x1 x2 x3 (fun r16 S15 => K r16 S15)))))))
set_option maxHeartbeats 4000000 in
set_option maxRecDepth 100000 in
theorem c_X11_older {l : Launch} {D : DX} {cA : Nat → ClassId} {z0 N : Nat} {S : PS} {a0 : Nat} {x1 : Int32} {x2 : Int32} {x3 : Int32} {K : Int32 → PS → Prop} (hM : wp_X11_older N S a0 x1 x2 x3 K) : MetI l yX11_older cX11_older 4 (some .int) 2 0 0 D cA z0 [.ref a0, .int x1, .int x2, .int x3] S K := by
  refine x_met RX11 (by decide) rfl ?_
  intro p e s m below meth c C hin hV
  have hl := lv_entry ([.ref a0, .int x1, .int x2, .int x3]) (n := 4) (Nat.le_of_ble_eq_true rfl)
  rw [lg_entry_eq]
  generalize (lg_sl ([.ref a0, .int x1, .int x2, .int x3]) ++ List.replicate (4 - (lg_sl ([.ref a0, .int x1, .int x2, .int x3])).length) Slot.unset).toArray = ls at hl ⊢
  have hl : lv_has ls 4 [(0, .ref a0), (1, .int x1), (2, .int x2), (3, .int x3)] := hl
  obtain ⟨hx, hb, hml, hown, hts, hK, hz, hlk, hr⟩ := id C
  unfold wp_X11_older at hM
  refine lv_iload_n hx hb dX11_older_0 rfl (lv_at hl 1 rfl) ?_
  refine lv_iconst (v := 0) hx hb dX11_older_1 (by decide) ?_
  refine lv_aload_n hx hb dX11_older_2 rfl (lv_at hl 0 rfl) ?_
  have hk1 := hM.1
  have hM := hM.2
  refine x_getI C hV wf_X11_103 hk1 dX11_older_3 ?_
  refine x_ci hV (x_runS (As := [.int x1, .int 0, .int (S.I 768 a0)]) (rest := []) C hV ms_X11_in wl_X11_87 (c_X11_in hM) ⟨by decide, by decide⟩ rfl hl.1 (Nat.le_of_ble_eq_true rfl) dX11_older_6 ⟨Nat.zero_le _, Nat.zero_le _⟩) (fun r3 S2 H locs hV hM => ?_)
  have hz4 := hM.1
  have hM := hM.2
  refine lv_if_eq (tgt := 42) hx hb dX11_older_9 (by decide) (fun c5 => ?_) (fun c5 => ?_)
  · have hM := ite_t c5 hM
    refine lv_iconst (v := (-1)) hx hb dX11_older_42 (by decide) ?_
    exact x_iret C hV hM dX11_older_43
  have hM := ite_f c5 hM
  refine lv_iload_n hx hb dX11_older_12 rfl (lv_at hl 2 rfl) ?_
  refine x_ci hV (x_runS (As := [.int x2]) (rest := []) C hV ms_X11_isSide wl_X11_119 (c_X11_isSide hM) ⟨by decide, by decide⟩ rfl hl.1 (Nat.le_of_ble_eq_true rfl) dX11_older_13 ⟨Nat.zero_le _, Nat.zero_le _⟩) (fun r7 S6 H locs hV hM => ?_)
  have hz8 := hM.1
  have hM := hM.2
  refine lv_if_eq (tgt := 42) hx hb dX11_older_16 (by decide) (fun c9 => ?_) (fun c9 => ?_)
  · have hM := ite_t c9 hM
    refine lv_iconst (v := (-1)) hx hb dX11_older_42 (by decide) ?_
    exact x_iret C hV hM dX11_older_43
  have hM := ite_f c9 hM
  refine lv_iload_n hx hb dX11_older_19 rfl (lv_at hl 3 rfl) ?_
  refine lv_sipush (v := (-9999)) hx hb dX11_older_20 (by decide) ?_
  refine lv_sipush (v := 9999) hx hb dX11_older_23 (by decide) ?_
  refine x_ci hV (x_runS (As := [.int x3, .int (-9999), .int 9999]) (rest := []) C hV ms_X11_in wl_X11_87 (c_X11_in hM) ⟨by decide, by decide⟩ rfl hl.1 (Nat.le_of_ble_eq_true rfl) dX11_older_26 ⟨Nat.zero_le _, Nat.zero_le _⟩) (fun r11 S10 H locs hV hM => ?_)
  have hz12 := hM.1
  have hM := hM.2
  refine lv_if_eq (tgt := 42) hx hb dX11_older_29 (by decide) (fun c13 => ?_) (fun c13 => ?_)
  · have hM := ite_t c13 hM
    refine lv_iconst (v := (-1)) hx hb dX11_older_42 (by decide) ?_
    exact x_iret C hV hM dX11_older_43
  have hM := ite_f c13 hM
  refine lv_aload_n hx hb dX11_older_32 rfl (lv_at hl 0 rfl) ?_
  refine lv_iload_n hx hb dX11_older_33 rfl (lv_at hl 1 rfl) ?_
  refine lv_iload_n hx hb dX11_older_34 rfl (lv_at hl 2 rfl) ?_
  refine lv_iload_n hx hb dX11_older_35 rfl (lv_at hl 3 rfl) ?_
  have hk14 := hM.1
  have hM := hM.2
  refine x_ci hV (x_runV (As := [.int x1, .int x2, .int x3]) (rest := []) C hV mi_X11_addRun wl_X11_130 hk14 (c_X11_addRun hM) ⟨by decide, by decide⟩ rfl hl.1 (Nat.le_of_ble_eq_true rfl) dX11_older_36 ⟨Nat.zero_le _, Nat.zero_le _⟩) (fun r16 S15 H locs hV hM => ?_)
  refine lv_goto (tgt := 43) hx hb dX11_older_39 (by decide) ?_
  exact x_iret C hV hM dX11_older_43

def wp_X11_part (N : Nat) (S : PS) (a0 : Nat) (x1 : Int32) (x2 : Int32) (x3 : Int32) (x4 : Int32) (x5 : Int32) (K : Int32 → PS → Prop) : Prop := wp_X11_in N S x1 0 6 (fun r2 S1 => if r2 = 0 then (K (-1) S1) else (wp_X11_in N S1 x2 1 3 (fun r6 S5 => if r6 = 0 then (K (-1) S5) else (wp_X11_in N S5 x3 0 9999 (fun r10 S9 => if r10 = 0 then (K (-1) S9) else (wp_X11_in N S9 x4 0 99 (fun r14 S13 => if r14 = 0 then (K (-1) S13) else (wp_X11_in N S13 x5 1 60 (fun r18 S17 => if r18 = 0 then (K (-1) S17) else (S17.K a0 = 12 ∧ if (S17.I 772 a0) = 10 then (K (-2) S17) else (∀ v23 : Int32, v23 = (9 * (S17.I 772 a0)) → ∃ p24 : Nat, S17.R 773 a0 = some p24 ∧ S17.K p24 = 20 ∧ vp_in v23 (S17.ln p24) ∧ ∀ S27 : PS, S27 = S17.setA p24 v23.toNatClampNeg x1 → ∃ p29 : Nat, S27.R 773 a0 = some p29 ∧ S27.K p29 = 20 ∧ vp_in (v23 + 1) (S27.ln p29) ∧ ∀ S32 : PS, S32 = S27.setA p29 (v23 + 1).toNatClampNeg x2 → ∃ p34 : Nat, S32.R 773 a0 = some p34 ∧ S32.K p34 = 20 ∧ vp_in (v23 + 2) (S32.ln p34) ∧ ∀ S37 : PS, S37 = S32.setA p34 (v23 + 2).toNatClampNeg x3 → ∃ p39 : Nat, S37.R 773 a0 = some p39 ∧ S37.K p39 = 20 ∧ vp_in (v23 + 3) (S37.ln p39) ∧ ∀ S42 : PS, S42 = S37.setA p39 (v23 + 3).toNatClampNeg x4 → ∃ p44 : Nat, S42.R 773 a0 = some p44 ∧ S42.K p44 = 20 ∧ vp_in (v23 + 4) (S42.ln p44) ∧ ∀ S47 : PS, S47 = S42.setA p44 (v23 + 4).toNatClampNeg x5 → ∃ p49 : Nat, S47.R 773 a0 = some p49 ∧ S47.K p49 = 20 ∧ vp_in (v23 + 5) (S47.ln p49) ∧ ∀ S52 : PS, S52 = S47.setA p49 (v23 + 5).toNatClampNeg x3 → ∃ p54 : Nat, S52.R 773 a0 = some p54 ∧ S52.K p54 = 20 ∧ vp_in (v23 + 6) (S52.ln p54) ∧ ∀ S57 : PS, S57 = S52.setA p54 (v23 + 6).toNatClampNeg 0 → ∃ p59 : Nat, S57.R 773 a0 = some p59 ∧ S57.K p59 = 20 ∧ vp_in (v23 + 7) (S57.ln p59) ∧ ∀ S62 : PS, S62 = S57.setA p59 (v23 + 7).toNatClampNeg 0 → ∃ p64 : Nat, S62.R 773 a0 = some p64 ∧ S62.K p64 = 20 ∧ vp_in (v23 + 8) (S62.ln p64) ∧ ∀ S67 : PS, S67 = S62.setA p64 (v23 + 8).toNatClampNeg 0 → ∀ S69 : PS, S69 = S67.setI 772 a0 ((S67.I 772 a0) + 1) → K ((S69.I 772 a0) - 1) S69)))))))))))
set_option maxHeartbeats 4000000 in
set_option maxRecDepth 100000 in
theorem c_X11_part {l : Launch} {D : DX} {cA : Nat → ClassId} {z0 N : Nat} {S : PS} {a0 : Nat} {x1 : Int32} {x2 : Int32} {x3 : Int32} {x4 : Int32} {x5 : Int32} {K : Int32 → PS → Prop} (hM : wp_X11_part N S a0 x1 x2 x3 x4 x5 K) : MetI l yX11_part cX11_part 7 (some .int) 1 0 0 D cA z0 [.ref a0, .int x1, .int x2, .int x3, .int x4, .int x5] S K := by
  refine x_met RX11 (by decide) rfl ?_
  intro p e s m below meth c C hin hV
  have hl := lv_entry ([.ref a0, .int x1, .int x2, .int x3, .int x4, .int x5]) (n := 7) (Nat.le_of_ble_eq_true rfl)
  rw [lg_entry_eq]
  generalize (lg_sl ([.ref a0, .int x1, .int x2, .int x3, .int x4, .int x5]) ++ List.replicate (7 - (lg_sl ([.ref a0, .int x1, .int x2, .int x3, .int x4, .int x5])).length) Slot.unset).toArray = ls at hl ⊢
  have hl : lv_has ls 7 [(0, .ref a0), (1, .int x1), (2, .int x2), (3, .int x3), (4, .int x4), (5, .int x5)] := hl
  obtain ⟨hx, hb, hml, hown, hts, hK, hz, hlk, hr⟩ := id C
  unfold wp_X11_part at hM
  refine lv_iload_n hx hb dX11_part_0 rfl (lv_at hl 1 rfl) ?_
  refine lv_iconst (v := 0) hx hb dX11_part_1 (by decide) ?_
  refine lv_bipush (v := 6) hx hb dX11_part_2 (by decide) ?_
  refine x_ci hV (x_runS (As := [.int x1, .int 0, .int 6]) (rest := []) C hV ms_X11_in wl_X11_87 (c_X11_in hM) ⟨by decide, by decide⟩ rfl hl.1 (Nat.le_of_ble_eq_true rfl) dX11_part_4 ⟨Nat.zero_le _, Nat.zero_le _⟩) (fun r2 S1 H locs hV hM => ?_)
  have hz3 := hM.1
  have hM := hM.2
  refine lv_if_eq (tgt := 52) hx hb dX11_part_7 (by decide) (fun c4 => ?_) (fun c4 => ?_)
  · have hM := ite_t c4 hM
    refine lv_iconst (v := (-1)) hx hb dX11_part_52 (by decide) ?_
    exact x_iret C hV hM dX11_part_53
  have hM := ite_f c4 hM
  refine lv_iload_n hx hb dX11_part_10 rfl (lv_at hl 2 rfl) ?_
  refine lv_iconst (v := 1) hx hb dX11_part_11 (by decide) ?_
  refine lv_iconst (v := 3) hx hb dX11_part_12 (by decide) ?_
  refine x_ci hV (x_runS (As := [.int x2, .int 1, .int 3]) (rest := []) C hV ms_X11_in wl_X11_87 (c_X11_in hM) ⟨by decide, by decide⟩ rfl hl.1 (Nat.le_of_ble_eq_true rfl) dX11_part_13 ⟨Nat.zero_le _, Nat.zero_le _⟩) (fun r6 S5 H locs hV hM => ?_)
  have hz7 := hM.1
  have hM := hM.2
  refine lv_if_eq (tgt := 52) hx hb dX11_part_16 (by decide) (fun c8 => ?_) (fun c8 => ?_)
  · have hM := ite_t c8 hM
    refine lv_iconst (v := (-1)) hx hb dX11_part_52 (by decide) ?_
    exact x_iret C hV hM dX11_part_53
  have hM := ite_f c8 hM
  refine lv_iload_n hx hb dX11_part_19 rfl (lv_at hl 3 rfl) ?_
  refine lv_iconst (v := 0) hx hb dX11_part_20 (by decide) ?_
  refine lv_sipush (v := 9999) hx hb dX11_part_21 (by decide) ?_
  refine x_ci hV (x_runS (As := [.int x3, .int 0, .int 9999]) (rest := []) C hV ms_X11_in wl_X11_87 (c_X11_in hM) ⟨by decide, by decide⟩ rfl hl.1 (Nat.le_of_ble_eq_true rfl) dX11_part_24 ⟨Nat.zero_le _, Nat.zero_le _⟩) (fun r10 S9 H locs hV hM => ?_)
  have hz11 := hM.1
  have hM := hM.2
  refine lv_if_eq (tgt := 52) hx hb dX11_part_27 (by decide) (fun c12 => ?_) (fun c12 => ?_)
  · have hM := ite_t c12 hM
    refine lv_iconst (v := (-1)) hx hb dX11_part_52 (by decide) ?_
    exact x_iret C hV hM dX11_part_53
  have hM := ite_f c12 hM
  refine lv_iload hx hb dX11_part_30 (lv_at hl 4 rfl) ?_
  refine lv_iconst (v := 0) hx hb dX11_part_32 (by decide) ?_
  refine lv_bipush (v := 99) hx hb dX11_part_33 (by decide) ?_
  refine x_ci hV (x_runS (As := [.int x4, .int 0, .int 99]) (rest := []) C hV ms_X11_in wl_X11_87 (c_X11_in hM) ⟨by decide, by decide⟩ rfl hl.1 (Nat.le_of_ble_eq_true rfl) dX11_part_35 ⟨Nat.zero_le _, Nat.zero_le _⟩) (fun r14 S13 H locs hV hM => ?_)
  have hz15 := hM.1
  have hM := hM.2
  refine lv_if_eq (tgt := 52) hx hb dX11_part_38 (by decide) (fun c16 => ?_) (fun c16 => ?_)
  · have hM := ite_t c16 hM
    refine lv_iconst (v := (-1)) hx hb dX11_part_52 (by decide) ?_
    exact x_iret C hV hM dX11_part_53
  have hM := ite_f c16 hM
  refine lv_iload hx hb dX11_part_41 (lv_at hl 5 rfl) ?_
  refine lv_iconst (v := 1) hx hb dX11_part_43 (by decide) ?_
  refine lv_bipush (v := 60) hx hb dX11_part_44 (by decide) ?_
  refine x_ci hV (x_runS (As := [.int x5, .int 1, .int 60]) (rest := []) C hV ms_X11_in wl_X11_87 (c_X11_in hM) ⟨by decide, by decide⟩ rfl hl.1 (Nat.le_of_ble_eq_true rfl) dX11_part_46 ⟨Nat.zero_le _, Nat.zero_le _⟩) (fun r18 S17 H locs hV hM => ?_)
  have hz19 := hM.1
  have hM := hM.2
  refine lv_if_ne (tgt := 54) hx hb dX11_part_49 (by decide) (fun c20 => ?_) (fun c20 => ?_)
  · have hM := ite_f c20 hM
    refine lv_aload_n hx hb dX11_part_54 rfl (lv_at hl 0 rfl) ?_
    have hk21 := hM.1
    have hM := hM.2
    refine x_getI C hV wf_X11_84 hk21 dX11_part_55 ?_
    refine lv_bipush (v := 10) hx hb dX11_part_58 (by decide) ?_
    refine lv_icmp_ne (tgt := 66) hx hb dX11_part_60 (by decide) (fun c22 => ?_) (fun c22 => ?_)
    · have hM := ite_f c22 hM
      refine lv_bipush (v := 9) hx hb dX11_part_66 (by decide) ?_
      refine lv_aload_n hx hb dX11_part_68 rfl (lv_at hl 0 rfl) ?_
      refine x_getI C hV wf_X11_84 hk21 dX11_part_69 ?_
      refine lv_imul hx hb dX11_part_72 ?_
      refine lv_topi (fun v23 ev23 => ?_)
      have hM := hM v23 ev23
      refine lv_istore (lv' := [(6, .int v23), (0, .ref a0), (1, .int x1), (2, .int x2), (3, .int x3), (4, .int x4), (5, .int x5)]) hx hb dX11_part_73 hl (by decide) rfl (fun ls hl => ?_)
      refine lv_aload_n hx hb dX11_part_75 rfl (lv_at hl 1 rfl) ?_
      obtain ⟨p24, hp24, hM⟩ := hM
      refine x_getR C hV wf_X11_13 hk21 hp24 dX11_part_76 ?_
      refine lv_iload hx hb dX11_part_79 (lv_at hl 0 rfl) ?_
      refine lv_iload_n hx hb dX11_part_81 rfl (lv_at hl 2 rfl) ?_
      have hk25 := hM.1
      have hM := hM.2
      have hi26 := hM.1
      have hM := hM.2
      obtain ⟨S27, eS27⟩ : ∃ z : PS, z = S17.setA p24 v23.toNatClampNeg x1 := ⟨_, rfl⟩
      have hM := hM S27 eS27
      refine x_iast C hV hk25 hi26 eS27 dX11_part_82 (fun H locs hV => ?_)
      refine lv_aload_n hx hb dX11_part_83 rfl (lv_at hl 1 rfl) ?_
      have hk28 := kp_A eS27 hk21
      obtain ⟨p29, hp29, hM⟩ := hM
      refine x_getR C hV wf_X11_13 hk28 hp29 dX11_part_84 ?_
      refine lv_iload hx hb dX11_part_87 (lv_at hl 0 rfl) ?_
      refine lv_iconst (v := 1) hx hb dX11_part_89 (by decide) ?_
      refine lv_iadd hx hb dX11_part_90 ?_
      refine lv_iload_n hx hb dX11_part_91 rfl (lv_at hl 3 rfl) ?_
      have hk30 := hM.1
      have hM := hM.2
      have hi31 := hM.1
      have hM := hM.2
      obtain ⟨S32, eS32⟩ : ∃ z : PS, z = S27.setA p29 (v23 + 1).toNatClampNeg x2 := ⟨_, rfl⟩
      have hM := hM S32 eS32
      refine x_iast C hV hk30 hi31 eS32 dX11_part_92 (fun H locs hV => ?_)
      refine lv_aload_n hx hb dX11_part_93 rfl (lv_at hl 1 rfl) ?_
      have hk33 := kp_A eS32 hk28
      obtain ⟨p34, hp34, hM⟩ := hM
      refine x_getR C hV wf_X11_13 hk33 hp34 dX11_part_94 ?_
      refine lv_iload hx hb dX11_part_97 (lv_at hl 0 rfl) ?_
      refine lv_iconst (v := 2) hx hb dX11_part_99 (by decide) ?_
      refine lv_iadd hx hb dX11_part_100 ?_
      refine lv_iload_n hx hb dX11_part_101 rfl (lv_at hl 4 rfl) ?_
      have hk35 := hM.1
      have hM := hM.2
      have hi36 := hM.1
      have hM := hM.2
      obtain ⟨S37, eS37⟩ : ∃ z : PS, z = S32.setA p34 (v23 + 2).toNatClampNeg x3 := ⟨_, rfl⟩
      have hM := hM S37 eS37
      refine x_iast C hV hk35 hi36 eS37 dX11_part_102 (fun H locs hV => ?_)
      refine lv_aload_n hx hb dX11_part_103 rfl (lv_at hl 1 rfl) ?_
      have hk38 := kp_A eS37 hk33
      obtain ⟨p39, hp39, hM⟩ := hM
      refine x_getR C hV wf_X11_13 hk38 hp39 dX11_part_104 ?_
      refine lv_iload hx hb dX11_part_107 (lv_at hl 0 rfl) ?_
      refine lv_iconst (v := 3) hx hb dX11_part_109 (by decide) ?_
      refine lv_iadd hx hb dX11_part_110 ?_
      refine lv_iload hx hb dX11_part_111 (lv_at hl 5 rfl) ?_
      have hk40 := hM.1
      have hM := hM.2
      have hi41 := hM.1
      have hM := hM.2
      obtain ⟨S42, eS42⟩ : ∃ z : PS, z = S37.setA p39 (v23 + 3).toNatClampNeg x4 := ⟨_, rfl⟩
      have hM := hM S42 eS42
      refine x_iast C hV hk40 hi41 eS42 dX11_part_113 (fun H locs hV => ?_)
      refine lv_aload_n hx hb dX11_part_114 rfl (lv_at hl 1 rfl) ?_
      have hk43 := kp_A eS42 hk38
      obtain ⟨p44, hp44, hM⟩ := hM
      refine x_getR C hV wf_X11_13 hk43 hp44 dX11_part_115 ?_
      refine lv_iload hx hb dX11_part_118 (lv_at hl 0 rfl) ?_
      refine lv_iconst (v := 4) hx hb dX11_part_120 (by decide) ?_
      refine lv_iadd hx hb dX11_part_121 ?_
      refine lv_iload hx hb dX11_part_122 (lv_at hl 6 rfl) ?_
      have hk45 := hM.1
      have hM := hM.2
      have hi46 := hM.1
      have hM := hM.2
      obtain ⟨S47, eS47⟩ : ∃ z : PS, z = S42.setA p44 (v23 + 4).toNatClampNeg x5 := ⟨_, rfl⟩
      have hM := hM S47 eS47
      refine x_iast C hV hk45 hi46 eS47 dX11_part_124 (fun H locs hV => ?_)
      refine lv_aload_n hx hb dX11_part_125 rfl (lv_at hl 1 rfl) ?_
      have hk48 := kp_A eS47 hk43
      obtain ⟨p49, hp49, hM⟩ := hM
      refine x_getR C hV wf_X11_13 hk48 hp49 dX11_part_126 ?_
      refine lv_iload hx hb dX11_part_129 (lv_at hl 0 rfl) ?_
      refine lv_iconst (v := 5) hx hb dX11_part_131 (by decide) ?_
      refine lv_iadd hx hb dX11_part_132 ?_
      refine lv_iload_n hx hb dX11_part_133 rfl (lv_at hl 4 rfl) ?_
      have hk50 := hM.1
      have hM := hM.2
      have hi51 := hM.1
      have hM := hM.2
      obtain ⟨S52, eS52⟩ : ∃ z : PS, z = S47.setA p49 (v23 + 5).toNatClampNeg x3 := ⟨_, rfl⟩
      have hM := hM S52 eS52
      refine x_iast C hV hk50 hi51 eS52 dX11_part_134 (fun H locs hV => ?_)
      refine lv_aload_n hx hb dX11_part_135 rfl (lv_at hl 1 rfl) ?_
      have hk53 := kp_A eS52 hk48
      obtain ⟨p54, hp54, hM⟩ := hM
      refine x_getR C hV wf_X11_13 hk53 hp54 dX11_part_136 ?_
      refine lv_iload hx hb dX11_part_139 (lv_at hl 0 rfl) ?_
      refine lv_bipush (v := 6) hx hb dX11_part_141 (by decide) ?_
      refine lv_iadd hx hb dX11_part_143 ?_
      refine lv_iconst (v := 0) hx hb dX11_part_144 (by decide) ?_
      have hk55 := hM.1
      have hM := hM.2
      have hi56 := hM.1
      have hM := hM.2
      obtain ⟨S57, eS57⟩ : ∃ z : PS, z = S52.setA p54 (v23 + 6).toNatClampNeg 0 := ⟨_, rfl⟩
      have hM := hM S57 eS57
      refine x_iast C hV hk55 hi56 eS57 dX11_part_145 (fun H locs hV => ?_)
      refine lv_aload_n hx hb dX11_part_146 rfl (lv_at hl 1 rfl) ?_
      have hk58 := kp_A eS57 hk53
      obtain ⟨p59, hp59, hM⟩ := hM
      refine x_getR C hV wf_X11_13 hk58 hp59 dX11_part_147 ?_
      refine lv_iload hx hb dX11_part_150 (lv_at hl 0 rfl) ?_
      refine lv_bipush (v := 7) hx hb dX11_part_152 (by decide) ?_
      refine lv_iadd hx hb dX11_part_154 ?_
      refine lv_iconst (v := 0) hx hb dX11_part_155 (by decide) ?_
      have hk60 := hM.1
      have hM := hM.2
      have hi61 := hM.1
      have hM := hM.2
      obtain ⟨S62, eS62⟩ : ∃ z : PS, z = S57.setA p59 (v23 + 7).toNatClampNeg 0 := ⟨_, rfl⟩
      have hM := hM S62 eS62
      refine x_iast C hV hk60 hi61 eS62 dX11_part_156 (fun H locs hV => ?_)
      refine lv_aload_n hx hb dX11_part_157 rfl (lv_at hl 1 rfl) ?_
      have hk63 := kp_A eS62 hk58
      obtain ⟨p64, hp64, hM⟩ := hM
      refine x_getR C hV wf_X11_13 hk63 hp64 dX11_part_158 ?_
      refine lv_iload hx hb dX11_part_161 (lv_at hl 0 rfl) ?_
      refine lv_bipush (v := 8) hx hb dX11_part_163 (by decide) ?_
      refine lv_iadd hx hb dX11_part_165 ?_
      refine lv_iconst (v := 0) hx hb dX11_part_166 (by decide) ?_
      have hk65 := hM.1
      have hM := hM.2
      have hi66 := hM.1
      have hM := hM.2
      obtain ⟨S67, eS67⟩ : ∃ z : PS, z = S62.setA p64 (v23 + 8).toNatClampNeg 0 := ⟨_, rfl⟩
      have hM := hM S67 eS67
      refine x_iast C hV hk65 hi66 eS67 dX11_part_167 (fun H locs hV => ?_)
      refine lv_aload_n hx hb dX11_part_168 rfl (lv_at hl 1 rfl) ?_
      refine lv_dup hx hb dX11_part_169 rfl ?_
      have hk68 := kp_A eS67 hk63
      refine x_getI C hV wf_X11_84 hk68 dX11_part_170 ?_
      refine lv_iconst (v := 1) hx hb dX11_part_173 (by decide) ?_
      refine lv_iadd hx hb dX11_part_174 ?_
      obtain ⟨S69, eS69⟩ : ∃ z : PS, z = S67.setI 772 a0 ((S67.I 772 a0) + 1) := ⟨_, rfl⟩
      have hM := hM S69 eS69
      refine x_putI C hV wp_X11_84 hk68 ⟨rfl, rfl⟩ eS69 dX11_part_175 (fun H locs hV => ?_)
      refine lv_aload_n hx hb dX11_part_178 rfl (lv_at hl 1 rfl) ?_
      have hk70 := kp_I eS69 hk68
      refine x_getI C hV wf_X11_84 hk70 dX11_part_179 ?_
      refine lv_iconst (v := 1) hx hb dX11_part_182 (by decide) ?_
      refine lv_isub hx hb dX11_part_183 ?_
      exact x_iret C hV hM dX11_part_184
    have hM := ite_t c22 hM
    refine lv_bipush (v := (-2)) hx hb dX11_part_63 (by decide) ?_
    exact x_iret C hV hM dX11_part_65
  have hM := ite_t c20 hM
  refine lv_iconst (v := (-1)) hx hb dX11_part_52 (by decide) ?_
  exact x_iret C hV hM dX11_part_53

def wq_X11_prove_18 (N : Nat) (K : Int32 → PS → Prop) : Nat → PS → Nat → Int32 → Int32 → Int32 → Prop
  | 0, _, _, _, _, _ => False
  | n + 1, S, a0, x1, x2, x3 => S.K a0 = 12 ∧ if (S.I 772 a0) ≤ x3 then (K (S.I 805 a0) S) else (wp_X11_isOn N S a0 x3 x1 (fun r10 S9 => if r10 = 0 then (wq_X11_prove_18 N K n S9 a0 x1 x2 (x3 + 1)) else (S9.K a0 = 12 ∧ wp_X11_lacks N S9 a0 x3 (fun r15 S14 => ∀ v16 : Int32, v16 = (x2 + r15) → S14.K a0 = 12 ∧ ∃ p18 : Nat, S14.R 804 a0 = some p18 ∧ S14.K p18 = 20 ∧ vp_in (3 * (S14.I 805 a0)) (S14.ln p18) ∧ ∀ S21 : PS, S21 = S14.setA p18 (3 * (S14.I 805 a0)).toNatClampNeg x3 → ∃ p23 : Nat, S21.R 804 a0 = some p23 ∧ wp_X11_lacks N S21 a0 x3 (fun r25 S24 => S24.K p23 = 20 ∧ vp_in ((3 * (S21.I 805 a0)) + 1) (S24.ln p23) ∧ ∀ S28 : PS, S28 = S24.setA p23 ((3 * (S21.I 805 a0)) + 1).toNatClampNeg r25 → S28.K a0 = 12 ∧ ∃ p30 : Nat, S28.R 804 a0 = some p30 ∧ S28.K p30 = 20 ∧ vp_in ((3 * (S28.I 805 a0)) + 2) (S28.ln p30) ∧ ∀ S33 : PS, S33 = S28.setA p30 ((3 * (S28.I 805 a0)) + 2).toNatClampNeg v16 → ∀ S35 : PS, S35 = S33.setI 805 a0 ((S33.I 805 a0) + 1) → wq_X11_prove_18 N K n S35 a0 x1 v16 (x3 + 1))))))
def wp_X11_prove (N : Nat) (S : PS) (a0 : Nat) (x1 : Int32) (K : Int32 → PS → Prop) : Prop := wp_X11_isSide N S x1 (fun r2 S1 => if r2 = 0 then (K (-1) S1) else (S1.K a0 = 12 ∧ ∀ S6 : PS, S6 = S1.setI 805 a0 0 → wq_X11_prove_18 N K N S6 a0 x1 0 0))
set_option maxHeartbeats 4000000 in
set_option maxRecDepth 100000 in
theorem tq_X11_prove_18 {p : Program} {l : Launch} {e : Env} {s : State} {m : MethodId} {args : Array Value} {below : List Frame} {meth : Method} {c : Code} {D : DX} {cA : Nat → ClassId} {z0 N : Nat} {K : Int32 → PS → Prop} (C : CX p s m args meth c cX11_prove 4 RX11 (some .int) D cA z0) : ∀ (n : Nat) (S : PS) (a0 : Nat) (x1 : Int32) (x2 : Int32) (x3 : Int32) (H : Heap) (locs : List Loc) (ls : Array Slot), wq_X11_prove_18 N K n S a0 x1 x2 x3 → XV D cA z0 s S H locs → lv_has ls 4 [(0, .ref a0), (1, .int x1), (2, .int x2), (3, .int x3)] → W p l e (rmd 3 0 0) s m args below meth c H locs 0 0 (MQ below (va_Qi K (XK D cA z0) (zA z0)) args s 0 0 (zA z0)) (F0 m 18 ls []) := by
  obtain ⟨hx, hb, hml, hown, hts, hK, hz, hlk, hr⟩ := id C
  intro n
  induction n with
  | zero => intro S a0 x1 x2 x3 H locs ls hM; exact absurd hM id
  | succ n ih =>
    intro S a0 x1 x2 x3 H locs ls hM hV hl
    rw [wq_X11_prove_18.eq_2] at hM
    refine lv_iload_n hx hb dX11_prove_18 rfl (lv_at hl 3 rfl) ?_
    refine lv_aload_n hx hb dX11_prove_19 rfl (lv_at hl 0 rfl) ?_
    have hk7 := hM.1
    have hM := hM.2
    refine x_getI C hV wf_X11_84 hk7 dX11_prove_20 ?_
    refine lv_icmp_ge (tgt := 103) hx hb dX11_prove_23 (by decide) (fun c8 => ?_) (fun c8 => ?_)
    · have hM := ite_t c8 hM
      refine lv_aload_n hx hb dX11_prove_103 rfl (lv_at hl 0 rfl) ?_
      refine x_getI C hV wf_X11_382 hk7 dX11_prove_104 ?_
      exact x_iret C hV hM dX11_prove_107
    have hM := ite_f c8 hM
    refine lv_aload_n hx hb dX11_prove_26 rfl (lv_at hl 0 rfl) ?_
    refine lv_iload_n hx hb dX11_prove_27 rfl (lv_at hl 3 rfl) ?_
    refine lv_iload_n hx hb dX11_prove_28 rfl (lv_at hl 1 rfl) ?_
    refine x_ci hV (x_runV (As := [.int x3, .int x1]) (rest := []) C hV mi_X11_isOn wl_X11_123 hk7 (c_X11_isOn hM) ⟨by decide, by decide⟩ rfl hl.1 (Nat.le_of_ble_eq_true rfl) dX11_prove_29 ⟨Nat.zero_le _, Nat.zero_le _⟩) (fun r10 S9 H locs hV hM => ?_)
    have hz11 := hM.1
    have hM := hM.2
    refine lv_if_eq (tgt := 97) hx hb dX11_prove_32 (by decide) (fun c12 => ?_) (fun c12 => ?_)
    · have hM := ite_t c12 hM
      refine lv_iinc (v := (x3 + 1)) (lv' := [(3, .int (x3 + 1)), (0, .ref a0), (1, .int x1), (2, .int x2)]) hx hb dX11_prove_97 hl (k := 3) rfl rfl (by decide) rfl (fun ls hl => ?_)
      refine lv_goto (tgt := 18) hx hb dX11_prove_100 (by decide) ?_
      exact ih _ _ _ _ _ _ _ _ hM hV (lv_sub hl [1, 2, 3, 0] rfl)
    have hM := ite_f c12 hM
    refine lv_iload_n hx hb dX11_prove_35 rfl (lv_at hl 2 rfl) ?_
    refine lv_aload_n hx hb dX11_prove_36 rfl (lv_at hl 0 rfl) ?_
    refine lv_iload_n hx hb dX11_prove_37 rfl (lv_at hl 3 rfl) ?_
    have hk13 := hM.1
    have hM := hM.2
    refine x_ci hV (x_runV (As := [.int x3]) (rest := [.int x2]) C hV mi_X11_lacks wl_X11_127 hk13 (c_X11_lacks hM) ⟨by decide, by decide⟩ rfl hl.1 (Nat.le_of_ble_eq_true rfl) dX11_prove_38 ⟨Nat.zero_le _, Nat.zero_le _⟩) (fun r15 S14 H locs hV hM => ?_)
    refine lv_iadd hx hb dX11_prove_41 ?_
    refine lv_topi (fun v16 ev16 => ?_)
    have hM := hM v16 ev16
    refine lv_istore_n (lv' := [(2, .int v16), (0, .ref a0), (1, .int x1), (3, .int x3)]) hx hb dX11_prove_42 rfl hl (by decide) rfl (fun ls hl => ?_)
    refine lv_aload_n hx hb dX11_prove_43 rfl (lv_at hl 1 rfl) ?_
    have hk17 := hM.1
    have hM := hM.2
    obtain ⟨p18, hp18, hM⟩ := hM
    refine x_getR C hV wf_X11_53 hk17 hp18 dX11_prove_44 ?_
    refine lv_iconst (v := 3) hx hb dX11_prove_47 (by decide) ?_
    refine lv_aload_n hx hb dX11_prove_48 rfl (lv_at hl 1 rfl) ?_
    refine x_getI C hV wf_X11_382 hk17 dX11_prove_49 ?_
    refine lv_imul hx hb dX11_prove_52 ?_
    refine lv_iload_n hx hb dX11_prove_53 rfl (lv_at hl 3 rfl) ?_
    have hk19 := hM.1
    have hM := hM.2
    have hi20 := hM.1
    have hM := hM.2
    obtain ⟨S21, eS21⟩ : ∃ z : PS, z = S14.setA p18 (3 * (S14.I 805 a0)).toNatClampNeg x3 := ⟨_, rfl⟩
    have hM := hM S21 eS21
    refine x_iast C hV hk19 hi20 eS21 dX11_prove_54 (fun H locs hV => ?_)
    refine lv_aload_n hx hb dX11_prove_55 rfl (lv_at hl 1 rfl) ?_
    have hk22 := kp_A eS21 hk17
    obtain ⟨p23, hp23, hM⟩ := hM
    refine x_getR C hV wf_X11_53 hk22 hp23 dX11_prove_56 ?_
    refine lv_iconst (v := 3) hx hb dX11_prove_59 (by decide) ?_
    refine lv_aload_n hx hb dX11_prove_60 rfl (lv_at hl 1 rfl) ?_
    refine x_getI C hV wf_X11_382 hk22 dX11_prove_61 ?_
    refine lv_imul hx hb dX11_prove_64 ?_
    refine lv_iconst (v := 1) hx hb dX11_prove_65 (by decide) ?_
    refine lv_iadd hx hb dX11_prove_66 ?_
    refine lv_aload_n hx hb dX11_prove_67 rfl (lv_at hl 1 rfl) ?_
    refine lv_iload_n hx hb dX11_prove_68 rfl (lv_at hl 3 rfl) ?_
    refine x_ci hV (x_runV (As := [.int x3]) (rest := [.int ((3 * (S21.I 805 a0)) + 1), .ref p23]) C hV mi_X11_lacks wl_X11_127 hk22 (c_X11_lacks hM) ⟨by decide, by decide⟩ rfl hl.1 (Nat.le_of_ble_eq_true rfl) dX11_prove_69 ⟨Nat.zero_le _, Nat.zero_le _⟩) (fun r25 S24 H locs hV hM => ?_)
    have hk26 := hM.1
    have hM := hM.2
    have hi27 := hM.1
    have hM := hM.2
    obtain ⟨S28, eS28⟩ : ∃ z : PS, z = S24.setA p23 ((3 * (S21.I 805 a0)) + 1).toNatClampNeg r25 := ⟨_, rfl⟩
    have hM := hM S28 eS28
    refine x_iast C hV hk26 hi27 eS28 dX11_prove_72 (fun H locs hV => ?_)
    refine lv_aload_n hx hb dX11_prove_73 rfl (lv_at hl 1 rfl) ?_
    have hk29 := hM.1
    have hM := hM.2
    obtain ⟨p30, hp30, hM⟩ := hM
    refine x_getR C hV wf_X11_53 hk29 hp30 dX11_prove_74 ?_
    refine lv_iconst (v := 3) hx hb dX11_prove_77 (by decide) ?_
    refine lv_aload_n hx hb dX11_prove_78 rfl (lv_at hl 1 rfl) ?_
    refine x_getI C hV wf_X11_382 hk29 dX11_prove_79 ?_
    refine lv_imul hx hb dX11_prove_82 ?_
    refine lv_iconst (v := 2) hx hb dX11_prove_83 (by decide) ?_
    refine lv_iadd hx hb dX11_prove_84 ?_
    refine lv_iload_n hx hb dX11_prove_85 rfl (lv_at hl 0 rfl) ?_
    have hk31 := hM.1
    have hM := hM.2
    have hi32 := hM.1
    have hM := hM.2
    obtain ⟨S33, eS33⟩ : ∃ z : PS, z = S28.setA p30 ((3 * (S28.I 805 a0)) + 2).toNatClampNeg v16 := ⟨_, rfl⟩
    have hM := hM S33 eS33
    refine x_iast C hV hk31 hi32 eS33 dX11_prove_86 (fun H locs hV => ?_)
    refine lv_aload_n hx hb dX11_prove_87 rfl (lv_at hl 1 rfl) ?_
    refine lv_dup hx hb dX11_prove_88 rfl ?_
    have hk34 := kp_A eS33 hk29
    refine x_getI C hV wf_X11_382 hk34 dX11_prove_89 ?_
    refine lv_iconst (v := 1) hx hb dX11_prove_92 (by decide) ?_
    refine lv_iadd hx hb dX11_prove_93 ?_
    obtain ⟨S35, eS35⟩ : ∃ z : PS, z = S33.setI 805 a0 ((S33.I 805 a0) + 1) := ⟨_, rfl⟩
    have hM := hM S35 eS35
    refine x_putI C hV wp_X11_382 hk34 ⟨rfl, rfl⟩ eS35 dX11_prove_94 (fun H locs hV => ?_)
    refine lv_iinc (v := (x3 + 1)) (lv' := [(3, .int (x3 + 1)), (2, .int v16), (0, .ref a0), (1, .int x1)]) hx hb dX11_prove_97 hl (k := 3) rfl rfl (by decide) rfl (fun ls hl => ?_)
    refine lv_goto (tgt := 18) hx hb dX11_prove_100 (by decide) ?_
    exact ih _ _ _ _ _ _ _ _ hM hV (lv_sub hl [2, 3, 1, 0] rfl)
set_option maxHeartbeats 4000000 in
set_option maxRecDepth 100000 in
theorem c_X11_prove {l : Launch} {D : DX} {cA : Nat → ClassId} {z0 N : Nat} {S : PS} {a0 : Nat} {x1 : Int32} {K : Int32 → PS → Prop} (hM : wp_X11_prove N S a0 x1 K) : MetI l yX11_prove cX11_prove 4 (some .int) 3 0 0 D cA z0 [.ref a0, .int x1] S K := by
  refine x_met RX11 (by decide) rfl ?_
  intro p e s m below meth c C hin hV
  have hl := lv_entry ([.ref a0, .int x1]) (n := 4) (Nat.le_of_ble_eq_true rfl)
  rw [lg_entry_eq]
  generalize (lg_sl ([.ref a0, .int x1]) ++ List.replicate (4 - (lg_sl ([.ref a0, .int x1])).length) Slot.unset).toArray = ls at hl ⊢
  have hl : lv_has ls 4 [(0, .ref a0), (1, .int x1)] := hl
  obtain ⟨hx, hb, hml, hown, hts, hK, hz, hlk, hr⟩ := id C
  unfold wp_X11_prove at hM
  refine lv_iload_n hx hb dX11_prove_0 rfl (lv_at hl 1 rfl) ?_
  refine x_ci hV (x_runS (As := [.int x1]) (rest := []) C hV ms_X11_isSide wl_X11_119 (c_X11_isSide hM) ⟨by decide, by decide⟩ rfl hl.1 (Nat.le_of_ble_eq_true rfl) dX11_prove_1 ⟨Nat.zero_le _, Nat.zero_le _⟩) (fun r2 S1 H locs hV hM => ?_)
  have hz3 := hM.1
  have hM := hM.2
  refine lv_if_ne (tgt := 9) hx hb dX11_prove_4 (by decide) (fun c4 => ?_) (fun c4 => ?_)
  · have hM := ite_f c4 hM
    refine lv_aload_n hx hb dX11_prove_9 rfl (lv_at hl 0 rfl) ?_
    refine lv_iconst (v := 0) hx hb dX11_prove_10 (by decide) ?_
    have hk5 := hM.1
    have hM := hM.2
    obtain ⟨S6, eS6⟩ : ∃ z : PS, z = S1.setI 805 a0 0 := ⟨_, rfl⟩
    have hM := hM S6 eS6
    refine x_putI C hV wp_X11_382 hk5 ⟨rfl, rfl⟩ eS6 dX11_prove_11 (fun H locs hV => ?_)
    refine lv_iconst (v := 0) hx hb dX11_prove_14 (by decide) ?_
    refine lv_istore_n (lv' := [(2, .int 0), (0, .ref a0), (1, .int x1)]) hx hb dX11_prove_15 rfl hl (by decide) rfl (fun ls hl => ?_)
    refine lv_iconst (v := 0) hx hb dX11_prove_16 (by decide) ?_
    refine lv_istore_n (lv' := [(3, .int 0), (2, .int 0), (0, .ref a0), (1, .int x1)]) hx hb dX11_prove_17 rfl hl (by decide) rfl (fun ls hl => ?_)
    exact tq_X11_prove_18 C N _ _ _ _ _ _ _ _ hM hV (lv_sub hl [2, 3, 1, 0] rfl)
  have hM := ite_t c4 hM
  refine lv_iconst (v := (-1)) hx hb dX11_prove_7 (by decide) ?_
  exact x_iret C hV hM dX11_prove_8

def wq_X11_put_83 (N : Nat) (K : Int32 → PS → Prop) (S : PS) (b0 : Nat) (t1 : Int32) (u2 : Int64) : Prop := S.K b0 = 22 ∧ vp_in t1 (S.ln b0) ∧ ∀ S29 : PS, S29 = S.setB b0 t1.toNatClampNeg u2 → K 1 S29
def wp_X11_put (N : Nat) (S : PS) (a0 : Nat) (x1 : Int32) (x2 : Int32) (x3 : Int32) (K : Int32 → PS → Prop) : Prop := wp_X11_isShelf N S x1 (fun r2 S1 => if r2 = 0 then (K (-1) S1) else (S1.K a0 = 12 ∧ ∃ p6 : Nat, S1.R 806 a0 = some p6 ∧ S1.K p6 = 20 ∧ vp_in x1 (S1.ln p6) ∧ if 0 ≤ (S1.A p6 x1.toNatClampNeg) then (∃ p10 : Nat, S1.R 807 a0 = some p10 ∧ S1.K p10 = 20 ∧ vp_in x1 (S1.ln p10) ∧ wp_X11_in N S1 x2 0 ((S1.A p10 x1.toNatClampNeg) - 1) (fun r14 S13 => if r14 = 0 then (K (-12) S13) else (S13.K a0 = 12 ∧ ∃ p18 : Nat, S13.R 808 a0 = some p18 ∧ ∃ p19 : Nat, S13.R 806 a0 = some p19 ∧ S13.K p19 = 20 ∧ vp_in x1 (S13.ln p19) ∧ if (S13.A p19 x1.toNatClampNeg) = 0 then (wq_X11_put_83 N K S13 p18 ((40 * x1) + x2) x3.toInt8.toInt32.toInt64) else (∃ p23 : Nat, S13.R 806 a0 = some p23 ∧ S13.K p23 = 20 ∧ vp_in x1 (S13.ln p23) ∧ if (S13.A p23 x1.toNatClampNeg) = 1 then (wq_X11_put_83 N K S13 p18 ((40 * x1) + x2) x3.toInt16.toInt32.toInt64) else (wq_X11_put_83 N K S13 p18 ((40 * x1) + x2) x3.toInt64))))) else (K (-11) S1)))
set_option maxHeartbeats 4000000 in
set_option maxRecDepth 100000 in
theorem tq_X11_put_83 {p : Program} {l : Launch} {e : Env} {s : State} {m : MethodId} {args : Array Value} {below : List Frame} {meth : Method} {c : Code} {D : DX} {cA : Nat → ClassId} {z0 N : Nat} {K : Int32 → PS → Prop} (C : CX p s m args meth c cX11_put 4 RX11 (some .int) D cA z0) : ∀ (S : PS) (b0 : Nat) (t1 : Int32) (u2 : Int64) (H : Heap) (locs : List Loc) (ls : Array Slot), wq_X11_put_83 N K S b0 t1 u2 → XV D cA z0 s S H locs → lv_has ls 4 [] → W p l e (rmd 2 0 0) s m args below meth c H locs 0 0 (MQ below (va_Qi K (XK D cA z0) (zA z0)) args s 0 0 (zA z0)) (F0 m 83 ls [.long u2, .int t1, .ref b0]) := by
  obtain ⟨hx, hb, hml, hown, hts, hK, hz, hlk, hr⟩ := id C
  intro S b0 t1 u2 H locs ls hM hV hl
  unfold wq_X11_put_83 at hM
  have hk27 := hM.1
  have hM := hM.2
  have hi28 := hM.1
  have hM := hM.2
  obtain ⟨S29, eS29⟩ : ∃ z : PS, z = S.setB b0 t1.toNatClampNeg u2 := ⟨_, rfl⟩
  have hM := hM S29 eS29
  refine x_last C hV hk27 hi28 eS29 dX11_put_83 (fun H locs hV => ?_)
  refine lv_iconst (v := 1) hx hb dX11_put_84 (by decide) ?_
  exact x_iret C hV hM dX11_put_85
set_option maxHeartbeats 4000000 in
set_option maxRecDepth 100000 in
theorem c_X11_put {l : Launch} {D : DX} {cA : Nat → ClassId} {z0 N : Nat} {S : PS} {a0 : Nat} {x1 : Int32} {x2 : Int32} {x3 : Int32} {K : Int32 → PS → Prop} (hM : wp_X11_put N S a0 x1 x2 x3 K) : MetI l yX11_put cX11_put 4 (some .int) 2 0 0 D cA z0 [.ref a0, .int x1, .int x2, .int x3] S K := by
  refine x_met RX11 (by decide) rfl ?_
  intro p e s m below meth c C hin hV
  have hl := lv_entry ([.ref a0, .int x1, .int x2, .int x3]) (n := 4) (Nat.le_of_ble_eq_true rfl)
  rw [lg_entry_eq]
  generalize (lg_sl ([.ref a0, .int x1, .int x2, .int x3]) ++ List.replicate (4 - (lg_sl ([.ref a0, .int x1, .int x2, .int x3])).length) Slot.unset).toArray = ls at hl ⊢
  have hl : lv_has ls 4 [(0, .ref a0), (1, .int x1), (2, .int x2), (3, .int x3)] := hl
  obtain ⟨hx, hb, hml, hown, hts, hK, hz, hlk, hr⟩ := id C
  unfold wp_X11_put at hM
  refine lv_iload_n hx hb dX11_put_0 rfl (lv_at hl 1 rfl) ?_
  refine x_ci hV (x_runS (As := [.int x1]) (rest := []) C hV ms_X11_isShelf wl_X11_388 (c_X11_isShelf hM) ⟨by decide, by decide⟩ rfl hl.1 (Nat.le_of_ble_eq_true rfl) dX11_put_1 ⟨Nat.zero_le _, Nat.zero_le _⟩) (fun r2 S1 H locs hV hM => ?_)
  have hz3 := hM.1
  have hM := hM.2
  refine lv_if_ne (tgt := 9) hx hb dX11_put_4 (by decide) (fun c4 => ?_) (fun c4 => ?_)
  · have hM := ite_f c4 hM
    refine lv_aload_n hx hb dX11_put_9 rfl (lv_at hl 0 rfl) ?_
    have hk5 := hM.1
    have hM := hM.2
    obtain ⟨p6, hp6, hM⟩ := hM
    refine x_getR C hV wf_X11_56 hk5 hp6 dX11_put_10 ?_
    refine lv_iload_n hx hb dX11_put_13 rfl (lv_at hl 1 rfl) ?_
    have hk7 := hM.1
    have hM := hM.2
    have hi8 := hM.1
    have hM := hM.2
    refine x_iald C hV hk7 hi8 dX11_put_14 ?_
    refine lv_if_ge (tgt := 21) hx hb dX11_put_15 (by decide) (fun c9 => ?_) (fun c9 => ?_)
    · have hM := ite_t c9 hM
      refine lv_iload_n hx hb dX11_put_21 rfl (lv_at hl 2 rfl) ?_
      refine lv_iconst (v := 0) hx hb dX11_put_22 (by decide) ?_
      refine lv_aload_n hx hb dX11_put_23 rfl (lv_at hl 0 rfl) ?_
      obtain ⟨p10, hp10, hM⟩ := hM
      refine x_getR C hV wf_X11_59 hk5 hp10 dX11_put_24 ?_
      refine lv_iload_n hx hb dX11_put_27 rfl (lv_at hl 1 rfl) ?_
      have hk11 := hM.1
      have hM := hM.2
      have hi12 := hM.1
      have hM := hM.2
      refine x_iald C hV hk11 hi12 dX11_put_28 ?_
      refine lv_iconst (v := 1) hx hb dX11_put_29 (by decide) ?_
      refine lv_isub hx hb dX11_put_30 ?_
      refine x_ci hV (x_runS (As := [.int x2, .int 0, .int ((S1.A p10 x1.toNatClampNeg) - 1)]) (rest := []) C hV ms_X11_in wl_X11_87 (c_X11_in hM) ⟨by decide, by decide⟩ rfl hl.1 (Nat.le_of_ble_eq_true rfl) dX11_put_31 ⟨Nat.zero_le _, Nat.zero_le _⟩) (fun r14 S13 H locs hV hM => ?_)
      have hz15 := hM.1
      have hM := hM.2
      refine lv_if_ne (tgt := 40) hx hb dX11_put_34 (by decide) (fun c16 => ?_) (fun c16 => ?_)
      · have hM := ite_f c16 hM
        refine lv_aload_n hx hb dX11_put_40 rfl (lv_at hl 0 rfl) ?_
        have hk17 := hM.1
        have hM := hM.2
        obtain ⟨p18, hp18, hM⟩ := hM
        refine x_getR C hV wf_X11_62 hk17 hp18 dX11_put_41 ?_
        refine lv_bipush (v := 40) hx hb dX11_put_44 (by decide) ?_
        refine lv_iload_n hx hb dX11_put_46 rfl (lv_at hl 1 rfl) ?_
        refine lv_imul hx hb dX11_put_47 ?_
        refine lv_iload_n hx hb dX11_put_48 rfl (lv_at hl 2 rfl) ?_
        refine lv_iadd hx hb dX11_put_49 ?_
        refine lv_aload_n hx hb dX11_put_50 rfl (lv_at hl 0 rfl) ?_
        obtain ⟨p19, hp19, hM⟩ := hM
        refine x_getR C hV wf_X11_56 hk17 hp19 dX11_put_51 ?_
        refine lv_iload_n hx hb dX11_put_54 rfl (lv_at hl 1 rfl) ?_
        have hk20 := hM.1
        have hM := hM.2
        have hi21 := hM.1
        have hM := hM.2
        refine x_iald C hV hk20 hi21 dX11_put_55 ?_
        refine lv_if_ne (tgt := 65) hx hb dX11_put_56 (by decide) (fun c22 => ?_) (fun c22 => ?_)
        · have hM := ite_f c22 hM
          refine lv_aload_n hx hb dX11_put_65 rfl (lv_at hl 0 rfl) ?_
          obtain ⟨p23, hp23, hM⟩ := hM
          refine x_getR C hV wf_X11_56 hk17 hp23 dX11_put_66 ?_
          refine lv_iload_n hx hb dX11_put_69 rfl (lv_at hl 1 rfl) ?_
          have hk24 := hM.1
          have hM := hM.2
          have hi25 := hM.1
          have hM := hM.2
          refine x_iald C hV hk24 hi25 dX11_put_70 ?_
          refine lv_iconst (v := 1) hx hb dX11_put_71 (by decide) ?_
          refine lv_icmp_ne (tgt := 81) hx hb dX11_put_72 (by decide) (fun c26 => ?_) (fun c26 => ?_)
          · have hM := ite_f c26 hM
            refine lv_iload_n hx hb dX11_put_81 rfl (lv_at hl 3 rfl) ?_
            refine lv_i2l hx hb dX11_put_82 rfl ?_
            exact tq_X11_put_83 C _ _ _ _ _ _ _ hM hV (lv_sub hl [] rfl)
          have hM := ite_t c26 hM
          refine lv_iload_n hx hb dX11_put_75 rfl (lv_at hl 3 rfl) ?_
          refine lv_i2s hx hb dX11_put_76 rfl ?_
          refine lv_i2l hx hb dX11_put_77 rfl ?_
          refine lv_goto (tgt := 83) hx hb dX11_put_78 (by decide) ?_
          exact tq_X11_put_83 C _ _ _ _ _ _ _ hM hV (lv_sub hl [] rfl)
        have hM := ite_t c22 hM
        refine lv_iload_n hx hb dX11_put_59 rfl (lv_at hl 3 rfl) ?_
        refine lv_i2b hx hb dX11_put_60 rfl ?_
        refine lv_i2l hx hb dX11_put_61 rfl ?_
        refine lv_goto (tgt := 83) hx hb dX11_put_62 (by decide) ?_
        exact tq_X11_put_83 C _ _ _ _ _ _ _ hM hV (lv_sub hl [] rfl)
      have hM := ite_t c16 hM
      refine lv_bipush (v := (-12)) hx hb dX11_put_37 (by decide) ?_
      exact x_iret C hV hM dX11_put_39
    have hM := ite_f c9 hM
    refine lv_bipush (v := (-11)) hx hb dX11_put_18 (by decide) ?_
    exact x_iret C hV hM dX11_put_20
  have hM := ite_t c4 hM
  refine lv_iconst (v := (-1)) hx hb dX11_put_7 (by decide) ?_
  exact x_iret C hV hM dX11_put_8

def wp_X11_ran (N : Nat) (S : PS) (a0 : Nat) (x1 : Int32) (x2 : Int32) (K : Int32 → PS → Prop) : Prop := S.K a0 = 12 ∧ wp_X11_in N S x1 0 ((S.I 774 a0) - 1) (fun r3 S2 => if r3 = 0 then (K (-2147483648) S2) else (wp_X11_in N S2 x2 0 2 (fun r7 S6 => if r7 = 0 then (K (-2147483648) S6) else (S6.K a0 = 12 ∧ ∃ p11 : Nat, S6.R 775 a0 = some p11 ∧ S6.K p11 = 20 ∧ vp_in ((3 * x1) + x2) (S6.ln p11) ∧ K (S6.A p11 ((3 * x1) + x2).toNatClampNeg) S6))))
set_option maxHeartbeats 4000000 in
set_option maxRecDepth 100000 in
theorem c_X11_ran {l : Launch} {D : DX} {cA : Nat → ClassId} {z0 N : Nat} {S : PS} {a0 : Nat} {x1 : Int32} {x2 : Int32} {K : Int32 → PS → Prop} (hM : wp_X11_ran N S a0 x1 x2 K) : MetI l yX11_ran cX11_ran 3 (some .int) 1 0 0 D cA z0 [.ref a0, .int x1, .int x2] S K := by
  refine x_met RX11 (by decide) rfl ?_
  intro p e s m below meth c C hin hV
  have hl := lv_entry ([.ref a0, .int x1, .int x2]) (n := 3) (Nat.le_of_ble_eq_true rfl)
  rw [lg_entry_eq]
  generalize (lg_sl ([.ref a0, .int x1, .int x2]) ++ List.replicate (3 - (lg_sl ([.ref a0, .int x1, .int x2])).length) Slot.unset).toArray = ls at hl ⊢
  have hl : lv_has ls 3 [(0, .ref a0), (1, .int x1), (2, .int x2)] := hl
  obtain ⟨hx, hb, hml, hown, hts, hK, hz, hlk, hr⟩ := id C
  unfold wp_X11_ran at hM
  refine lv_iload_n hx hb dX11_ran_0 rfl (lv_at hl 1 rfl) ?_
  refine lv_iconst (v := 0) hx hb dX11_ran_1 (by decide) ?_
  refine lv_aload_n hx hb dX11_ran_2 rfl (lv_at hl 0 rfl) ?_
  have hk1 := hM.1
  have hM := hM.2
  refine x_getI C hV wf_X11_116 hk1 dX11_ran_3 ?_
  refine lv_iconst (v := 1) hx hb dX11_ran_6 (by decide) ?_
  refine lv_isub hx hb dX11_ran_7 ?_
  refine x_ci hV (x_runS (As := [.int x1, .int 0, .int ((S.I 774 a0) - 1)]) (rest := []) C hV ms_X11_in wl_X11_87 (c_X11_in hM) ⟨by decide, by decide⟩ rfl hl.1 (Nat.le_of_ble_eq_true rfl) dX11_ran_8 ⟨Nat.zero_le _, Nat.zero_le _⟩) (fun r3 S2 H locs hV hM => ?_)
  have hz4 := hM.1
  have hM := hM.2
  refine lv_if_eq (tgt := 36) hx hb dX11_ran_11 (by decide) (fun c5 => ?_) (fun c5 => ?_)
  · have hM := ite_t c5 hM
    refine lv_ldc hx hb hown (hts _ wc_X11_102) dX11_ran_36 ?_
    exact x_iret C hV hM dX11_ran_38
  have hM := ite_f c5 hM
  refine lv_iload_n hx hb dX11_ran_14 rfl (lv_at hl 2 rfl) ?_
  refine lv_iconst (v := 0) hx hb dX11_ran_15 (by decide) ?_
  refine lv_iconst (v := 2) hx hb dX11_ran_16 (by decide) ?_
  refine x_ci hV (x_runS (As := [.int x2, .int 0, .int 2]) (rest := []) C hV ms_X11_in wl_X11_87 (c_X11_in hM) ⟨by decide, by decide⟩ rfl hl.1 (Nat.le_of_ble_eq_true rfl) dX11_ran_17 ⟨Nat.zero_le _, Nat.zero_le _⟩) (fun r7 S6 H locs hV hM => ?_)
  have hz8 := hM.1
  have hM := hM.2
  refine lv_if_eq (tgt := 36) hx hb dX11_ran_20 (by decide) (fun c9 => ?_) (fun c9 => ?_)
  · have hM := ite_t c9 hM
    refine lv_ldc hx hb hown (hts _ wc_X11_102) dX11_ran_36 ?_
    exact x_iret C hV hM dX11_ran_38
  have hM := ite_f c9 hM
  refine lv_aload_n hx hb dX11_ran_23 rfl (lv_at hl 0 rfl) ?_
  have hk10 := hM.1
  have hM := hM.2
  obtain ⟨p11, hp11, hM⟩ := hM
  refine x_getR C hV wf_X11_17 hk10 hp11 dX11_ran_24 ?_
  refine lv_iconst (v := 3) hx hb dX11_ran_27 (by decide) ?_
  refine lv_iload_n hx hb dX11_ran_28 rfl (lv_at hl 1 rfl) ?_
  refine lv_imul hx hb dX11_ran_29 ?_
  refine lv_iload_n hx hb dX11_ran_30 rfl (lv_at hl 2 rfl) ?_
  refine lv_iadd hx hb dX11_ran_31 ?_
  have hk12 := hM.1
  have hM := hM.2
  have hi13 := hM.1
  have hM := hM.2
  refine x_iald C hV hk12 hi13 dX11_ran_32 ?_
  refine lv_goto (tgt := 38) hx hb dX11_ran_33 (by decide) ?_
  exact x_iret C hV hM dX11_ran_38

def wq_X11_rootOf_49 (N : Nat) (K : Int32 → PS → Prop) : Nat → PS → Int32 → Int32 → Prop
  | 0, _, _, _ => False
  | n + 1, S, x2, x3 => if x2 < ((x3 + 1) * (x3 + 1)) then (K x3 S) else (wq_X11_rootOf_49 N K n S x2 (x3 + 1))
def wq_X11_rootOf_39 (N : Nat) (K : Int32 → PS → Prop) (k_4 : PS → Nat → Int32 → Int32 → Int32 → Prop) (S : PS) (a0 : Nat) (x1 : Int32) (x3 : Int32) (t0 : Int32) (t1 : Int32) : Prop := ∀ v8 : Int32, v8 = (t0 + t1) → k_4 S a0 x1 v8 (x3 + 1)
def wq_X11_rootOf_4 (N : Nat) (K : Int32 → PS → Prop) : Nat → PS → Nat → Int32 → Int32 → Int32 → Prop
  | 0, _, _, _, _, _ => False
  | n + 1, S, a0, x1, x2, x3 => S.K a0 = 12 ∧ if (S.I 772 a0) ≤ x3 then (wq_X11_rootOf_49 N K N S x2 0) else (wp_X11_isOn N S a0 x3 x1 (fun r5 S4 => if r5 = 0 then (wq_X11_rootOf_39 N K (fun S a0 x1 x2 x3 => wq_X11_rootOf_4 N K n S a0 x1 x2 x3) S4 a0 x1 x3 x2 0) else (S4.K a0 = 12 ∧ wp_X11_its N S4 a0 x3 3 (fun r11 S10 => S10.K a0 = 12 ∧ wp_X11_its N S10 a0 x3 3 (fun r14 S13 => wq_X11_rootOf_39 N K (fun S a0 x1 x2 x3 => wq_X11_rootOf_4 N K n S a0 x1 x2 x3) S13 a0 x1 x3 x2 (r11 * r14))))))
def wp_X11_rootOf (N : Nat) (S : PS) (a0 : Nat) (x1 : Int32) (K : Int32 → PS → Prop) : Prop := wq_X11_rootOf_4 N K N S a0 x1 0 0
set_option maxHeartbeats 4000000 in
set_option maxRecDepth 100000 in
theorem tq_X11_rootOf_49 {p : Program} {l : Launch} {e : Env} {s : State} {m : MethodId} {args : Array Value} {below : List Frame} {meth : Method} {c : Code} {D : DX} {cA : Nat → ClassId} {z0 N : Nat} {K : Int32 → PS → Prop} (C : CX p s m args meth c cX11_rootOf 4 RX11 (some .int) D cA z0) : ∀ (n : Nat) (S : PS) (x2 : Int32) (x3 : Int32) (H : Heap) (locs : List Loc) (ls : Array Slot), wq_X11_rootOf_49 N K n S x2 x3 → XV D cA z0 s S H locs → lv_has ls 4 [(2, .int x2), (3, .int x3)] → W p l e (rmd 2 0 0) s m args below meth c H locs 0 0 (MQ below (va_Qi K (XK D cA z0) (zA z0)) args s 0 0 (zA z0)) (F0 m 49 ls []) := by
  obtain ⟨hx, hb, hml, hown, hts, hK, hz, hlk, hr⟩ := id C
  intro n
  induction n with
  | zero => intro S x2 x3 H locs ls hM; exact absurd hM id
  | succ n ih =>
    intro S x2 x3 H locs ls hM hV hl
    rw [wq_X11_rootOf_49.eq_2] at hM
    refine lv_iload_n hx hb dX11_rootOf_49 rfl (lv_at hl 1 rfl) ?_
    refine lv_iconst (v := 1) hx hb dX11_rootOf_50 (by decide) ?_
    refine lv_iadd hx hb dX11_rootOf_51 ?_
    refine lv_iload_n hx hb dX11_rootOf_52 rfl (lv_at hl 1 rfl) ?_
    refine lv_iconst (v := 1) hx hb dX11_rootOf_53 (by decide) ?_
    refine lv_iadd hx hb dX11_rootOf_54 ?_
    refine lv_imul hx hb dX11_rootOf_55 ?_
    refine lv_iload_n hx hb dX11_rootOf_56 rfl (lv_at hl 0 rfl) ?_
    refine lv_icmp_gt (tgt := 66) hx hb dX11_rootOf_57 (by decide) (fun c3 => ?_) (fun c3 => ?_)
    · have hM := ite_t c3 hM
      refine lv_iload_n hx hb dX11_rootOf_66 rfl (lv_at hl 1 rfl) ?_
      exact x_iret C hV hM dX11_rootOf_67
    have hM := ite_f c3 hM
    refine lv_iinc (v := (x3 + 1)) (lv' := [(3, .int (x3 + 1)), (2, .int x2)]) hx hb dX11_rootOf_60 hl (k := 1) rfl rfl (by decide) rfl (fun ls hl => ?_)
    refine lv_goto (tgt := 49) hx hb dX11_rootOf_63 (by decide) ?_
    exact ih _ _ _ _ _ _ hM hV (lv_sub hl [1, 0] rfl)
set_option maxHeartbeats 4000000 in
set_option maxRecDepth 100000 in
theorem tq_X11_rootOf_39 {p : Program} {l : Launch} {e : Env} {s : State} {m : MethodId} {args : Array Value} {below : List Frame} {meth : Method} {c : Code} {D : DX} {cA : Nat → ClassId} {z0 N : Nat} {K : Int32 → PS → Prop} {k_4 : PS → Nat → Int32 → Int32 → Int32 → Prop} (C : CX p s m args meth c cX11_rootOf 4 RX11 (some .int) D cA z0) (H_4 : ∀ (S : PS) (a0 : Nat) (x1 : Int32) (x2 : Int32) (x3 : Int32) (H : Heap) (locs : List Loc) (ls : Array Slot), k_4 S a0 x1 x2 x3 → XV D cA z0 s S H locs → lv_has ls 4 [(0, .ref a0), (1, .int x1), (2, .int x2), (3, .int x3)] → W p l e (rmd 2 0 0) s m args below meth c H locs 0 0 (MQ below (va_Qi K (XK D cA z0) (zA z0)) args s 0 0 (zA z0)) (F0 m 4 ls [])) : ∀ (S : PS) (a0 : Nat) (x1 : Int32) (x3 : Int32) (t0 : Int32) (t1 : Int32) (H : Heap) (locs : List Loc) (ls : Array Slot), wq_X11_rootOf_39 N K k_4 S a0 x1 x3 t0 t1 → XV D cA z0 s S H locs → lv_has ls 4 [(0, .ref a0), (1, .int x1), (3, .int x3)] → W p l e (rmd 2 0 0) s m args below meth c H locs 0 0 (MQ below (va_Qi K (XK D cA z0) (zA z0)) args s 0 0 (zA z0)) (F0 m 39 ls [.int t1, .int t0]) := by
  obtain ⟨hx, hb, hml, hown, hts, hK, hz, hlk, hr⟩ := id C
  intro S a0 x1 x3 t0 t1 H locs ls hM hV hl
  unfold wq_X11_rootOf_39 at hM
  refine lv_iadd hx hb dX11_rootOf_39 ?_
  refine lv_topi (fun v8 ev8 => ?_)
  have hM := hM v8 ev8
  refine lv_istore_n (lv' := [(2, .int v8), (0, .ref a0), (1, .int x1), (3, .int x3)]) hx hb dX11_rootOf_40 rfl hl (by decide) rfl (fun ls hl => ?_)
  refine lv_iinc (v := (x3 + 1)) (lv' := [(3, .int (x3 + 1)), (2, .int v8), (0, .ref a0), (1, .int x1)]) hx hb dX11_rootOf_41 hl (k := 3) rfl rfl (by decide) rfl (fun ls hl => ?_)
  refine lv_goto (tgt := 4) hx hb dX11_rootOf_44 (by decide) ?_
  exact H_4 _ _ _ _ _ _ _ _ hM hV (lv_sub hl [2, 3, 1, 0] rfl)
set_option maxHeartbeats 4000000 in
set_option maxRecDepth 100000 in
theorem tq_X11_rootOf_4 {p : Program} {l : Launch} {e : Env} {s : State} {m : MethodId} {args : Array Value} {below : List Frame} {meth : Method} {c : Code} {D : DX} {cA : Nat → ClassId} {z0 N : Nat} {K : Int32 → PS → Prop} (C : CX p s m args meth c cX11_rootOf 4 RX11 (some .int) D cA z0) : ∀ (n : Nat) (S : PS) (a0 : Nat) (x1 : Int32) (x2 : Int32) (x3 : Int32) (H : Heap) (locs : List Loc) (ls : Array Slot), wq_X11_rootOf_4 N K n S a0 x1 x2 x3 → XV D cA z0 s S H locs → lv_has ls 4 [(0, .ref a0), (1, .int x1), (2, .int x2), (3, .int x3)] → W p l e (rmd 2 0 0) s m args below meth c H locs 0 0 (MQ below (va_Qi K (XK D cA z0) (zA z0)) args s 0 0 (zA z0)) (F0 m 4 ls []) := by
  obtain ⟨hx, hb, hml, hown, hts, hK, hz, hlk, hr⟩ := id C
  intro n
  induction n with
  | zero => intro S a0 x1 x2 x3 H locs ls hM; exact absurd hM id
  | succ n ih =>
    intro S a0 x1 x2 x3 H locs ls hM hV hl
    rw [wq_X11_rootOf_4.eq_2] at hM
    refine lv_iload_n hx hb dX11_rootOf_4 rfl (lv_at hl 3 rfl) ?_
    refine lv_aload_n hx hb dX11_rootOf_5 rfl (lv_at hl 0 rfl) ?_
    have hk1 := hM.1
    have hM := hM.2
    refine x_getI C hV wf_X11_84 hk1 dX11_rootOf_6 ?_
    refine lv_icmp_ge (tgt := 47) hx hb dX11_rootOf_9 (by decide) (fun c2 => ?_) (fun c2 => ?_)
    · have hM := ite_t c2 hM
      refine lv_iconst (v := 0) hx hb dX11_rootOf_47 (by decide) ?_
      refine lv_istore_n (lv' := [(3, .int 0), (0, .ref a0), (1, .int x1), (2, .int x2)]) hx hb dX11_rootOf_48 rfl hl (by decide) rfl (fun ls hl => ?_)
      exact tq_X11_rootOf_49 C N _ _ _ _ _ _ hM hV (lv_sub hl [3, 0] rfl)
    have hM := ite_f c2 hM
    refine lv_iload_n hx hb dX11_rootOf_12 rfl (lv_at hl 2 rfl) ?_
    refine lv_aload_n hx hb dX11_rootOf_13 rfl (lv_at hl 0 rfl) ?_
    refine lv_iload_n hx hb dX11_rootOf_14 rfl (lv_at hl 3 rfl) ?_
    refine lv_iload_n hx hb dX11_rootOf_15 rfl (lv_at hl 1 rfl) ?_
    refine x_ci hV (x_runV (As := [.int x3, .int x1]) (rest := [.int x2]) C hV mi_X11_isOn wl_X11_123 hk1 (c_X11_isOn hM) ⟨by decide, by decide⟩ rfl hl.1 (Nat.le_of_ble_eq_true rfl) dX11_rootOf_16 ⟨Nat.zero_le _, Nat.zero_le _⟩) (fun r5 S4 H locs hV hM => ?_)
    have hz6 := hM.1
    have hM := hM.2
    refine lv_if_eq (tgt := 38) hx hb dX11_rootOf_19 (by decide) (fun c7 => ?_) (fun c7 => ?_)
    · have hM := ite_t c7 hM
      refine lv_iconst (v := 0) hx hb dX11_rootOf_38 (by decide) ?_
      exact tq_X11_rootOf_39 C ih _ _ _ _ _ _ _ _ _ hM hV (lv_sub hl [0, 1, 3] rfl)
    have hM := ite_f c7 hM
    refine lv_aload_n hx hb dX11_rootOf_22 rfl (lv_at hl 0 rfl) ?_
    refine lv_iload_n hx hb dX11_rootOf_23 rfl (lv_at hl 3 rfl) ?_
    refine lv_iconst (v := 3) hx hb dX11_rootOf_24 (by decide) ?_
    have hk9 := hM.1
    have hM := hM.2
    refine x_ci hV (x_runV (As := [.int x3, .int 3]) (rest := [.int x2]) C hV mi_X11_its wl_X11_94 hk9 (c_X11_its hM) ⟨by decide, by decide⟩ rfl hl.1 (Nat.le_of_ble_eq_true rfl) dX11_rootOf_25 ⟨Nat.zero_le _, Nat.zero_le _⟩) (fun r11 S10 H locs hV hM => ?_)
    refine lv_aload_n hx hb dX11_rootOf_28 rfl (lv_at hl 0 rfl) ?_
    refine lv_iload_n hx hb dX11_rootOf_29 rfl (lv_at hl 3 rfl) ?_
    refine lv_iconst (v := 3) hx hb dX11_rootOf_30 (by decide) ?_
    have hk12 := hM.1
    have hM := hM.2
    refine x_ci hV (x_runV (As := [.int x3, .int 3]) (rest := [.int r11, .int x2]) C hV mi_X11_its wl_X11_94 hk12 (c_X11_its hM) ⟨by decide, by decide⟩ rfl hl.1 (Nat.le_of_ble_eq_true rfl) dX11_rootOf_31 ⟨Nat.zero_le _, Nat.zero_le _⟩) (fun r14 S13 H locs hV hM => ?_)
    refine lv_imul hx hb dX11_rootOf_34 ?_
    refine lv_goto (tgt := 39) hx hb dX11_rootOf_35 (by decide) ?_
    exact tq_X11_rootOf_39 C ih _ _ _ _ _ _ _ _ _ hM hV (lv_sub hl [0, 1, 3] rfl)
set_option maxHeartbeats 4000000 in
set_option maxRecDepth 100000 in
theorem c_X11_rootOf {l : Launch} {D : DX} {cA : Nat → ClassId} {z0 N : Nat} {S : PS} {a0 : Nat} {x1 : Int32} {K : Int32 → PS → Prop} (hM : wp_X11_rootOf N S a0 x1 K) : MetI l yX11_rootOf cX11_rootOf 4 (some .int) 2 0 0 D cA z0 [.ref a0, .int x1] S K := by
  refine x_met RX11 (by decide) rfl ?_
  intro p e s m below meth c C hin hV
  have hl := lv_entry ([.ref a0, .int x1]) (n := 4) (Nat.le_of_ble_eq_true rfl)
  rw [lg_entry_eq]
  generalize (lg_sl ([.ref a0, .int x1]) ++ List.replicate (4 - (lg_sl ([.ref a0, .int x1])).length) Slot.unset).toArray = ls at hl ⊢
  have hl : lv_has ls 4 [(0, .ref a0), (1, .int x1)] := hl
  obtain ⟨hx, hb, hml, hown, hts, hK, hz, hlk, hr⟩ := id C
  unfold wp_X11_rootOf at hM
  refine lv_iconst (v := 0) hx hb dX11_rootOf_0 (by decide) ?_
  refine lv_istore_n (lv' := [(2, .int 0), (0, .ref a0), (1, .int x1)]) hx hb dX11_rootOf_1 rfl hl (by decide) rfl (fun ls hl => ?_)
  refine lv_iconst (v := 0) hx hb dX11_rootOf_2 (by decide) ?_
  refine lv_istore_n (lv' := [(3, .int 0), (2, .int 0), (0, .ref a0), (1, .int x1)]) hx hb dX11_rootOf_3 rfl hl (by decide) rfl (fun ls hl => ?_)
  exact tq_X11_rootOf_4 C N _ _ _ _ _ _ _ _ hM hV (lv_sub hl [2, 3, 1, 0] rfl)

def wp_X11_row (N : Nat) (S : PS) (a0 : Nat) (x1 : Int32) (x2 : Int32) (K : Int32 → PS → Prop) : Prop := S.K a0 = 12 ∧ wp_X11_isRow N S a0 x1 x2 (fun r3 S2 => if r3 = 0 then (K (-2147483648) S2) else (S2.K a0 = 12 ∧ ∃ p7 : Nat, S2.R 804 a0 = some p7 ∧ S2.K p7 = 20 ∧ vp_in ((3 * x1) + x2) (S2.ln p7) ∧ K (S2.A p7 ((3 * x1) + x2).toNatClampNeg) S2))
set_option maxHeartbeats 4000000 in
set_option maxRecDepth 100000 in
theorem c_X11_row {l : Launch} {D : DX} {cA : Nat → ClassId} {z0 N : Nat} {S : PS} {a0 : Nat} {x1 : Int32} {x2 : Int32} {K : Int32 → PS → Prop} (hM : wp_X11_row N S a0 x1 x2 K) : MetI l yX11_row cX11_row 3 (some .int) 2 0 0 D cA z0 [.ref a0, .int x1, .int x2] S K := by
  refine x_met RX11 (by decide) rfl ?_
  intro p e s m below meth c C hin hV
  have hl := lv_entry ([.ref a0, .int x1, .int x2]) (n := 3) (Nat.le_of_ble_eq_true rfl)
  rw [lg_entry_eq]
  generalize (lg_sl ([.ref a0, .int x1, .int x2]) ++ List.replicate (3 - (lg_sl ([.ref a0, .int x1, .int x2])).length) Slot.unset).toArray = ls at hl ⊢
  have hl : lv_has ls 3 [(0, .ref a0), (1, .int x1), (2, .int x2)] := hl
  obtain ⟨hx, hb, hml, hown, hts, hK, hz, hlk, hr⟩ := id C
  unfold wp_X11_row at hM
  refine lv_aload_n hx hb dX11_row_0 rfl (lv_at hl 0 rfl) ?_
  refine lv_iload_n hx hb dX11_row_1 rfl (lv_at hl 1 rfl) ?_
  refine lv_iload_n hx hb dX11_row_2 rfl (lv_at hl 2 rfl) ?_
  have hk1 := hM.1
  have hM := hM.2
  refine x_ci hV (x_runV (As := [.int x1, .int x2]) (rest := []) C hV mi_X11_isRow wl_X11_385 hk1 (c_X11_isRow hM) ⟨by decide, by decide⟩ rfl hl.1 (Nat.le_of_ble_eq_true rfl) dX11_row_3 ⟨Nat.zero_le _, Nat.zero_le _⟩) (fun r3 S2 H locs hV hM => ?_)
  have hz4 := hM.1
  have hM := hM.2
  refine lv_if_eq (tgt := 22) hx hb dX11_row_6 (by decide) (fun c5 => ?_) (fun c5 => ?_)
  · have hM := ite_t c5 hM
    refine lv_ldc hx hb hown (hts _ wc_X11_102) dX11_row_22 ?_
    exact x_iret C hV hM dX11_row_24
  have hM := ite_f c5 hM
  refine lv_aload_n hx hb dX11_row_9 rfl (lv_at hl 0 rfl) ?_
  have hk6 := hM.1
  have hM := hM.2
  obtain ⟨p7, hp7, hM⟩ := hM
  refine x_getR C hV wf_X11_53 hk6 hp7 dX11_row_10 ?_
  refine lv_iconst (v := 3) hx hb dX11_row_13 (by decide) ?_
  refine lv_iload_n hx hb dX11_row_14 rfl (lv_at hl 1 rfl) ?_
  refine lv_imul hx hb dX11_row_15 ?_
  refine lv_iload_n hx hb dX11_row_16 rfl (lv_at hl 2 rfl) ?_
  refine lv_iadd hx hb dX11_row_17 ?_
  have hk8 := hM.1
  have hM := hM.2
  have hi9 := hM.1
  have hM := hM.2
  refine x_iald C hV hk8 hi9 dX11_row_18 ?_
  refine lv_goto (tgt := 24) hx hb dX11_row_19 (by decide) ?_
  exact x_iret C hV hM dX11_row_24

def wq_X11_run_87 (N : Nat) (K : Int32 → PS → Prop) (k_60 : PS → Nat → Int32 → Int32 → Int32 → Prop) (S : PS) (a0 : Nat) (x1 : Int32) (x3 : Int32) (t0 : Int32) (t1 : Int32) : Prop := ∀ v19 : Int32, v19 = (t0 + t1) → k_60 S a0 x1 v19 (x3 + 1)
def wq_X11_run_60 (N : Nat) (K : Int32 → PS → Prop) : Nat → PS → Nat → Int32 → Int32 → Int32 → Prop
  | 0, _, _, _, _, _ => False
  | n + 1, S, a0, x1, x2, x3 => S.K a0 = 12 ∧ if (S.I 772 a0) ≤ x3 then (wp_X11_addRun N S a0 (S.I 768 a0) x1 x2 (fun r14 S13 => K r14 S13)) else (wp_X11_isOn N S a0 x3 x1 (fun r16 S15 => if r16 = 0 then (wq_X11_run_87 N K (fun S a0 x1 x2 x3 => wq_X11_run_60 N K n S a0 x1 x2 x3) S15 a0 x1 x3 x2 0) else (S15.K a0 = 12 ∧ wp_X11_lacks N S15 a0 x3 (fun r22 S21 => wq_X11_run_87 N K (fun S a0 x1 x2 x3 => wq_X11_run_60 N K n S a0 x1 x2 x3) S21 a0 x1 x3 x2 r22))))
def wp_X11_run (N : Nat) (S : PS) (a0 : Nat) (x1 : Int32) (K : Int32 → PS → Prop) : Prop := wp_X11_isSide N S x1 (fun r2 S1 => if r2 = 0 then (K (-1) S1) else (S1.K a0 = 12 ∧ if (S1.I 774 a0) = 40 then (K (-2) S1) else (∀ S7 : PS, S7 = S1.setI 770 a0 (((S1.I 770 a0) * 1103515245) + 12345) → (¬ ((2 * (S7.I 769 a0)) + 1) = 0) ∧ ∀ v10 : Int32, v10 = ((((((S7.I 770 a0)).toUInt32 >>> (((16 : Int32)).toUInt32 &&& Int32.toUInt32 31)).toInt32) - ((((S7.I 770 a0)).toUInt32 >>> (((16 : Int32)).toUInt32 &&& Int32.toUInt32 31)).toInt32) / ((2 * (S7.I 769 a0)) + 1) * ((2 * (S7.I 769 a0)) + 1)) - (S7.I 769 a0)) → wq_X11_run_60 N K N S7 a0 x1 v10 0)))
set_option maxHeartbeats 4000000 in
set_option maxRecDepth 100000 in
theorem tq_X11_run_87 {p : Program} {l : Launch} {e : Env} {s : State} {m : MethodId} {args : Array Value} {below : List Frame} {meth : Method} {c : Code} {D : DX} {cA : Nat → ClassId} {z0 N : Nat} {K : Int32 → PS → Prop} {k_60 : PS → Nat → Int32 → Int32 → Int32 → Prop} (C : CX p s m args meth c cX11_run 4 RX11 (some .int) D cA z0) (H_60 : ∀ (S : PS) (a0 : Nat) (x1 : Int32) (x2 : Int32) (x3 : Int32) (H : Heap) (locs : List Loc) (ls : Array Slot), k_60 S a0 x1 x2 x3 → XV D cA z0 s S H locs → lv_has ls 4 [(0, .ref a0), (1, .int x1), (2, .int x2), (3, .int x3)] → W p l e (rmd 3 0 0) s m args below meth c H locs 0 0 (MQ below (va_Qi K (XK D cA z0) (zA z0)) args s 0 0 (zA z0)) (F0 m 60 ls [])) : ∀ (S : PS) (a0 : Nat) (x1 : Int32) (x3 : Int32) (t0 : Int32) (t1 : Int32) (H : Heap) (locs : List Loc) (ls : Array Slot), wq_X11_run_87 N K k_60 S a0 x1 x3 t0 t1 → XV D cA z0 s S H locs → lv_has ls 4 [(0, .ref a0), (1, .int x1), (3, .int x3)] → W p l e (rmd 3 0 0) s m args below meth c H locs 0 0 (MQ below (va_Qi K (XK D cA z0) (zA z0)) args s 0 0 (zA z0)) (F0 m 87 ls [.int t1, .int t0]) := by
  obtain ⟨hx, hb, hml, hown, hts, hK, hz, hlk, hr⟩ := id C
  intro S a0 x1 x3 t0 t1 H locs ls hM hV hl
  unfold wq_X11_run_87 at hM
  refine lv_iadd hx hb dX11_run_87 ?_
  refine lv_topi (fun v19 ev19 => ?_)
  have hM := hM v19 ev19
  refine lv_istore_n (lv' := [(2, .int v19), (0, .ref a0), (1, .int x1), (3, .int x3)]) hx hb dX11_run_88 rfl hl (by decide) rfl (fun ls hl => ?_)
  refine lv_iinc (v := (x3 + 1)) (lv' := [(3, .int (x3 + 1)), (2, .int v19), (0, .ref a0), (1, .int x1)]) hx hb dX11_run_89 hl (k := 3) rfl rfl (by decide) rfl (fun ls hl => ?_)
  refine lv_goto (tgt := 60) hx hb dX11_run_92 (by decide) ?_
  exact H_60 _ _ _ _ _ _ _ _ hM hV (lv_sub hl [2, 3, 1, 0] rfl)
set_option maxHeartbeats 4000000 in
set_option maxRecDepth 100000 in
theorem tq_X11_run_60 {p : Program} {l : Launch} {e : Env} {s : State} {m : MethodId} {args : Array Value} {below : List Frame} {meth : Method} {c : Code} {D : DX} {cA : Nat → ClassId} {z0 N : Nat} {K : Int32 → PS → Prop} (C : CX p s m args meth c cX11_run 4 RX11 (some .int) D cA z0) : ∀ (n : Nat) (S : PS) (a0 : Nat) (x1 : Int32) (x2 : Int32) (x3 : Int32) (H : Heap) (locs : List Loc) (ls : Array Slot), wq_X11_run_60 N K n S a0 x1 x2 x3 → XV D cA z0 s S H locs → lv_has ls 4 [(0, .ref a0), (1, .int x1), (2, .int x2), (3, .int x3)] → W p l e (rmd 3 0 0) s m args below meth c H locs 0 0 (MQ below (va_Qi K (XK D cA z0) (zA z0)) args s 0 0 (zA z0)) (F0 m 60 ls []) := by
  obtain ⟨hx, hb, hml, hown, hts, hK, hz, hlk, hr⟩ := id C
  intro n
  induction n with
  | zero => intro S a0 x1 x2 x3 H locs ls hM; exact absurd hM id
  | succ n ih =>
    intro S a0 x1 x2 x3 H locs ls hM hV hl
    rw [wq_X11_run_60.eq_2] at hM
    refine lv_iload_n hx hb dX11_run_60 rfl (lv_at hl 3 rfl) ?_
    refine lv_aload_n hx hb dX11_run_61 rfl (lv_at hl 0 rfl) ?_
    have hk11 := hM.1
    have hM := hM.2
    refine x_getI C hV wf_X11_84 hk11 dX11_run_62 ?_
    refine lv_icmp_ge (tgt := 95) hx hb dX11_run_65 (by decide) (fun c12 => ?_) (fun c12 => ?_)
    · have hM := ite_t c12 hM
      refine lv_aload_n hx hb dX11_run_95 rfl (lv_at hl 0 rfl) ?_
      refine lv_aload_n hx hb dX11_run_96 rfl (lv_at hl 0 rfl) ?_
      refine x_getI C hV wf_X11_103 hk11 dX11_run_97 ?_
      refine lv_iload_n hx hb dX11_run_100 rfl (lv_at hl 1 rfl) ?_
      refine lv_iload_n hx hb dX11_run_101 rfl (lv_at hl 2 rfl) ?_
      refine x_ci hV (x_runV (As := [.int (S.I 768 a0), .int x1, .int x2]) (rest := []) C hV mi_X11_addRun wl_X11_130 hk11 (c_X11_addRun hM) ⟨by decide, by decide⟩ rfl hl.1 (Nat.le_of_ble_eq_true rfl) dX11_run_102 ⟨Nat.zero_le _, Nat.zero_le _⟩) (fun r14 S13 H locs hV hM => ?_)
      exact x_iret C hV hM dX11_run_105
    have hM := ite_f c12 hM
    refine lv_iload_n hx hb dX11_run_68 rfl (lv_at hl 2 rfl) ?_
    refine lv_aload_n hx hb dX11_run_69 rfl (lv_at hl 0 rfl) ?_
    refine lv_iload_n hx hb dX11_run_70 rfl (lv_at hl 3 rfl) ?_
    refine lv_iload_n hx hb dX11_run_71 rfl (lv_at hl 1 rfl) ?_
    refine x_ci hV (x_runV (As := [.int x3, .int x1]) (rest := [.int x2]) C hV mi_X11_isOn wl_X11_123 hk11 (c_X11_isOn hM) ⟨by decide, by decide⟩ rfl hl.1 (Nat.le_of_ble_eq_true rfl) dX11_run_72 ⟨Nat.zero_le _, Nat.zero_le _⟩) (fun r16 S15 H locs hV hM => ?_)
    have hz17 := hM.1
    have hM := hM.2
    refine lv_if_eq (tgt := 86) hx hb dX11_run_75 (by decide) (fun c18 => ?_) (fun c18 => ?_)
    · have hM := ite_t c18 hM
      refine lv_iconst (v := 0) hx hb dX11_run_86 (by decide) ?_
      exact tq_X11_run_87 C ih _ _ _ _ _ _ _ _ _ hM hV (lv_sub hl [0, 1, 3] rfl)
    have hM := ite_f c18 hM
    refine lv_aload_n hx hb dX11_run_78 rfl (lv_at hl 0 rfl) ?_
    refine lv_iload_n hx hb dX11_run_79 rfl (lv_at hl 3 rfl) ?_
    have hk20 := hM.1
    have hM := hM.2
    refine x_ci hV (x_runV (As := [.int x3]) (rest := [.int x2]) C hV mi_X11_lacks wl_X11_127 hk20 (c_X11_lacks hM) ⟨by decide, by decide⟩ rfl hl.1 (Nat.le_of_ble_eq_true rfl) dX11_run_80 ⟨Nat.zero_le _, Nat.zero_le _⟩) (fun r22 S21 H locs hV hM => ?_)
    refine lv_goto (tgt := 87) hx hb dX11_run_83 (by decide) ?_
    exact tq_X11_run_87 C ih _ _ _ _ _ _ _ _ _ hM hV (lv_sub hl [0, 1, 3] rfl)
set_option maxHeartbeats 4000000 in
set_option maxRecDepth 100000 in
theorem c_X11_run {l : Launch} {D : DX} {cA : Nat → ClassId} {z0 N : Nat} {S : PS} {a0 : Nat} {x1 : Int32} {K : Int32 → PS → Prop} (hM : wp_X11_run N S a0 x1 K) : MetI l yX11_run cX11_run 4 (some .int) 3 0 0 D cA z0 [.ref a0, .int x1] S K := by
  refine x_met RX11 (by decide) rfl ?_
  intro p e s m below meth c C hin hV
  have hl := lv_entry ([.ref a0, .int x1]) (n := 4) (Nat.le_of_ble_eq_true rfl)
  rw [lg_entry_eq]
  generalize (lg_sl ([.ref a0, .int x1]) ++ List.replicate (4 - (lg_sl ([.ref a0, .int x1])).length) Slot.unset).toArray = ls at hl ⊢
  have hl : lv_has ls 4 [(0, .ref a0), (1, .int x1)] := hl
  obtain ⟨hx, hb, hml, hown, hts, hK, hz, hlk, hr⟩ := id C
  unfold wp_X11_run at hM
  refine lv_iload_n hx hb dX11_run_0 rfl (lv_at hl 1 rfl) ?_
  refine x_ci hV (x_runS (As := [.int x1]) (rest := []) C hV ms_X11_isSide wl_X11_119 (c_X11_isSide hM) ⟨by decide, by decide⟩ rfl hl.1 (Nat.le_of_ble_eq_true rfl) dX11_run_1 ⟨Nat.zero_le _, Nat.zero_le _⟩) (fun r2 S1 H locs hV hM => ?_)
  have hz3 := hM.1
  have hM := hM.2
  refine lv_if_ne (tgt := 9) hx hb dX11_run_4 (by decide) (fun c4 => ?_) (fun c4 => ?_)
  · have hM := ite_f c4 hM
    refine lv_aload_n hx hb dX11_run_9 rfl (lv_at hl 0 rfl) ?_
    have hk5 := hM.1
    have hM := hM.2
    refine x_getI C hV wf_X11_116 hk5 dX11_run_10 ?_
    refine lv_bipush (v := 40) hx hb dX11_run_13 (by decide) ?_
    refine lv_icmp_ne (tgt := 21) hx hb dX11_run_15 (by decide) (fun c6 => ?_) (fun c6 => ?_)
    · have hM := ite_f c6 hM
      refine lv_aload_n hx hb dX11_run_21 rfl (lv_at hl 0 rfl) ?_
      refine lv_aload_n hx hb dX11_run_22 rfl (lv_at hl 0 rfl) ?_
      refine x_getI C hV wf_X11_7 hk5 dX11_run_23 ?_
      refine lv_ldc hx hb hown (hts _ wc_X11_122) dX11_run_26 ?_
      refine lv_imul hx hb dX11_run_28 ?_
      refine lv_sipush (v := 12345) hx hb dX11_run_29 (by decide) ?_
      refine lv_iadd hx hb dX11_run_32 ?_
      obtain ⟨S7, eS7⟩ : ∃ z : PS, z = S1.setI 770 a0 (((S1.I 770 a0) * 1103515245) + 12345) := ⟨_, rfl⟩
      have hM := hM S7 eS7
      refine x_putI C hV wp_X11_7 hk5 ⟨rfl, rfl⟩ eS7 dX11_run_33 (fun H locs hV => ?_)
      refine lv_aload_n hx hb dX11_run_36 rfl (lv_at hl 0 rfl) ?_
      have hk8 := kp_I eS7 hk5
      refine x_getI C hV wf_X11_7 hk8 dX11_run_37 ?_
      refine lv_bipush (v := 16) hx hb dX11_run_40 (by decide) ?_
      refine lv_iushr hx hb dX11_run_42 rfl ?_
      refine lv_iconst (v := 2) hx hb dX11_run_43 (by decide) ?_
      refine lv_aload_n hx hb dX11_run_44 rfl (lv_at hl 0 rfl) ?_
      refine x_getI C hV wf_X11_113 hk8 dX11_run_45 ?_
      refine lv_imul hx hb dX11_run_48 ?_
      refine lv_iconst (v := 1) hx hb dX11_run_49 (by decide) ?_
      refine lv_iadd hx hb dX11_run_50 ?_
      have hne9 := hM.1
      have hM := hM.2
      refine lv_irem hx hb dX11_run_51 hne9 ?_
      refine lv_aload_n hx hb dX11_run_52 rfl (lv_at hl 0 rfl) ?_
      refine x_getI C hV wf_X11_113 hk8 dX11_run_53 ?_
      refine lv_isub hx hb dX11_run_56 ?_
      refine lv_topi (fun v10 ev10 => ?_)
      have hM := hM v10 ev10
      refine lv_istore_n (lv' := [(2, .int v10), (0, .ref a0), (1, .int x1)]) hx hb dX11_run_57 rfl hl (by decide) rfl (fun ls hl => ?_)
      refine lv_iconst (v := 0) hx hb dX11_run_58 (by decide) ?_
      refine lv_istore_n (lv' := [(3, .int 0), (2, .int v10), (0, .ref a0), (1, .int x1)]) hx hb dX11_run_59 rfl hl (by decide) rfl (fun ls hl => ?_)
      exact tq_X11_run_60 C N _ _ _ _ _ _ _ _ hM hV (lv_sub hl [2, 3, 1, 0] rfl)
    have hM := ite_t c6 hM
    refine lv_bipush (v := (-2)) hx hb dX11_run_18 (by decide) ?_
    exact x_iret C hV hM dX11_run_20
  have hM := ite_t c4 hM
  refine lv_iconst (v := (-1)) hx hb dX11_run_7 (by decide) ?_
  exact x_iret C hV hM dX11_run_8

def wq_X11_same_66 (N : Nat) (K : Int32 → PS → Prop) (k_31 : PS → Nat → Int32 → Int32 → Int32 → Int32 → Int32 → Prop) (S : PS) (a0 : Nat) (x1 : Int32) (x2 : Int32) (x3 : Int32) (x5 : Int32) (t0 : Int32) (t1 : Int32) : Prop := ∀ v23 : Int32, v23 = (t0 ||| t1) → k_31 S a0 x1 x2 x3 v23 (x5 + 1)
def wq_X11_same_31 (N : Nat) (K : Int32 → PS → Prop) : Nat → PS → Nat → Int32 → Int32 → Int32 → Int32 → Int32 → Prop
  | 0, _, _, _, _, _, _, _ => False
  | n + 1, S, a0, x1, x2, x3, x4, x5 => if 2 ≤ x5 then (K x4 S) else (S.K a0 = 12 ∧ wp_X11_givesBy N S a0 x1 x5 x3 (fun r18 S17 => S17.K a0 = 12 ∧ wp_X11_givesBy N S17 a0 x2 x5 x3 (fun r21 S20 => if r18 = r21 then (wq_X11_same_66 N K (fun S a0 x1 x2 x3 x4 x5 => wq_X11_same_31 N K n S a0 x1 x2 x3 x4 x5) S20 a0 x1 x2 x3 x5 x4 ((1 : Int32) <<< (x5 &&& 31))) else (wq_X11_same_66 N K (fun S a0 x1 x2 x3 x4 x5 => wq_X11_same_31 N K n S a0 x1 x2 x3 x4 x5) S20 a0 x1 x2 x3 x5 x4 0))))
def wp_X11_same (N : Nat) (S : PS) (a0 : Nat) (x1 : Int32) (x2 : Int32) (x3 : Int32) (K : Int32 → PS → Prop) : Prop := S.K a0 = 12 ∧ wp_X11_isStory N S a0 x1 (fun r3 S2 => if r3 = 0 then (K (-1) S2) else (S2.K a0 = 12 ∧ wp_X11_isStory N S2 a0 x2 (fun r8 S7 => if r8 = 0 then (K (-1) S7) else (wp_X11_isDay N S7 x3 (fun r12 S11 => if r12 = 0 then (K (-1) S11) else (wq_X11_same_31 N K N S11 a0 x1 x2 x3 0 0))))))
set_option maxHeartbeats 4000000 in
set_option maxRecDepth 100000 in
theorem tq_X11_same_66 {p : Program} {l : Launch} {e : Env} {s : State} {m : MethodId} {args : Array Value} {below : List Frame} {meth : Method} {c : Code} {D : DX} {cA : Nat → ClassId} {z0 N : Nat} {K : Int32 → PS → Prop} {k_31 : PS → Nat → Int32 → Int32 → Int32 → Int32 → Int32 → Prop} (C : CX p s m args meth c cX11_same 6 RX11 (some .int) D cA z0) (H_31 : ∀ (S : PS) (a0 : Nat) (x1 : Int32) (x2 : Int32) (x3 : Int32) (x4 : Int32) (x5 : Int32) (H : Heap) (locs : List Loc) (ls : Array Slot), k_31 S a0 x1 x2 x3 x4 x5 → XV D cA z0 s S H locs → lv_has ls 6 [(0, .ref a0), (1, .int x1), (2, .int x2), (3, .int x3), (4, .int x4), (5, .int x5)] → W p l e (rmd 3 0 0) s m args below meth c H locs 0 0 (MQ below (va_Qi K (XK D cA z0) (zA z0)) args s 0 0 (zA z0)) (F0 m 31 ls [])) : ∀ (S : PS) (a0 : Nat) (x1 : Int32) (x2 : Int32) (x3 : Int32) (x5 : Int32) (t0 : Int32) (t1 : Int32) (H : Heap) (locs : List Loc) (ls : Array Slot), wq_X11_same_66 N K k_31 S a0 x1 x2 x3 x5 t0 t1 → XV D cA z0 s S H locs → lv_has ls 6 [(0, .ref a0), (1, .int x1), (2, .int x2), (3, .int x3), (5, .int x5)] → W p l e (rmd 3 0 0) s m args below meth c H locs 0 0 (MQ below (va_Qi K (XK D cA z0) (zA z0)) args s 0 0 (zA z0)) (F0 m 66 ls [.int t1, .int t0]) := by
  obtain ⟨hx, hb, hml, hown, hts, hK, hz, hlk, hr⟩ := id C
  intro S a0 x1 x2 x3 x5 t0 t1 H locs ls hM hV hl
  unfold wq_X11_same_66 at hM
  refine lv_ior hx hb dX11_same_66 ?_
  refine lv_topi (fun v23 ev23 => ?_)
  have hM := hM v23 ev23
  refine lv_istore (lv' := [(4, .int v23), (0, .ref a0), (1, .int x1), (2, .int x2), (3, .int x3), (5, .int x5)]) hx hb dX11_same_67 hl (by decide) rfl (fun ls hl => ?_)
  refine lv_iinc (v := (x5 + 1)) (lv' := [(5, .int (x5 + 1)), (4, .int v23), (0, .ref a0), (1, .int x1), (2, .int x2), (3, .int x3)]) hx hb dX11_same_69 hl (k := 5) rfl rfl (by decide) rfl (fun ls hl => ?_)
  refine lv_goto (tgt := 31) hx hb dX11_same_72 (by decide) ?_
  exact H_31 _ _ _ _ _ _ _ _ _ _ hM hV (lv_sub hl [2, 3, 4, 5, 1, 0] rfl)
set_option maxHeartbeats 4000000 in
set_option maxRecDepth 100000 in
theorem tq_X11_same_31 {p : Program} {l : Launch} {e : Env} {s : State} {m : MethodId} {args : Array Value} {below : List Frame} {meth : Method} {c : Code} {D : DX} {cA : Nat → ClassId} {z0 N : Nat} {K : Int32 → PS → Prop} (C : CX p s m args meth c cX11_same 6 RX11 (some .int) D cA z0) : ∀ (n : Nat) (S : PS) (a0 : Nat) (x1 : Int32) (x2 : Int32) (x3 : Int32) (x4 : Int32) (x5 : Int32) (H : Heap) (locs : List Loc) (ls : Array Slot), wq_X11_same_31 N K n S a0 x1 x2 x3 x4 x5 → XV D cA z0 s S H locs → lv_has ls 6 [(0, .ref a0), (1, .int x1), (2, .int x2), (3, .int x3), (4, .int x4), (5, .int x5)] → W p l e (rmd 3 0 0) s m args below meth c H locs 0 0 (MQ below (va_Qi K (XK D cA z0) (zA z0)) args s 0 0 (zA z0)) (F0 m 31 ls []) := by
  obtain ⟨hx, hb, hml, hown, hts, hK, hz, hlk, hr⟩ := id C
  intro n
  induction n with
  | zero => intro S a0 x1 x2 x3 x4 x5 H locs ls hM; exact absurd hM id
  | succ n ih =>
    intro S a0 x1 x2 x3 x4 x5 H locs ls hM hV hl
    rw [wq_X11_same_31.eq_2] at hM
    refine lv_iload hx hb dX11_same_31 (lv_at hl 5 rfl) ?_
    refine lv_iconst (v := 2) hx hb dX11_same_33 (by decide) ?_
    refine lv_icmp_ge (tgt := 75) hx hb dX11_same_34 (by decide) (fun c15 => ?_) (fun c15 => ?_)
    · have hM := ite_t c15 hM
      refine lv_iload hx hb dX11_same_75 (lv_at hl 4 rfl) ?_
      exact x_iret C hV hM dX11_same_77
    have hM := ite_f c15 hM
    refine lv_iload hx hb dX11_same_37 (lv_at hl 4 rfl) ?_
    refine lv_aload_n hx hb dX11_same_39 rfl (lv_at hl 0 rfl) ?_
    refine lv_iload_n hx hb dX11_same_40 rfl (lv_at hl 1 rfl) ?_
    refine lv_iload hx hb dX11_same_41 (lv_at hl 5 rfl) ?_
    refine lv_iload_n hx hb dX11_same_43 rfl (lv_at hl 3 rfl) ?_
    have hk16 := hM.1
    have hM := hM.2
    refine x_ci hV (x_runV (As := [.int x1, .int x5, .int x3]) (rest := [.int x4]) C hV mi_X11_givesBy wl_X11_223 hk16 (c_X11_givesBy hM) ⟨by decide, by decide⟩ rfl hl.1 (Nat.le_of_ble_eq_true rfl) dX11_same_44 ⟨Nat.zero_le _, Nat.zero_le _⟩) (fun r18 S17 H locs hV hM => ?_)
    refine lv_aload_n hx hb dX11_same_47 rfl (lv_at hl 0 rfl) ?_
    refine lv_iload_n hx hb dX11_same_48 rfl (lv_at hl 2 rfl) ?_
    refine lv_iload hx hb dX11_same_49 (lv_at hl 5 rfl) ?_
    refine lv_iload_n hx hb dX11_same_51 rfl (lv_at hl 3 rfl) ?_
    have hk19 := hM.1
    have hM := hM.2
    refine x_ci hV (x_runV (As := [.int x2, .int x5, .int x3]) (rest := [.int r18, .int x4]) C hV mi_X11_givesBy wl_X11_223 hk19 (c_X11_givesBy hM) ⟨by decide, by decide⟩ rfl hl.1 (Nat.le_of_ble_eq_true rfl) dX11_same_52 ⟨Nat.zero_le _, Nat.zero_le _⟩) (fun r21 S20 H locs hV hM => ?_)
    refine lv_icmp_ne (tgt := 65) hx hb dX11_same_55 (by decide) (fun c22 => ?_) (fun c22 => ?_)
    · have hM := ite_f c22 hM
      refine lv_iconst (v := 0) hx hb dX11_same_65 (by decide) ?_
      exact tq_X11_same_66 C ih _ _ _ _ _ _ _ _ _ _ _ hM hV (lv_sub hl [0, 1, 2, 3, 5] rfl)
    have hM := ite_t c22 hM
    refine lv_iconst (v := 1) hx hb dX11_same_58 (by decide) ?_
    refine lv_iload hx hb dX11_same_59 (lv_at hl 5 rfl) ?_
    refine lv_ishl hx hb dX11_same_61 ?_
    refine lv_goto (tgt := 66) hx hb dX11_same_62 (by decide) ?_
    exact tq_X11_same_66 C ih _ _ _ _ _ _ _ _ _ _ _ hM hV (lv_sub hl [0, 1, 2, 3, 5] rfl)
set_option maxHeartbeats 4000000 in
set_option maxRecDepth 100000 in
theorem c_X11_same {l : Launch} {D : DX} {cA : Nat → ClassId} {z0 N : Nat} {S : PS} {a0 : Nat} {x1 : Int32} {x2 : Int32} {x3 : Int32} {K : Int32 → PS → Prop} (hM : wp_X11_same N S a0 x1 x2 x3 K) : MetI l yX11_same cX11_same 6 (some .int) 3 0 0 D cA z0 [.ref a0, .int x1, .int x2, .int x3] S K := by
  refine x_met RX11 (by decide) rfl ?_
  intro p e s m below meth c C hin hV
  have hl := lv_entry ([.ref a0, .int x1, .int x2, .int x3]) (n := 6) (Nat.le_of_ble_eq_true rfl)
  rw [lg_entry_eq]
  generalize (lg_sl ([.ref a0, .int x1, .int x2, .int x3]) ++ List.replicate (6 - (lg_sl ([.ref a0, .int x1, .int x2, .int x3])).length) Slot.unset).toArray = ls at hl ⊢
  have hl : lv_has ls 6 [(0, .ref a0), (1, .int x1), (2, .int x2), (3, .int x3)] := hl
  obtain ⟨hx, hb, hml, hown, hts, hK, hz, hlk, hr⟩ := id C
  unfold wp_X11_same at hM
  refine lv_aload_n hx hb dX11_same_0 rfl (lv_at hl 0 rfl) ?_
  refine lv_iload_n hx hb dX11_same_1 rfl (lv_at hl 1 rfl) ?_
  have hk1 := hM.1
  have hM := hM.2
  refine x_ci hV (x_runV (As := [.int x1]) (rest := []) C hV mi_X11_isStory wl_X11_220 hk1 (c_X11_isStory hM) ⟨by decide, by decide⟩ rfl hl.1 (Nat.le_of_ble_eq_true rfl) dX11_same_2 ⟨Nat.zero_le _, Nat.zero_le _⟩) (fun r3 S2 H locs hV hM => ?_)
  have hz4 := hM.1
  have hM := hM.2
  refine lv_if_eq (tgt := 23) hx hb dX11_same_5 (by decide) (fun c5 => ?_) (fun c5 => ?_)
  · have hM := ite_t c5 hM
    refine lv_iconst (v := (-1)) hx hb dX11_same_23 (by decide) ?_
    exact x_iret C hV hM dX11_same_24
  have hM := ite_f c5 hM
  refine lv_aload_n hx hb dX11_same_8 rfl (lv_at hl 0 rfl) ?_
  refine lv_iload_n hx hb dX11_same_9 rfl (lv_at hl 2 rfl) ?_
  have hk6 := hM.1
  have hM := hM.2
  refine x_ci hV (x_runV (As := [.int x2]) (rest := []) C hV mi_X11_isStory wl_X11_220 hk6 (c_X11_isStory hM) ⟨by decide, by decide⟩ rfl hl.1 (Nat.le_of_ble_eq_true rfl) dX11_same_10 ⟨Nat.zero_le _, Nat.zero_le _⟩) (fun r8 S7 H locs hV hM => ?_)
  have hz9 := hM.1
  have hM := hM.2
  refine lv_if_eq (tgt := 23) hx hb dX11_same_13 (by decide) (fun c10 => ?_) (fun c10 => ?_)
  · have hM := ite_t c10 hM
    refine lv_iconst (v := (-1)) hx hb dX11_same_23 (by decide) ?_
    exact x_iret C hV hM dX11_same_24
  have hM := ite_f c10 hM
  refine lv_iload_n hx hb dX11_same_16 rfl (lv_at hl 3 rfl) ?_
  refine x_ci hV (x_runS (As := [.int x3]) (rest := []) C hV ms_X11_isDay wl_X11_110 (c_X11_isDay hM) ⟨by decide, by decide⟩ rfl hl.1 (Nat.le_of_ble_eq_true rfl) dX11_same_17 ⟨Nat.zero_le _, Nat.zero_le _⟩) (fun r12 S11 H locs hV hM => ?_)
  have hz13 := hM.1
  have hM := hM.2
  refine lv_if_ne (tgt := 25) hx hb dX11_same_20 (by decide) (fun c14 => ?_) (fun c14 => ?_)
  · have hM := ite_f c14 hM
    refine lv_iconst (v := 0) hx hb dX11_same_25 (by decide) ?_
    refine lv_istore (lv' := [(4, .int 0), (0, .ref a0), (1, .int x1), (2, .int x2), (3, .int x3)]) hx hb dX11_same_26 hl (by decide) rfl (fun ls hl => ?_)
    refine lv_iconst (v := 0) hx hb dX11_same_28 (by decide) ?_
    refine lv_istore (lv' := [(5, .int 0), (4, .int 0), (0, .ref a0), (1, .int x1), (2, .int x2), (3, .int x3)]) hx hb dX11_same_29 hl (by decide) rfl (fun ls hl => ?_)
    exact tq_X11_same_31 C N _ _ _ _ _ _ _ _ _ _ hM hV (lv_sub hl [2, 3, 4, 5, 1, 0] rfl)
  have hM := ite_t c14 hM
  refine lv_iconst (v := (-1)) hx hb dX11_same_23 (by decide) ?_
  exact x_iret C hV hM dX11_same_24

def wq_X11_sheet_64 (N : Nat) (K : Int32 → PS → Prop) : Nat → PS → Nat → Int32 → Int32 → Prop
  | 0, _, _, _, _ => False
  | n + 1, S, a0, x1, x4 => if 40 ≤ x4 then (K 1 S) else (S.K a0 = 12 ∧ ∃ p24 : Nat, S.R 808 a0 = some p24 ∧ S.K p24 = 22 ∧ vp_in ((40 * x1) + x4) (S.ln p24) ∧ ∀ S27 : PS, S27 = S.setB p24 ((40 * x1) + x4).toNatClampNeg (0 : Int64) → wq_X11_sheet_64 N K n S27 a0 x1 (x4 + 1))
def wq_X11_sheet_60 (N : Nat) (K : Int32 → PS → Prop) (S : PS) (a0 : Nat) (x1 : Int32) (b0 : Nat) (t1 : Int32) (t2 : Int32) : Prop := S.K b0 = 20 ∧ vp_in t1 (S.ln b0) ∧ ∀ S21 : PS, S21 = S.setA b0 t1.toNatClampNeg t2 → wq_X11_sheet_64 N K N S21 a0 x1 0
def wq_X11_sheet_39 (N : Nat) (K : Int32 → PS → Prop) (S : PS) (a0 : Nat) (x1 : Int32) (x2 : Int32) (x3 : Int32) : Prop := S.K a0 = 12 ∧ ∃ p12 : Nat, S.R 806 a0 = some p12 ∧ S.K p12 = 20 ∧ vp_in x1 (S.ln p12) ∧ ∀ S15 : PS, S15 = S.setA p12 x1.toNatClampNeg x2 → ∃ p17 : Nat, S15.R 807 a0 = some p17 ∧ if 0 ≤ x2 then (wq_X11_sheet_60 N K S15 a0 x1 p17 x1 x3) else (wq_X11_sheet_60 N K S15 a0 x1 p17 x1 0)
def wq_X11_sheet_28 (N : Nat) (K : Int32 → PS → Prop) (S : PS) (a0 : Nat) (x1 : Int32) (x2 : Int32) (x3 : Int32) : Prop := if x2 < 0 then (wq_X11_sheet_39 N K S a0 x1 x2 x3) else (if 0 ≤ x3 then (wq_X11_sheet_39 N K S a0 x1 x2 x3) else (K (-14) S))
def wp_X11_sheet (N : Nat) (S : PS) (a0 : Nat) (x1 : Int32) (x2 : Int32) (x3 : Int32) (K : Int32 → PS → Prop) : Prop := wp_X11_isShelf N S x1 (fun r2 S1 => if r2 = 0 then (K (-1) S1) else (wp_X11_in N S1 x2 (-1) 3 (fun r6 S5 => if r6 = 0 then (K (-1) S5) else (if x2 < 0 then (wq_X11_sheet_28 N K S5 a0 x1 x2 x3) else (if x3 ≤ 40 then (wq_X11_sheet_28 N K S5 a0 x1 x2 x3) else (K (-1) S5))))))
set_option maxHeartbeats 4000000 in
set_option maxRecDepth 100000 in
theorem tq_X11_sheet_64 {p : Program} {l : Launch} {e : Env} {s : State} {m : MethodId} {args : Array Value} {below : List Frame} {meth : Method} {c : Code} {D : DX} {cA : Nat → ClassId} {z0 N : Nat} {K : Int32 → PS → Prop} (C : CX p s m args meth c cX11_sheet 5 RX11 (some .int) D cA z0) : ∀ (n : Nat) (S : PS) (a0 : Nat) (x1 : Int32) (x4 : Int32) (H : Heap) (locs : List Loc) (ls : Array Slot), wq_X11_sheet_64 N K n S a0 x1 x4 → XV D cA z0 s S H locs → lv_has ls 5 [(0, .ref a0), (1, .int x1), (4, .int x4)] → W p l e (rmd 2 0 0) s m args below meth c H locs 0 0 (MQ below (va_Qi K (XK D cA z0) (zA z0)) args s 0 0 (zA z0)) (F0 m 64 ls []) := by
  obtain ⟨hx, hb, hml, hown, hts, hK, hz, hlk, hr⟩ := id C
  intro n
  induction n with
  | zero => intro S a0 x1 x4 H locs ls hM; exact absurd hM id
  | succ n ih =>
    intro S a0 x1 x4 H locs ls hM hV hl
    rw [wq_X11_sheet_64.eq_2] at hM
    refine lv_iload hx hb dX11_sheet_64 (lv_at hl 2 rfl) ?_
    refine lv_bipush (v := 40) hx hb dX11_sheet_66 (by decide) ?_
    refine lv_icmp_ge (tgt := 90) hx hb dX11_sheet_68 (by decide) (fun c22 => ?_) (fun c22 => ?_)
    · have hM := ite_t c22 hM
      refine lv_iconst (v := 1) hx hb dX11_sheet_90 (by decide) ?_
      exact x_iret C hV hM dX11_sheet_91
    have hM := ite_f c22 hM
    refine lv_aload_n hx hb dX11_sheet_71 rfl (lv_at hl 0 rfl) ?_
    have hk23 := hM.1
    have hM := hM.2
    obtain ⟨p24, hp24, hM⟩ := hM
    refine x_getR C hV wf_X11_62 hk23 hp24 dX11_sheet_72 ?_
    refine lv_bipush (v := 40) hx hb dX11_sheet_75 (by decide) ?_
    refine lv_iload_n hx hb dX11_sheet_77 rfl (lv_at hl 1 rfl) ?_
    refine lv_imul hx hb dX11_sheet_78 ?_
    refine lv_iload hx hb dX11_sheet_79 (lv_at hl 2 rfl) ?_
    refine lv_iadd hx hb dX11_sheet_81 ?_
    refine lv_lconst (v := 0) hx hb dX11_sheet_82 (by decide) ?_
    have hk25 := hM.1
    have hM := hM.2
    have hi26 := hM.1
    have hM := hM.2
    obtain ⟨S27, eS27⟩ : ∃ z : PS, z = S.setB p24 ((40 * x1) + x4).toNatClampNeg (0 : Int64) := ⟨_, rfl⟩
    have hM := hM S27 eS27
    refine x_last C hV hk25 hi26 eS27 dX11_sheet_83 (fun H locs hV => ?_)
    refine lv_iinc (v := (x4 + 1)) (lv' := [(4, .int (x4 + 1)), (0, .ref a0), (1, .int x1)]) hx hb dX11_sheet_84 hl (k := 2) rfl rfl (by decide) rfl (fun ls hl => ?_)
    refine lv_goto (tgt := 64) hx hb dX11_sheet_87 (by decide) ?_
    exact ih _ _ _ _ _ _ _ hM hV (lv_sub hl [1, 2, 0] rfl)
set_option maxHeartbeats 4000000 in
set_option maxRecDepth 100000 in
theorem tq_X11_sheet_60 {p : Program} {l : Launch} {e : Env} {s : State} {m : MethodId} {args : Array Value} {below : List Frame} {meth : Method} {c : Code} {D : DX} {cA : Nat → ClassId} {z0 N : Nat} {K : Int32 → PS → Prop} (C : CX p s m args meth c cX11_sheet 5 RX11 (some .int) D cA z0) : ∀ (S : PS) (a0 : Nat) (x1 : Int32) (b0 : Nat) (t1 : Int32) (t2 : Int32) (H : Heap) (locs : List Loc) (ls : Array Slot), wq_X11_sheet_60 N K S a0 x1 b0 t1 t2 → XV D cA z0 s S H locs → lv_has ls 5 [(0, .ref a0), (1, .int x1)] → W p l e (rmd 2 0 0) s m args below meth c H locs 0 0 (MQ below (va_Qi K (XK D cA z0) (zA z0)) args s 0 0 (zA z0)) (F0 m 60 ls [.int t2, .int t1, .ref b0]) := by
  obtain ⟨hx, hb, hml, hown, hts, hK, hz, hlk, hr⟩ := id C
  intro S a0 x1 b0 t1 t2 H locs ls hM hV hl
  unfold wq_X11_sheet_60 at hM
  have hk19 := hM.1
  have hM := hM.2
  have hi20 := hM.1
  have hM := hM.2
  obtain ⟨S21, eS21⟩ : ∃ z : PS, z = S.setA b0 t1.toNatClampNeg t2 := ⟨_, rfl⟩
  have hM := hM S21 eS21
  refine x_iast C hV hk19 hi20 eS21 dX11_sheet_60 (fun H locs hV => ?_)
  refine lv_iconst (v := 0) hx hb dX11_sheet_61 (by decide) ?_
  refine lv_istore (lv' := [(4, .int 0), (0, .ref a0), (1, .int x1)]) hx hb dX11_sheet_62 hl (by decide) rfl (fun ls hl => ?_)
  exact tq_X11_sheet_64 C N _ _ _ _ _ _ _ hM hV (lv_sub hl [1, 2, 0] rfl)
set_option maxHeartbeats 4000000 in
set_option maxRecDepth 100000 in
theorem tq_X11_sheet_39 {p : Program} {l : Launch} {e : Env} {s : State} {m : MethodId} {args : Array Value} {below : List Frame} {meth : Method} {c : Code} {D : DX} {cA : Nat → ClassId} {z0 N : Nat} {K : Int32 → PS → Prop} (C : CX p s m args meth c cX11_sheet 5 RX11 (some .int) D cA z0) : ∀ (S : PS) (a0 : Nat) (x1 : Int32) (x2 : Int32) (x3 : Int32) (H : Heap) (locs : List Loc) (ls : Array Slot), wq_X11_sheet_39 N K S a0 x1 x2 x3 → XV D cA z0 s S H locs → lv_has ls 5 [(0, .ref a0), (1, .int x1), (2, .int x2), (3, .int x3)] → W p l e (rmd 2 0 0) s m args below meth c H locs 0 0 (MQ below (va_Qi K (XK D cA z0) (zA z0)) args s 0 0 (zA z0)) (F0 m 39 ls []) := by
  obtain ⟨hx, hb, hml, hown, hts, hK, hz, hlk, hr⟩ := id C
  intro S a0 x1 x2 x3 H locs ls hM hV hl
  unfold wq_X11_sheet_39 at hM
  refine lv_aload_n hx hb dX11_sheet_39 rfl (lv_at hl 0 rfl) ?_
  have hk11 := hM.1
  have hM := hM.2
  obtain ⟨p12, hp12, hM⟩ := hM
  refine x_getR C hV wf_X11_56 hk11 hp12 dX11_sheet_40 ?_
  refine lv_iload_n hx hb dX11_sheet_43 rfl (lv_at hl 1 rfl) ?_
  refine lv_iload_n hx hb dX11_sheet_44 rfl (lv_at hl 2 rfl) ?_
  have hk13 := hM.1
  have hM := hM.2
  have hi14 := hM.1
  have hM := hM.2
  obtain ⟨S15, eS15⟩ : ∃ z : PS, z = S.setA p12 x1.toNatClampNeg x2 := ⟨_, rfl⟩
  have hM := hM S15 eS15
  refine x_iast C hV hk13 hi14 eS15 dX11_sheet_45 (fun H locs hV => ?_)
  refine lv_aload_n hx hb dX11_sheet_46 rfl (lv_at hl 0 rfl) ?_
  have hk16 := kp_A eS15 hk11
  obtain ⟨p17, hp17, hM⟩ := hM
  refine x_getR C hV wf_X11_59 hk16 hp17 dX11_sheet_47 ?_
  refine lv_iload_n hx hb dX11_sheet_50 rfl (lv_at hl 1 rfl) ?_
  refine lv_iload_n hx hb dX11_sheet_51 rfl (lv_at hl 2 rfl) ?_
  refine lv_if_ge (tgt := 59) hx hb dX11_sheet_52 (by decide) (fun c18 => ?_) (fun c18 => ?_)
  · have hM := ite_t c18 hM
    refine lv_iload_n hx hb dX11_sheet_59 rfl (lv_at hl 3 rfl) ?_
    exact tq_X11_sheet_60 C _ _ _ _ _ _ _ _ _ hM hV (lv_sub hl [0, 1] rfl)
  have hM := ite_f c18 hM
  refine lv_iconst (v := 0) hx hb dX11_sheet_55 (by decide) ?_
  refine lv_goto (tgt := 60) hx hb dX11_sheet_56 (by decide) ?_
  exact tq_X11_sheet_60 C _ _ _ _ _ _ _ _ _ hM hV (lv_sub hl [0, 1] rfl)
set_option maxHeartbeats 4000000 in
set_option maxRecDepth 100000 in
theorem tq_X11_sheet_28 {p : Program} {l : Launch} {e : Env} {s : State} {m : MethodId} {args : Array Value} {below : List Frame} {meth : Method} {c : Code} {D : DX} {cA : Nat → ClassId} {z0 N : Nat} {K : Int32 → PS → Prop} (C : CX p s m args meth c cX11_sheet 5 RX11 (some .int) D cA z0) : ∀ (S : PS) (a0 : Nat) (x1 : Int32) (x2 : Int32) (x3 : Int32) (H : Heap) (locs : List Loc) (ls : Array Slot), wq_X11_sheet_28 N K S a0 x1 x2 x3 → XV D cA z0 s S H locs → lv_has ls 5 [(0, .ref a0), (1, .int x1), (2, .int x2), (3, .int x3)] → W p l e (rmd 2 0 0) s m args below meth c H locs 0 0 (MQ below (va_Qi K (XK D cA z0) (zA z0)) args s 0 0 (zA z0)) (F0 m 28 ls []) := by
  obtain ⟨hx, hb, hml, hown, hts, hK, hz, hlk, hr⟩ := id C
  intro S a0 x1 x2 x3 H locs ls hM hV hl
  unfold wq_X11_sheet_28 at hM
  refine lv_iload_n hx hb dX11_sheet_28 rfl (lv_at hl 2 rfl) ?_
  refine lv_if_lt (tgt := 39) hx hb dX11_sheet_29 (by decide) (fun c10 => ?_) (fun c10 => ?_)
  · have hM := ite_t c10 hM
    exact tq_X11_sheet_39 C _ _ _ _ _ _ _ _ hM hV (lv_sub hl [0, 1, 2, 3] rfl)
  have hM := ite_f c10 hM
  refine lv_iload_n hx hb dX11_sheet_32 rfl (lv_at hl 3 rfl) ?_
  refine lv_if_ge (tgt := 39) hx hb dX11_sheet_33 (by decide) (fun c28 => ?_) (fun c28 => ?_)
  · have hM := ite_t c28 hM
    exact tq_X11_sheet_39 C _ _ _ _ _ _ _ _ hM hV (lv_sub hl [0, 1, 2, 3] rfl)
  have hM := ite_f c28 hM
  refine lv_bipush (v := (-14)) hx hb dX11_sheet_36 (by decide) ?_
  exact x_iret C hV hM dX11_sheet_38
set_option maxHeartbeats 4000000 in
set_option maxRecDepth 100000 in
theorem c_X11_sheet {l : Launch} {D : DX} {cA : Nat → ClassId} {z0 N : Nat} {S : PS} {a0 : Nat} {x1 : Int32} {x2 : Int32} {x3 : Int32} {K : Int32 → PS → Prop} (hM : wp_X11_sheet N S a0 x1 x2 x3 K) : MetI l yX11_sheet cX11_sheet 5 (some .int) 2 0 0 D cA z0 [.ref a0, .int x1, .int x2, .int x3] S K := by
  refine x_met RX11 (by decide) rfl ?_
  intro p e s m below meth c C hin hV
  have hl := lv_entry ([.ref a0, .int x1, .int x2, .int x3]) (n := 5) (Nat.le_of_ble_eq_true rfl)
  rw [lg_entry_eq]
  generalize (lg_sl ([.ref a0, .int x1, .int x2, .int x3]) ++ List.replicate (5 - (lg_sl ([.ref a0, .int x1, .int x2, .int x3])).length) Slot.unset).toArray = ls at hl ⊢
  have hl : lv_has ls 5 [(0, .ref a0), (1, .int x1), (2, .int x2), (3, .int x3)] := hl
  obtain ⟨hx, hb, hml, hown, hts, hK, hz, hlk, hr⟩ := id C
  unfold wp_X11_sheet at hM
  refine lv_iload_n hx hb dX11_sheet_0 rfl (lv_at hl 1 rfl) ?_
  refine x_ci hV (x_runS (As := [.int x1]) (rest := []) C hV ms_X11_isShelf wl_X11_388 (c_X11_isShelf hM) ⟨by decide, by decide⟩ rfl hl.1 (Nat.le_of_ble_eq_true rfl) dX11_sheet_1 ⟨Nat.zero_le _, Nat.zero_le _⟩) (fun r2 S1 H locs hV hM => ?_)
  have hz3 := hM.1
  have hM := hM.2
  refine lv_if_eq (tgt := 26) hx hb dX11_sheet_4 (by decide) (fun c4 => ?_) (fun c4 => ?_)
  · have hM := ite_t c4 hM
    refine lv_iconst (v := (-1)) hx hb dX11_sheet_26 (by decide) ?_
    exact x_iret C hV hM dX11_sheet_27
  have hM := ite_f c4 hM
  refine lv_iload_n hx hb dX11_sheet_7 rfl (lv_at hl 2 rfl) ?_
  refine lv_iconst (v := (-1)) hx hb dX11_sheet_8 (by decide) ?_
  refine lv_iconst (v := 3) hx hb dX11_sheet_9 (by decide) ?_
  refine x_ci hV (x_runS (As := [.int x2, .int (-1), .int 3]) (rest := []) C hV ms_X11_in wl_X11_87 (c_X11_in hM) ⟨by decide, by decide⟩ rfl hl.1 (Nat.le_of_ble_eq_true rfl) dX11_sheet_10 ⟨Nat.zero_le _, Nat.zero_le _⟩) (fun r6 S5 H locs hV hM => ?_)
  have hz7 := hM.1
  have hM := hM.2
  refine lv_if_eq (tgt := 26) hx hb dX11_sheet_13 (by decide) (fun c8 => ?_) (fun c8 => ?_)
  · have hM := ite_t c8 hM
    refine lv_iconst (v := (-1)) hx hb dX11_sheet_26 (by decide) ?_
    exact x_iret C hV hM dX11_sheet_27
  have hM := ite_f c8 hM
  refine lv_iload_n hx hb dX11_sheet_16 rfl (lv_at hl 2 rfl) ?_
  refine lv_if_lt (tgt := 28) hx hb dX11_sheet_17 (by decide) (fun c9 => ?_) (fun c9 => ?_)
  · have hM := ite_t c9 hM
    exact tq_X11_sheet_28 C _ _ _ _ _ _ _ _ hM hV (lv_sub hl [0, 1, 2, 3] rfl)
  have hM := ite_f c9 hM
  refine lv_iload_n hx hb dX11_sheet_20 rfl (lv_at hl 3 rfl) ?_
  refine lv_bipush (v := 40) hx hb dX11_sheet_21 (by decide) ?_
  refine lv_icmp_le (tgt := 28) hx hb dX11_sheet_23 (by decide) (fun c29 => ?_) (fun c29 => ?_)
  · have hM := ite_t c29 hM
    exact tq_X11_sheet_28 C _ _ _ _ _ _ _ _ hM hV (lv_sub hl [0, 1, 2, 3] rfl)
  have hM := ite_f c29 hM
  refine lv_iconst (v := (-1)) hx hb dX11_sheet_26 (by decide) ?_
  exact x_iret C hV hM dX11_sheet_27

def wq_X11_shelf_89 (N : Nat) (K : Int32 → PS → Prop) (S : PS) (b0 : Nat) (t1 : Int32) (t2 : Int32) : Prop := S.K b0 = 20 ∧ vp_in t1 (S.ln b0) ∧ ∀ S27 : PS, S27 = S.setA b0 t1.toNatClampNeg t2 → K 1 S27
def wq_X11_shelf_68 (N : Nat) (K : Int32 → PS → Prop) (S : PS) (a0 : Nat) (x1 : Int32) (x2 : Int32) (x3 : Int32) (b0 : Nat) (t1 : Int32) (t2 : Int32) : Prop := S.K b0 = 20 ∧ vp_in t1 (S.ln b0) ∧ ∀ S21 : PS, S21 = S.setA b0 t1.toNatClampNeg t2 → S21.K a0 = 12 ∧ ∃ p23 : Nat, S21.R 811 a0 = some p23 ∧ if x2 = 1 then (∃ p28 : Nat, S21.R 807 a0 = some p28 ∧ S21.K p28 = 20 ∧ vp_in x3 (S21.ln p28) ∧ wq_X11_shelf_89 N K S21 p23 x1 (S21.A p28 x3.toNatClampNeg)) else (wq_X11_shelf_89 N K S21 p23 x1 0)
def wq_X11_shelf_47 (N : Nat) (K : Int32 → PS → Prop) (S : PS) (a0 : Nat) (x1 : Int32) (x2 : Int32) (x3 : Int32) (b0 : Nat) (t1 : Int32) (t2 : Int32) : Prop := S.K b0 = 20 ∧ vp_in t1 (S.ln b0) ∧ ∀ S15 : PS, S15 = S.setA b0 t1.toNatClampNeg t2 → S15.K a0 = 12 ∧ ∃ p17 : Nat, S15.R 810 a0 = some p17 ∧ if x2 = 1 then (∃ p31 : Nat, S15.R 806 a0 = some p31 ∧ S15.K p31 = 20 ∧ vp_in x3 (S15.ln p31) ∧ wq_X11_shelf_68 N K S15 a0 x1 x2 x3 p17 x1 (S15.A p31 x3.toNatClampNeg)) else (wq_X11_shelf_68 N K S15 a0 x1 x2 x3 p17 x1 x3)
def wq_X11_shelf_42 (N : Nat) (K : Int32 → PS → Prop) (S : PS) (a0 : Nat) (x1 : Int32) (x2 : Int32) (x3 : Int32) (b0 : Nat) (t1 : Int32) : Prop := wq_X11_shelf_47 N K S a0 x1 x2 x3 b0 t1 (-1)
def wq_X11_shelf_46 (N : Nat) (K : Int32 → PS → Prop) (S : PS) (a0 : Nat) (x1 : Int32) (x2 : Int32) (x3 : Int32) (b0 : Nat) (t1 : Int32) : Prop := wq_X11_shelf_47 N K S a0 x1 x2 x3 b0 t1 x2
def wp_X11_shelf (N : Nat) (S : PS) (a0 : Nat) (x1 : Int32) (x2 : Int32) (x3 : Int32) (K : Int32 → PS → Prop) : Prop := wp_X11_isShelf N S x1 (fun r2 S1 => if r2 = 0 then (K (-1) S1) else (S1.K a0 = 12 ∧ wp_X11_isHeld N S1 a0 x2 x3 (fun r7 S6 => if r7 = 0 then (K (-1) S6) else (S6.K a0 = 12 ∧ ∃ p11 : Nat, S6.R 809 a0 = some p11 ∧ if x2 = 2 then (wq_X11_shelf_42 N K S6 a0 x1 x2 x3 p11 x1) else (if x2 = 1 then (∃ p35 : Nat, S6.R 806 a0 = some p35 ∧ S6.K p35 = 20 ∧ vp_in x3 (S6.ln p35) ∧ if 0 ≤ (S6.A p35 x3.toNatClampNeg) then (wq_X11_shelf_46 N K S6 a0 x1 x2 x3 p11 x1) else (wq_X11_shelf_42 N K S6 a0 x1 x2 x3 p11 x1)) else (wq_X11_shelf_46 N K S6 a0 x1 x2 x3 p11 x1))))))
set_option maxHeartbeats 4000000 in
set_option maxRecDepth 100000 in
theorem tq_X11_shelf_89 {p : Program} {l : Launch} {e : Env} {s : State} {m : MethodId} {args : Array Value} {below : List Frame} {meth : Method} {c : Code} {D : DX} {cA : Nat → ClassId} {z0 N : Nat} {K : Int32 → PS → Prop} (C : CX p s m args meth c cX11_shelf 4 RX11 (some .int) D cA z0) : ∀ (S : PS) (b0 : Nat) (t1 : Int32) (t2 : Int32) (H : Heap) (locs : List Loc) (ls : Array Slot), wq_X11_shelf_89 N K S b0 t1 t2 → XV D cA z0 s S H locs → lv_has ls 4 [] → W p l e (rmd 3 0 0) s m args below meth c H locs 0 0 (MQ below (va_Qi K (XK D cA z0) (zA z0)) args s 0 0 (zA z0)) (F0 m 89 ls [.int t2, .int t1, .ref b0]) := by
  obtain ⟨hx, hb, hml, hown, hts, hK, hz, hlk, hr⟩ := id C
  intro S b0 t1 t2 H locs ls hM hV hl
  unfold wq_X11_shelf_89 at hM
  have hk25 := hM.1
  have hM := hM.2
  have hi26 := hM.1
  have hM := hM.2
  obtain ⟨S27, eS27⟩ : ∃ z : PS, z = S.setA b0 t1.toNatClampNeg t2 := ⟨_, rfl⟩
  have hM := hM S27 eS27
  refine x_iast C hV hk25 hi26 eS27 dX11_shelf_89 (fun H locs hV => ?_)
  refine lv_iconst (v := 1) hx hb dX11_shelf_90 (by decide) ?_
  exact x_iret C hV hM dX11_shelf_91
set_option maxHeartbeats 4000000 in
set_option maxRecDepth 100000 in
theorem tq_X11_shelf_68 {p : Program} {l : Launch} {e : Env} {s : State} {m : MethodId} {args : Array Value} {below : List Frame} {meth : Method} {c : Code} {D : DX} {cA : Nat → ClassId} {z0 N : Nat} {K : Int32 → PS → Prop} (C : CX p s m args meth c cX11_shelf 4 RX11 (some .int) D cA z0) : ∀ (S : PS) (a0 : Nat) (x1 : Int32) (x2 : Int32) (x3 : Int32) (b0 : Nat) (t1 : Int32) (t2 : Int32) (H : Heap) (locs : List Loc) (ls : Array Slot), wq_X11_shelf_68 N K S a0 x1 x2 x3 b0 t1 t2 → XV D cA z0 s S H locs → lv_has ls 4 [(0, .ref a0), (1, .int x1), (2, .int x2), (3, .int x3)] → W p l e (rmd 3 0 0) s m args below meth c H locs 0 0 (MQ below (va_Qi K (XK D cA z0) (zA z0)) args s 0 0 (zA z0)) (F0 m 68 ls [.int t2, .int t1, .ref b0]) := by
  obtain ⟨hx, hb, hml, hown, hts, hK, hz, hlk, hr⟩ := id C
  intro S a0 x1 x2 x3 b0 t1 t2 H locs ls hM hV hl
  unfold wq_X11_shelf_68 at hM
  have hk19 := hM.1
  have hM := hM.2
  have hi20 := hM.1
  have hM := hM.2
  obtain ⟨S21, eS21⟩ : ∃ z : PS, z = S.setA b0 t1.toNatClampNeg t2 := ⟨_, rfl⟩
  have hM := hM S21 eS21
  refine x_iast C hV hk19 hi20 eS21 dX11_shelf_68 (fun H locs hV => ?_)
  refine lv_aload_n hx hb dX11_shelf_69 rfl (lv_at hl 0 rfl) ?_
  have hk22 := hM.1
  have hM := hM.2
  obtain ⟨p23, hp23, hM⟩ := hM
  refine x_getR C hV wf_X11_72 hk22 hp23 dX11_shelf_70 ?_
  refine lv_iload_n hx hb dX11_shelf_73 rfl (lv_at hl 1 rfl) ?_
  refine lv_iload_n hx hb dX11_shelf_74 rfl (lv_at hl 2 rfl) ?_
  refine lv_iconst (v := 1) hx hb dX11_shelf_75 (by decide) ?_
  refine lv_icmp_ne (tgt := 88) hx hb dX11_shelf_76 (by decide) (fun c24 => ?_) (fun c24 => ?_)
  · have hM := ite_f c24 hM
    refine lv_iconst (v := 0) hx hb dX11_shelf_88 (by decide) ?_
    exact tq_X11_shelf_89 C _ _ _ _ _ _ _ hM hV (lv_sub hl [] rfl)
  have hM := ite_t c24 hM
  refine lv_aload_n hx hb dX11_shelf_79 rfl (lv_at hl 0 rfl) ?_
  obtain ⟨p28, hp28, hM⟩ := hM
  refine x_getR C hV wf_X11_59 hk22 hp28 dX11_shelf_80 ?_
  refine lv_iload_n hx hb dX11_shelf_83 rfl (lv_at hl 3 rfl) ?_
  have hk29 := hM.1
  have hM := hM.2
  have hi30 := hM.1
  have hM := hM.2
  refine x_iald C hV hk29 hi30 dX11_shelf_84 ?_
  refine lv_goto (tgt := 89) hx hb dX11_shelf_85 (by decide) ?_
  exact tq_X11_shelf_89 C _ _ _ _ _ _ _ hM hV (lv_sub hl [] rfl)
set_option maxHeartbeats 4000000 in
set_option maxRecDepth 100000 in
theorem tq_X11_shelf_47 {p : Program} {l : Launch} {e : Env} {s : State} {m : MethodId} {args : Array Value} {below : List Frame} {meth : Method} {c : Code} {D : DX} {cA : Nat → ClassId} {z0 N : Nat} {K : Int32 → PS → Prop} (C : CX p s m args meth c cX11_shelf 4 RX11 (some .int) D cA z0) : ∀ (S : PS) (a0 : Nat) (x1 : Int32) (x2 : Int32) (x3 : Int32) (b0 : Nat) (t1 : Int32) (t2 : Int32) (H : Heap) (locs : List Loc) (ls : Array Slot), wq_X11_shelf_47 N K S a0 x1 x2 x3 b0 t1 t2 → XV D cA z0 s S H locs → lv_has ls 4 [(0, .ref a0), (1, .int x1), (2, .int x2), (3, .int x3)] → W p l e (rmd 3 0 0) s m args below meth c H locs 0 0 (MQ below (va_Qi K (XK D cA z0) (zA z0)) args s 0 0 (zA z0)) (F0 m 47 ls [.int t2, .int t1, .ref b0]) := by
  obtain ⟨hx, hb, hml, hown, hts, hK, hz, hlk, hr⟩ := id C
  intro S a0 x1 x2 x3 b0 t1 t2 H locs ls hM hV hl
  unfold wq_X11_shelf_47 at hM
  have hk13 := hM.1
  have hM := hM.2
  have hi14 := hM.1
  have hM := hM.2
  obtain ⟨S15, eS15⟩ : ∃ z : PS, z = S.setA b0 t1.toNatClampNeg t2 := ⟨_, rfl⟩
  have hM := hM S15 eS15
  refine x_iast C hV hk13 hi14 eS15 dX11_shelf_47 (fun H locs hV => ?_)
  refine lv_aload_n hx hb dX11_shelf_48 rfl (lv_at hl 0 rfl) ?_
  have hk16 := hM.1
  have hM := hM.2
  obtain ⟨p17, hp17, hM⟩ := hM
  refine x_getR C hV wf_X11_69 hk16 hp17 dX11_shelf_49 ?_
  refine lv_iload_n hx hb dX11_shelf_52 rfl (lv_at hl 1 rfl) ?_
  refine lv_iload_n hx hb dX11_shelf_53 rfl (lv_at hl 2 rfl) ?_
  refine lv_iconst (v := 1) hx hb dX11_shelf_54 (by decide) ?_
  refine lv_icmp_ne (tgt := 67) hx hb dX11_shelf_55 (by decide) (fun c18 => ?_) (fun c18 => ?_)
  · have hM := ite_f c18 hM
    refine lv_iload_n hx hb dX11_shelf_67 rfl (lv_at hl 3 rfl) ?_
    exact tq_X11_shelf_68 C _ _ _ _ _ _ _ _ _ _ _ hM hV (lv_sub hl [0, 1, 2, 3] rfl)
  have hM := ite_t c18 hM
  refine lv_aload_n hx hb dX11_shelf_58 rfl (lv_at hl 0 rfl) ?_
  obtain ⟨p31, hp31, hM⟩ := hM
  refine x_getR C hV wf_X11_56 hk16 hp31 dX11_shelf_59 ?_
  refine lv_iload_n hx hb dX11_shelf_62 rfl (lv_at hl 3 rfl) ?_
  have hk32 := hM.1
  have hM := hM.2
  have hi33 := hM.1
  have hM := hM.2
  refine x_iald C hV hk32 hi33 dX11_shelf_63 ?_
  refine lv_goto (tgt := 68) hx hb dX11_shelf_64 (by decide) ?_
  exact tq_X11_shelf_68 C _ _ _ _ _ _ _ _ _ _ _ hM hV (lv_sub hl [0, 1, 2, 3] rfl)
set_option maxHeartbeats 4000000 in
set_option maxRecDepth 100000 in
theorem tq_X11_shelf_42 {p : Program} {l : Launch} {e : Env} {s : State} {m : MethodId} {args : Array Value} {below : List Frame} {meth : Method} {c : Code} {D : DX} {cA : Nat → ClassId} {z0 N : Nat} {K : Int32 → PS → Prop} (C : CX p s m args meth c cX11_shelf 4 RX11 (some .int) D cA z0) : ∀ (S : PS) (a0 : Nat) (x1 : Int32) (x2 : Int32) (x3 : Int32) (b0 : Nat) (t1 : Int32) (H : Heap) (locs : List Loc) (ls : Array Slot), wq_X11_shelf_42 N K S a0 x1 x2 x3 b0 t1 → XV D cA z0 s S H locs → lv_has ls 4 [(0, .ref a0), (1, .int x1), (2, .int x2), (3, .int x3)] → W p l e (rmd 3 0 0) s m args below meth c H locs 0 0 (MQ below (va_Qi K (XK D cA z0) (zA z0)) args s 0 0 (zA z0)) (F0 m 42 ls [.int t1, .ref b0]) := by
  obtain ⟨hx, hb, hml, hown, hts, hK, hz, hlk, hr⟩ := id C
  intro S a0 x1 x2 x3 b0 t1 H locs ls hM hV hl
  unfold wq_X11_shelf_42 at hM
  refine lv_iconst (v := (-1)) hx hb dX11_shelf_42 (by decide) ?_
  refine lv_goto (tgt := 47) hx hb dX11_shelf_43 (by decide) ?_
  exact tq_X11_shelf_47 C _ _ _ _ _ _ _ _ _ _ _ hM hV (lv_sub hl [0, 1, 2, 3] rfl)
set_option maxHeartbeats 4000000 in
set_option maxRecDepth 100000 in
theorem tq_X11_shelf_46 {p : Program} {l : Launch} {e : Env} {s : State} {m : MethodId} {args : Array Value} {below : List Frame} {meth : Method} {c : Code} {D : DX} {cA : Nat → ClassId} {z0 N : Nat} {K : Int32 → PS → Prop} (C : CX p s m args meth c cX11_shelf 4 RX11 (some .int) D cA z0) : ∀ (S : PS) (a0 : Nat) (x1 : Int32) (x2 : Int32) (x3 : Int32) (b0 : Nat) (t1 : Int32) (H : Heap) (locs : List Loc) (ls : Array Slot), wq_X11_shelf_46 N K S a0 x1 x2 x3 b0 t1 → XV D cA z0 s S H locs → lv_has ls 4 [(0, .ref a0), (1, .int x1), (2, .int x2), (3, .int x3)] → W p l e (rmd 3 0 0) s m args below meth c H locs 0 0 (MQ below (va_Qi K (XK D cA z0) (zA z0)) args s 0 0 (zA z0)) (F0 m 46 ls [.int t1, .ref b0]) := by
  obtain ⟨hx, hb, hml, hown, hts, hK, hz, hlk, hr⟩ := id C
  intro S a0 x1 x2 x3 b0 t1 H locs ls hM hV hl
  unfold wq_X11_shelf_46 at hM
  refine lv_iload_n hx hb dX11_shelf_46 rfl (lv_at hl 2 rfl) ?_
  exact tq_X11_shelf_47 C _ _ _ _ _ _ _ _ _ _ _ hM hV (lv_sub hl [0, 1, 2, 3] rfl)
set_option maxHeartbeats 4000000 in
set_option maxRecDepth 100000 in
theorem c_X11_shelf {l : Launch} {D : DX} {cA : Nat → ClassId} {z0 N : Nat} {S : PS} {a0 : Nat} {x1 : Int32} {x2 : Int32} {x3 : Int32} {K : Int32 → PS → Prop} (hM : wp_X11_shelf N S a0 x1 x2 x3 K) : MetI l yX11_shelf cX11_shelf 4 (some .int) 3 0 0 D cA z0 [.ref a0, .int x1, .int x2, .int x3] S K := by
  refine x_met RX11 (by decide) rfl ?_
  intro p e s m below meth c C hin hV
  have hl := lv_entry ([.ref a0, .int x1, .int x2, .int x3]) (n := 4) (Nat.le_of_ble_eq_true rfl)
  rw [lg_entry_eq]
  generalize (lg_sl ([.ref a0, .int x1, .int x2, .int x3]) ++ List.replicate (4 - (lg_sl ([.ref a0, .int x1, .int x2, .int x3])).length) Slot.unset).toArray = ls at hl ⊢
  have hl : lv_has ls 4 [(0, .ref a0), (1, .int x1), (2, .int x2), (3, .int x3)] := hl
  obtain ⟨hx, hb, hml, hown, hts, hK, hz, hlk, hr⟩ := id C
  unfold wp_X11_shelf at hM
  refine lv_iload_n hx hb dX11_shelf_0 rfl (lv_at hl 1 rfl) ?_
  refine x_ci hV (x_runS (As := [.int x1]) (rest := []) C hV ms_X11_isShelf wl_X11_388 (c_X11_isShelf hM) ⟨by decide, by decide⟩ rfl hl.1 (Nat.le_of_ble_eq_true rfl) dX11_shelf_1 ⟨Nat.zero_le _, Nat.zero_le _⟩) (fun r2 S1 H locs hV hM => ?_)
  have hz3 := hM.1
  have hM := hM.2
  refine lv_if_eq (tgt := 16) hx hb dX11_shelf_4 (by decide) (fun c4 => ?_) (fun c4 => ?_)
  · have hM := ite_t c4 hM
    refine lv_iconst (v := (-1)) hx hb dX11_shelf_16 (by decide) ?_
    exact x_iret C hV hM dX11_shelf_17
  have hM := ite_f c4 hM
  refine lv_aload_n hx hb dX11_shelf_7 rfl (lv_at hl 0 rfl) ?_
  refine lv_iload_n hx hb dX11_shelf_8 rfl (lv_at hl 2 rfl) ?_
  refine lv_iload_n hx hb dX11_shelf_9 rfl (lv_at hl 3 rfl) ?_
  have hk5 := hM.1
  have hM := hM.2
  refine x_ci hV (x_runV (As := [.int x2, .int x3]) (rest := []) C hV mi_X11_isHeld wl_X11_394 hk5 (c_X11_isHeld hM) ⟨by decide, by decide⟩ rfl hl.1 (Nat.le_of_ble_eq_true rfl) dX11_shelf_10 ⟨Nat.zero_le _, Nat.zero_le _⟩) (fun r7 S6 H locs hV hM => ?_)
  have hz8 := hM.1
  have hM := hM.2
  refine lv_if_ne (tgt := 18) hx hb dX11_shelf_13 (by decide) (fun c9 => ?_) (fun c9 => ?_)
  · have hM := ite_f c9 hM
    refine lv_aload_n hx hb dX11_shelf_18 rfl (lv_at hl 0 rfl) ?_
    have hk10 := hM.1
    have hM := hM.2
    obtain ⟨p11, hp11, hM⟩ := hM
    refine x_getR C hV wf_X11_66 hk10 hp11 dX11_shelf_19 ?_
    refine lv_iload_n hx hb dX11_shelf_22 rfl (lv_at hl 1 rfl) ?_
    refine lv_iload_n hx hb dX11_shelf_23 rfl (lv_at hl 2 rfl) ?_
    refine lv_iconst (v := 2) hx hb dX11_shelf_24 (by decide) ?_
    refine lv_icmp_eq (tgt := 42) hx hb dX11_shelf_25 (by decide) (fun c12 => ?_) (fun c12 => ?_)
    · have hM := ite_t c12 hM
      exact tq_X11_shelf_42 C _ _ _ _ _ _ _ _ _ _ hM hV (lv_sub hl [0, 1, 2, 3] rfl)
    have hM := ite_f c12 hM
    refine lv_iload_n hx hb dX11_shelf_28 rfl (lv_at hl 2 rfl) ?_
    refine lv_iconst (v := 1) hx hb dX11_shelf_29 (by decide) ?_
    refine lv_icmp_ne (tgt := 46) hx hb dX11_shelf_30 (by decide) (fun c34 => ?_) (fun c34 => ?_)
    · have hM := ite_f c34 hM
      exact tq_X11_shelf_46 C _ _ _ _ _ _ _ _ _ _ hM hV (lv_sub hl [0, 1, 2, 3] rfl)
    have hM := ite_t c34 hM
    refine lv_aload_n hx hb dX11_shelf_33 rfl (lv_at hl 0 rfl) ?_
    obtain ⟨p35, hp35, hM⟩ := hM
    refine x_getR C hV wf_X11_56 hk10 hp35 dX11_shelf_34 ?_
    refine lv_iload_n hx hb dX11_shelf_37 rfl (lv_at hl 3 rfl) ?_
    have hk36 := hM.1
    have hM := hM.2
    have hi37 := hM.1
    have hM := hM.2
    refine x_iald C hV hk36 hi37 dX11_shelf_38 ?_
    refine lv_if_ge (tgt := 46) hx hb dX11_shelf_39 (by decide) (fun c38 => ?_) (fun c38 => ?_)
    · have hM := ite_t c38 hM
      exact tq_X11_shelf_46 C _ _ _ _ _ _ _ _ _ _ hM hV (lv_sub hl [0, 1, 2, 3] rfl)
    have hM := ite_f c38 hM
    exact tq_X11_shelf_42 C _ _ _ _ _ _ _ _ _ _ hM hV (lv_sub hl [0, 1, 2, 3] rfl)
  have hM := ite_t c9 hM
  refine lv_iconst (v := (-1)) hx hb dX11_shelf_16 (by decide) ?_
  exact x_iret C hV hM dX11_shelf_17

def wq_X11_sign_19 (N : Nat) (K : Int32 → PS → Prop) (k_10 : PS → Nat → Int32 → Int32 → Int32 → Prop) : Nat → PS → Nat → Int32 → Int32 → Int32 → Int32 → Prop
  | 0, _, _, _, _, _, _ => False
  | n + 1, S, a0, x1, x2, x3, x4 => S.K a0 = 12 ∧ if (S.I 778 a0) ≤ x4 then (k_10 S a0 x1 x2 x3) else (if ((x1 >>> (x4 &&& 31)) &&& 1) = 0 then (wp_X11_isSo N S a0 x4 x2 (fun r9 S8 => if r9 = 0 then (wq_X11_sign_19 N K k_10 n S8 a0 x1 x2 x3 (x4 + 1)) else (∀ v12 : Int32, v12 = (x1 ||| ((1 : Int32) <<< (x4 &&& 31))) → wq_X11_sign_19 N K k_10 n S8 a0 v12 (x2 + 1) 1 (x4 + 1)))) else (wq_X11_sign_19 N K k_10 n S a0 x1 x2 x3 (x4 + 1)))
def wq_X11_sign_10 (N : Nat) (K : Int32 → PS → Prop) : Nat → PS → Nat → Int32 → Int32 → Int32 → Prop
  | 0, _, _, _, _, _ => False
  | n + 1, S, a0, x1, x2, x3 => if x3 = 0 then (K x1 S) else (wq_X11_sign_19 N K (fun S a0 x1 x2 x3 => wq_X11_sign_10 N K n S a0 x1 x2 x3) N S a0 x1 x2 0 0)
def wp_X11_sign (N : Nat) (S : PS) (a0 : Nat) (K : Int32 → PS → Prop) : Prop := S.K a0 = 12 ∧ wp_X11_findFacts N S a0 (fun S2 => wq_X11_sign_10 N K N S2 a0 0 0 1)
set_option maxHeartbeats 4000000 in
set_option maxRecDepth 100000 in
theorem tq_X11_sign_19 {p : Program} {l : Launch} {e : Env} {s : State} {m : MethodId} {args : Array Value} {below : List Frame} {meth : Method} {c : Code} {D : DX} {cA : Nat → ClassId} {z0 N : Nat} {K : Int32 → PS → Prop} {k_10 : PS → Nat → Int32 → Int32 → Int32 → Prop} (C : CX p s m args meth c cX11_sign 5 RX11 (some .int) D cA z0) (H_10 : ∀ (S : PS) (a0 : Nat) (x1 : Int32) (x2 : Int32) (x3 : Int32) (H : Heap) (locs : List Loc) (ls : Array Slot), k_10 S a0 x1 x2 x3 → XV D cA z0 s S H locs → lv_has ls 5 [(0, .ref a0), (1, .int x1), (2, .int x2), (3, .int x3)] → W p l e (rmd 8 0 0) s m args below meth c H locs 0 0 (MQ below (va_Qi K (XK D cA z0) (zA z0)) args s 0 0 (zA z0)) (F0 m 10 ls [])) : ∀ (n : Nat) (S : PS) (a0 : Nat) (x1 : Int32) (x2 : Int32) (x3 : Int32) (x4 : Int32) (H : Heap) (locs : List Loc) (ls : Array Slot), wq_X11_sign_19 N K k_10 n S a0 x1 x2 x3 x4 → XV D cA z0 s S H locs → lv_has ls 5 [(0, .ref a0), (1, .int x1), (2, .int x2), (3, .int x3), (4, .int x4)] → W p l e (rmd 8 0 0) s m args below meth c H locs 0 0 (MQ below (va_Qi K (XK D cA z0) (zA z0)) args s 0 0 (zA z0)) (F0 m 19 ls []) := by
  obtain ⟨hx, hb, hml, hown, hts, hK, hz, hlk, hr⟩ := id C
  intro n
  induction n with
  | zero => intro S a0 x1 x2 x3 x4 H locs ls hM; exact absurd hM id
  | succ n ih =>
    intro S a0 x1 x2 x3 x4 H locs ls hM hV hl
    rw [wq_X11_sign_19.eq_2] at hM
    refine lv_iload hx hb dX11_sign_19 (lv_at hl 4 rfl) ?_
    refine lv_aload_n hx hb dX11_sign_21 rfl (lv_at hl 0 rfl) ?_
    have hk5 := hM.1
    have hM := hM.2
    refine x_getI C hV wf_X11_364 hk5 dX11_sign_22 ?_
    refine lv_icmp_ge (tgt := 65) hx hb dX11_sign_25 (by decide) (fun c6 => ?_) (fun c6 => ?_)
    · have hM := ite_t c6 hM
      refine lv_goto (tgt := 10) hx hb dX11_sign_65 (by decide) ?_
      exact H_10 _ _ _ _ _ _ _ _ hM hV (lv_sub hl [0, 1, 2, 3] rfl)
    have hM := ite_f c6 hM
    refine lv_iload_n hx hb dX11_sign_28 rfl (lv_at hl 1 rfl) ?_
    refine lv_iload hx hb dX11_sign_29 (lv_at hl 4 rfl) ?_
    refine lv_ishr hx hb dX11_sign_31 ?_
    refine lv_iconst (v := 1) hx hb dX11_sign_32 (by decide) ?_
    refine lv_iand hx hb dX11_sign_33 ?_
    refine lv_if_ne (tgt := 59) hx hb dX11_sign_34 (by decide) (fun c7 => ?_) (fun c7 => ?_)
    · have hM := ite_f c7 hM
      refine lv_iinc (v := (x4 + 1)) (lv' := [(4, .int (x4 + 1)), (0, .ref a0), (1, .int x1), (2, .int x2), (3, .int x3)]) hx hb dX11_sign_59 hl (k := 4) rfl rfl (by decide) rfl (fun ls hl => ?_)
      refine lv_goto (tgt := 19) hx hb dX11_sign_62 (by decide) ?_
      exact ih _ _ _ _ _ _ _ _ _ hM hV (lv_sub hl [1, 2, 3, 4, 0] rfl)
    have hM := ite_t c7 hM
    refine lv_aload_n hx hb dX11_sign_37 rfl (lv_at hl 0 rfl) ?_
    refine lv_iload hx hb dX11_sign_38 (lv_at hl 4 rfl) ?_
    refine lv_iload_n hx hb dX11_sign_40 rfl (lv_at hl 2 rfl) ?_
    refine x_ci hV (x_runV (As := [.int x4, .int x2]) (rest := []) C hV mi_X11_isSo wl_X11_379 hk5 (c_X11_isSo hM) ⟨by decide, by decide⟩ rfl hl.1 (Nat.le_of_ble_eq_true rfl) dX11_sign_41 ⟨Nat.zero_le _, Nat.zero_le _⟩) (fun r9 S8 H locs hV hM => ?_)
    have hz10 := hM.1
    have hM := hM.2
    refine lv_if_eq (tgt := 59) hx hb dX11_sign_44 (by decide) (fun c11 => ?_) (fun c11 => ?_)
    · have hM := ite_t c11 hM
      refine lv_iinc (v := (x4 + 1)) (lv' := [(4, .int (x4 + 1)), (0, .ref a0), (1, .int x1), (2, .int x2), (3, .int x3)]) hx hb dX11_sign_59 hl (k := 4) rfl rfl (by decide) rfl (fun ls hl => ?_)
      refine lv_goto (tgt := 19) hx hb dX11_sign_62 (by decide) ?_
      exact ih _ _ _ _ _ _ _ _ _ hM hV (lv_sub hl [1, 2, 3, 4, 0] rfl)
    have hM := ite_f c11 hM
    refine lv_iload_n hx hb dX11_sign_47 rfl (lv_at hl 1 rfl) ?_
    refine lv_iconst (v := 1) hx hb dX11_sign_48 (by decide) ?_
    refine lv_iload hx hb dX11_sign_49 (lv_at hl 4 rfl) ?_
    refine lv_ishl hx hb dX11_sign_51 ?_
    refine lv_ior hx hb dX11_sign_52 ?_
    refine lv_topi (fun v12 ev12 => ?_)
    have hM := hM v12 ev12
    refine lv_istore_n (lv' := [(1, .int v12), (0, .ref a0), (2, .int x2), (3, .int x3), (4, .int x4)]) hx hb dX11_sign_53 rfl hl (by decide) rfl (fun ls hl => ?_)
    refine lv_iinc (v := (x2 + 1)) (lv' := [(2, .int (x2 + 1)), (1, .int v12), (0, .ref a0), (3, .int x3), (4, .int x4)]) hx hb dX11_sign_54 hl (k := 2) rfl rfl (by decide) rfl (fun ls hl => ?_)
    refine lv_iconst (v := 1) hx hb dX11_sign_57 (by decide) ?_
    refine lv_istore_n (lv' := [(3, .int 1), (2, .int (x2 + 1)), (1, .int v12), (0, .ref a0), (4, .int x4)]) hx hb dX11_sign_58 rfl hl (by decide) rfl (fun ls hl => ?_)
    refine lv_iinc (v := (x4 + 1)) (lv' := [(4, .int (x4 + 1)), (3, .int 1), (2, .int (x2 + 1)), (1, .int v12), (0, .ref a0)]) hx hb dX11_sign_59 hl (k := 4) rfl rfl (by decide) rfl (fun ls hl => ?_)
    refine lv_goto (tgt := 19) hx hb dX11_sign_62 (by decide) ?_
    exact ih _ _ _ _ _ _ _ _ _ hM hV (lv_sub hl [4, 3, 2, 1, 0] rfl)
set_option maxHeartbeats 4000000 in
set_option maxRecDepth 100000 in
theorem tq_X11_sign_10 {p : Program} {l : Launch} {e : Env} {s : State} {m : MethodId} {args : Array Value} {below : List Frame} {meth : Method} {c : Code} {D : DX} {cA : Nat → ClassId} {z0 N : Nat} {K : Int32 → PS → Prop} (C : CX p s m args meth c cX11_sign 5 RX11 (some .int) D cA z0) : ∀ (n : Nat) (S : PS) (a0 : Nat) (x1 : Int32) (x2 : Int32) (x3 : Int32) (H : Heap) (locs : List Loc) (ls : Array Slot), wq_X11_sign_10 N K n S a0 x1 x2 x3 → XV D cA z0 s S H locs → lv_has ls 5 [(0, .ref a0), (1, .int x1), (2, .int x2), (3, .int x3)] → W p l e (rmd 8 0 0) s m args below meth c H locs 0 0 (MQ below (va_Qi K (XK D cA z0) (zA z0)) args s 0 0 (zA z0)) (F0 m 10 ls []) := by
  obtain ⟨hx, hb, hml, hown, hts, hK, hz, hlk, hr⟩ := id C
  intro n
  induction n with
  | zero => intro S a0 x1 x2 x3 H locs ls hM; exact absurd hM id
  | succ n ih =>
    intro S a0 x1 x2 x3 H locs ls hM hV hl
    rw [wq_X11_sign_10.eq_2] at hM
    refine lv_iload_n hx hb dX11_sign_10 rfl (lv_at hl 3 rfl) ?_
    refine lv_if_eq (tgt := 68) hx hb dX11_sign_11 (by decide) (fun c4 => ?_) (fun c4 => ?_)
    · have hM := ite_t c4 hM
      refine lv_iload_n hx hb dX11_sign_68 rfl (lv_at hl 1 rfl) ?_
      exact x_iret C hV hM dX11_sign_69
    have hM := ite_f c4 hM
    refine lv_iconst (v := 0) hx hb dX11_sign_14 (by decide) ?_
    refine lv_istore_n (lv' := [(3, .int 0), (0, .ref a0), (1, .int x1), (2, .int x2)]) hx hb dX11_sign_15 rfl hl (by decide) rfl (fun ls hl => ?_)
    refine lv_iconst (v := 0) hx hb dX11_sign_16 (by decide) ?_
    refine lv_istore (lv' := [(4, .int 0), (3, .int 0), (0, .ref a0), (1, .int x1), (2, .int x2)]) hx hb dX11_sign_17 hl (by decide) rfl (fun ls hl => ?_)
    exact tq_X11_sign_19 C ih N _ _ _ _ _ _ _ _ _ hM hV (lv_sub hl [2, 3, 4, 1, 0] rfl)
set_option maxHeartbeats 4000000 in
set_option maxRecDepth 100000 in
theorem c_X11_sign {l : Launch} {D : DX} {cA : Nat → ClassId} {z0 N : Nat} {S : PS} {a0 : Nat} {K : Int32 → PS → Prop} (hM : wp_X11_sign N S a0 K) : MetI l yX11_sign cX11_sign 5 (some .int) 8 0 0 D cA z0 [.ref a0] S K := by
  refine x_met RX11 (by decide) rfl ?_
  intro p e s m below meth c C hin hV
  have hl := lv_entry ([.ref a0]) (n := 5) (Nat.le_of_ble_eq_true rfl)
  rw [lg_entry_eq]
  generalize (lg_sl ([.ref a0]) ++ List.replicate (5 - (lg_sl ([.ref a0])).length) Slot.unset).toArray = ls at hl ⊢
  have hl : lv_has ls 5 [(0, .ref a0)] := hl
  obtain ⟨hx, hb, hml, hown, hts, hK, hz, hlk, hr⟩ := id C
  unfold wp_X11_sign at hM
  refine lv_aload_n hx hb dX11_sign_0 rfl (lv_at hl 0 rfl) ?_
  have hk1 := hM.1
  have hM := hM.2
  refine x_cv hV (x_runV (As := []) (rest := []) C hV mi_X11_findFacts wl_X11_376 hk1 (c_X11_findFacts hM) ⟨by decide, by decide⟩ rfl hl.1 (Nat.le_of_ble_eq_true rfl) dX11_sign_1 ⟨Nat.zero_le _, Nat.zero_le _⟩) (fun S2 H locs hV hM => ?_)
  refine lv_iconst (v := 0) hx hb dX11_sign_4 (by decide) ?_
  refine lv_istore_n (lv' := [(1, .int 0), (0, .ref a0)]) hx hb dX11_sign_5 rfl hl (by decide) rfl (fun ls hl => ?_)
  refine lv_iconst (v := 0) hx hb dX11_sign_6 (by decide) ?_
  refine lv_istore_n (lv' := [(2, .int 0), (1, .int 0), (0, .ref a0)]) hx hb dX11_sign_7 rfl hl (by decide) rfl (fun ls hl => ?_)
  refine lv_iconst (v := 1) hx hb dX11_sign_8 (by decide) ?_
  refine lv_istore_n (lv' := [(3, .int 1), (2, .int 0), (1, .int 0), (0, .ref a0)]) hx hb dX11_sign_9 rfl hl (by decide) rfl (fun ls hl => ?_)
  exact tq_X11_sign_10 C N _ _ _ _ _ _ _ _ hM hV (lv_sub hl [3, 2, 1, 0] rfl)

def wq_X11_spanOf_32 (N : Nat) (K : Int32 → PS → Prop) (k_4 : PS → Nat → Int32 → Int32 → Int32 → Prop) (S : PS) (a0 : Nat) (x1 : Int32) (x3 : Int32) (t0 : Int32) (t1 : Int32) : Prop := ∀ v7 : Int32, v7 = (t0 + t1) → k_4 S a0 x1 v7 (x3 + 1)
def wq_X11_spanOf_4 (N : Nat) (K : Int32 → PS → Prop) : Nat → PS → Nat → Int32 → Int32 → Int32 → Prop
  | 0, _, _, _, _, _ => False
  | n + 1, S, a0, x1, x2, x3 => S.K a0 = 12 ∧ if (S.I 772 a0) ≤ x3 then (K x2 S) else (wp_X11_isOn N S a0 x3 x1 (fun r4 S3 => if r4 = 0 then (wq_X11_spanOf_32 N K (fun S a0 x1 x2 x3 => wq_X11_spanOf_4 N K n S a0 x1 x2 x3) S3 a0 x1 x3 x2 0) else (S3.K a0 = 12 ∧ wp_X11_its N S3 a0 x3 3 (fun r10 S9 => wq_X11_spanOf_32 N K (fun S a0 x1 x2 x3 => wq_X11_spanOf_4 N K n S a0 x1 x2 x3) S9 a0 x1 x3 x2 r10))))
def wp_X11_spanOf (N : Nat) (S : PS) (a0 : Nat) (x1 : Int32) (K : Int32 → PS → Prop) : Prop := wq_X11_spanOf_4 N K N S a0 x1 0 0
set_option maxHeartbeats 4000000 in
set_option maxRecDepth 100000 in
theorem tq_X11_spanOf_32 {p : Program} {l : Launch} {e : Env} {s : State} {m : MethodId} {args : Array Value} {below : List Frame} {meth : Method} {c : Code} {D : DX} {cA : Nat → ClassId} {z0 N : Nat} {K : Int32 → PS → Prop} {k_4 : PS → Nat → Int32 → Int32 → Int32 → Prop} (C : CX p s m args meth c cX11_spanOf 4 RX11 (some .int) D cA z0) (H_4 : ∀ (S : PS) (a0 : Nat) (x1 : Int32) (x2 : Int32) (x3 : Int32) (H : Heap) (locs : List Loc) (ls : Array Slot), k_4 S a0 x1 x2 x3 → XV D cA z0 s S H locs → lv_has ls 4 [(0, .ref a0), (1, .int x1), (2, .int x2), (3, .int x3)] → W p l e (rmd 2 0 0) s m args below meth c H locs 0 0 (MQ below (va_Qi K (XK D cA z0) (zA z0)) args s 0 0 (zA z0)) (F0 m 4 ls [])) : ∀ (S : PS) (a0 : Nat) (x1 : Int32) (x3 : Int32) (t0 : Int32) (t1 : Int32) (H : Heap) (locs : List Loc) (ls : Array Slot), wq_X11_spanOf_32 N K k_4 S a0 x1 x3 t0 t1 → XV D cA z0 s S H locs → lv_has ls 4 [(0, .ref a0), (1, .int x1), (3, .int x3)] → W p l e (rmd 2 0 0) s m args below meth c H locs 0 0 (MQ below (va_Qi K (XK D cA z0) (zA z0)) args s 0 0 (zA z0)) (F0 m 32 ls [.int t1, .int t0]) := by
  obtain ⟨hx, hb, hml, hown, hts, hK, hz, hlk, hr⟩ := id C
  intro S a0 x1 x3 t0 t1 H locs ls hM hV hl
  unfold wq_X11_spanOf_32 at hM
  refine lv_iadd hx hb dX11_spanOf_32 ?_
  refine lv_topi (fun v7 ev7 => ?_)
  have hM := hM v7 ev7
  refine lv_istore_n (lv' := [(2, .int v7), (0, .ref a0), (1, .int x1), (3, .int x3)]) hx hb dX11_spanOf_33 rfl hl (by decide) rfl (fun ls hl => ?_)
  refine lv_iinc (v := (x3 + 1)) (lv' := [(3, .int (x3 + 1)), (2, .int v7), (0, .ref a0), (1, .int x1)]) hx hb dX11_spanOf_34 hl (k := 3) rfl rfl (by decide) rfl (fun ls hl => ?_)
  refine lv_goto (tgt := 4) hx hb dX11_spanOf_37 (by decide) ?_
  exact H_4 _ _ _ _ _ _ _ _ hM hV (lv_sub hl [2, 3, 1, 0] rfl)
set_option maxHeartbeats 4000000 in
set_option maxRecDepth 100000 in
theorem tq_X11_spanOf_4 {p : Program} {l : Launch} {e : Env} {s : State} {m : MethodId} {args : Array Value} {below : List Frame} {meth : Method} {c : Code} {D : DX} {cA : Nat → ClassId} {z0 N : Nat} {K : Int32 → PS → Prop} (C : CX p s m args meth c cX11_spanOf 4 RX11 (some .int) D cA z0) : ∀ (n : Nat) (S : PS) (a0 : Nat) (x1 : Int32) (x2 : Int32) (x3 : Int32) (H : Heap) (locs : List Loc) (ls : Array Slot), wq_X11_spanOf_4 N K n S a0 x1 x2 x3 → XV D cA z0 s S H locs → lv_has ls 4 [(0, .ref a0), (1, .int x1), (2, .int x2), (3, .int x3)] → W p l e (rmd 2 0 0) s m args below meth c H locs 0 0 (MQ below (va_Qi K (XK D cA z0) (zA z0)) args s 0 0 (zA z0)) (F0 m 4 ls []) := by
  obtain ⟨hx, hb, hml, hown, hts, hK, hz, hlk, hr⟩ := id C
  intro n
  induction n with
  | zero => intro S a0 x1 x2 x3 H locs ls hM; exact absurd hM id
  | succ n ih =>
    intro S a0 x1 x2 x3 H locs ls hM hV hl
    rw [wq_X11_spanOf_4.eq_2] at hM
    refine lv_iload_n hx hb dX11_spanOf_4 rfl (lv_at hl 3 rfl) ?_
    refine lv_aload_n hx hb dX11_spanOf_5 rfl (lv_at hl 0 rfl) ?_
    have hk1 := hM.1
    have hM := hM.2
    refine x_getI C hV wf_X11_84 hk1 dX11_spanOf_6 ?_
    refine lv_icmp_ge (tgt := 40) hx hb dX11_spanOf_9 (by decide) (fun c2 => ?_) (fun c2 => ?_)
    · have hM := ite_t c2 hM
      refine lv_iload_n hx hb dX11_spanOf_40 rfl (lv_at hl 2 rfl) ?_
      exact x_iret C hV hM dX11_spanOf_41
    have hM := ite_f c2 hM
    refine lv_iload_n hx hb dX11_spanOf_12 rfl (lv_at hl 2 rfl) ?_
    refine lv_aload_n hx hb dX11_spanOf_13 rfl (lv_at hl 0 rfl) ?_
    refine lv_iload_n hx hb dX11_spanOf_14 rfl (lv_at hl 3 rfl) ?_
    refine lv_iload_n hx hb dX11_spanOf_15 rfl (lv_at hl 1 rfl) ?_
    refine x_ci hV (x_runV (As := [.int x3, .int x1]) (rest := [.int x2]) C hV mi_X11_isOn wl_X11_123 hk1 (c_X11_isOn hM) ⟨by decide, by decide⟩ rfl hl.1 (Nat.le_of_ble_eq_true rfl) dX11_spanOf_16 ⟨Nat.zero_le _, Nat.zero_le _⟩) (fun r4 S3 H locs hV hM => ?_)
    have hz5 := hM.1
    have hM := hM.2
    refine lv_if_eq (tgt := 31) hx hb dX11_spanOf_19 (by decide) (fun c6 => ?_) (fun c6 => ?_)
    · have hM := ite_t c6 hM
      refine lv_iconst (v := 0) hx hb dX11_spanOf_31 (by decide) ?_
      exact tq_X11_spanOf_32 C ih _ _ _ _ _ _ _ _ _ hM hV (lv_sub hl [0, 1, 3] rfl)
    have hM := ite_f c6 hM
    refine lv_aload_n hx hb dX11_spanOf_22 rfl (lv_at hl 0 rfl) ?_
    refine lv_iload_n hx hb dX11_spanOf_23 rfl (lv_at hl 3 rfl) ?_
    refine lv_iconst (v := 3) hx hb dX11_spanOf_24 (by decide) ?_
    have hk8 := hM.1
    have hM := hM.2
    refine x_ci hV (x_runV (As := [.int x3, .int 3]) (rest := [.int x2]) C hV mi_X11_its wl_X11_94 hk8 (c_X11_its hM) ⟨by decide, by decide⟩ rfl hl.1 (Nat.le_of_ble_eq_true rfl) dX11_spanOf_25 ⟨Nat.zero_le _, Nat.zero_le _⟩) (fun r10 S9 H locs hV hM => ?_)
    refine lv_goto (tgt := 32) hx hb dX11_spanOf_28 (by decide) ?_
    exact tq_X11_spanOf_32 C ih _ _ _ _ _ _ _ _ _ hM hV (lv_sub hl [0, 1, 3] rfl)
set_option maxHeartbeats 4000000 in
set_option maxRecDepth 100000 in
theorem c_X11_spanOf {l : Launch} {D : DX} {cA : Nat → ClassId} {z0 N : Nat} {S : PS} {a0 : Nat} {x1 : Int32} {K : Int32 → PS → Prop} (hM : wp_X11_spanOf N S a0 x1 K) : MetI l yX11_spanOf cX11_spanOf 4 (some .int) 2 0 0 D cA z0 [.ref a0, .int x1] S K := by
  refine x_met RX11 (by decide) rfl ?_
  intro p e s m below meth c C hin hV
  have hl := lv_entry ([.ref a0, .int x1]) (n := 4) (Nat.le_of_ble_eq_true rfl)
  rw [lg_entry_eq]
  generalize (lg_sl ([.ref a0, .int x1]) ++ List.replicate (4 - (lg_sl ([.ref a0, .int x1])).length) Slot.unset).toArray = ls at hl ⊢
  have hl : lv_has ls 4 [(0, .ref a0), (1, .int x1)] := hl
  obtain ⟨hx, hb, hml, hown, hts, hK, hz, hlk, hr⟩ := id C
  unfold wp_X11_spanOf at hM
  refine lv_iconst (v := 0) hx hb dX11_spanOf_0 (by decide) ?_
  refine lv_istore_n (lv' := [(2, .int 0), (0, .ref a0), (1, .int x1)]) hx hb dX11_spanOf_1 rfl hl (by decide) rfl (fun ls hl => ?_)
  refine lv_iconst (v := 0) hx hb dX11_spanOf_2 (by decide) ?_
  refine lv_istore_n (lv' := [(3, .int 0), (2, .int 0), (0, .ref a0), (1, .int x1)]) hx hb dX11_spanOf_3 rfl hl (by decide) rfl (fun ls hl => ?_)
  exact tq_X11_spanOf_4 C N _ _ _ _ _ _ _ _ hM hV (lv_sub hl [2, 3, 1, 0] rfl)

def wp_X11_span (N : Nat) (S : PS) (a0 : Nat) (x1 : Int32) (x2 : Int32) (K : Int32 → PS → Prop) : Prop := wp_X11_isSide N S x1 (fun r2 S1 => if r2 = 0 then (K (-1) S1) else (wp_X11_isSide N S1 x2 (fun r6 S5 => if r6 = 0 then (K (-1) S5) else (if x2 = 0 then (S5.K a0 = 12 ∧ wp_X11_spanOf N S5 a0 x1 (fun r15 S14 => K r15 S14)) else (S5.K a0 = 12 ∧ wp_X11_rootOf N S5 a0 x1 (fun r12 S11 => K r12 S11))))))
set_option maxHeartbeats 4000000 in
set_option maxRecDepth 100000 in
theorem c_X11_span {l : Launch} {D : DX} {cA : Nat → ClassId} {z0 N : Nat} {S : PS} {a0 : Nat} {x1 : Int32} {x2 : Int32} {K : Int32 → PS → Prop} (hM : wp_X11_span N S a0 x1 x2 K) : MetI l yX11_span cX11_span 3 (some .int) 3 0 0 D cA z0 [.ref a0, .int x1, .int x2] S K := by
  refine x_met RX11 (by decide) rfl ?_
  intro p e s m below meth c C hin hV
  have hl := lv_entry ([.ref a0, .int x1, .int x2]) (n := 3) (Nat.le_of_ble_eq_true rfl)
  rw [lg_entry_eq]
  generalize (lg_sl ([.ref a0, .int x1, .int x2]) ++ List.replicate (3 - (lg_sl ([.ref a0, .int x1, .int x2])).length) Slot.unset).toArray = ls at hl ⊢
  have hl : lv_has ls 3 [(0, .ref a0), (1, .int x1), (2, .int x2)] := hl
  obtain ⟨hx, hb, hml, hown, hts, hK, hz, hlk, hr⟩ := id C
  unfold wp_X11_span at hM
  refine lv_iload_n hx hb dX11_span_0 rfl (lv_at hl 1 rfl) ?_
  refine x_ci hV (x_runS (As := [.int x1]) (rest := []) C hV ms_X11_isSide wl_X11_119 (c_X11_isSide hM) ⟨by decide, by decide⟩ rfl hl.1 (Nat.le_of_ble_eq_true rfl) dX11_span_1 ⟨Nat.zero_le _, Nat.zero_le _⟩) (fun r2 S1 H locs hV hM => ?_)
  have hz3 := hM.1
  have hM := hM.2
  refine lv_if_eq (tgt := 14) hx hb dX11_span_4 (by decide) (fun c4 => ?_) (fun c4 => ?_)
  · have hM := ite_t c4 hM
    refine lv_iconst (v := (-1)) hx hb dX11_span_14 (by decide) ?_
    exact x_iret C hV hM dX11_span_15
  have hM := ite_f c4 hM
  refine lv_iload_n hx hb dX11_span_7 rfl (lv_at hl 2 rfl) ?_
  refine x_ci hV (x_runS (As := [.int x2]) (rest := []) C hV ms_X11_isSide wl_X11_119 (c_X11_isSide hM) ⟨by decide, by decide⟩ rfl hl.1 (Nat.le_of_ble_eq_true rfl) dX11_span_8 ⟨Nat.zero_le _, Nat.zero_le _⟩) (fun r6 S5 H locs hV hM => ?_)
  have hz7 := hM.1
  have hM := hM.2
  refine lv_if_ne (tgt := 16) hx hb dX11_span_11 (by decide) (fun c8 => ?_) (fun c8 => ?_)
  · have hM := ite_f c8 hM
    refine lv_iload_n hx hb dX11_span_16 rfl (lv_at hl 2 rfl) ?_
    refine lv_if_ne (tgt := 28) hx hb dX11_span_17 (by decide) (fun c9 => ?_) (fun c9 => ?_)
    · have hM := ite_f c9 hM
      refine lv_aload_n hx hb dX11_span_28 rfl (lv_at hl 0 rfl) ?_
      refine lv_iload_n hx hb dX11_span_29 rfl (lv_at hl 1 rfl) ?_
      have hk10 := hM.1
      have hM := hM.2
      refine x_ci hV (x_runV (As := [.int x1]) (rest := []) C hV mi_X11_rootOf wl_X11_273 hk10 (c_X11_rootOf hM) ⟨by decide, by decide⟩ rfl hl.1 (Nat.le_of_ble_eq_true rfl) dX11_span_30 ⟨Nat.zero_le _, Nat.zero_le _⟩) (fun r12 S11 H locs hV hM => ?_)
      exact x_iret C hV hM dX11_span_33
    have hM := ite_t c9 hM
    refine lv_aload_n hx hb dX11_span_20 rfl (lv_at hl 0 rfl) ?_
    refine lv_iload_n hx hb dX11_span_21 rfl (lv_at hl 1 rfl) ?_
    have hk13 := hM.1
    have hM := hM.2
    refine x_ci hV (x_runV (As := [.int x1]) (rest := []) C hV mi_X11_spanOf wl_X11_270 hk13 (c_X11_spanOf hM) ⟨by decide, by decide⟩ rfl hl.1 (Nat.le_of_ble_eq_true rfl) dX11_span_22 ⟨Nat.zero_le _, Nat.zero_le _⟩) (fun r15 S14 H locs hV hM => ?_)
    refine lv_goto (tgt := 33) hx hb dX11_span_25 (by decide) ?_
    exact x_iret C hV hM dX11_span_33
  have hM := ite_t c8 hM
  refine lv_iconst (v := (-1)) hx hb dX11_span_14 (by decide) ?_
  exact x_iret C hV hM dX11_span_15

def wq_X11_wantNumber_25 (N : Nat) (K : Int32 → PS → Prop) (S : PS) (a0 : Nat) (x1 : Int32) (b0 : Nat) (t1 : Int32) : Prop := S.K b0 = 12 ∧ (t1 = 0 ∨ t1 = 1) ∧ ∀ S6 : PS, S6 = S.setI 788 b0 t1 → S6.K a0 = 12 ∧ if (S6.I 788 a0) = 0 then (K x1 S6) else (wp_X11_advance N S6 a0 (fun S9 => K x1 S9))
def wq_X11_wantNumber_24 (N : Nat) (K : Int32 → PS → Prop) (S : PS) (a0 : Nat) (x1 : Int32) (b0 : Nat) : Prop := wq_X11_wantNumber_25 N K S a0 x1 b0 0
def wp_X11_wantNumber (N : Nat) (S : PS) (a0 : Nat) (K : Int32 → PS → Prop) : Prop := S.K a0 = 12 ∧ ∀ v2 : Int32, v2 = (S.I 787 a0) → if (S.I 788 a0) = 0 then (wq_X11_wantNumber_24 N K S a0 v2 a0) else (wp_X11_isNumber N S a0 (fun r12 S11 => if r12 = 0 then (wq_X11_wantNumber_24 N K S11 a0 v2 a0) else (wq_X11_wantNumber_25 N K S11 a0 v2 a0 1)))
set_option maxHeartbeats 4000000 in
set_option maxRecDepth 100000 in
theorem tq_X11_wantNumber_25 {p : Program} {l : Launch} {e : Env} {s : State} {m : MethodId} {args : Array Value} {below : List Frame} {meth : Method} {c : Code} {D : DX} {cA : Nat → ClassId} {z0 N : Nat} {K : Int32 → PS → Prop} (C : CX p s m args meth c cX11_wantNumber 2 RX11 (some .int) D cA z0) : ∀ (S : PS) (a0 : Nat) (x1 : Int32) (b0 : Nat) (t1 : Int32) (H : Heap) (locs : List Loc) (ls : Array Slot), wq_X11_wantNumber_25 N K S a0 x1 b0 t1 → XV D cA z0 s S H locs → lv_has ls 2 [(0, .ref a0), (1, .int x1)] → W p l e (rmd 3 0 0) s m args below meth c H locs 0 0 (MQ below (va_Qi K (XK D cA z0) (zA z0)) args s 0 0 (zA z0)) (F0 m 25 ls [.int t1, .ref b0]) := by
  obtain ⟨hx, hb, hml, hown, hts, hK, hz, hlk, hr⟩ := id C
  intro S a0 x1 b0 t1 H locs ls hM hV hl
  unfold wq_X11_wantNumber_25 at hM
  have hk4 := hM.1
  have hM := hM.2
  have hz5 := hM.1
  have hM := hM.2
  obtain ⟨S6, eS6⟩ : ∃ z : PS, z = S.setI 788 b0 t1 := ⟨_, rfl⟩
  have hM := hM S6 eS6
  refine x_putI C hV wp_X11_173 hk4 (nz_b hz5) eS6 dX11_wantNumber_25 (fun H locs hV => ?_)
  refine lv_aload_n hx hb dX11_wantNumber_28 rfl (lv_at hl 0 rfl) ?_
  have hk7 := hM.1
  have hM := hM.2
  refine x_getI C hV wf_X11_173 hk7 dX11_wantNumber_29 ?_
  refine lv_if_eq (tgt := 39) hx hb dX11_wantNumber_32 (by decide) (fun c8 => ?_) (fun c8 => ?_)
  · have hM := ite_t c8 hM
    refine lv_iload_n hx hb dX11_wantNumber_39 rfl (lv_at hl 1 rfl) ?_
    exact x_iret C hV hM dX11_wantNumber_40
  have hM := ite_f c8 hM
  refine lv_aload_n hx hb dX11_wantNumber_35 rfl (lv_at hl 0 rfl) ?_
  refine x_cv hV (x_runV (As := []) (rest := []) C hV mi_X11_advance wl_X11_177 hk7 (c_X11_advance hM) ⟨by decide, by decide⟩ rfl hl.1 (Nat.le_of_ble_eq_true rfl) dX11_wantNumber_36 ⟨Nat.zero_le _, Nat.zero_le _⟩) (fun S9 H locs hV hM => ?_)
  refine lv_iload_n hx hb dX11_wantNumber_39 rfl (lv_at hl 1 rfl) ?_
  exact x_iret C hV hM dX11_wantNumber_40
set_option maxHeartbeats 4000000 in
set_option maxRecDepth 100000 in
theorem tq_X11_wantNumber_24 {p : Program} {l : Launch} {e : Env} {s : State} {m : MethodId} {args : Array Value} {below : List Frame} {meth : Method} {c : Code} {D : DX} {cA : Nat → ClassId} {z0 N : Nat} {K : Int32 → PS → Prop} (C : CX p s m args meth c cX11_wantNumber 2 RX11 (some .int) D cA z0) : ∀ (S : PS) (a0 : Nat) (x1 : Int32) (b0 : Nat) (H : Heap) (locs : List Loc) (ls : Array Slot), wq_X11_wantNumber_24 N K S a0 x1 b0 → XV D cA z0 s S H locs → lv_has ls 2 [(0, .ref a0), (1, .int x1)] → W p l e (rmd 3 0 0) s m args below meth c H locs 0 0 (MQ below (va_Qi K (XK D cA z0) (zA z0)) args s 0 0 (zA z0)) (F0 m 24 ls [.ref b0]) := by
  obtain ⟨hx, hb, hml, hown, hts, hK, hz, hlk, hr⟩ := id C
  intro S a0 x1 b0 H locs ls hM hV hl
  unfold wq_X11_wantNumber_24 at hM
  refine lv_iconst (v := 0) hx hb dX11_wantNumber_24 (by decide) ?_
  exact tq_X11_wantNumber_25 C _ _ _ _ _ _ _ _ hM hV (lv_sub hl [0, 1] rfl)
set_option maxHeartbeats 4000000 in
set_option maxRecDepth 100000 in
theorem c_X11_wantNumber {l : Launch} {D : DX} {cA : Nat → ClassId} {z0 N : Nat} {S : PS} {a0 : Nat} {K : Int32 → PS → Prop} (hM : wp_X11_wantNumber N S a0 K) : MetI l yX11_wantNumber cX11_wantNumber 2 (some .int) 3 0 0 D cA z0 [.ref a0] S K := by
  refine x_met RX11 (by decide) rfl ?_
  intro p e s m below meth c C hin hV
  have hl := lv_entry ([.ref a0]) (n := 2) (Nat.le_of_ble_eq_true rfl)
  rw [lg_entry_eq]
  generalize (lg_sl ([.ref a0]) ++ List.replicate (2 - (lg_sl ([.ref a0])).length) Slot.unset).toArray = ls at hl ⊢
  have hl : lv_has ls 2 [(0, .ref a0)] := hl
  obtain ⟨hx, hb, hml, hown, hts, hK, hz, hlk, hr⟩ := id C
  unfold wp_X11_wantNumber at hM
  refine lv_aload_n hx hb dX11_wantNumber_0 rfl (lv_at hl 0 rfl) ?_
  have hk1 := hM.1
  have hM := hM.2
  refine x_getI C hV wf_X11_164 hk1 dX11_wantNumber_1 ?_
  refine lv_topi (fun v2 ev2 => ?_)
  have hM := hM v2 ev2
  refine lv_istore_n (lv' := [(1, .int v2), (0, .ref a0)]) hx hb dX11_wantNumber_4 rfl hl (by decide) rfl (fun ls hl => ?_)
  refine lv_aload_n hx hb dX11_wantNumber_5 rfl (lv_at hl 1 rfl) ?_
  refine lv_aload_n hx hb dX11_wantNumber_6 rfl (lv_at hl 1 rfl) ?_
  refine x_getI C hV wf_X11_173 hk1 dX11_wantNumber_7 ?_
  refine lv_if_eq (tgt := 24) hx hb dX11_wantNumber_10 (by decide) (fun c3 => ?_) (fun c3 => ?_)
  · have hM := ite_t c3 hM
    exact tq_X11_wantNumber_24 C _ _ _ _ _ _ _ hM hV (lv_sub hl [1, 0] rfl)
  have hM := ite_f c3 hM
  refine lv_aload_n hx hb dX11_wantNumber_13 rfl (lv_at hl 1 rfl) ?_
  refine x_ci hV (x_runV (As := []) (rest := [.ref a0]) C hV mi_X11_isNumber wl_X11_184 hk1 (c_X11_isNumber hM) ⟨by decide, by decide⟩ rfl hl.1 (Nat.le_of_ble_eq_true rfl) dX11_wantNumber_14 ⟨Nat.zero_le _, Nat.zero_le _⟩) (fun r12 S11 H locs hV hM => ?_)
  have hz13 := hM.1
  have hM := hM.2
  refine lv_if_eq (tgt := 24) hx hb dX11_wantNumber_17 (by decide) (fun c14 => ?_) (fun c14 => ?_)
  · have hM := ite_t c14 hM
    exact tq_X11_wantNumber_24 C _ _ _ _ _ _ _ hM hV (lv_sub hl [1, 0] rfl)
  have hM := ite_f c14 hM
  refine lv_iconst (v := 1) hx hb dX11_wantNumber_20 (by decide) ?_
  refine lv_goto (tgt := 25) hx hb dX11_wantNumber_21 (by decide) ?_
  exact tq_X11_wantNumber_25 C _ _ _ _ _ _ _ _ hM hV (lv_sub hl [1, 0] rfl)

def wq_X11_wantInt_30 (N : Nat) (K : Int32 → PS → Prop) (S : PS) (a0 : Nat) (x1 : Int32) : Prop := S.K a0 = 12 ∧ wp_X11_wantNumber N S a0 (fun r6 S5 => if x1 = 0 then (K r6 S5) else (K (-r6) S5))
def wq_X11_wantInt_21 (N : Nat) (K : Int32 → PS → Prop) (S : PS) (a0 : Nat) (t0 : Int32) : Prop := if t0 = 0 then (wq_X11_wantInt_30 N K S a0 t0) else (S.K a0 = 12 ∧ wp_X11_advance N S a0 (fun S9 => wq_X11_wantInt_30 N K S9 a0 t0))
def wq_X11_wantInt_20 (N : Nat) (K : Int32 → PS → Prop) (S : PS) (a0 : Nat) : Prop := wq_X11_wantInt_21 N K S a0 0
def wp_X11_wantInt (N : Nat) (S : PS) (a0 : Nat) (K : Int32 → PS → Prop) : Prop := S.K a0 = 12 ∧ if (S.I 788 a0) = 0 then (wq_X11_wantInt_20 N K S a0) else (wp_X11_isMark N S a0 45 (fun r12 S11 => if r12 = 0 then (wq_X11_wantInt_20 N K S11 a0) else (wq_X11_wantInt_21 N K S11 a0 1)))
set_option maxHeartbeats 4000000 in
set_option maxRecDepth 100000 in
theorem tq_X11_wantInt_30 {p : Program} {l : Launch} {e : Env} {s : State} {m : MethodId} {args : Array Value} {below : List Frame} {meth : Method} {c : Code} {D : DX} {cA : Nat → ClassId} {z0 N : Nat} {K : Int32 → PS → Prop} (C : CX p s m args meth c cX11_wantInt 3 RX11 (some .int) D cA z0) : ∀ (S : PS) (a0 : Nat) (x1 : Int32) (H : Heap) (locs : List Loc) (ls : Array Slot), wq_X11_wantInt_30 N K S a0 x1 → XV D cA z0 s S H locs → lv_has ls 3 [(0, .ref a0), (1, .int x1)] → W p l e (rmd 4 0 0) s m args below meth c H locs 0 0 (MQ below (va_Qi K (XK D cA z0) (zA z0)) args s 0 0 (zA z0)) (F0 m 30 ls []) := by
  obtain ⟨hx, hb, hml, hown, hts, hK, hz, hlk, hr⟩ := id C
  intro S a0 x1 H locs ls hM hV hl
  unfold wq_X11_wantInt_30 at hM
  refine lv_aload_n hx hb dX11_wantInt_30 rfl (lv_at hl 0 rfl) ?_
  have hk4 := hM.1
  have hM := hM.2
  refine x_ci hV (x_runV (As := []) (rest := []) C hV mi_X11_wantNumber wl_X11_191 hk4 (c_X11_wantNumber hM) ⟨by decide, by decide⟩ rfl hl.1 (Nat.le_of_ble_eq_true rfl) dX11_wantInt_31 ⟨Nat.zero_le _, Nat.zero_le _⟩) (fun r6 S5 H locs hV hM => ?_)
  refine lv_istore_n (lv' := [(2, .int r6), (0, .ref a0), (1, .int x1)]) hx hb dX11_wantInt_34 rfl hl (by decide) rfl (fun ls hl => ?_)
  refine lv_iload_n hx hb dX11_wantInt_35 rfl (lv_at hl 2 rfl) ?_
  refine lv_if_eq (tgt := 44) hx hb dX11_wantInt_36 (by decide) (fun c7 => ?_) (fun c7 => ?_)
  · have hM := ite_t c7 hM
    refine lv_iload_n hx hb dX11_wantInt_44 rfl (lv_at hl 0 rfl) ?_
    exact x_iret C hV hM dX11_wantInt_45
  have hM := ite_f c7 hM
  refine lv_iload_n hx hb dX11_wantInt_39 rfl (lv_at hl 0 rfl) ?_
  refine lv_ineg hx hb dX11_wantInt_40 ?_
  refine lv_goto (tgt := 45) hx hb dX11_wantInt_41 (by decide) ?_
  exact x_iret C hV hM dX11_wantInt_45
set_option maxHeartbeats 4000000 in
set_option maxRecDepth 100000 in
theorem tq_X11_wantInt_21 {p : Program} {l : Launch} {e : Env} {s : State} {m : MethodId} {args : Array Value} {below : List Frame} {meth : Method} {c : Code} {D : DX} {cA : Nat → ClassId} {z0 N : Nat} {K : Int32 → PS → Prop} (C : CX p s m args meth c cX11_wantInt 3 RX11 (some .int) D cA z0) : ∀ (S : PS) (a0 : Nat) (t0 : Int32) (H : Heap) (locs : List Loc) (ls : Array Slot), wq_X11_wantInt_21 N K S a0 t0 → XV D cA z0 s S H locs → lv_has ls 3 [(0, .ref a0)] → W p l e (rmd 4 0 0) s m args below meth c H locs 0 0 (MQ below (va_Qi K (XK D cA z0) (zA z0)) args s 0 0 (zA z0)) (F0 m 21 ls [.int t0]) := by
  obtain ⟨hx, hb, hml, hown, hts, hK, hz, hlk, hr⟩ := id C
  intro S a0 t0 H locs ls hM hV hl
  unfold wq_X11_wantInt_21 at hM
  refine lv_istore_n (lv' := [(1, .int t0), (0, .ref a0)]) hx hb dX11_wantInt_21 rfl hl (by decide) rfl (fun ls hl => ?_)
  refine lv_iload_n hx hb dX11_wantInt_22 rfl (lv_at hl 0 rfl) ?_
  refine lv_if_eq (tgt := 30) hx hb dX11_wantInt_23 (by decide) (fun c3 => ?_) (fun c3 => ?_)
  · have hM := ite_t c3 hM
    exact tq_X11_wantInt_30 C _ _ _ _ _ _ hM hV (lv_sub hl [1, 0] rfl)
  have hM := ite_f c3 hM
  refine lv_aload_n hx hb dX11_wantInt_26 rfl (lv_at hl 1 rfl) ?_
  have hk8 := hM.1
  have hM := hM.2
  refine x_cv hV (x_runV (As := []) (rest := []) C hV mi_X11_advance wl_X11_177 hk8 (c_X11_advance hM) ⟨by decide, by decide⟩ rfl hl.1 (Nat.le_of_ble_eq_true rfl) dX11_wantInt_27 ⟨Nat.zero_le _, Nat.zero_le _⟩) (fun S9 H locs hV hM => ?_)
  exact tq_X11_wantInt_30 C _ _ _ _ _ _ hM hV (lv_sub hl [1, 0] rfl)
set_option maxHeartbeats 4000000 in
set_option maxRecDepth 100000 in
theorem tq_X11_wantInt_20 {p : Program} {l : Launch} {e : Env} {s : State} {m : MethodId} {args : Array Value} {below : List Frame} {meth : Method} {c : Code} {D : DX} {cA : Nat → ClassId} {z0 N : Nat} {K : Int32 → PS → Prop} (C : CX p s m args meth c cX11_wantInt 3 RX11 (some .int) D cA z0) : ∀ (S : PS) (a0 : Nat) (H : Heap) (locs : List Loc) (ls : Array Slot), wq_X11_wantInt_20 N K S a0 → XV D cA z0 s S H locs → lv_has ls 3 [(0, .ref a0)] → W p l e (rmd 4 0 0) s m args below meth c H locs 0 0 (MQ below (va_Qi K (XK D cA z0) (zA z0)) args s 0 0 (zA z0)) (F0 m 20 ls []) := by
  obtain ⟨hx, hb, hml, hown, hts, hK, hz, hlk, hr⟩ := id C
  intro S a0 H locs ls hM hV hl
  unfold wq_X11_wantInt_20 at hM
  refine lv_iconst (v := 0) hx hb dX11_wantInt_20 (by decide) ?_
  exact tq_X11_wantInt_21 C _ _ _ _ _ _ hM hV (lv_sub hl [0] rfl)
set_option maxHeartbeats 4000000 in
set_option maxRecDepth 100000 in
theorem c_X11_wantInt {l : Launch} {D : DX} {cA : Nat → ClassId} {z0 N : Nat} {S : PS} {a0 : Nat} {K : Int32 → PS → Prop} (hM : wp_X11_wantInt N S a0 K) : MetI l yX11_wantInt cX11_wantInt 3 (some .int) 4 0 0 D cA z0 [.ref a0] S K := by
  refine x_met RX11 (by decide) rfl ?_
  intro p e s m below meth c C hin hV
  have hl := lv_entry ([.ref a0]) (n := 3) (Nat.le_of_ble_eq_true rfl)
  rw [lg_entry_eq]
  generalize (lg_sl ([.ref a0]) ++ List.replicate (3 - (lg_sl ([.ref a0])).length) Slot.unset).toArray = ls at hl ⊢
  have hl : lv_has ls 3 [(0, .ref a0)] := hl
  obtain ⟨hx, hb, hml, hown, hts, hK, hz, hlk, hr⟩ := id C
  unfold wp_X11_wantInt at hM
  refine lv_aload_n hx hb dX11_wantInt_0 rfl (lv_at hl 0 rfl) ?_
  have hk1 := hM.1
  have hM := hM.2
  refine x_getI C hV wf_X11_173 hk1 dX11_wantInt_1 ?_
  refine lv_if_eq (tgt := 20) hx hb dX11_wantInt_4 (by decide) (fun c2 => ?_) (fun c2 => ?_)
  · have hM := ite_t c2 hM
    exact tq_X11_wantInt_20 C _ _ _ _ _ hM hV (lv_sub hl [0] rfl)
  have hM := ite_f c2 hM
  refine lv_aload_n hx hb dX11_wantInt_7 rfl (lv_at hl 0 rfl) ?_
  refine lv_bipush (v := 45) hx hb dX11_wantInt_8 (by decide) ?_
  refine x_ci hV (x_runV (As := [.int 45]) (rest := []) C hV mi_X11_isMark wl_X11_188 hk1 (c_X11_isMark hM) ⟨by decide, by decide⟩ rfl hl.1 (Nat.le_of_ble_eq_true rfl) dX11_wantInt_10 ⟨Nat.zero_le _, Nat.zero_le _⟩) (fun r12 S11 H locs hV hM => ?_)
  have hz13 := hM.1
  have hM := hM.2
  refine lv_if_eq (tgt := 20) hx hb dX11_wantInt_13 (by decide) (fun c14 => ?_) (fun c14 => ?_)
  · have hM := ite_t c14 hM
    exact tq_X11_wantInt_20 C _ _ _ _ _ hM hV (lv_sub hl [0] rfl)
  have hM := ite_f c14 hM
  refine lv_iconst (v := 1) hx hb dX11_wantInt_16 (by decide) ?_
  refine lv_goto (tgt := 21) hx hb dX11_wantInt_17 (by decide) ?_
  exact tq_X11_wantInt_21 C _ _ _ _ _ _ hM hV (lv_sub hl [0] rfl)

def wq_X11_wantWord_21 (N : Nat) (K : PS → Prop) (S : PS) (a0 : Nat) (b0 : Nat) (t1 : Int32) : Prop := S.K b0 = 12 ∧ (t1 = 0 ∨ t1 = 1) ∧ ∀ S5 : PS, S5 = S.setI 788 b0 t1 → S5.K a0 = 12 ∧ if (S5.I 788 a0) = 0 then (K S5) else (wp_X11_advance N S5 a0 (fun S8 => K S8))
def wq_X11_wantWord_20 (N : Nat) (K : PS → Prop) (S : PS) (a0 : Nat) (b0 : Nat) : Prop := wq_X11_wantWord_21 N K S a0 b0 0
def wp_X11_wantWord (N : Nat) (S : PS) (a0 : Nat) (j1 : Int64) (K : PS → Prop) : Prop := S.K a0 = 12 ∧ if (S.I 788 a0) = 0 then (wq_X11_wantWord_20 N K S a0 a0) else (wp_X11_isWord N S a0 j1 (fun r11 S10 => if r11 = 0 then (wq_X11_wantWord_20 N K S10 a0 a0) else (wq_X11_wantWord_21 N K S10 a0 a0 1)))
set_option maxHeartbeats 4000000 in
set_option maxRecDepth 100000 in
theorem tq_X11_wantWord_21 {p : Program} {l : Launch} {e : Env} {s : State} {m : MethodId} {args : Array Value} {below : List Frame} {meth : Method} {c : Code} {D : DX} {cA : Nat → ClassId} {z0 N : Nat} {K : PS → Prop} (C : CX p s m args meth c cX11_wantWord 3 RX11 none D cA z0) : ∀ (S : PS) (a0 : Nat) (b0 : Nat) (t1 : Int32) (H : Heap) (locs : List Loc) (ls : Array Slot), wq_X11_wantWord_21 N K S a0 b0 t1 → XV D cA z0 s S H locs → lv_has ls 3 [(0, .ref a0)] → W p l e (rmd 3 0 0) s m args below meth c H locs 0 0 (MQ below (va_Qv K (XK D cA z0) (zA z0)) args s 0 0 (zA z0)) (F0 m 21 ls [.int t1, .ref b0]) := by
  obtain ⟨hx, hb, hml, hown, hts, hK, hz, hlk, hr⟩ := id C
  intro S a0 b0 t1 H locs ls hM hV hl
  unfold wq_X11_wantWord_21 at hM
  have hk3 := hM.1
  have hM := hM.2
  have hz4 := hM.1
  have hM := hM.2
  obtain ⟨S5, eS5⟩ : ∃ z : PS, z = S.setI 788 b0 t1 := ⟨_, rfl⟩
  have hM := hM S5 eS5
  refine x_putI C hV wp_X11_173 hk3 (nz_b hz4) eS5 dX11_wantWord_21 (fun H locs hV => ?_)
  refine lv_aload_n hx hb dX11_wantWord_24 rfl (lv_at hl 0 rfl) ?_
  have hk6 := hM.1
  have hM := hM.2
  refine x_getI C hV wf_X11_173 hk6 dX11_wantWord_25 ?_
  refine lv_if_eq (tgt := 35) hx hb dX11_wantWord_28 (by decide) (fun c7 => ?_) (fun c7 => ?_)
  · have hM := ite_t c7 hM
    exact x_vret C hV hM dX11_wantWord_35
  have hM := ite_f c7 hM
  refine lv_aload_n hx hb dX11_wantWord_31 rfl (lv_at hl 0 rfl) ?_
  refine x_cv hV (x_runV (As := []) (rest := []) C hV mi_X11_advance wl_X11_177 hk6 (c_X11_advance hM) ⟨by decide, by decide⟩ rfl hl.1 (Nat.le_of_ble_eq_true rfl) dX11_wantWord_32 ⟨Nat.zero_le _, Nat.zero_le _⟩) (fun S8 H locs hV hM => ?_)
  exact x_vret C hV hM dX11_wantWord_35
set_option maxHeartbeats 4000000 in
set_option maxRecDepth 100000 in
theorem tq_X11_wantWord_20 {p : Program} {l : Launch} {e : Env} {s : State} {m : MethodId} {args : Array Value} {below : List Frame} {meth : Method} {c : Code} {D : DX} {cA : Nat → ClassId} {z0 N : Nat} {K : PS → Prop} (C : CX p s m args meth c cX11_wantWord 3 RX11 none D cA z0) : ∀ (S : PS) (a0 : Nat) (b0 : Nat) (H : Heap) (locs : List Loc) (ls : Array Slot), wq_X11_wantWord_20 N K S a0 b0 → XV D cA z0 s S H locs → lv_has ls 3 [(0, .ref a0)] → W p l e (rmd 3 0 0) s m args below meth c H locs 0 0 (MQ below (va_Qv K (XK D cA z0) (zA z0)) args s 0 0 (zA z0)) (F0 m 20 ls [.ref b0]) := by
  obtain ⟨hx, hb, hml, hown, hts, hK, hz, hlk, hr⟩ := id C
  intro S a0 b0 H locs ls hM hV hl
  unfold wq_X11_wantWord_20 at hM
  refine lv_iconst (v := 0) hx hb dX11_wantWord_20 (by decide) ?_
  exact tq_X11_wantWord_21 C _ _ _ _ _ _ _ hM hV (lv_sub hl [0] rfl)
set_option maxHeartbeats 4000000 in
set_option maxRecDepth 100000 in
theorem c_X11_wantWord {l : Launch} {D : DX} {cA : Nat → ClassId} {z0 N : Nat} {S : PS} {a0 : Nat} {j1 : Int64} {K : PS → Prop} (hM : wp_X11_wantWord N S a0 j1 K) : MetV l yX11_wantWord cX11_wantWord 3 none 3 0 0 D cA z0 [.ref a0, .long j1] S K := by
  refine x_met RX11 (by decide) rfl ?_
  intro p e s m below meth c C hin hV
  have hl := lv_entry ([.ref a0, .long j1]) (n := 3) (Nat.le_of_ble_eq_true rfl)
  rw [lg_entry_eq]
  generalize (lg_sl ([.ref a0, .long j1]) ++ List.replicate (3 - (lg_sl ([.ref a0, .long j1])).length) Slot.unset).toArray = ls at hl ⊢
  have hl : lv_has ls 3 [(0, .ref a0), (1, .long j1)] := hl
  obtain ⟨hx, hb, hml, hown, hts, hK, hz, hlk, hr⟩ := id C
  unfold wp_X11_wantWord at hM
  refine lv_aload_n hx hb dX11_wantWord_0 rfl (lv_at hl 0 rfl) ?_
  refine lv_aload_n hx hb dX11_wantWord_1 rfl (lv_at hl 0 rfl) ?_
  have hk1 := hM.1
  have hM := hM.2
  refine x_getI C hV wf_X11_173 hk1 dX11_wantWord_2 ?_
  refine lv_if_eq (tgt := 20) hx hb dX11_wantWord_5 (by decide) (fun c2 => ?_) (fun c2 => ?_)
  · have hM := ite_t c2 hM
    exact tq_X11_wantWord_20 C _ _ _ _ _ _ hM hV (lv_sub hl [0] rfl)
  have hM := ite_f c2 hM
  refine lv_aload_n hx hb dX11_wantWord_8 rfl (lv_at hl 0 rfl) ?_
  refine lv_lload_n hx hb dX11_wantWord_9 rfl (lv_at hl 1 rfl) ?_
  refine x_ci hV (x_runV (As := [.long j1]) (rest := [.ref a0]) C hV mi_X11_isWord wl_X11_180 hk1 (c_X11_isWord hM) ⟨by decide, by decide⟩ rfl hl.1 (Nat.le_of_ble_eq_true rfl) dX11_wantWord_10 ⟨Nat.zero_le _, Nat.zero_le _⟩) (fun r11 S10 H locs hV hM => ?_)
  have hz12 := hM.1
  have hM := hM.2
  refine lv_if_eq (tgt := 20) hx hb dX11_wantWord_13 (by decide) (fun c13 => ?_) (fun c13 => ?_)
  · have hM := ite_t c13 hM
    exact tq_X11_wantWord_20 C _ _ _ _ _ _ hM hV (lv_sub hl [0] rfl)
  have hM := ite_f c13 hM
  refine lv_iconst (v := 1) hx hb dX11_wantWord_16 (by decide) ?_
  refine lv_goto (tgt := 21) hx hb dX11_wantWord_17 (by decide) ?_
  exact tq_X11_wantWord_21 C _ _ _ _ _ _ _ hM hV (lv_sub hl [0] rfl)

def wq_X11_wantClauses_147 (N : Nat) (K : PS → Prop) (S : PS) (a0 : Nat) (x1 : Int32) : Prop := S.K a0 = 12 ∧ ∃ p4 : Nat, S.R 789 a0 = some p4 ∧ S.K p4 = 20 ∧ vp_in 1 (S.ln p4) ∧ ∀ S7 : PS, S7 = S.setA p4 (1 : Int32).toNatClampNeg x1 → K S7
def wq_X11_wantClauses_135 (N : Nat) (K : PS → Prop) (k_4 : PS → Nat → Int32 → Int32 → Prop) (S : PS) (a0 : Nat) (x1 : Int32) (t0 : Int32) : Prop := if t0 = 0 then (k_4 S a0 x1 t0) else (S.K a0 = 12 ∧ wp_X11_advance N S a0 (fun S41 => k_4 S41 a0 x1 t0))
def wq_X11_wantClauses_134 (N : Nat) (K : PS → Prop) (k_4 : PS → Nat → Int32 → Int32 → Prop) (S : PS) (a0 : Nat) (x1 : Int32) : Prop := wq_X11_wantClauses_135 N K k_4 S a0 x1 0
def wq_X11_wantClauses_70 (N : Nat) (K : PS → Prop) (k_4 : PS → Nat → Int32 → Int32 → Prop) (S : PS) (a0 : Nat) (x1 : Int32) (x3 : Int32) (x4 : Int32) (x5 : Int32) : Prop := S.K a0 = 12 ∧ ∃ p23 : Nat, S.R 789 a0 = some p23 ∧ S.K p23 = 20 ∧ vp_in (2 + (3 * x1)) (S.ln p23) ∧ ∀ S26 : PS, S26 = S.setA p23 (2 + (3 * x1)).toNatClampNeg x3 → ∃ p28 : Nat, S26.R 789 a0 = some p28 ∧ S26.K p28 = 20 ∧ vp_in (3 + (3 * x1)) (S26.ln p28) ∧ ∀ S31 : PS, S31 = S26.setA p28 (3 + (3 * x1)).toNatClampNeg x4 → ∃ p33 : Nat, S31.R 789 a0 = some p33 ∧ S31.K p33 = 20 ∧ vp_in (4 + (3 * x1)) (S31.ln p33) ∧ ∀ S36 : PS, S36 = S31.setA p33 (4 + (3 * x1)).toNatClampNeg x5 → if (S36.I 788 a0) = 0 then (wq_X11_wantClauses_134 N K k_4 S36 a0 (x1 + 1)) else (if 4 ≤ (x1 + 1) then (wq_X11_wantClauses_134 N K k_4 S36 a0 (x1 + 1)) else (wp_X11_isWord N S36 a0 (1111 : Int64) (fun r45 S44 => if r45 = 0 then (wq_X11_wantClauses_134 N K k_4 S44 a0 (x1 + 1)) else (wq_X11_wantClauses_135 N K k_4 S44 a0 (x1 + 1) 1))))
def wq_X11_wantClauses_4 (N : Nat) (K : PS → Prop) : Nat → PS → Nat → Int32 → Int32 → Prop
  | 0, _, _, _, _ => False
  | n + 1, S, a0, x1, x2 => S.K a0 = 12 ∧ if (S.I 788 a0) = 0 then (wq_X11_wantClauses_147 N K S a0 x1) else (if x2 = 0 then (wq_X11_wantClauses_147 N K S a0 x1) else (wp_X11_wantWord N S a0 (316163 : Int64) (fun S9 => S9.K a0 = 12 ∧ wp_X11_wantNumber N S9 a0 (fun r13 S12 => S12.K a0 = 12 ∧ wp_X11_wantWord N S12 a0 (79 : Int64) (fun S15 => S15.K a0 = 12 ∧ wp_X11_wantInt N S15 a0 (fun r19 S18 => S18.K a0 = 12 ∧ if (S18.I 788 a0) = 0 then (wq_X11_wantClauses_70 N K (fun S a0 x1 x2 => wq_X11_wantClauses_4 N K n S a0 x1 x2) S18 a0 x1 r13 r19 0) else (wp_X11_isWord N S18 a0 (131638 : Int64) (fun r49 S48 => if r49 = 0 then (wq_X11_wantClauses_70 N K (fun S a0 x1 x2 => wq_X11_wantClauses_4 N K n S a0 x1 x2) S48 a0 x1 r13 r19 0) else (S48.K a0 = 12 ∧ wp_X11_advance N S48 a0 (fun S53 => S53.K a0 = 12 ∧ wp_X11_wantNumber N S53 a0 (fun r57 S56 => wq_X11_wantClauses_70 N K (fun S a0 x1 x2 => wq_X11_wantClauses_4 N K n S a0 x1 x2) S56 a0 x1 r13 r19 r57)))))))))))
def wp_X11_wantClauses (N : Nat) (S : PS) (a0 : Nat) (K : PS → Prop) : Prop := wq_X11_wantClauses_4 N K N S a0 0 1
set_option maxHeartbeats 4000000 in
set_option maxRecDepth 100000 in
theorem tq_X11_wantClauses_147 {p : Program} {l : Launch} {e : Env} {s : State} {m : MethodId} {args : Array Value} {below : List Frame} {meth : Method} {c : Code} {D : DX} {cA : Nat → ClassId} {z0 N : Nat} {K : PS → Prop} (C : CX p s m args meth c cX11_wantClauses 6 RX11 none D cA z0) : ∀ (S : PS) (a0 : Nat) (x1 : Int32) (H : Heap) (locs : List Loc) (ls : Array Slot), wq_X11_wantClauses_147 N K S a0 x1 → XV D cA z0 s S H locs → lv_has ls 6 [(0, .ref a0), (1, .int x1)] → W p l e (rmd 5 0 0) s m args below meth c H locs 0 0 (MQ below (va_Qv K (XK D cA z0) (zA z0)) args s 0 0 (zA z0)) (F0 m 147 ls []) := by
  obtain ⟨hx, hb, hml, hown, hts, hK, hz, hlk, hr⟩ := id C
  intro S a0 x1 H locs ls hM hV hl
  unfold wq_X11_wantClauses_147 at hM
  refine lv_aload_n hx hb dX11_wantClauses_147 rfl (lv_at hl 0 rfl) ?_
  have hk3 := hM.1
  have hM := hM.2
  obtain ⟨p4, hp4, hM⟩ := hM
  refine x_getR C hV wf_X11_32 hk3 hp4 dX11_wantClauses_148 ?_
  refine lv_iconst (v := 1) hx hb dX11_wantClauses_151 (by decide) ?_
  refine lv_iload_n hx hb dX11_wantClauses_152 rfl (lv_at hl 1 rfl) ?_
  have hk5 := hM.1
  have hM := hM.2
  have hi6 := hM.1
  have hM := hM.2
  obtain ⟨S7, eS7⟩ : ∃ z : PS, z = S.setA p4 (1 : Int32).toNatClampNeg x1 := ⟨_, rfl⟩
  have hM := hM S7 eS7
  refine x_iast C hV hk5 hi6 eS7 dX11_wantClauses_153 (fun H locs hV => ?_)
  exact x_vret C hV hM dX11_wantClauses_154
set_option maxHeartbeats 4000000 in
set_option maxRecDepth 100000 in
theorem tq_X11_wantClauses_135 {p : Program} {l : Launch} {e : Env} {s : State} {m : MethodId} {args : Array Value} {below : List Frame} {meth : Method} {c : Code} {D : DX} {cA : Nat → ClassId} {z0 N : Nat} {K : PS → Prop} {k_4 : PS → Nat → Int32 → Int32 → Prop} (C : CX p s m args meth c cX11_wantClauses 6 RX11 none D cA z0) (H_4 : ∀ (S : PS) (a0 : Nat) (x1 : Int32) (x2 : Int32) (H : Heap) (locs : List Loc) (ls : Array Slot), k_4 S a0 x1 x2 → XV D cA z0 s S H locs → lv_has ls 6 [(0, .ref a0), (1, .int x1), (2, .int x2)] → W p l e (rmd 5 0 0) s m args below meth c H locs 0 0 (MQ below (va_Qv K (XK D cA z0) (zA z0)) args s 0 0 (zA z0)) (F0 m 4 ls [])) : ∀ (S : PS) (a0 : Nat) (x1 : Int32) (t0 : Int32) (H : Heap) (locs : List Loc) (ls : Array Slot), wq_X11_wantClauses_135 N K k_4 S a0 x1 t0 → XV D cA z0 s S H locs → lv_has ls 6 [(0, .ref a0), (1, .int x1)] → W p l e (rmd 5 0 0) s m args below meth c H locs 0 0 (MQ below (va_Qv K (XK D cA z0) (zA z0)) args s 0 0 (zA z0)) (F0 m 135 ls [.int t0]) := by
  obtain ⟨hx, hb, hml, hown, hts, hK, hz, hlk, hr⟩ := id C
  intro S a0 x1 t0 H locs ls hM hV hl
  unfold wq_X11_wantClauses_135 at hM
  refine lv_istore_n (lv' := [(2, .int t0), (0, .ref a0), (1, .int x1)]) hx hb dX11_wantClauses_135 rfl hl (by decide) rfl (fun ls hl => ?_)
  refine lv_iload_n hx hb dX11_wantClauses_136 rfl (lv_at hl 0 rfl) ?_
  refine lv_if_eq (tgt := 144) hx hb dX11_wantClauses_137 (by decide) (fun c39 => ?_) (fun c39 => ?_)
  · have hM := ite_t c39 hM
    refine lv_goto (tgt := 4) hx hb dX11_wantClauses_144 (by decide) ?_
    exact H_4 _ _ _ _ _ _ _ hM hV (lv_sub hl [1, 2, 0] rfl)
  have hM := ite_f c39 hM
  refine lv_aload_n hx hb dX11_wantClauses_140 rfl (lv_at hl 1 rfl) ?_
  have hk40 := hM.1
  have hM := hM.2
  refine x_cv hV (x_runV (As := []) (rest := []) C hV mi_X11_advance wl_X11_177 hk40 (c_X11_advance hM) ⟨by decide, by decide⟩ rfl hl.1 (Nat.le_of_ble_eq_true rfl) dX11_wantClauses_141 ⟨Nat.zero_le _, Nat.zero_le _⟩) (fun S41 H locs hV hM => ?_)
  refine lv_goto (tgt := 4) hx hb dX11_wantClauses_144 (by decide) ?_
  exact H_4 _ _ _ _ _ _ _ hM hV (lv_sub hl [1, 2, 0] rfl)
set_option maxHeartbeats 4000000 in
set_option maxRecDepth 100000 in
theorem tq_X11_wantClauses_134 {p : Program} {l : Launch} {e : Env} {s : State} {m : MethodId} {args : Array Value} {below : List Frame} {meth : Method} {c : Code} {D : DX} {cA : Nat → ClassId} {z0 N : Nat} {K : PS → Prop} {k_4 : PS → Nat → Int32 → Int32 → Prop} (C : CX p s m args meth c cX11_wantClauses 6 RX11 none D cA z0) (H_4 : ∀ (S : PS) (a0 : Nat) (x1 : Int32) (x2 : Int32) (H : Heap) (locs : List Loc) (ls : Array Slot), k_4 S a0 x1 x2 → XV D cA z0 s S H locs → lv_has ls 6 [(0, .ref a0), (1, .int x1), (2, .int x2)] → W p l e (rmd 5 0 0) s m args below meth c H locs 0 0 (MQ below (va_Qv K (XK D cA z0) (zA z0)) args s 0 0 (zA z0)) (F0 m 4 ls [])) : ∀ (S : PS) (a0 : Nat) (x1 : Int32) (H : Heap) (locs : List Loc) (ls : Array Slot), wq_X11_wantClauses_134 N K k_4 S a0 x1 → XV D cA z0 s S H locs → lv_has ls 6 [(0, .ref a0), (1, .int x1)] → W p l e (rmd 5 0 0) s m args below meth c H locs 0 0 (MQ below (va_Qv K (XK D cA z0) (zA z0)) args s 0 0 (zA z0)) (F0 m 134 ls []) := by
  obtain ⟨hx, hb, hml, hown, hts, hK, hz, hlk, hr⟩ := id C
  intro S a0 x1 H locs ls hM hV hl
  unfold wq_X11_wantClauses_134 at hM
  refine lv_iconst (v := 0) hx hb dX11_wantClauses_134 (by decide) ?_
  exact tq_X11_wantClauses_135 C H_4 _ _ _ _ _ _ _ hM hV (lv_sub hl [0, 1] rfl)
set_option maxHeartbeats 4000000 in
set_option maxRecDepth 100000 in
theorem tq_X11_wantClauses_70 {p : Program} {l : Launch} {e : Env} {s : State} {m : MethodId} {args : Array Value} {below : List Frame} {meth : Method} {c : Code} {D : DX} {cA : Nat → ClassId} {z0 N : Nat} {K : PS → Prop} {k_4 : PS → Nat → Int32 → Int32 → Prop} (C : CX p s m args meth c cX11_wantClauses 6 RX11 none D cA z0) (H_4 : ∀ (S : PS) (a0 : Nat) (x1 : Int32) (x2 : Int32) (H : Heap) (locs : List Loc) (ls : Array Slot), k_4 S a0 x1 x2 → XV D cA z0 s S H locs → lv_has ls 6 [(0, .ref a0), (1, .int x1), (2, .int x2)] → W p l e (rmd 5 0 0) s m args below meth c H locs 0 0 (MQ below (va_Qv K (XK D cA z0) (zA z0)) args s 0 0 (zA z0)) (F0 m 4 ls [])) : ∀ (S : PS) (a0 : Nat) (x1 : Int32) (x3 : Int32) (x4 : Int32) (x5 : Int32) (H : Heap) (locs : List Loc) (ls : Array Slot), wq_X11_wantClauses_70 N K k_4 S a0 x1 x3 x4 x5 → XV D cA z0 s S H locs → lv_has ls 6 [(0, .ref a0), (1, .int x1), (3, .int x3), (4, .int x4), (5, .int x5)] → W p l e (rmd 5 0 0) s m args below meth c H locs 0 0 (MQ below (va_Qv K (XK D cA z0) (zA z0)) args s 0 0 (zA z0)) (F0 m 70 ls []) := by
  obtain ⟨hx, hb, hml, hown, hts, hK, hz, hlk, hr⟩ := id C
  intro S a0 x1 x3 x4 x5 H locs ls hM hV hl
  unfold wq_X11_wantClauses_70 at hM
  refine lv_aload_n hx hb dX11_wantClauses_70 rfl (lv_at hl 0 rfl) ?_
  have hk22 := hM.1
  have hM := hM.2
  obtain ⟨p23, hp23, hM⟩ := hM
  refine x_getR C hV wf_X11_32 hk22 hp23 dX11_wantClauses_71 ?_
  refine lv_iconst (v := 2) hx hb dX11_wantClauses_74 (by decide) ?_
  refine lv_iconst (v := 3) hx hb dX11_wantClauses_75 (by decide) ?_
  refine lv_iload_n hx hb dX11_wantClauses_76 rfl (lv_at hl 1 rfl) ?_
  refine lv_imul hx hb dX11_wantClauses_77 ?_
  refine lv_iadd hx hb dX11_wantClauses_78 ?_
  refine lv_iload_n hx hb dX11_wantClauses_79 rfl (lv_at hl 2 rfl) ?_
  have hk24 := hM.1
  have hM := hM.2
  have hi25 := hM.1
  have hM := hM.2
  obtain ⟨S26, eS26⟩ : ∃ z : PS, z = S.setA p23 (2 + (3 * x1)).toNatClampNeg x3 := ⟨_, rfl⟩
  have hM := hM S26 eS26
  refine x_iast C hV hk24 hi25 eS26 dX11_wantClauses_80 (fun H locs hV => ?_)
  refine lv_aload_n hx hb dX11_wantClauses_81 rfl (lv_at hl 0 rfl) ?_
  have hk27 := kp_A eS26 hk22
  obtain ⟨p28, hp28, hM⟩ := hM
  refine x_getR C hV wf_X11_32 hk27 hp28 dX11_wantClauses_82 ?_
  refine lv_iconst (v := 3) hx hb dX11_wantClauses_85 (by decide) ?_
  refine lv_iconst (v := 3) hx hb dX11_wantClauses_86 (by decide) ?_
  refine lv_iload_n hx hb dX11_wantClauses_87 rfl (lv_at hl 1 rfl) ?_
  refine lv_imul hx hb dX11_wantClauses_88 ?_
  refine lv_iadd hx hb dX11_wantClauses_89 ?_
  refine lv_iload hx hb dX11_wantClauses_90 (lv_at hl 3 rfl) ?_
  have hk29 := hM.1
  have hM := hM.2
  have hi30 := hM.1
  have hM := hM.2
  obtain ⟨S31, eS31⟩ : ∃ z : PS, z = S26.setA p28 (3 + (3 * x1)).toNatClampNeg x4 := ⟨_, rfl⟩
  have hM := hM S31 eS31
  refine x_iast C hV hk29 hi30 eS31 dX11_wantClauses_92 (fun H locs hV => ?_)
  refine lv_aload_n hx hb dX11_wantClauses_93 rfl (lv_at hl 0 rfl) ?_
  have hk32 := kp_A eS31 hk27
  obtain ⟨p33, hp33, hM⟩ := hM
  refine x_getR C hV wf_X11_32 hk32 hp33 dX11_wantClauses_94 ?_
  refine lv_iconst (v := 4) hx hb dX11_wantClauses_97 (by decide) ?_
  refine lv_iconst (v := 3) hx hb dX11_wantClauses_98 (by decide) ?_
  refine lv_iload_n hx hb dX11_wantClauses_99 rfl (lv_at hl 1 rfl) ?_
  refine lv_imul hx hb dX11_wantClauses_100 ?_
  refine lv_iadd hx hb dX11_wantClauses_101 ?_
  refine lv_iload hx hb dX11_wantClauses_102 (lv_at hl 4 rfl) ?_
  have hk34 := hM.1
  have hM := hM.2
  have hi35 := hM.1
  have hM := hM.2
  obtain ⟨S36, eS36⟩ : ∃ z : PS, z = S31.setA p33 (4 + (3 * x1)).toNatClampNeg x5 := ⟨_, rfl⟩
  have hM := hM S36 eS36
  refine x_iast C hV hk34 hi35 eS36 dX11_wantClauses_104 (fun H locs hV => ?_)
  refine lv_iinc (v := (x1 + 1)) (lv' := [(1, .int (x1 + 1)), (0, .ref a0), (3, .int x3), (4, .int x4), (5, .int x5)]) hx hb dX11_wantClauses_105 hl (k := 1) rfl rfl (by decide) rfl (fun ls hl => ?_)
  refine lv_aload_n hx hb dX11_wantClauses_108 rfl (lv_at hl 1 rfl) ?_
  have hk37 := kp_A eS36 hk32
  refine x_getI C hV wf_X11_173 hk37 dX11_wantClauses_109 ?_
  refine lv_if_eq (tgt := 134) hx hb dX11_wantClauses_112 (by decide) (fun c38 => ?_) (fun c38 => ?_)
  · have hM := ite_t c38 hM
    exact tq_X11_wantClauses_134 C H_4 _ _ _ _ _ _ hM hV (lv_sub hl [1, 0] rfl)
  have hM := ite_f c38 hM
  refine lv_iload_n hx hb dX11_wantClauses_115 rfl (lv_at hl 0 rfl) ?_
  refine lv_iconst (v := 4) hx hb dX11_wantClauses_116 (by decide) ?_
  refine lv_icmp_ge (tgt := 134) hx hb dX11_wantClauses_117 (by decide) (fun c43 => ?_) (fun c43 => ?_)
  · have hM := ite_t c43 hM
    exact tq_X11_wantClauses_134 C H_4 _ _ _ _ _ _ hM hV (lv_sub hl [1, 0] rfl)
  have hM := ite_f c43 hM
  refine lv_aload_n hx hb dX11_wantClauses_120 rfl (lv_at hl 1 rfl) ?_
  refine lv_ldc2 hx hb hown (hts _ wc_X11_208) dX11_wantClauses_121 ?_
  refine x_ci hV (x_runV (As := [.long (1111 : Int64)]) (rest := []) C hV mi_X11_isWord wl_X11_180 hk37 (c_X11_isWord hM) ⟨by decide, by decide⟩ rfl hl.1 (Nat.le_of_ble_eq_true rfl) dX11_wantClauses_124 ⟨Nat.zero_le _, Nat.zero_le _⟩) (fun r45 S44 H locs hV hM => ?_)
  have hz46 := hM.1
  have hM := hM.2
  refine lv_if_eq (tgt := 134) hx hb dX11_wantClauses_127 (by decide) (fun c47 => ?_) (fun c47 => ?_)
  · have hM := ite_t c47 hM
    exact tq_X11_wantClauses_134 C H_4 _ _ _ _ _ _ hM hV (lv_sub hl [1, 0] rfl)
  have hM := ite_f c47 hM
  refine lv_iconst (v := 1) hx hb dX11_wantClauses_130 (by decide) ?_
  refine lv_goto (tgt := 135) hx hb dX11_wantClauses_131 (by decide) ?_
  exact tq_X11_wantClauses_135 C H_4 _ _ _ _ _ _ _ hM hV (lv_sub hl [1, 0] rfl)
set_option maxHeartbeats 4000000 in
set_option maxRecDepth 100000 in
theorem tq_X11_wantClauses_4 {p : Program} {l : Launch} {e : Env} {s : State} {m : MethodId} {args : Array Value} {below : List Frame} {meth : Method} {c : Code} {D : DX} {cA : Nat → ClassId} {z0 N : Nat} {K : PS → Prop} (C : CX p s m args meth c cX11_wantClauses 6 RX11 none D cA z0) : ∀ (n : Nat) (S : PS) (a0 : Nat) (x1 : Int32) (x2 : Int32) (H : Heap) (locs : List Loc) (ls : Array Slot), wq_X11_wantClauses_4 N K n S a0 x1 x2 → XV D cA z0 s S H locs → lv_has ls 6 [(0, .ref a0), (1, .int x1), (2, .int x2)] → W p l e (rmd 5 0 0) s m args below meth c H locs 0 0 (MQ below (va_Qv K (XK D cA z0) (zA z0)) args s 0 0 (zA z0)) (F0 m 4 ls []) := by
  obtain ⟨hx, hb, hml, hown, hts, hK, hz, hlk, hr⟩ := id C
  intro n
  induction n with
  | zero => intro S a0 x1 x2 H locs ls hM; exact absurd hM id
  | succ n ih =>
    intro S a0 x1 x2 H locs ls hM hV hl
    rw [wq_X11_wantClauses_4.eq_2] at hM
    refine lv_aload_n hx hb dX11_wantClauses_4 rfl (lv_at hl 0 rfl) ?_
    have hk1 := hM.1
    have hM := hM.2
    refine x_getI C hV wf_X11_173 hk1 dX11_wantClauses_5 ?_
    refine lv_if_eq (tgt := 147) hx hb dX11_wantClauses_8 (by decide) (fun c2 => ?_) (fun c2 => ?_)
    · have hM := ite_t c2 hM
      exact tq_X11_wantClauses_147 C _ _ _ _ _ _ hM hV (lv_sub hl [0, 1] rfl)
    have hM := ite_f c2 hM
    refine lv_iload_n hx hb dX11_wantClauses_11 rfl (lv_at hl 2 rfl) ?_
    refine lv_if_eq (tgt := 147) hx hb dX11_wantClauses_12 (by decide) (fun c8 => ?_) (fun c8 => ?_)
    · have hM := ite_t c8 hM
      exact tq_X11_wantClauses_147 C _ _ _ _ _ _ hM hV (lv_sub hl [0, 1] rfl)
    have hM := ite_f c8 hM
    refine lv_aload_n hx hb dX11_wantClauses_15 rfl (lv_at hl 0 rfl) ?_
    refine lv_ldc2 hx hb hown (hts _ wc_X11_195) dX11_wantClauses_16 ?_
    refine x_cv hV (x_runV (As := [.long (316163 : Int64)]) (rest := []) C hV mi_X11_wantWord wl_X11_197 hk1 (c_X11_wantWord hM) ⟨by decide, by decide⟩ rfl hl.1 (Nat.le_of_ble_eq_true rfl) dX11_wantClauses_19 ⟨Nat.zero_le _, Nat.zero_le _⟩) (fun S9 H locs hV hM => ?_)
    refine lv_aload_n hx hb dX11_wantClauses_22 rfl (lv_at hl 0 rfl) ?_
    have hk11 := hM.1
    have hM := hM.2
    refine x_ci hV (x_runV (As := []) (rest := []) C hV mi_X11_wantNumber wl_X11_191 hk11 (c_X11_wantNumber hM) ⟨by decide, by decide⟩ rfl hl.1 (Nat.le_of_ble_eq_true rfl) dX11_wantClauses_23 ⟨Nat.zero_le _, Nat.zero_le _⟩) (fun r13 S12 H locs hV hM => ?_)
    refine lv_istore_n (lv' := [(3, .int r13), (0, .ref a0), (1, .int x1), (2, .int x2)]) hx hb dX11_wantClauses_26 rfl hl (by decide) rfl (fun ls hl => ?_)
    refine lv_aload_n hx hb dX11_wantClauses_27 rfl (lv_at hl 1 rfl) ?_
    refine lv_ldc2 hx hb hown (hts _ wc_X11_201) dX11_wantClauses_28 ?_
    have hk14 := hM.1
    have hM := hM.2
    refine x_cv hV (x_runV (As := [.long (79 : Int64)]) (rest := []) C hV mi_X11_wantWord wl_X11_197 hk14 (c_X11_wantWord hM) ⟨by decide, by decide⟩ rfl hl.1 (Nat.le_of_ble_eq_true rfl) dX11_wantClauses_31 ⟨Nat.zero_le _, Nat.zero_le _⟩) (fun S15 H locs hV hM => ?_)
    refine lv_aload_n hx hb dX11_wantClauses_34 rfl (lv_at hl 1 rfl) ?_
    have hk17 := hM.1
    have hM := hM.2
    refine x_ci hV (x_runV (As := []) (rest := []) C hV mi_X11_wantInt wl_X11_203 hk17 (c_X11_wantInt hM) ⟨by decide, by decide⟩ rfl hl.1 (Nat.le_of_ble_eq_true rfl) dX11_wantClauses_35 ⟨Nat.zero_le _, Nat.zero_le _⟩) (fun r19 S18 H locs hV hM => ?_)
    refine lv_istore (lv' := [(4, .int r19), (3, .int r13), (0, .ref a0), (1, .int x1), (2, .int x2)]) hx hb dX11_wantClauses_38 hl (by decide) rfl (fun ls hl => ?_)
    refine lv_iconst (v := 0) hx hb dX11_wantClauses_40 (by decide) ?_
    refine lv_istore (lv' := [(5, .int 0), (4, .int r19), (3, .int r13), (0, .ref a0), (1, .int x1), (2, .int x2)]) hx hb dX11_wantClauses_41 hl (by decide) rfl (fun ls hl => ?_)
    refine lv_aload_n hx hb dX11_wantClauses_43 rfl (lv_at hl 3 rfl) ?_
    have hk20 := hM.1
    have hM := hM.2
    refine x_getI C hV wf_X11_173 hk20 dX11_wantClauses_44 ?_
    refine lv_if_eq (tgt := 70) hx hb dX11_wantClauses_47 (by decide) (fun c21 => ?_) (fun c21 => ?_)
    · have hM := ite_t c21 hM
      exact tq_X11_wantClauses_70 C ih _ _ _ _ _ _ _ _ _ hM hV (lv_sub hl [3, 4, 2, 1, 0] rfl)
    have hM := ite_f c21 hM
    refine lv_aload_n hx hb dX11_wantClauses_50 rfl (lv_at hl 3 rfl) ?_
    refine lv_ldc2 hx hb hown (hts _ wc_X11_206) dX11_wantClauses_51 ?_
    refine x_ci hV (x_runV (As := [.long (131638 : Int64)]) (rest := []) C hV mi_X11_isWord wl_X11_180 hk20 (c_X11_isWord hM) ⟨by decide, by decide⟩ rfl hl.1 (Nat.le_of_ble_eq_true rfl) dX11_wantClauses_54 ⟨Nat.zero_le _, Nat.zero_le _⟩) (fun r49 S48 H locs hV hM => ?_)
    have hz50 := hM.1
    have hM := hM.2
    refine lv_if_eq (tgt := 70) hx hb dX11_wantClauses_57 (by decide) (fun c51 => ?_) (fun c51 => ?_)
    · have hM := ite_t c51 hM
      exact tq_X11_wantClauses_70 C ih _ _ _ _ _ _ _ _ _ hM hV (lv_sub hl [3, 4, 2, 1, 0] rfl)
    have hM := ite_f c51 hM
    refine lv_aload_n hx hb dX11_wantClauses_60 rfl (lv_at hl 3 rfl) ?_
    have hk52 := hM.1
    have hM := hM.2
    refine x_cv hV (x_runV (As := []) (rest := []) C hV mi_X11_advance wl_X11_177 hk52 (c_X11_advance hM) ⟨by decide, by decide⟩ rfl hl.1 (Nat.le_of_ble_eq_true rfl) dX11_wantClauses_61 ⟨Nat.zero_le _, Nat.zero_le _⟩) (fun S53 H locs hV hM => ?_)
    refine lv_aload_n hx hb dX11_wantClauses_64 rfl (lv_at hl 3 rfl) ?_
    have hk55 := hM.1
    have hM := hM.2
    refine x_ci hV (x_runV (As := []) (rest := []) C hV mi_X11_wantNumber wl_X11_191 hk55 (c_X11_wantNumber hM) ⟨by decide, by decide⟩ rfl hl.1 (Nat.le_of_ble_eq_true rfl) dX11_wantClauses_65 ⟨Nat.zero_le _, Nat.zero_le _⟩) (fun r57 S56 H locs hV hM => ?_)
    refine lv_istore (lv' := [(5, .int r57), (4, .int r19), (3, .int r13), (0, .ref a0), (1, .int x1), (2, .int x2)]) hx hb dX11_wantClauses_68 hl (by decide) rfl (fun ls hl => ?_)
    exact tq_X11_wantClauses_70 C ih _ _ _ _ _ _ _ _ _ hM hV (lv_sub hl [3, 4, 2, 1, 0] rfl)
set_option maxHeartbeats 4000000 in
set_option maxRecDepth 100000 in
theorem c_X11_wantClauses {l : Launch} {D : DX} {cA : Nat → ClassId} {z0 N : Nat} {S : PS} {a0 : Nat} {K : PS → Prop} (hM : wp_X11_wantClauses N S a0 K) : MetV l yX11_wantClauses cX11_wantClauses 6 none 5 0 0 D cA z0 [.ref a0] S K := by
  refine x_met RX11 (by decide) rfl ?_
  intro p e s m below meth c C hin hV
  have hl := lv_entry ([.ref a0]) (n := 6) (Nat.le_of_ble_eq_true rfl)
  rw [lg_entry_eq]
  generalize (lg_sl ([.ref a0]) ++ List.replicate (6 - (lg_sl ([.ref a0])).length) Slot.unset).toArray = ls at hl ⊢
  have hl : lv_has ls 6 [(0, .ref a0)] := hl
  obtain ⟨hx, hb, hml, hown, hts, hK, hz, hlk, hr⟩ := id C
  unfold wp_X11_wantClauses at hM
  refine lv_iconst (v := 0) hx hb dX11_wantClauses_0 (by decide) ?_
  refine lv_istore_n (lv' := [(1, .int 0), (0, .ref a0)]) hx hb dX11_wantClauses_1 rfl hl (by decide) rfl (fun ls hl => ?_)
  refine lv_iconst (v := 1) hx hb dX11_wantClauses_2 (by decide) ?_
  refine lv_istore_n (lv' := [(2, .int 1), (1, .int 0), (0, .ref a0)]) hx hb dX11_wantClauses_3 rfl hl (by decide) rfl (fun ls hl => ?_)
  exact tq_X11_wantClauses_4 C N _ _ _ _ _ _ _ hM hV (lv_sub hl [2, 1, 0] rfl)

def wq_X11_story_149 (N : Nat) (K : Int32 → PS → Prop) : Nat → PS → Nat → Int32 → Prop
  | 0, _, _, _ => False
  | n + 1, S, a0, x2 => if 16 ≤ x2 then (S.K a0 = 12 ∧ ∀ S43 : PS, S43 = S.setI 776 a0 ((S.I 776 a0) + 1) → K ((S43.I 776 a0) - 1) S43) else (S.K a0 = 12 ∧ ∃ p46 : Nat, S.R 777 a0 = some p46 ∧ ∃ p47 : Nat, S.R 789 a0 = some p47 ∧ S.K p47 = 20 ∧ vp_in x2 (S.ln p47) ∧ S.K p46 = 20 ∧ vp_in ((16 * (S.I 776 a0)) + x2) (S.ln p46) ∧ ∀ S52 : PS, S52 = S.setA p46 ((16 * (S.I 776 a0)) + x2).toNatClampNeg (S.A p47 x2.toNatClampNeg) → wq_X11_story_149 N K n S52 a0 (x2 + 1))
def wq_X11_story_124 (N : Nat) (K : Int32 → PS → Prop) (S : PS) (a0 : Nat) (b0 : Nat) (t1 : Int32) : Prop := S.K b0 = 12 ∧ (t1 = 0 ∨ t1 = 1) ∧ ∀ S36 : PS, S36 = S.setI 788 b0 t1 → S36.K a0 = 12 ∧ ∀ S38 : PS, S38 = S36.setI 782 a0 0 → if (S38.I 788 a0) = 0 then (K ((-100) - (S38.I 784 a0)) S38) else (wq_X11_story_149 N K N S38 a0 0)
def wq_X11_story_123 (N : Nat) (K : Int32 → PS → Prop) (S : PS) (a0 : Nat) (b0 : Nat) : Prop := wq_X11_story_124 N K S a0 b0 0
def wq_X11_story_104 (N : Nat) (K : Int32 → PS → Prop) (S : PS) (a0 : Nat) : Prop := S.K a0 = 12 ∧ if (S.I 788 a0) = 0 then (wq_X11_story_123 N K S a0 a0) else (if (S.I 783 a0) = 0 then (wq_X11_story_124 N K S a0 a0 1) else (wq_X11_story_123 N K S a0 a0))
def wp_X11_story (N : Nat) (S : PS) (a0 : Nat) (x1 : Int32) (K : Int32 → PS → Prop) : Prop := wp_X11_in N S x1 1 99 (fun r2 S1 => if r2 = 0 then (K (-1) S1) else (S1.K a0 = 12 ∧ if (S1.I 776 a0) = 8 then (K (-2) S1) else (wp_X11_begin N S1 a0 (fun S7 => S7.K a0 = 12 ∧ ∃ p10 : Nat, S7.R 789 a0 = some p10 ∧ S7.K p10 = 20 ∧ vp_in 0 (S7.ln p10) ∧ ∀ S13 : PS, S13 = S7.setA p10 (0 : Int32).toNatClampNeg x1 → ∃ p15 : Nat, S13.R 789 a0 = some p15 ∧ S13.K p15 = 20 ∧ vp_in 1 (S13.ln p15) ∧ ∀ S18 : PS, S18 = S13.setA p15 (1 : Int32).toNatClampNeg 0 → wp_X11_isWord N S18 a0 (5649913681 : Int64) (fun r21 S20 => if r21 = 0 then (S20.K a0 = 12 ∧ wp_X11_isWord N S20 a0 (6559778 : Int64) (fun r26 S25 => if r26 = 0 then (S25.K a0 = 12 ∧ wp_X11_wantClauses N S25 a0 (fun S30 => wq_X11_story_104 N K S30 a0)) else (S25.K a0 = 12 ∧ wp_X11_advance N S25 a0 (fun S55 => S55.K a0 = 12 ∧ wp_X11_wantWord N S55 a0 (79 : Int64) (fun S58 => S58.K a0 = 12 ∧ ∃ p61 : Nat, S58.R 789 a0 = some p61 ∧ S58.K p61 = 20 ∧ vp_in 1 (S58.ln p61) ∧ ∀ S64 : PS, S64 = S58.setA p61 (1 : Int32).toNatClampNeg (-1) → ∃ p66 : Nat, S64.R 789 a0 = some p66 ∧ wp_X11_wantInt N S64 a0 (fun r68 S67 => S67.K p66 = 20 ∧ vp_in 2 (S67.ln p66) ∧ ∀ S71 : PS, S71 = S67.setA p66 (2 : Int32).toNatClampNeg r68 → wq_X11_story_104 N K S71 a0)))))) else (S20.K a0 = 12 ∧ wp_X11_advance N S20 a0 (fun S73 => wq_X11_story_104 N K S73 a0)))))))
set_option maxHeartbeats 4000000 in
set_option maxRecDepth 100000 in
theorem tq_X11_story_149 {p : Program} {l : Launch} {e : Env} {s : State} {m : MethodId} {args : Array Value} {below : List Frame} {meth : Method} {c : Code} {D : DX} {cA : Nat → ClassId} {z0 N : Nat} {K : Int32 → PS → Prop} (C : CX p s m args meth c cX11_story 3 RX11 (some .int) D cA z0) : ∀ (n : Nat) (S : PS) (a0 : Nat) (x2 : Int32) (H : Heap) (locs : List Loc) (ls : Array Slot), wq_X11_story_149 N K n S a0 x2 → XV D cA z0 s S H locs → lv_has ls 3 [(0, .ref a0), (2, .int x2)] → W p l e (rmd 6 0 0) s m args below meth c H locs 0 0 (MQ below (va_Qi K (XK D cA z0) (zA z0)) args s 0 0 (zA z0)) (F0 m 149 ls []) := by
  obtain ⟨hx, hb, hml, hown, hts, hK, hz, hlk, hr⟩ := id C
  intro n
  induction n with
  | zero => intro S a0 x2 H locs ls hM; exact absurd hM id
  | succ n ih =>
    intro S a0 x2 H locs ls hM hV hl
    rw [wq_X11_story_149.eq_2] at hM
    refine lv_iload_n hx hb dX11_story_149 rfl (lv_at hl 1 rfl) ?_
    refine lv_bipush (v := 16) hx hb dX11_story_150 (by decide) ?_
    refine lv_icmp_ge (tgt := 181) hx hb dX11_story_152 (by decide) (fun c41 => ?_) (fun c41 => ?_)
    · have hM := ite_t c41 hM
      refine lv_aload_n hx hb dX11_story_181 rfl (lv_at hl 0 rfl) ?_
      refine lv_dup hx hb dX11_story_182 rfl ?_
      have hk42 := hM.1
      have hM := hM.2
      refine x_getI C hV wf_X11_91 hk42 dX11_story_183 ?_
      refine lv_iconst (v := 1) hx hb dX11_story_186 (by decide) ?_
      refine lv_iadd hx hb dX11_story_187 ?_
      obtain ⟨S43, eS43⟩ : ∃ z : PS, z = S.setI 776 a0 ((S.I 776 a0) + 1) := ⟨_, rfl⟩
      have hM := hM S43 eS43
      refine x_putI C hV wp_X11_91 hk42 ⟨rfl, rfl⟩ eS43 dX11_story_188 (fun H locs hV => ?_)
      refine lv_aload_n hx hb dX11_story_191 rfl (lv_at hl 0 rfl) ?_
      have hk44 := kp_I eS43 hk42
      refine x_getI C hV wf_X11_91 hk44 dX11_story_192 ?_
      refine lv_iconst (v := 1) hx hb dX11_story_195 (by decide) ?_
      refine lv_isub hx hb dX11_story_196 ?_
      exact x_iret C hV hM dX11_story_197
    have hM := ite_f c41 hM
    refine lv_aload_n hx hb dX11_story_155 rfl (lv_at hl 0 rfl) ?_
    have hk45 := hM.1
    have hM := hM.2
    obtain ⟨p46, hp46, hM⟩ := hM
    refine x_getR C hV wf_X11_20 hk45 hp46 dX11_story_156 ?_
    refine lv_bipush (v := 16) hx hb dX11_story_159 (by decide) ?_
    refine lv_aload_n hx hb dX11_story_161 rfl (lv_at hl 0 rfl) ?_
    refine x_getI C hV wf_X11_91 hk45 dX11_story_162 ?_
    refine lv_imul hx hb dX11_story_165 ?_
    refine lv_iload_n hx hb dX11_story_166 rfl (lv_at hl 1 rfl) ?_
    refine lv_iadd hx hb dX11_story_167 ?_
    refine lv_aload_n hx hb dX11_story_168 rfl (lv_at hl 0 rfl) ?_
    obtain ⟨p47, hp47, hM⟩ := hM
    refine x_getR C hV wf_X11_32 hk45 hp47 dX11_story_169 ?_
    refine lv_iload_n hx hb dX11_story_172 rfl (lv_at hl 1 rfl) ?_
    have hk48 := hM.1
    have hM := hM.2
    have hi49 := hM.1
    have hM := hM.2
    refine x_iald C hV hk48 hi49 dX11_story_173 ?_
    have hk50 := hM.1
    have hM := hM.2
    have hi51 := hM.1
    have hM := hM.2
    obtain ⟨S52, eS52⟩ : ∃ z : PS, z = S.setA p46 ((16 * (S.I 776 a0)) + x2).toNatClampNeg (S.A p47 x2.toNatClampNeg) := ⟨_, rfl⟩
    have hM := hM S52 eS52
    refine x_iast C hV hk50 hi51 eS52 dX11_story_174 (fun H locs hV => ?_)
    refine lv_iinc (v := (x2 + 1)) (lv' := [(2, .int (x2 + 1)), (0, .ref a0)]) hx hb dX11_story_175 hl (k := 1) rfl rfl (by decide) rfl (fun ls hl => ?_)
    refine lv_goto (tgt := 149) hx hb dX11_story_178 (by decide) ?_
    exact ih _ _ _ _ _ _ hM hV (lv_sub hl [1, 0] rfl)
set_option maxHeartbeats 4000000 in
set_option maxRecDepth 100000 in
theorem tq_X11_story_124 {p : Program} {l : Launch} {e : Env} {s : State} {m : MethodId} {args : Array Value} {below : List Frame} {meth : Method} {c : Code} {D : DX} {cA : Nat → ClassId} {z0 N : Nat} {K : Int32 → PS → Prop} (C : CX p s m args meth c cX11_story 3 RX11 (some .int) D cA z0) : ∀ (S : PS) (a0 : Nat) (b0 : Nat) (t1 : Int32) (H : Heap) (locs : List Loc) (ls : Array Slot), wq_X11_story_124 N K S a0 b0 t1 → XV D cA z0 s S H locs → lv_has ls 3 [(0, .ref a0)] → W p l e (rmd 6 0 0) s m args below meth c H locs 0 0 (MQ below (va_Qi K (XK D cA z0) (zA z0)) args s 0 0 (zA z0)) (F0 m 124 ls [.int t1, .ref b0]) := by
  obtain ⟨hx, hb, hml, hown, hts, hK, hz, hlk, hr⟩ := id C
  intro S a0 b0 t1 H locs ls hM hV hl
  unfold wq_X11_story_124 at hM
  have hk34 := hM.1
  have hM := hM.2
  have hz35 := hM.1
  have hM := hM.2
  obtain ⟨S36, eS36⟩ : ∃ z : PS, z = S.setI 788 b0 t1 := ⟨_, rfl⟩
  have hM := hM S36 eS36
  refine x_putI C hV wp_X11_173 hk34 (nz_b hz35) eS36 dX11_story_124 (fun H locs hV => ?_)
  refine lv_aload_n hx hb dX11_story_127 rfl (lv_at hl 0 rfl) ?_
  refine lv_iconst (v := 0) hx hb dX11_story_128 (by decide) ?_
  have hk37 := hM.1
  have hM := hM.2
  obtain ⟨S38, eS38⟩ : ∃ z : PS, z = S36.setI 782 a0 0 := ⟨_, rfl⟩
  have hM := hM S38 eS38
  refine x_putI C hV wp_X11_137 hk37 ⟨rfl, rfl⟩ eS38 dX11_story_129 (fun H locs hV => ?_)
  refine lv_aload_n hx hb dX11_story_132 rfl (lv_at hl 0 rfl) ?_
  have hk39 := kp_I eS38 hk37
  refine x_getI C hV wf_X11_173 hk39 dX11_story_133 ?_
  refine lv_if_ne (tgt := 147) hx hb dX11_story_136 (by decide) (fun c40 => ?_) (fun c40 => ?_)
  · have hM := ite_f c40 hM
    refine lv_iconst (v := 0) hx hb dX11_story_147 (by decide) ?_
    refine lv_istore_n (lv' := [(2, .int 0), (0, .ref a0)]) hx hb dX11_story_148 rfl hl (by decide) rfl (fun ls hl => ?_)
    exact tq_X11_story_149 C N _ _ _ _ _ _ hM hV (lv_sub hl [1, 0] rfl)
  have hM := ite_t c40 hM
  refine lv_bipush (v := (-100)) hx hb dX11_story_139 (by decide) ?_
  refine lv_aload_n hx hb dX11_story_141 rfl (lv_at hl 0 rfl) ?_
  refine x_getI C hV wf_X11_145 hk39 dX11_story_142 ?_
  refine lv_isub hx hb dX11_story_145 ?_
  exact x_iret C hV hM dX11_story_146
set_option maxHeartbeats 4000000 in
set_option maxRecDepth 100000 in
theorem tq_X11_story_123 {p : Program} {l : Launch} {e : Env} {s : State} {m : MethodId} {args : Array Value} {below : List Frame} {meth : Method} {c : Code} {D : DX} {cA : Nat → ClassId} {z0 N : Nat} {K : Int32 → PS → Prop} (C : CX p s m args meth c cX11_story 3 RX11 (some .int) D cA z0) : ∀ (S : PS) (a0 : Nat) (b0 : Nat) (H : Heap) (locs : List Loc) (ls : Array Slot), wq_X11_story_123 N K S a0 b0 → XV D cA z0 s S H locs → lv_has ls 3 [(0, .ref a0)] → W p l e (rmd 6 0 0) s m args below meth c H locs 0 0 (MQ below (va_Qi K (XK D cA z0) (zA z0)) args s 0 0 (zA z0)) (F0 m 123 ls [.ref b0]) := by
  obtain ⟨hx, hb, hml, hown, hts, hK, hz, hlk, hr⟩ := id C
  intro S a0 b0 H locs ls hM hV hl
  unfold wq_X11_story_123 at hM
  refine lv_iconst (v := 0) hx hb dX11_story_123 (by decide) ?_
  exact tq_X11_story_124 C _ _ _ _ _ _ _ hM hV (lv_sub hl [0] rfl)
set_option maxHeartbeats 4000000 in
set_option maxRecDepth 100000 in
theorem tq_X11_story_104 {p : Program} {l : Launch} {e : Env} {s : State} {m : MethodId} {args : Array Value} {below : List Frame} {meth : Method} {c : Code} {D : DX} {cA : Nat → ClassId} {z0 N : Nat} {K : Int32 → PS → Prop} (C : CX p s m args meth c cX11_story 3 RX11 (some .int) D cA z0) : ∀ (S : PS) (a0 : Nat) (H : Heap) (locs : List Loc) (ls : Array Slot), wq_X11_story_104 N K S a0 → XV D cA z0 s S H locs → lv_has ls 3 [(0, .ref a0)] → W p l e (rmd 6 0 0) s m args below meth c H locs 0 0 (MQ below (va_Qi K (XK D cA z0) (zA z0)) args s 0 0 (zA z0)) (F0 m 104 ls []) := by
  obtain ⟨hx, hb, hml, hown, hts, hK, hz, hlk, hr⟩ := id C
  intro S a0 H locs ls hM hV hl
  unfold wq_X11_story_104 at hM
  refine lv_aload_n hx hb dX11_story_104 rfl (lv_at hl 0 rfl) ?_
  refine lv_aload_n hx hb dX11_story_105 rfl (lv_at hl 0 rfl) ?_
  have hk32 := hM.1
  have hM := hM.2
  refine x_getI C hV wf_X11_173 hk32 dX11_story_106 ?_
  refine lv_if_eq (tgt := 123) hx hb dX11_story_109 (by decide) (fun c33 => ?_) (fun c33 => ?_)
  · have hM := ite_t c33 hM
    exact tq_X11_story_123 C _ _ _ _ _ _ hM hV (lv_sub hl [0] rfl)
  have hM := ite_f c33 hM
  refine lv_aload_n hx hb dX11_story_112 rfl (lv_at hl 0 rfl) ?_
  refine x_getI C hV wf_X11_157 hk32 dX11_story_113 ?_
  refine lv_if_ne (tgt := 123) hx hb dX11_story_116 (by decide) (fun c53 => ?_) (fun c53 => ?_)
  · have hM := ite_f c53 hM
    exact tq_X11_story_123 C _ _ _ _ _ _ hM hV (lv_sub hl [0] rfl)
  have hM := ite_t c53 hM
  refine lv_iconst (v := 1) hx hb dX11_story_119 (by decide) ?_
  refine lv_goto (tgt := 124) hx hb dX11_story_120 (by decide) ?_
  exact tq_X11_story_124 C _ _ _ _ _ _ _ hM hV (lv_sub hl [0] rfl)
set_option maxHeartbeats 4000000 in
set_option maxRecDepth 100000 in
theorem c_X11_story {l : Launch} {D : DX} {cA : Nat → ClassId} {z0 N : Nat} {S : PS} {a0 : Nat} {x1 : Int32} {K : Int32 → PS → Prop} (hM : wp_X11_story N S a0 x1 K) : MetI l yX11_story cX11_story 3 (some .int) 6 0 0 D cA z0 [.ref a0, .int x1] S K := by
  refine x_met RX11 (by decide) rfl ?_
  intro p e s m below meth c C hin hV
  have hl := lv_entry ([.ref a0, .int x1]) (n := 3) (Nat.le_of_ble_eq_true rfl)
  rw [lg_entry_eq]
  generalize (lg_sl ([.ref a0, .int x1]) ++ List.replicate (3 - (lg_sl ([.ref a0, .int x1])).length) Slot.unset).toArray = ls at hl ⊢
  have hl : lv_has ls 3 [(0, .ref a0), (1, .int x1)] := hl
  obtain ⟨hx, hb, hml, hown, hts, hK, hz, hlk, hr⟩ := id C
  unfold wp_X11_story at hM
  refine lv_iload_n hx hb dX11_story_0 rfl (lv_at hl 1 rfl) ?_
  refine lv_iconst (v := 1) hx hb dX11_story_1 (by decide) ?_
  refine lv_bipush (v := 99) hx hb dX11_story_2 (by decide) ?_
  refine x_ci hV (x_runS (As := [.int x1, .int 1, .int 99]) (rest := []) C hV ms_X11_in wl_X11_87 (c_X11_in hM) ⟨by decide, by decide⟩ rfl hl.1 (Nat.le_of_ble_eq_true rfl) dX11_story_4 ⟨Nat.zero_le _, Nat.zero_le _⟩) (fun r2 S1 H locs hV hM => ?_)
  have hz3 := hM.1
  have hM := hM.2
  refine lv_if_ne (tgt := 12) hx hb dX11_story_7 (by decide) (fun c4 => ?_) (fun c4 => ?_)
  · have hM := ite_f c4 hM
    refine lv_aload_n hx hb dX11_story_12 rfl (lv_at hl 0 rfl) ?_
    have hk5 := hM.1
    have hM := hM.2
    refine x_getI C hV wf_X11_91 hk5 dX11_story_13 ?_
    refine lv_bipush (v := 8) hx hb dX11_story_16 (by decide) ?_
    refine lv_icmp_ne (tgt := 24) hx hb dX11_story_18 (by decide) (fun c6 => ?_) (fun c6 => ?_)
    · have hM := ite_f c6 hM
      refine lv_aload_n hx hb dX11_story_24 rfl (lv_at hl 0 rfl) ?_
      refine x_cv hV (x_runV (As := []) (rest := []) C hV mi_X11_begin wl_X11_210 hk5 (c_X11_begin hM) ⟨by decide, by decide⟩ rfl hl.1 (Nat.le_of_ble_eq_true rfl) dX11_story_25 ⟨Nat.zero_le _, Nat.zero_le _⟩) (fun S7 H locs hV hM => ?_)
      refine lv_aload_n hx hb dX11_story_28 rfl (lv_at hl 0 rfl) ?_
      have hk9 := hM.1
      have hM := hM.2
      obtain ⟨p10, hp10, hM⟩ := hM
      refine x_getR C hV wf_X11_32 hk9 hp10 dX11_story_29 ?_
      refine lv_iconst (v := 0) hx hb dX11_story_32 (by decide) ?_
      refine lv_iload_n hx hb dX11_story_33 rfl (lv_at hl 1 rfl) ?_
      have hk11 := hM.1
      have hM := hM.2
      have hi12 := hM.1
      have hM := hM.2
      obtain ⟨S13, eS13⟩ : ∃ z : PS, z = S7.setA p10 (0 : Int32).toNatClampNeg x1 := ⟨_, rfl⟩
      have hM := hM S13 eS13
      refine x_iast C hV hk11 hi12 eS13 dX11_story_34 (fun H locs hV => ?_)
      refine lv_aload_n hx hb dX11_story_35 rfl (lv_at hl 0 rfl) ?_
      have hk14 := kp_A eS13 hk9
      obtain ⟨p15, hp15, hM⟩ := hM
      refine x_getR C hV wf_X11_32 hk14 hp15 dX11_story_36 ?_
      refine lv_iconst (v := 1) hx hb dX11_story_39 (by decide) ?_
      refine lv_iconst (v := 0) hx hb dX11_story_40 (by decide) ?_
      have hk16 := hM.1
      have hM := hM.2
      have hi17 := hM.1
      have hM := hM.2
      obtain ⟨S18, eS18⟩ : ∃ z : PS, z = S13.setA p15 (1 : Int32).toNatClampNeg 0 := ⟨_, rfl⟩
      have hM := hM S18 eS18
      refine x_iast C hV hk16 hi17 eS18 dX11_story_41 (fun H locs hV => ?_)
      refine lv_aload_n hx hb dX11_story_42 rfl (lv_at hl 0 rfl) ?_
      refine lv_ldc2 hx hb hown (hts _ wc_X11_213) dX11_story_43 ?_
      have hk19 := kp_A eS18 hk14
      refine x_ci hV (x_runV (As := [.long (5649913681 : Int64)]) (rest := []) C hV mi_X11_isWord wl_X11_180 hk19 (c_X11_isWord hM) ⟨by decide, by decide⟩ rfl hl.1 (Nat.le_of_ble_eq_true rfl) dX11_story_46 ⟨Nat.zero_le _, Nat.zero_le _⟩) (fun r21 S20 H locs hV hM => ?_)
      have hz22 := hM.1
      have hM := hM.2
      refine lv_if_eq (tgt := 59) hx hb dX11_story_49 (by decide) (fun c23 => ?_) (fun c23 => ?_)
      · have hM := ite_t c23 hM
        refine lv_aload_n hx hb dX11_story_59 rfl (lv_at hl 0 rfl) ?_
        refine lv_ldc2 hx hb hown (hts _ wc_X11_215) dX11_story_60 ?_
        have hk24 := hM.1
        have hM := hM.2
        refine x_ci hV (x_runV (As := [.long (6559778 : Int64)]) (rest := []) C hV mi_X11_isWord wl_X11_180 hk24 (c_X11_isWord hM) ⟨by decide, by decide⟩ rfl hl.1 (Nat.le_of_ble_eq_true rfl) dX11_story_63 ⟨Nat.zero_le _, Nat.zero_le _⟩) (fun r26 S25 H locs hV hM => ?_)
        have hz27 := hM.1
        have hM := hM.2
        refine lv_if_eq (tgt := 100) hx hb dX11_story_66 (by decide) (fun c28 => ?_) (fun c28 => ?_)
        · have hM := ite_t c28 hM
          refine lv_aload_n hx hb dX11_story_100 rfl (lv_at hl 0 rfl) ?_
          have hk29 := hM.1
          have hM := hM.2
          refine x_cv hV (x_runV (As := []) (rest := []) C hV mi_X11_wantClauses wl_X11_217 hk29 (c_X11_wantClauses hM) ⟨by decide, by decide⟩ rfl hl.1 (Nat.le_of_ble_eq_true rfl) dX11_story_101 ⟨Nat.zero_le _, Nat.zero_le _⟩) (fun S30 H locs hV hM => ?_)
          exact tq_X11_story_104 C _ _ _ _ _ hM hV (lv_sub hl [0] rfl)
        have hM := ite_f c28 hM
        refine lv_aload_n hx hb dX11_story_69 rfl (lv_at hl 0 rfl) ?_
        have hk54 := hM.1
        have hM := hM.2
        refine x_cv hV (x_runV (As := []) (rest := []) C hV mi_X11_advance wl_X11_177 hk54 (c_X11_advance hM) ⟨by decide, by decide⟩ rfl hl.1 (Nat.le_of_ble_eq_true rfl) dX11_story_70 ⟨Nat.zero_le _, Nat.zero_le _⟩) (fun S55 H locs hV hM => ?_)
        refine lv_aload_n hx hb dX11_story_73 rfl (lv_at hl 0 rfl) ?_
        refine lv_ldc2 hx hb hown (hts _ wc_X11_201) dX11_story_74 ?_
        have hk57 := hM.1
        have hM := hM.2
        refine x_cv hV (x_runV (As := [.long (79 : Int64)]) (rest := []) C hV mi_X11_wantWord wl_X11_197 hk57 (c_X11_wantWord hM) ⟨by decide, by decide⟩ rfl hl.1 (Nat.le_of_ble_eq_true rfl) dX11_story_77 ⟨Nat.zero_le _, Nat.zero_le _⟩) (fun S58 H locs hV hM => ?_)
        refine lv_aload_n hx hb dX11_story_80 rfl (lv_at hl 0 rfl) ?_
        have hk60 := hM.1
        have hM := hM.2
        obtain ⟨p61, hp61, hM⟩ := hM
        refine x_getR C hV wf_X11_32 hk60 hp61 dX11_story_81 ?_
        refine lv_iconst (v := 1) hx hb dX11_story_84 (by decide) ?_
        refine lv_iconst (v := (-1)) hx hb dX11_story_85 (by decide) ?_
        have hk62 := hM.1
        have hM := hM.2
        have hi63 := hM.1
        have hM := hM.2
        obtain ⟨S64, eS64⟩ : ∃ z : PS, z = S58.setA p61 (1 : Int32).toNatClampNeg (-1) := ⟨_, rfl⟩
        have hM := hM S64 eS64
        refine x_iast C hV hk62 hi63 eS64 dX11_story_86 (fun H locs hV => ?_)
        refine lv_aload_n hx hb dX11_story_87 rfl (lv_at hl 0 rfl) ?_
        have hk65 := kp_A eS64 hk60
        obtain ⟨p66, hp66, hM⟩ := hM
        refine x_getR C hV wf_X11_32 hk65 hp66 dX11_story_88 ?_
        refine lv_iconst (v := 2) hx hb dX11_story_91 (by decide) ?_
        refine lv_aload_n hx hb dX11_story_92 rfl (lv_at hl 0 rfl) ?_
        refine x_ci hV (x_runV (As := []) (rest := [.int 2, .ref p66]) C hV mi_X11_wantInt wl_X11_203 hk65 (c_X11_wantInt hM) ⟨by decide, by decide⟩ rfl hl.1 (Nat.le_of_ble_eq_true rfl) dX11_story_93 ⟨Nat.zero_le _, Nat.zero_le _⟩) (fun r68 S67 H locs hV hM => ?_)
        have hk69 := hM.1
        have hM := hM.2
        have hi70 := hM.1
        have hM := hM.2
        obtain ⟨S71, eS71⟩ : ∃ z : PS, z = S67.setA p66 (2 : Int32).toNatClampNeg r68 := ⟨_, rfl⟩
        have hM := hM S71 eS71
        refine x_iast C hV hk69 hi70 eS71 dX11_story_96 (fun H locs hV => ?_)
        refine lv_goto (tgt := 104) hx hb dX11_story_97 (by decide) ?_
        exact tq_X11_story_104 C _ _ _ _ _ hM hV (lv_sub hl [0] rfl)
      have hM := ite_f c23 hM
      refine lv_aload_n hx hb dX11_story_52 rfl (lv_at hl 0 rfl) ?_
      have hk72 := hM.1
      have hM := hM.2
      refine x_cv hV (x_runV (As := []) (rest := []) C hV mi_X11_advance wl_X11_177 hk72 (c_X11_advance hM) ⟨by decide, by decide⟩ rfl hl.1 (Nat.le_of_ble_eq_true rfl) dX11_story_53 ⟨Nat.zero_le _, Nat.zero_le _⟩) (fun S73 H locs hV hM => ?_)
      refine lv_goto (tgt := 104) hx hb dX11_story_56 (by decide) ?_
      exact tq_X11_story_104 C _ _ _ _ _ hM hV (lv_sub hl [0] rfl)
    have hM := ite_t c6 hM
    refine lv_bipush (v := (-2)) hx hb dX11_story_21 (by decide) ?_
    exact x_iret C hV hM dX11_story_23
  have hM := ite_t c4 hM
  refine lv_iconst (v := (-1)) hx hb dX11_story_10 (by decide) ?_
  exact x_iret C hV hM dX11_story_11

def wp_X11_sure (N : Nat) (S : PS) (a0 : Nat) (x1 : Int32) (K : Int32 → PS → Prop) : Prop := wp_X11_isSide N S x1 (fun r2 S1 => if r2 = 0 then (K (-1) S1) else (S1.K a0 = 12 ∧ wp_X11_sumOf N S1 a0 x1 0 999 (fun r7 S6 => S6.K a0 = 12 ∧ if (S6.I 793 a0) = 0 then (K (-3) S6) else (wp_X11_rootOf N S6 a0 x1 (fun r11 S10 => if r11 = 0 then (K (-15) S10) else (wp_X11_size N S10 r7 (fun r14 S13 => S13.K a0 = 12 ∧ (¬ ((S13.I 793 a0) * r11) = 0) ∧ K (r14 / ((S13.I 793 a0) * r11)) S13)))))))
set_option maxHeartbeats 4000000 in
set_option maxRecDepth 100000 in
theorem c_X11_sure {l : Launch} {D : DX} {cA : Nat → ClassId} {z0 N : Nat} {S : PS} {a0 : Nat} {x1 : Int32} {K : Int32 → PS → Prop} (hM : wp_X11_sure N S a0 x1 K) : MetI l yX11_sure cX11_sure 4 (some .int) 3 0 0 D cA z0 [.ref a0, .int x1] S K := by
  refine x_met RX11 (by decide) rfl ?_
  intro p e s m below meth c C hin hV
  have hl := lv_entry ([.ref a0, .int x1]) (n := 4) (Nat.le_of_ble_eq_true rfl)
  rw [lg_entry_eq]
  generalize (lg_sl ([.ref a0, .int x1]) ++ List.replicate (4 - (lg_sl ([.ref a0, .int x1])).length) Slot.unset).toArray = ls at hl ⊢
  have hl : lv_has ls 4 [(0, .ref a0), (1, .int x1)] := hl
  obtain ⟨hx, hb, hml, hown, hts, hK, hz, hlk, hr⟩ := id C
  unfold wp_X11_sure at hM
  refine lv_iload_n hx hb dX11_sure_0 rfl (lv_at hl 1 rfl) ?_
  refine x_ci hV (x_runS (As := [.int x1]) (rest := []) C hV ms_X11_isSide wl_X11_119 (c_X11_isSide hM) ⟨by decide, by decide⟩ rfl hl.1 (Nat.le_of_ble_eq_true rfl) dX11_sure_1 ⟨Nat.zero_le _, Nat.zero_le _⟩) (fun r2 S1 H locs hV hM => ?_)
  have hz3 := hM.1
  have hM := hM.2
  refine lv_if_ne (tgt := 9) hx hb dX11_sure_4 (by decide) (fun c4 => ?_) (fun c4 => ?_)
  · have hM := ite_f c4 hM
    refine lv_aload_n hx hb dX11_sure_9 rfl (lv_at hl 0 rfl) ?_
    refine lv_iload_n hx hb dX11_sure_10 rfl (lv_at hl 1 rfl) ?_
    refine lv_iconst (v := 0) hx hb dX11_sure_11 (by decide) ?_
    refine lv_sipush (v := 999) hx hb dX11_sure_12 (by decide) ?_
    have hk5 := hM.1
    have hM := hM.2
    refine x_ci hV (x_runV (As := [.int x1, .int 0, .int 999]) (rest := []) C hV mi_X11_sumOf wl_X11_279 hk5 (c_X11_sumOf hM) ⟨by decide, by decide⟩ rfl hl.1 (Nat.le_of_ble_eq_true rfl) dX11_sure_15 ⟨Nat.zero_le _, Nat.zero_le _⟩) (fun r7 S6 H locs hV hM => ?_)
    refine lv_istore_n (lv' := [(2, .int r7), (0, .ref a0), (1, .int x1)]) hx hb dX11_sure_18 rfl hl (by decide) rfl (fun ls hl => ?_)
    refine lv_aload_n hx hb dX11_sure_19 rfl (lv_at hl 1 rfl) ?_
    have hk8 := hM.1
    have hM := hM.2
    refine x_getI C hV wf_X11_276 hk8 dX11_sure_20 ?_
    refine lv_if_ne (tgt := 29) hx hb dX11_sure_23 (by decide) (fun c9 => ?_) (fun c9 => ?_)
    · have hM := ite_f c9 hM
      refine lv_aload_n hx hb dX11_sure_29 rfl (lv_at hl 1 rfl) ?_
      refine lv_iload_n hx hb dX11_sure_30 rfl (lv_at hl 2 rfl) ?_
      refine x_ci hV (x_runV (As := [.int x1]) (rest := []) C hV mi_X11_rootOf wl_X11_273 hk8 (c_X11_rootOf hM) ⟨by decide, by decide⟩ rfl hl.1 (Nat.le_of_ble_eq_true rfl) dX11_sure_31 ⟨Nat.zero_le _, Nat.zero_le _⟩) (fun r11 S10 H locs hV hM => ?_)
      refine lv_istore_n (lv' := [(3, .int r11), (2, .int r7), (0, .ref a0), (1, .int x1)]) hx hb dX11_sure_34 rfl hl (by decide) rfl (fun ls hl => ?_)
      refine lv_iload_n hx hb dX11_sure_35 rfl (lv_at hl 0 rfl) ?_
      refine lv_if_ne (tgt := 44) hx hb dX11_sure_36 (by decide) (fun c12 => ?_) (fun c12 => ?_)
      · have hM := ite_f c12 hM
        refine lv_iload_n hx hb dX11_sure_44 rfl (lv_at hl 1 rfl) ?_
        refine x_ci hV (x_runS (As := [.int r7]) (rest := []) C hV ms_X11_size wl_X11_229 (c_X11_size hM) ⟨by decide, by decide⟩ rfl hl.1 (Nat.le_of_ble_eq_true rfl) dX11_sure_45 ⟨Nat.zero_le _, Nat.zero_le _⟩) (fun r14 S13 H locs hV hM => ?_)
        refine lv_aload_n hx hb dX11_sure_48 rfl (lv_at hl 2 rfl) ?_
        have hk15 := hM.1
        have hM := hM.2
        refine x_getI C hV wf_X11_276 hk15 dX11_sure_49 ?_
        refine lv_iload_n hx hb dX11_sure_52 rfl (lv_at hl 0 rfl) ?_
        refine lv_imul hx hb dX11_sure_53 ?_
        have hne16 := hM.1
        have hM := hM.2
        refine lv_idiv hx hb dX11_sure_54 hne16 ?_
        exact x_iret C hV hM dX11_sure_55
      have hM := ite_t c12 hM
      refine lv_bipush (v := (-15)) hx hb dX11_sure_39 (by decide) ?_
      refine lv_goto (tgt := 55) hx hb dX11_sure_41 (by decide) ?_
      exact x_iret C hV hM dX11_sure_55
    have hM := ite_t c9 hM
    refine lv_bipush (v := (-3)) hx hb dX11_sure_26 (by decide) ?_
    exact x_iret C hV hM dX11_sure_28
  have hM := ite_t c4 hM
  refine lv_iconst (v := (-1)) hx hb dX11_sure_7 (by decide) ?_
  exact x_iret C hV hM dX11_sure_8

def wq_X11_taken_30 (N : Nat) (K : Int32 → PS → Prop) (S : PS) (a0 : Nat) (x1 : Int32) (x2 : Int32) : Prop := S.K a0 = 12 ∧ wp_X11_kindOn N S a0 x1 (fun r11 S10 => if 0 ≤ r11 then (if r11 = 9 then (S10.K a0 = 12 ∧ ∃ p24 : Nat, S10.R 810 a0 = some p24 ∧ S10.K p24 = 20 ∧ vp_in x1 (S10.ln p24) ∧ if x2 = (10 + (S10.A p24 x1.toNatClampNeg)) then (∃ p28 : Nat, S10.R 811 a0 = some p28 ∧ S10.K p28 = 20 ∧ vp_in x1 (S10.ln p28) ∧ K (S10.A p28 x1.toNatClampNeg) S10) else (K (-13) S10)) else (if 10 ≤ x2 then (K (-13) S10) else (wp_X11_isUnder N S10 r11 x2 (fun r16 S15 => if r16 = 0 then (K (-13) S15) else (S15.K a0 = 12 ∧ ∃ p20 : Nat, S15.R 810 a0 = some p20 ∧ S15.K p20 = 20 ∧ vp_in x1 (S15.ln p20) ∧ K (S15.A p20 x1.toNatClampNeg) S15))))) else (K (-11) S10))
def wp_X11_taken (N : Nat) (S : PS) (a0 : Nat) (x1 : Int32) (x2 : Int32) (K : Int32 → PS → Prop) : Prop := wp_X11_isShelf N S x1 (fun r2 S1 => if r2 = 0 then (K (-1) S1) else (wp_X11_in N S1 x2 0 6 (fun r6 S5 => if r6 = 0 then (wp_X11_in N S5 x2 10 13 (fun r32 S31 => if r32 = 0 then (K (-1) S31) else (wq_X11_taken_30 N K S31 a0 x1 x2))) else (wq_X11_taken_30 N K S5 a0 x1 x2))))
set_option maxHeartbeats 4000000 in
set_option maxRecDepth 100000 in
theorem tq_X11_taken_30 {p : Program} {l : Launch} {e : Env} {s : State} {m : MethodId} {args : Array Value} {below : List Frame} {meth : Method} {c : Code} {D : DX} {cA : Nat → ClassId} {z0 N : Nat} {K : Int32 → PS → Prop} (C : CX p s m args meth c cX11_taken 4 RX11 (some .int) D cA z0) : ∀ (S : PS) (a0 : Nat) (x1 : Int32) (x2 : Int32) (H : Heap) (locs : List Loc) (ls : Array Slot), wq_X11_taken_30 N K S a0 x1 x2 → XV D cA z0 s S H locs → lv_has ls 4 [(0, .ref a0), (1, .int x1), (2, .int x2)] → W p l e (rmd 3 0 0) s m args below meth c H locs 0 0 (MQ below (va_Qi K (XK D cA z0) (zA z0)) args s 0 0 (zA z0)) (F0 m 30 ls []) := by
  obtain ⟨hx, hb, hml, hown, hts, hK, hz, hlk, hr⟩ := id C
  intro S a0 x1 x2 H locs ls hM hV hl
  unfold wq_X11_taken_30 at hM
  refine lv_aload_n hx hb dX11_taken_30 rfl (lv_at hl 0 rfl) ?_
  refine lv_iload_n hx hb dX11_taken_31 rfl (lv_at hl 1 rfl) ?_
  have hk9 := hM.1
  have hM := hM.2
  refine x_ci hV (x_runV (As := [.int x1]) (rest := []) C hV mi_X11_kindOn wl_X11_397 hk9 (c_X11_kindOn hM) ⟨by decide, by decide⟩ rfl hl.1 (Nat.le_of_ble_eq_true rfl) dX11_taken_32 ⟨Nat.zero_le _, Nat.zero_le _⟩) (fun r11 S10 H locs hV hM => ?_)
  refine lv_istore_n (lv' := [(3, .int r11), (0, .ref a0), (1, .int x1), (2, .int x2)]) hx hb dX11_taken_35 rfl hl (by decide) rfl (fun ls hl => ?_)
  refine lv_iload_n hx hb dX11_taken_36 rfl (lv_at hl 0 rfl) ?_
  refine lv_if_ge (tgt := 43) hx hb dX11_taken_37 (by decide) (fun c12 => ?_) (fun c12 => ?_)
  · have hM := ite_t c12 hM
    refine lv_iload_n hx hb dX11_taken_43 rfl (lv_at hl 0 rfl) ?_
    refine lv_bipush (v := 9) hx hb dX11_taken_44 (by decide) ?_
    refine lv_icmp_ne (tgt := 74) hx hb dX11_taken_46 (by decide) (fun c13 => ?_) (fun c13 => ?_)
    · have hM := ite_f c13 hM
      refine lv_iload_n hx hb dX11_taken_74 rfl (lv_at hl 3 rfl) ?_
      refine lv_bipush (v := 10) hx hb dX11_taken_75 (by decide) ?_
      refine lv_icmp_ge (tgt := 97) hx hb dX11_taken_77 (by decide) (fun c14 => ?_) (fun c14 => ?_)
      · have hM := ite_t c14 hM
        refine lv_bipush (v := (-13)) hx hb dX11_taken_97 (by decide) ?_
        exact x_iret C hV hM dX11_taken_99
      have hM := ite_f c14 hM
      refine lv_iload_n hx hb dX11_taken_80 rfl (lv_at hl 0 rfl) ?_
      refine lv_iload_n hx hb dX11_taken_81 rfl (lv_at hl 3 rfl) ?_
      refine x_ci hV (x_runS (As := [.int r11, .int x2]) (rest := []) C hV ms_X11_isUnder wl_X11_400 (c_X11_isUnder hM) ⟨by decide, by decide⟩ rfl hl.1 (Nat.le_of_ble_eq_true rfl) dX11_taken_82 ⟨Nat.zero_le _, Nat.zero_le _⟩) (fun r16 S15 H locs hV hM => ?_)
      have hz17 := hM.1
      have hM := hM.2
      refine lv_if_eq (tgt := 97) hx hb dX11_taken_85 (by decide) (fun c18 => ?_) (fun c18 => ?_)
      · have hM := ite_t c18 hM
        refine lv_bipush (v := (-13)) hx hb dX11_taken_97 (by decide) ?_
        exact x_iret C hV hM dX11_taken_99
      have hM := ite_f c18 hM
      refine lv_aload_n hx hb dX11_taken_88 rfl (lv_at hl 1 rfl) ?_
      have hk19 := hM.1
      have hM := hM.2
      obtain ⟨p20, hp20, hM⟩ := hM
      refine x_getR C hV wf_X11_69 hk19 hp20 dX11_taken_89 ?_
      refine lv_iload_n hx hb dX11_taken_92 rfl (lv_at hl 2 rfl) ?_
      have hk21 := hM.1
      have hM := hM.2
      have hi22 := hM.1
      have hM := hM.2
      refine x_iald C hV hk21 hi22 dX11_taken_93 ?_
      refine lv_goto (tgt := 99) hx hb dX11_taken_94 (by decide) ?_
      exact x_iret C hV hM dX11_taken_99
    have hM := ite_t c13 hM
    refine lv_iload_n hx hb dX11_taken_49 rfl (lv_at hl 3 rfl) ?_
    refine lv_bipush (v := 10) hx hb dX11_taken_50 (by decide) ?_
    refine lv_aload_n hx hb dX11_taken_52 rfl (lv_at hl 1 rfl) ?_
    have hk23 := hM.1
    have hM := hM.2
    obtain ⟨p24, hp24, hM⟩ := hM
    refine x_getR C hV wf_X11_69 hk23 hp24 dX11_taken_53 ?_
    refine lv_iload_n hx hb dX11_taken_56 rfl (lv_at hl 2 rfl) ?_
    have hk25 := hM.1
    have hM := hM.2
    have hi26 := hM.1
    have hM := hM.2
    refine x_iald C hV hk25 hi26 dX11_taken_57 ?_
    refine lv_iadd hx hb dX11_taken_58 ?_
    refine lv_icmp_ne (tgt := 71) hx hb dX11_taken_59 (by decide) (fun c27 => ?_) (fun c27 => ?_)
    · have hM := ite_f c27 hM
      refine lv_bipush (v := (-13)) hx hb dX11_taken_71 (by decide) ?_
      exact x_iret C hV hM dX11_taken_73
    have hM := ite_t c27 hM
    refine lv_aload_n hx hb dX11_taken_62 rfl (lv_at hl 1 rfl) ?_
    obtain ⟨p28, hp28, hM⟩ := hM
    refine x_getR C hV wf_X11_72 hk23 hp28 dX11_taken_63 ?_
    refine lv_iload_n hx hb dX11_taken_66 rfl (lv_at hl 2 rfl) ?_
    have hk29 := hM.1
    have hM := hM.2
    have hi30 := hM.1
    have hM := hM.2
    refine x_iald C hV hk29 hi30 dX11_taken_67 ?_
    refine lv_goto (tgt := 73) hx hb dX11_taken_68 (by decide) ?_
    exact x_iret C hV hM dX11_taken_73
  have hM := ite_f c12 hM
  refine lv_bipush (v := (-11)) hx hb dX11_taken_40 (by decide) ?_
  exact x_iret C hV hM dX11_taken_42
set_option maxHeartbeats 4000000 in
set_option maxRecDepth 100000 in
theorem c_X11_taken {l : Launch} {D : DX} {cA : Nat → ClassId} {z0 N : Nat} {S : PS} {a0 : Nat} {x1 : Int32} {x2 : Int32} {K : Int32 → PS → Prop} (hM : wp_X11_taken N S a0 x1 x2 K) : MetI l yX11_taken cX11_taken 4 (some .int) 3 0 0 D cA z0 [.ref a0, .int x1, .int x2] S K := by
  refine x_met RX11 (by decide) rfl ?_
  intro p e s m below meth c C hin hV
  have hl := lv_entry ([.ref a0, .int x1, .int x2]) (n := 4) (Nat.le_of_ble_eq_true rfl)
  rw [lg_entry_eq]
  generalize (lg_sl ([.ref a0, .int x1, .int x2]) ++ List.replicate (4 - (lg_sl ([.ref a0, .int x1, .int x2])).length) Slot.unset).toArray = ls at hl ⊢
  have hl : lv_has ls 4 [(0, .ref a0), (1, .int x1), (2, .int x2)] := hl
  obtain ⟨hx, hb, hml, hown, hts, hK, hz, hlk, hr⟩ := id C
  unfold wp_X11_taken at hM
  refine lv_iload_n hx hb dX11_taken_0 rfl (lv_at hl 1 rfl) ?_
  refine x_ci hV (x_runS (As := [.int x1]) (rest := []) C hV ms_X11_isShelf wl_X11_388 (c_X11_isShelf hM) ⟨by decide, by decide⟩ rfl hl.1 (Nat.le_of_ble_eq_true rfl) dX11_taken_1 ⟨Nat.zero_le _, Nat.zero_le _⟩) (fun r2 S1 H locs hV hM => ?_)
  have hz3 := hM.1
  have hM := hM.2
  refine lv_if_eq (tgt := 28) hx hb dX11_taken_4 (by decide) (fun c4 => ?_) (fun c4 => ?_)
  · have hM := ite_t c4 hM
    refine lv_iconst (v := (-1)) hx hb dX11_taken_28 (by decide) ?_
    exact x_iret C hV hM dX11_taken_29
  have hM := ite_f c4 hM
  refine lv_iload_n hx hb dX11_taken_7 rfl (lv_at hl 2 rfl) ?_
  refine lv_iconst (v := 0) hx hb dX11_taken_8 (by decide) ?_
  refine lv_bipush (v := 6) hx hb dX11_taken_9 (by decide) ?_
  refine x_ci hV (x_runS (As := [.int x2, .int 0, .int 6]) (rest := []) C hV ms_X11_in wl_X11_87 (c_X11_in hM) ⟨by decide, by decide⟩ rfl hl.1 (Nat.le_of_ble_eq_true rfl) dX11_taken_11 ⟨Nat.zero_le _, Nat.zero_le _⟩) (fun r6 S5 H locs hV hM => ?_)
  have hz7 := hM.1
  have hM := hM.2
  refine lv_if_ne (tgt := 30) hx hb dX11_taken_14 (by decide) (fun c8 => ?_) (fun c8 => ?_)
  · have hM := ite_f c8 hM
    exact tq_X11_taken_30 C _ _ _ _ _ _ _ hM hV (lv_sub hl [0, 1, 2] rfl)
  have hM := ite_t c8 hM
  refine lv_iload_n hx hb dX11_taken_17 rfl (lv_at hl 2 rfl) ?_
  refine lv_bipush (v := 10) hx hb dX11_taken_18 (by decide) ?_
  refine lv_bipush (v := 13) hx hb dX11_taken_20 (by decide) ?_
  refine x_ci hV (x_runS (As := [.int x2, .int 10, .int 13]) (rest := []) C hV ms_X11_in wl_X11_87 (c_X11_in hM) ⟨by decide, by decide⟩ rfl hl.1 (Nat.le_of_ble_eq_true rfl) dX11_taken_22 ⟨Nat.zero_le _, Nat.zero_le _⟩) (fun r32 S31 H locs hV hM => ?_)
  have hz33 := hM.1
  have hM := hM.2
  refine lv_if_ne (tgt := 30) hx hb dX11_taken_25 (by decide) (fun c34 => ?_) (fun c34 => ?_)
  · have hM := ite_f c34 hM
    exact tq_X11_taken_30 C _ _ _ _ _ _ _ hM hV (lv_sub hl [0, 1, 2] rfl)
  have hM := ite_t c34 hM
  refine lv_iconst (v := (-1)) hx hb dX11_taken_28 (by decide) ?_
  exact x_iret C hV hM dX11_taken_29

def wp_X11_trace (N : Nat) (S : PS) (a0 : Nat) (x1 : Int32) (K : Int32 → PS → Prop) : Prop := S.K a0 = 12 ∧ wp_X11_in N S x1 0 ((S.I 816 a0) - 1) (fun r3 S2 => if r3 = 0 then (K (-3) S2) else (S2.K a0 = 12 ∧ ∃ p7 : Nat, S2.R 815 a0 = some p7 ∧ S2.K p7 = 20 ∧ vp_in x1 (S2.ln p7) ∧ K (S2.A p7 x1.toNatClampNeg) S2))
set_option maxHeartbeats 4000000 in
set_option maxRecDepth 100000 in
theorem c_X11_trace {l : Launch} {D : DX} {cA : Nat → ClassId} {z0 N : Nat} {S : PS} {a0 : Nat} {x1 : Int32} {K : Int32 → PS → Prop} (hM : wp_X11_trace N S a0 x1 K) : MetI l yX11_trace cX11_trace 2 (some .int) 1 0 0 D cA z0 [.ref a0, .int x1] S K := by
  refine x_met RX11 (by decide) rfl ?_
  intro p e s m below meth c C hin hV
  have hl := lv_entry ([.ref a0, .int x1]) (n := 2) (Nat.le_of_ble_eq_true rfl)
  rw [lg_entry_eq]
  generalize (lg_sl ([.ref a0, .int x1]) ++ List.replicate (2 - (lg_sl ([.ref a0, .int x1])).length) Slot.unset).toArray = ls at hl ⊢
  have hl : lv_has ls 2 [(0, .ref a0), (1, .int x1)] := hl
  obtain ⟨hx, hb, hml, hown, hts, hK, hz, hlk, hr⟩ := id C
  unfold wp_X11_trace at hM
  refine lv_iload_n hx hb dX11_trace_0 rfl (lv_at hl 1 rfl) ?_
  refine lv_iconst (v := 0) hx hb dX11_trace_1 (by decide) ?_
  refine lv_aload_n hx hb dX11_trace_2 rfl (lv_at hl 0 rfl) ?_
  have hk1 := hM.1
  have hM := hM.2
  refine x_getI C hV wf_X11_403 hk1 dX11_trace_3 ?_
  refine lv_iconst (v := 1) hx hb dX11_trace_6 (by decide) ?_
  refine lv_isub hx hb dX11_trace_7 ?_
  refine x_ci hV (x_runS (As := [.int x1, .int 0, .int ((S.I 816 a0) - 1)]) (rest := []) C hV ms_X11_in wl_X11_87 (c_X11_in hM) ⟨by decide, by decide⟩ rfl hl.1 (Nat.le_of_ble_eq_true rfl) dX11_trace_8 ⟨Nat.zero_le _, Nat.zero_le _⟩) (fun r3 S2 H locs hV hM => ?_)
  have hz4 := hM.1
  have hM := hM.2
  refine lv_if_eq (tgt := 23) hx hb dX11_trace_11 (by decide) (fun c5 => ?_) (fun c5 => ?_)
  · have hM := ite_t c5 hM
    refine lv_bipush (v := (-3)) hx hb dX11_trace_23 (by decide) ?_
    exact x_iret C hV hM dX11_trace_25
  have hM := ite_f c5 hM
  refine lv_aload_n hx hb dX11_trace_14 rfl (lv_at hl 0 rfl) ?_
  have hk6 := hM.1
  have hM := hM.2
  obtain ⟨p7, hp7, hM⟩ := hM
  refine x_getR C hV wf_X11_75 hk6 hp7 dX11_trace_15 ?_
  refine lv_iload_n hx hb dX11_trace_18 rfl (lv_at hl 1 rfl) ?_
  have hk8 := hM.1
  have hM := hM.2
  have hi9 := hM.1
  have hM := hM.2
  refine x_iald C hV hk8 hi9 dX11_trace_19 ?_
  refine lv_goto (tgt := 25) hx hb dX11_trace_20 (by decide) ?_
  exact x_iret C hV hM dX11_trace_25

def wq_X11_tryout_54 (N : Nat) (K : Int32 → PS → Prop) (S : PS) (a0 : Nat) (x1 : Int32) (t0 : Int32) : Prop := S.K a0 = 12 ∧ ∃ p12 : Nat, S.R 773 a0 = some p12 ∧ S.K p12 = 20 ∧ vp_in ((9 * x1) + 5) (S.ln p12) ∧ vp_in ((9 * x1) + 5) (S.ln p12) ∧ ∀ S16 : PS, S16 = S.setA p12 ((9 * x1) + 5).toNatClampNeg ((S.A p12 ((9 * x1) + 5).toNatClampNeg) + t0) → ∃ p18 : Nat, S16.R 773 a0 = some p18 ∧ S16.K p18 = 20 ∧ vp_in ((9 * x1) + 6) (S16.ln p18) ∧ ∀ S21 : PS, S21 = S16.setA p18 ((9 * x1) + 6).toNatClampNeg 1 → wp_X11_its N S21 a0 x1 4 (fun r24 S23 => S23.K a0 = 12 ∧ ∀ S26 : PS, S26 = S23.setI 771 a0 ((S21.I 771 a0) + r24) → K t0 S26)
def wq_X11_tryout_40 (N : Nat) (K : Int32 → PS → Prop) (S : PS) (a0 : Nat) (x1 : Int32) (t0 : Int32) : Prop := if t0 = 0 then (S.K a0 = 12 ∧ wp_X11_lacks N S a0 x1 (fun r10 S9 => wq_X11_tryout_54 N K S9 a0 x1 r10)) else (wq_X11_tryout_54 N K S a0 x1 0)
def wq_X11_tryout_39 (N : Nat) (K : Int32 → PS → Prop) (S : PS) (a0 : Nat) (x1 : Int32) : Prop := wq_X11_tryout_40 N K S a0 x1 0
def wq_X11_tryout_35 (N : Nat) (K : Int32 → PS → Prop) (S : PS) (a0 : Nat) (x1 : Int32) : Prop := wq_X11_tryout_40 N K S a0 x1 1
def wp_X11_tryout (N : Nat) (S : PS) (a0 : Nat) (x1 : Int32) (x2 : Int32) (K : Int32 → PS → Prop) : Prop := S.K a0 = 12 ∧ wp_X11_isPart N S a0 x1 (fun r3 S2 => if r3 = 0 then (K (-2147483648) S2) else (if x2 = 0 then (wq_X11_tryout_39 N K S2 a0 x1) else (S2.K a0 = 12 ∧ wp_X11_its N S2 a0 x1 0 (fun r29 S28 => if r29 = 4 then (wq_X11_tryout_35 N K S28 a0 x1) else (S28.K a0 = 12 ∧ wp_X11_its N S28 a0 x1 0 (fun r33 S32 => if r33 = 5 then (wq_X11_tryout_35 N K S32 a0 x1) else (wq_X11_tryout_39 N K S32 a0 x1)))))))
set_option maxHeartbeats 4000000 in
set_option maxRecDepth 100000 in
theorem tq_X11_tryout_54 {p : Program} {l : Launch} {e : Env} {s : State} {m : MethodId} {args : Array Value} {below : List Frame} {meth : Method} {c : Code} {D : DX} {cA : Nat → ClassId} {z0 N : Nat} {K : Int32 → PS → Prop} (C : CX p s m args meth c cX11_tryout 5 RX11 (some .int) D cA z0) : ∀ (S : PS) (a0 : Nat) (x1 : Int32) (t0 : Int32) (H : Heap) (locs : List Loc) (ls : Array Slot), wq_X11_tryout_54 N K S a0 x1 t0 → XV D cA z0 s S H locs → lv_has ls 5 [(0, .ref a0), (1, .int x1)] → W p l e (rmd 3 0 0) s m args below meth c H locs 0 0 (MQ below (va_Qi K (XK D cA z0) (zA z0)) args s 0 0 (zA z0)) (F0 m 54 ls [.int t0]) := by
  obtain ⟨hx, hb, hml, hown, hts, hK, hz, hlk, hr⟩ := id C
  intro S a0 x1 t0 H locs ls hM hV hl
  unfold wq_X11_tryout_54 at hM
  refine lv_istore (lv' := [(4, .int t0), (0, .ref a0), (1, .int x1)]) hx hb dX11_tryout_54 hl (by decide) rfl (fun ls hl => ?_)
  refine lv_aload_n hx hb dX11_tryout_56 rfl (lv_at hl 1 rfl) ?_
  have hk11 := hM.1
  have hM := hM.2
  obtain ⟨p12, hp12, hM⟩ := hM
  refine x_getR C hV wf_X11_13 hk11 hp12 dX11_tryout_57 ?_
  refine lv_bipush (v := 9) hx hb dX11_tryout_60 (by decide) ?_
  refine lv_iload_n hx hb dX11_tryout_62 rfl (lv_at hl 2 rfl) ?_
  refine lv_imul hx hb dX11_tryout_63 ?_
  refine lv_iconst (v := 5) hx hb dX11_tryout_64 (by decide) ?_
  refine lv_iadd hx hb dX11_tryout_65 ?_
  refine lv_dup2_11 hx hb dX11_tryout_66 rfl rfl ?_
  have hk13 := hM.1
  have hM := hM.2
  have hi14 := hM.1
  have hM := hM.2
  refine x_iald C hV hk13 hi14 dX11_tryout_67 ?_
  refine lv_iload hx hb dX11_tryout_68 (lv_at hl 0 rfl) ?_
  refine lv_iadd hx hb dX11_tryout_70 ?_
  have hi15 := hM.1
  have hM := hM.2
  obtain ⟨S16, eS16⟩ : ∃ z : PS, z = S.setA p12 ((9 * x1) + 5).toNatClampNeg ((S.A p12 ((9 * x1) + 5).toNatClampNeg) + t0) := ⟨_, rfl⟩
  have hM := hM S16 eS16
  refine x_iast C hV hk13 hi15 eS16 dX11_tryout_71 (fun H locs hV => ?_)
  refine lv_aload_n hx hb dX11_tryout_72 rfl (lv_at hl 1 rfl) ?_
  have hk17 := kp_A eS16 hk11
  obtain ⟨p18, hp18, hM⟩ := hM
  refine x_getR C hV wf_X11_13 hk17 hp18 dX11_tryout_73 ?_
  refine lv_bipush (v := 9) hx hb dX11_tryout_76 (by decide) ?_
  refine lv_iload_n hx hb dX11_tryout_78 rfl (lv_at hl 2 rfl) ?_
  refine lv_imul hx hb dX11_tryout_79 ?_
  refine lv_bipush (v := 6) hx hb dX11_tryout_80 (by decide) ?_
  refine lv_iadd hx hb dX11_tryout_82 ?_
  refine lv_iconst (v := 1) hx hb dX11_tryout_83 (by decide) ?_
  have hk19 := hM.1
  have hM := hM.2
  have hi20 := hM.1
  have hM := hM.2
  obtain ⟨S21, eS21⟩ : ∃ z : PS, z = S16.setA p18 ((9 * x1) + 6).toNatClampNeg 1 := ⟨_, rfl⟩
  have hM := hM S21 eS21
  refine x_iast C hV hk19 hi20 eS21 dX11_tryout_84 (fun H locs hV => ?_)
  refine lv_aload_n hx hb dX11_tryout_85 rfl (lv_at hl 1 rfl) ?_
  refine lv_dup hx hb dX11_tryout_86 rfl ?_
  have hk22 := kp_A eS21 hk17
  refine x_getI C hV wf_X11_134 hk22 dX11_tryout_87 ?_
  refine lv_aload_n hx hb dX11_tryout_90 rfl (lv_at hl 1 rfl) ?_
  refine lv_iload_n hx hb dX11_tryout_91 rfl (lv_at hl 2 rfl) ?_
  refine lv_iconst (v := 4) hx hb dX11_tryout_92 (by decide) ?_
  refine x_ci hV (x_runV (As := [.int x1, .int 4]) (rest := [.int (S21.I 771 a0), .ref a0]) C hV mi_X11_its wl_X11_94 hk22 (c_X11_its hM) ⟨by decide, by decide⟩ rfl hl.1 (Nat.le_of_ble_eq_true rfl) dX11_tryout_93 ⟨Nat.zero_le _, Nat.zero_le _⟩) (fun r24 S23 H locs hV hM => ?_)
  refine lv_iadd hx hb dX11_tryout_96 ?_
  have hk25 := hM.1
  have hM := hM.2
  obtain ⟨S26, eS26⟩ : ∃ z : PS, z = S23.setI 771 a0 ((S21.I 771 a0) + r24) := ⟨_, rfl⟩
  have hM := hM S26 eS26
  refine x_putI C hV wp_X11_134 hk25 ⟨rfl, rfl⟩ eS26 dX11_tryout_97 (fun H locs hV => ?_)
  refine lv_iload hx hb dX11_tryout_100 (lv_at hl 0 rfl) ?_
  exact x_iret C hV hM dX11_tryout_102
set_option maxHeartbeats 4000000 in
set_option maxRecDepth 100000 in
theorem tq_X11_tryout_40 {p : Program} {l : Launch} {e : Env} {s : State} {m : MethodId} {args : Array Value} {below : List Frame} {meth : Method} {c : Code} {D : DX} {cA : Nat → ClassId} {z0 N : Nat} {K : Int32 → PS → Prop} (C : CX p s m args meth c cX11_tryout 5 RX11 (some .int) D cA z0) : ∀ (S : PS) (a0 : Nat) (x1 : Int32) (t0 : Int32) (H : Heap) (locs : List Loc) (ls : Array Slot), wq_X11_tryout_40 N K S a0 x1 t0 → XV D cA z0 s S H locs → lv_has ls 5 [(0, .ref a0), (1, .int x1)] → W p l e (rmd 3 0 0) s m args below meth c H locs 0 0 (MQ below (va_Qi K (XK D cA z0) (zA z0)) args s 0 0 (zA z0)) (F0 m 40 ls [.int t0]) := by
  obtain ⟨hx, hb, hml, hown, hts, hK, hz, hlk, hr⟩ := id C
  intro S a0 x1 t0 H locs ls hM hV hl
  unfold wq_X11_tryout_40 at hM
  refine lv_istore_n (lv' := [(3, .int t0), (0, .ref a0), (1, .int x1)]) hx hb dX11_tryout_40 rfl hl (by decide) rfl (fun ls hl => ?_)
  refine lv_iload_n hx hb dX11_tryout_41 rfl (lv_at hl 0 rfl) ?_
  refine lv_if_eq (tgt := 49) hx hb dX11_tryout_42 (by decide) (fun c7 => ?_) (fun c7 => ?_)
  · have hM := ite_t c7 hM
    refine lv_aload_n hx hb dX11_tryout_49 rfl (lv_at hl 1 rfl) ?_
    refine lv_iload_n hx hb dX11_tryout_50 rfl (lv_at hl 2 rfl) ?_
    have hk8 := hM.1
    have hM := hM.2
    refine x_ci hV (x_runV (As := [.int x1]) (rest := []) C hV mi_X11_lacks wl_X11_127 hk8 (c_X11_lacks hM) ⟨by decide, by decide⟩ rfl hl.1 (Nat.le_of_ble_eq_true rfl) dX11_tryout_51 ⟨Nat.zero_le _, Nat.zero_le _⟩) (fun r10 S9 H locs hV hM => ?_)
    exact tq_X11_tryout_54 C _ _ _ _ _ _ _ hM hV (lv_sub hl [1, 2] rfl)
  have hM := ite_f c7 hM
  refine lv_iconst (v := 0) hx hb dX11_tryout_45 (by decide) ?_
  refine lv_goto (tgt := 54) hx hb dX11_tryout_46 (by decide) ?_
  exact tq_X11_tryout_54 C _ _ _ _ _ _ _ hM hV (lv_sub hl [1, 2] rfl)
set_option maxHeartbeats 4000000 in
set_option maxRecDepth 100000 in
theorem tq_X11_tryout_39 {p : Program} {l : Launch} {e : Env} {s : State} {m : MethodId} {args : Array Value} {below : List Frame} {meth : Method} {c : Code} {D : DX} {cA : Nat → ClassId} {z0 N : Nat} {K : Int32 → PS → Prop} (C : CX p s m args meth c cX11_tryout 5 RX11 (some .int) D cA z0) : ∀ (S : PS) (a0 : Nat) (x1 : Int32) (H : Heap) (locs : List Loc) (ls : Array Slot), wq_X11_tryout_39 N K S a0 x1 → XV D cA z0 s S H locs → lv_has ls 5 [(0, .ref a0), (1, .int x1)] → W p l e (rmd 3 0 0) s m args below meth c H locs 0 0 (MQ below (va_Qi K (XK D cA z0) (zA z0)) args s 0 0 (zA z0)) (F0 m 39 ls []) := by
  obtain ⟨hx, hb, hml, hown, hts, hK, hz, hlk, hr⟩ := id C
  intro S a0 x1 H locs ls hM hV hl
  unfold wq_X11_tryout_39 at hM
  refine lv_iconst (v := 0) hx hb dX11_tryout_39 (by decide) ?_
  exact tq_X11_tryout_40 C _ _ _ _ _ _ _ hM hV (lv_sub hl [0, 1] rfl)
set_option maxHeartbeats 4000000 in
set_option maxRecDepth 100000 in
theorem tq_X11_tryout_35 {p : Program} {l : Launch} {e : Env} {s : State} {m : MethodId} {args : Array Value} {below : List Frame} {meth : Method} {c : Code} {D : DX} {cA : Nat → ClassId} {z0 N : Nat} {K : Int32 → PS → Prop} (C : CX p s m args meth c cX11_tryout 5 RX11 (some .int) D cA z0) : ∀ (S : PS) (a0 : Nat) (x1 : Int32) (H : Heap) (locs : List Loc) (ls : Array Slot), wq_X11_tryout_35 N K S a0 x1 → XV D cA z0 s S H locs → lv_has ls 5 [(0, .ref a0), (1, .int x1)] → W p l e (rmd 3 0 0) s m args below meth c H locs 0 0 (MQ below (va_Qi K (XK D cA z0) (zA z0)) args s 0 0 (zA z0)) (F0 m 35 ls []) := by
  obtain ⟨hx, hb, hml, hown, hts, hK, hz, hlk, hr⟩ := id C
  intro S a0 x1 H locs ls hM hV hl
  unfold wq_X11_tryout_35 at hM
  refine lv_iconst (v := 1) hx hb dX11_tryout_35 (by decide) ?_
  refine lv_goto (tgt := 40) hx hb dX11_tryout_36 (by decide) ?_
  exact tq_X11_tryout_40 C _ _ _ _ _ _ _ hM hV (lv_sub hl [0, 1] rfl)
set_option maxHeartbeats 4000000 in
set_option maxRecDepth 100000 in
theorem c_X11_tryout {l : Launch} {D : DX} {cA : Nat → ClassId} {z0 N : Nat} {S : PS} {a0 : Nat} {x1 : Int32} {x2 : Int32} {K : Int32 → PS → Prop} (hM : wp_X11_tryout N S a0 x1 x2 K) : MetI l yX11_tryout cX11_tryout 5 (some .int) 3 0 0 D cA z0 [.ref a0, .int x1, .int x2] S K := by
  refine x_met RX11 (by decide) rfl ?_
  intro p e s m below meth c C hin hV
  have hl := lv_entry ([.ref a0, .int x1, .int x2]) (n := 5) (Nat.le_of_ble_eq_true rfl)
  rw [lg_entry_eq]
  generalize (lg_sl ([.ref a0, .int x1, .int x2]) ++ List.replicate (5 - (lg_sl ([.ref a0, .int x1, .int x2])).length) Slot.unset).toArray = ls at hl ⊢
  have hl : lv_has ls 5 [(0, .ref a0), (1, .int x1), (2, .int x2)] := hl
  obtain ⟨hx, hb, hml, hown, hts, hK, hz, hlk, hr⟩ := id C
  unfold wp_X11_tryout at hM
  refine lv_aload_n hx hb dX11_tryout_0 rfl (lv_at hl 0 rfl) ?_
  refine lv_iload_n hx hb dX11_tryout_1 rfl (lv_at hl 1 rfl) ?_
  have hk1 := hM.1
  have hM := hM.2
  refine x_ci hV (x_runV (As := [.int x1]) (rest := []) C hV mi_X11_isPart wl_X11_98 hk1 (c_X11_isPart hM) ⟨by decide, by decide⟩ rfl hl.1 (Nat.le_of_ble_eq_true rfl) dX11_tryout_2 ⟨Nat.zero_le _, Nat.zero_le _⟩) (fun r3 S2 H locs hV hM => ?_)
  have hz4 := hM.1
  have hM := hM.2
  refine lv_if_ne (tgt := 11) hx hb dX11_tryout_5 (by decide) (fun c5 => ?_) (fun c5 => ?_)
  · have hM := ite_f c5 hM
    refine lv_iload_n hx hb dX11_tryout_11 rfl (lv_at hl 2 rfl) ?_
    refine lv_if_eq (tgt := 39) hx hb dX11_tryout_12 (by decide) (fun c6 => ?_) (fun c6 => ?_)
    · have hM := ite_t c6 hM
      exact tq_X11_tryout_39 C _ _ _ _ _ _ hM hV (lv_sub hl [0, 1] rfl)
    have hM := ite_f c6 hM
    refine lv_aload_n hx hb dX11_tryout_15 rfl (lv_at hl 0 rfl) ?_
    refine lv_iload_n hx hb dX11_tryout_16 rfl (lv_at hl 1 rfl) ?_
    refine lv_iconst (v := 0) hx hb dX11_tryout_17 (by decide) ?_
    have hk27 := hM.1
    have hM := hM.2
    refine x_ci hV (x_runV (As := [.int x1, .int 0]) (rest := []) C hV mi_X11_its wl_X11_94 hk27 (c_X11_its hM) ⟨by decide, by decide⟩ rfl hl.1 (Nat.le_of_ble_eq_true rfl) dX11_tryout_18 ⟨Nat.zero_le _, Nat.zero_le _⟩) (fun r29 S28 H locs hV hM => ?_)
    refine lv_iconst (v := 4) hx hb dX11_tryout_21 (by decide) ?_
    refine lv_icmp_eq (tgt := 35) hx hb dX11_tryout_22 (by decide) (fun c30 => ?_) (fun c30 => ?_)
    · have hM := ite_t c30 hM
      exact tq_X11_tryout_35 C _ _ _ _ _ _ hM hV (lv_sub hl [0, 1] rfl)
    have hM := ite_f c30 hM
    refine lv_aload_n hx hb dX11_tryout_25 rfl (lv_at hl 0 rfl) ?_
    refine lv_iload_n hx hb dX11_tryout_26 rfl (lv_at hl 1 rfl) ?_
    refine lv_iconst (v := 0) hx hb dX11_tryout_27 (by decide) ?_
    have hk31 := hM.1
    have hM := hM.2
    refine x_ci hV (x_runV (As := [.int x1, .int 0]) (rest := []) C hV mi_X11_its wl_X11_94 hk31 (c_X11_its hM) ⟨by decide, by decide⟩ rfl hl.1 (Nat.le_of_ble_eq_true rfl) dX11_tryout_28 ⟨Nat.zero_le _, Nat.zero_le _⟩) (fun r33 S32 H locs hV hM => ?_)
    refine lv_iconst (v := 5) hx hb dX11_tryout_31 (by decide) ?_
    refine lv_icmp_ne (tgt := 39) hx hb dX11_tryout_32 (by decide) (fun c34 => ?_) (fun c34 => ?_)
    · have hM := ite_f c34 hM
      exact tq_X11_tryout_39 C _ _ _ _ _ _ hM hV (lv_sub hl [0, 1] rfl)
    have hM := ite_t c34 hM
    exact tq_X11_tryout_35 C _ _ _ _ _ _ hM hV (lv_sub hl [0, 1] rfl)
  have hM := ite_t c5 hM
  refine lv_ldc hx hb hown (hts _ wc_X11_102) dX11_tryout_8 ?_
  exact x_iret C hV hM dX11_tryout_10
