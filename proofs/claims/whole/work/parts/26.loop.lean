/-! THE CLAIM OUT OF ONE WALK OF THE LAW'S BODY. Your part is whole_start (and what it stands on); all else here is the same for every law, but numbers. -/
def R_law : String := "LoosePlugLaw"
def lw_P (b : Addr) (xs : List Int32) (args : Array Value) (s : State) : Prop := args = #[.ref b] ∧ s.IntsAt b xs ∧ xs.length ≤ 384 ∧ (Jvm.Cond.and given_1 narrow_1).before args s = true
def lw_Q (_ : Array Value) (s : State) (o : Outcome) (t : State) : Prop := o = .returned (some (.int 1)) ∧ Framed s o t [] 600000 7302250
def lw_Z (below : List Frame) (a : Array Value) (s : State) : State → Prop := fun t => ∃ o, t.status = .running ∧ Ended t below o ∧ lw_Q a s o t
/-- the law's own end, with 1 on the stack, nothing written that was there before, its room as the claim has it -/
theorem lw_ret {p : Program} {l : Launch} {e : Env} {s : State} {m : MethodId} {below : List Frame} {meth : Method} {c : Code} {b : Nat} (hx : p.tables.exec = Jvm.exec) (hb : c.code = code) (hr : meth.sig.returnType = ret) (hlocks : meth.locks = false) {pc : Nat} {H : Heap} {ls : Array Slot} (hdg : decode code pc = .ok (.ireturn, 1)) : W p l e room_1 s m #[Value.ref b] below meth c H [] 600000 7302250 (lw_Z below #[Value.ref b] s) (F0 m pc ls [.int 1]) := by
  intro T hT X
  obtain ⟨fs, hret, hrun, hended, hW, hframe⟩ := X.leave (v := some (.int 1)) (hlocks := hlocks) (fun h => by rw [hr] at h; cases h)
  have hmeth' : T.vm.method? m = some meth := X.method'
  refine ⟨T.setFrames fs, ?_, .returned (some (.int 1)), hrun, hended, rfl, ⟨_, rfl⟩, hW, hframe⟩
  jvm_step X.here [X.here.top, hx, hb, hdg, hmeth', hr, ret, narrow_b1]
  (try refine ⟨rfl, ?_⟩); (try refine ⟨rfl, ?_⟩)
  first | (intro acts; rw [hret _ acts rfl rfl rfl]) | rw [hret _ _ rfl rfl rfl]
  exact Steps.refl _
/-- what holds at the law's entry: the machine, the code, the tables' words (any of lw_tbl by 'hts w (by decide +kernel)'), the script of L ints xs at the cell b, what the Statement gives of the start (any of its parts by flat_of_before) -/
def lw_At (p : Program) (s : State) (m : MethodId) (meth : Method) (c : Code) (b L : Nat) (xs : Nat → Int32) : Prop :=
  p.tables.exec = Jvm.exec ∧ c.code = code ∧ meth.sig.returnType = ret ∧ c.maxLocals = 4 ∧ s.vm.findClass R_law = some m.cls ∧ (∀ w ∈ lw_tbl, w.before #[Value.ref b] s = true) ∧ va_X b L xs s s.heap ∧ b < s.heap.size ∧ meth.locks = false ∧ (Jvm.Cond.and given_1 narrow_1).before #[Value.ref b] s = true
set_option maxHeartbeats 4000000 in
set_option maxRecDepth 100000 in
/-- THE LAW'S LOOP at its head: i ints are read; J holds of the pool -/
theorem law_loop {p : Program} {l : Launch} {e : Env} {s : State} {m : MethodId} {below : List Frame} {meth : Method} {c : Code} {D : DX} {cA : Nat → ClassId} {z0 N b L : Nat} {xs : Nat → Int32} {x mm : Nat} {J : PS → Prop} (C : CX p s m #[.ref b] meth c code 4 RL (some .boolean) D cA z0) (hr0 : meth.sig.returnType = ret) (hz0 : z0 = s.heap.size) (hX : va_X b L xs s s.heap) (hbl : b < s.heap.size) (hL : L ≤ 384) (hJ : ∀ S, J S → ∀ o a1 a2 a3 a4 a5 : Int32, lawCase N x mm J S o a1 a2 a3 a4 a5) :
    ∀ (n i cells slots : Nat) (S : PS) (H : Heap) (locs : List Loc) (ls : Array Slot), i ≤ L → L < i + 6 * n → cells + 4 * n ≤ 600000 → slots + 500 * n ≤ 7302250 → J S → XV D cA z0 s S H locs → lv_has ls 4 [(0, .ref b), (1, .ref x), (2, .ref mm), (3, .int (nI i))] → W p l e room_1 s m #[.ref b] below meth c H locs cells slots (lw_Z below #[Value.ref b] s) (F0 m 18 ls []) := by
  obtain ⟨hx, hb, hml, hown, hts, hK, hz, hlk, hr⟩ := id C
  have hbA : ¬ zA z0 b := fun z => absurd z (by rw [hz0]; exact Nat.not_le.mpr hbl)
  intro n
  induction n with
  | zero => intro i cells slots S H locs ls h1 h2; exact absurd h2 (by omega)
  | succ n ih =>
    intro i cells slots S H locs ls hiL hn hc hs hj hV hl
    refine lv_iload_n hx hb dL_law_18 rfl (lv_at hl 3 rfl) ?_
    refine lv_aload_n hx hb dL_law_19 rfl (lv_at hl 0 rfl) ?_
    refine va_slen hx hb hX hbl hbA hV.2 dL_law_20 ?_
    refine lv_bipush (v := 6) hx hb dL_law_21 (by decide) ?_
    refine lv_isub hx hb dL_law_23 ?_
    have hcmp : (nI L - 6 < nI i) ↔ ¬ (i + 6 ≤ L) := by
      rw [Int32.lt_iff_toInt_lt, show nI L - 6 = nI L - nI 6 from rfl, pk_sub_toInt (by omega) (by omega), nI_toInt (by omega)]
      omega
    refine lv_icmp_gt (tgt := 1651) hx hb dL_law_24 (by decide) (fun c1 => ?_) (fun c1 => ?_)
    · refine lv_iconst (v := 1) hx hb dL_law_1651 (by decide) ?_
      refine va_forget (fun q hq => by have := hV.2.2.2 q hq; rw [← hz0]; exact this) ?_
      refine W.widen (k := 600000) (n := 7302250) (by omega) (by omega) ?_
      exact lw_ret hx hb hr0 hlk dL_law_1652
    have hi : i + 6 ≤ L := Decidable.byContradiction fun z => c1 (hcmp.mpr z)
    refine lv_aload_n hx hb dL_law_27 rfl (lv_at hl 0 rfl) ?_
    refine lv_iload_n hx hb dL_law_28 rfl (lv_at hl 3 rfl) ?_
    refine va_sld hx hb hX hbl hbA hV.2 (vp_in_nI (by omega) (by omega)) dL_law_29 ?_
    rw [nI_clamp (show i < 2 ^ 31 by omega)]
    refine lv_bipush (v := 63) hx hb dL_law_30 (by decide) ?_
    refine lv_iand hx hb dL_law_32 ?_
    refine lv_topi (fun o eo => ?_)
    have hM := hJ S hj o (xs (i + 1)) (xs (i + 2)) (xs (i + 3)) (xs (i + 4)) (xs (i + 5))
    have next : ∀ (S2 : PS) (H2 : Heap) (locs2 : List Loc), J S2 → XV D cA z0 s S2 H2 locs2 → W p l e room_1 s m #[.ref b] below meth c H2 locs2 (cells + 2) (slots + 201) (lw_Z below #[Value.ref b] s) (F0 m 1645 ls []) := by
      intro S2 H2 locs2 hj2 hV2
      refine lv_iinc (v := nI (i + 6)) (lv' := [(3, .int (nI (i + 6))), (0, .ref b), (1, .ref x), (2, .ref mm)]) hx hb dL_law_1645 hl (k := 3) rfl (show nI i + nI 6 = nI (i + 6) from nI_add i 6) (by decide) rfl (fun ls hl => ?_)
      refine lv_goto (tgt := 18) hx hb dL_law_1648 (by decide) ?_
      exact ih (i + 6) _ _ S2 H2 locs2 ls hi (by omega) (by omega) (by omega) hj2 hV2 (lv_sub hl [1, 2, 3, 0] rfl)
    unfold lawCase at hM
    by_cases c_0 : o = 0
    · have hM := ite_t c_0 hM
      refine lv_tableIn (tgt := 224) (off := 191) hx hb dL_law_33 (by rw [c_0]; decide) (by rw [c_0]; decide) (by rw [c_0]; decide) (by decide) ?_
      exact lz_0 C hX hbl hbA hi hL (by omega) (by omega) hV hl hM next
    have hM := ite_f c_0 hM
    by_cases c_1 : o = 1
    · have hM := ite_t c_1 hM
      refine lv_tableIn (tgt := 287) (off := 254) hx hb dL_law_33 (by rw [c_1]; decide) (by rw [c_1]; decide) (by rw [c_1]; decide) (by decide) ?_
      exact lz_1 C hX hbl hbA hi hL (by omega) (by omega) hV hl hM next
    have hM := ite_f c_1 hM
    by_cases c_2 : o = 2
    · have hM := ite_t c_2 hM
      refine lv_tableIn (tgt := 320) (off := 287) hx hb dL_law_33 (by rw [c_2]; decide) (by rw [c_2]; decide) (by rw [c_2]; decide) (by decide) ?_
      exact lz_2 C hX hbl hbA hi hL (by omega) (by omega) hV hl hM next
    have hM := ite_f c_2 hM
    by_cases c_3 : o = 3
    · have hM := ite_t c_3 hM
      refine lv_tableIn (tgt := 363) (off := 330) hx hb dL_law_33 (by rw [c_3]; decide) (by rw [c_3]; decide) (by rw [c_3]; decide) (by decide) ?_
      exact lz_3 C hX hbl hbA hi hL (by omega) (by omega) hV hl hM next
    have hM := ite_f c_3 hM
    by_cases c_4 : o = 4
    · have hM := ite_t c_4 hM
      refine lv_tableIn (tgt := 386) (off := 353) hx hb dL_law_33 (by rw [c_4]; decide) (by rw [c_4]; decide) (by rw [c_4]; decide) (by decide) ?_
      exact lz_4 C hX hbl hbA hi hL (by omega) (by omega) hV hl hM next
    have hM := ite_f c_4 hM
    by_cases c_5 : o = 5
    · have hM := ite_t c_5 hM
      refine lv_tableIn (tgt := 409) (off := 376) hx hb dL_law_33 (by rw [c_5]; decide) (by rw [c_5]; decide) (by rw [c_5]; decide) (by decide) ?_
      exact lz_5 C hX hbl hbA hi hL (by omega) (by omega) hV hl hM next
    have hM := ite_f c_5 hM
    by_cases c_6 : o = 6
    · have hM := ite_t c_6 hM
      refine lv_tableIn (tgt := 432) (off := 399) hx hb dL_law_33 (by rw [c_6]; decide) (by rw [c_6]; decide) (by rw [c_6]; decide) (by decide) ?_
      exact lz_6 C hX hbl hbA hi hL (by omega) (by omega) hV hl hM next
    have hM := ite_f c_6 hM
    by_cases c_7 : o = 7
    · have hM := ite_t c_7 hM
      refine lv_tableIn (tgt := 455) (off := 422) hx hb dL_law_33 (by rw [c_7]; decide) (by rw [c_7]; decide) (by rw [c_7]; decide) (by decide) ?_
      exact lz_7 C hX hbl hbA hi hL (by omega) (by omega) hV hl hM next
    have hM := ite_f c_7 hM
    by_cases c_8 : o = 8
    · have hM := ite_t c_8 hM
      refine lv_tableIn (tgt := 498) (off := 465) hx hb dL_law_33 (by rw [c_8]; decide) (by rw [c_8]; decide) (by rw [c_8]; decide) (by decide) ?_
      exact lz_8 C hX hbl hbA hi hL (by omega) (by omega) hV hl hM next
    have hM := ite_f c_8 hM
    by_cases c_9 : o = 9
    · have hM := ite_t c_9 hM
      refine lv_tableIn (tgt := 531) (off := 498) hx hb dL_law_33 (by rw [c_9]; decide) (by rw [c_9]; decide) (by rw [c_9]; decide) (by decide) ?_
      exact lz_9 C hX hbl hbA hi hL (by omega) (by omega) hV hl hM next
    have hM := ite_f c_9 hM
    by_cases c_10 : o = 10
    · have hM := ite_t c_10 hM
      refine lv_tableIn (tgt := 580) (off := 547) hx hb dL_law_33 (by rw [c_10]; decide) (by rw [c_10]; decide) (by rw [c_10]; decide) (by decide) ?_
      exact lz_10 C hX hbl hbA hi hL (by omega) (by omega) hV hl hM next
    have hM := ite_f c_10 hM
    by_cases c_11 : o = 11
    · have hM := ite_t c_11 hM
      refine lv_tableIn (tgt := 643) (off := 610) hx hb dL_law_33 (by rw [c_11]; decide) (by rw [c_11]; decide) (by rw [c_11]; decide) (by decide) ?_
      exact lz_11 C hX hbl hbA hi hL (by omega) (by omega) hV hl hM next
    have hM := ite_f c_11 hM
    by_cases c_12 : o = 12
    · have hM := ite_t c_12 hM
      refine lv_tableIn (tgt := 666) (off := 633) hx hb dL_law_33 (by rw [c_12]; decide) (by rw [c_12]; decide) (by rw [c_12]; decide) (by decide) ?_
      exact lz_12 C hX hbl hbA hi hL (by omega) (by omega) hV hl hM next
    have hM := ite_f c_12 hM
    by_cases c_13 : o = 13
    · have hM := ite_t c_13 hM
      refine lv_tableIn (tgt := 709) (off := 676) hx hb dL_law_33 (by rw [c_13]; decide) (by rw [c_13]; decide) (by rw [c_13]; decide) (by decide) ?_
      exact lz_13 C hX hbl hbA hi hL (by omega) (by omega) hV hl hM next
    have hM := ite_f c_13 hM
    by_cases c_14 : o = 14
    · have hM := ite_t c_14 hM
      refine lv_tableIn (tgt := 742) (off := 709) hx hb dL_law_33 (by rw [c_14]; decide) (by rw [c_14]; decide) (by rw [c_14]; decide) (by decide) ?_
      exact lz_14 C hX hbl hbA hi hL (by omega) (by omega) hV hl hM next
    have hM := ite_f c_14 hM
    by_cases c_15 : o = 15
    · have hM := ite_t c_15 hM
      refine lv_tableIn (tgt := 765) (off := 732) hx hb dL_law_33 (by rw [c_15]; decide) (by rw [c_15]; decide) (by rw [c_15]; decide) (by decide) ?_
      exact lz_15 C hX hbl hbA hi hL (by omega) (by omega) hV hl hM next
    have hM := ite_f c_15 hM
    by_cases c_16 : o = 16
    · have hM := ite_t c_16 hM
      refine lv_tableIn (tgt := 778) (off := 745) hx hb dL_law_33 (by rw [c_16]; decide) (by rw [c_16]; decide) (by rw [c_16]; decide) (by decide) ?_
      exact lz_16 C hX hbl hbA hi hL (by omega) (by omega) hV hl hM next
    have hM := ite_f c_16 hM
    by_cases c_17 : o = 17
    · have hM := ite_t c_17 hM
      refine lv_tableIn (tgt := 812) (off := 779) hx hb dL_law_33 (by rw [c_17]; decide) (by rw [c_17]; decide) (by rw [c_17]; decide) (by decide) ?_
      exact lz_17 C hX hbl hbA hi hL (by omega) (by omega) hV hl hM next
    have hM := ite_f c_17 hM
    by_cases c_18 : o = 18
    · have hM := ite_t c_18 hM
      refine lv_tableIn (tgt := 855) (off := 822) hx hb dL_law_33 (by rw [c_18]; decide) (by rw [c_18]; decide) (by rw [c_18]; decide) (by decide) ?_
      exact lz_18 C hX hbl hbA hi hL (by omega) (by omega) hV hl hM next
    have hM := ite_f c_18 hM
    by_cases c_19 : o = 19
    · have hM := ite_t c_19 hM
      refine lv_tableIn (tgt := 888) (off := 855) hx hb dL_law_33 (by rw [c_19]; decide) (by rw [c_19]; decide) (by rw [c_19]; decide) (by decide) ?_
      exact lz_19 C hX hbl hbA hi hL (by omega) (by omega) hV hl hM next
    have hM := ite_f c_19 hM
    by_cases c_20 : o = 20
    · have hM := ite_t c_20 hM
      refine lv_tableIn (tgt := 921) (off := 888) hx hb dL_law_33 (by rw [c_20]; decide) (by rw [c_20]; decide) (by rw [c_20]; decide) (by decide) ?_
      exact lz_20 C hX hbl hbA hi hL (by omega) (by omega) hV hl hM next
    have hM := ite_f c_20 hM
    by_cases c_21 : o = 21
    · have hM := ite_t c_21 hM
      refine lv_tableIn (tgt := 954) (off := 921) hx hb dL_law_33 (by rw [c_21]; decide) (by rw [c_21]; decide) (by rw [c_21]; decide) (by decide) ?_
      exact lz_21 C hX hbl hbA hi hL (by omega) (by omega) hV hl hM next
    have hM := ite_f c_21 hM
    by_cases c_22 : o = 22
    · have hM := ite_t c_22 hM
      refine lv_tableIn (tgt := 977) (off := 944) hx hb dL_law_33 (by rw [c_22]; decide) (by rw [c_22]; decide) (by rw [c_22]; decide) (by decide) ?_
      exact lz_22 C hX hbl hbA hi hL (by omega) (by omega) hV hl hM next
    have hM := ite_f c_22 hM
    by_cases c_23 : o = 23
    · have hM := ite_t c_23 hM
      refine lv_tableIn (tgt := 1010) (off := 977) hx hb dL_law_33 (by rw [c_23]; decide) (by rw [c_23]; decide) (by rw [c_23]; decide) (by decide) ?_
      exact lz_23 C hX hbl hbA hi hL (by omega) (by omega) hV hl hM next
    have hM := ite_f c_23 hM
    by_cases c_24 : o = 24
    · have hM := ite_t c_24 hM
      refine lv_tableIn (tgt := 1043) (off := 1010) hx hb dL_law_33 (by rw [c_24]; decide) (by rw [c_24]; decide) (by rw [c_24]; decide) (by decide) ?_
      exact lz_24 C hX hbl hbA hi hL (by omega) (by omega) hV hl hM next
    have hM := ite_f c_24 hM
    by_cases c_25 : o = 25
    · have hM := ite_t c_25 hM
      refine lv_tableIn (tgt := 1077) (off := 1044) hx hb dL_law_33 (by rw [c_25]; decide) (by rw [c_25]; decide) (by rw [c_25]; decide) (by decide) ?_
      exact lz_25 C hX hbl hbA hi hL (by omega) (by omega) hV hl hM next
    have hM := ite_f c_25 hM
    by_cases c_26 : o = 26
    · have hM := ite_t c_26 hM
      refine lv_tableIn (tgt := 1121) (off := 1088) hx hb dL_law_33 (by rw [c_26]; decide) (by rw [c_26]; decide) (by rw [c_26]; decide) (by decide) ?_
      exact lz_26 C hX hbl hbA hi hL (by omega) (by omega) hV hl hM next
    have hM := ite_f c_26 hM
    by_cases c_27 : o = 27
    · have hM := ite_t c_27 hM
      refine lv_tableIn (tgt := 1134) (off := 1101) hx hb dL_law_33 (by rw [c_27]; decide) (by rw [c_27]; decide) (by rw [c_27]; decide) (by decide) ?_
      exact lz_27 C hX hbl hbA hi hL (by omega) (by omega) hV hl hM next
    have hM := ite_f c_27 hM
    by_cases c_28 : o = 28
    · have hM := ite_t c_28 hM
      refine lv_tableIn (tgt := 1157) (off := 1124) hx hb dL_law_33 (by rw [c_28]; decide) (by rw [c_28]; decide) (by rw [c_28]; decide) (by decide) ?_
      exact lz_28 C hX hbl hbA hi hL (by omega) (by omega) hV hl hM next
    have hM := ite_f c_28 hM
    by_cases c_29 : o = 29
    · have hM := ite_t c_29 hM
      refine lv_tableIn (tgt := 1190) (off := 1157) hx hb dL_law_33 (by rw [c_29]; decide) (by rw [c_29]; decide) (by rw [c_29]; decide) (by decide) ?_
      exact lz_29 C hX hbl hbA hi hL (by omega) (by omega) hV hl hM next
    have hM := ite_f c_29 hM
    by_cases c_30 : o = 30
    · have hM := ite_t c_30 hM
      refine lv_tableIn (tgt := 1203) (off := 1170) hx hb dL_law_33 (by rw [c_30]; decide) (by rw [c_30]; decide) (by rw [c_30]; decide) (by decide) ?_
      exact lz_30 C hX hbl hbA hi hL (by omega) (by omega) hV hl hM next
    have hM := ite_f c_30 hM
    by_cases c_31 : o = 31
    · have hM := ite_t c_31 hM
      refine lv_tableIn (tgt := 1226) (off := 1193) hx hb dL_law_33 (by rw [c_31]; decide) (by rw [c_31]; decide) (by rw [c_31]; decide) (by decide) ?_
      exact lz_31 C hX hbl hbA hi hL (by omega) (by omega) hV hl hM next
    have hM := ite_f c_31 hM
    by_cases c_32 : o = 32
    · have hM := ite_t c_32 hM
      refine lv_tableIn (tgt := 1259) (off := 1226) hx hb dL_law_33 (by rw [c_32]; decide) (by rw [c_32]; decide) (by rw [c_32]; decide) (by decide) ?_
      exact lz_32 C hX hbl hbA hi hL (by omega) (by omega) hV hl hM next
    have hM := ite_f c_32 hM
    by_cases c_33 : o = 33
    · have hM := ite_t c_33 hM
      refine lv_tableIn (tgt := 1302) (off := 1269) hx hb dL_law_33 (by rw [c_33]; decide) (by rw [c_33]; decide) (by rw [c_33]; decide) (by decide) ?_
      exact lz_33 C hX hbl hbA hi hL (by omega) (by omega) hV hl hM next
    have hM := ite_f c_33 hM
    by_cases c_34 : o = 34
    · have hM := ite_t c_34 hM
      refine lv_tableIn (tgt := 1325) (off := 1292) hx hb dL_law_33 (by rw [c_34]; decide) (by rw [c_34]; decide) (by rw [c_34]; decide) (by decide) ?_
      exact lz_34 C hX hbl hbA hi hL (by omega) (by omega) hV hl hM next
    have hM := ite_f c_34 hM
    by_cases c_35 : o = 35
    · have hM := ite_t c_35 hM
      refine lv_tableIn (tgt := 1368) (off := 1335) hx hb dL_law_33 (by rw [c_35]; decide) (by rw [c_35]; decide) (by rw [c_35]; decide) (by decide) ?_
      exact lz_35 C hX hbl hbA hi hL (by omega) (by omega) hV hl hM next
    have hM := ite_f c_35 hM
    by_cases c_36 : o = 36
    · have hM := ite_t c_36 hM
      refine lv_tableIn (tgt := 1411) (off := 1378) hx hb dL_law_33 (by rw [c_36]; decide) (by rw [c_36]; decide) (by rw [c_36]; decide) (by decide) ?_
      exact lz_36 C hX hbl hbA hi hL (by omega) (by omega) hV hl hM next
    have hM := ite_f c_36 hM
    by_cases c_37 : o = 37
    · have hM := ite_t c_37 hM
      refine lv_tableIn (tgt := 1454) (off := 1421) hx hb dL_law_33 (by rw [c_37]; decide) (by rw [c_37]; decide) (by rw [c_37]; decide) (by decide) ?_
      exact lz_37 C hX hbl hbA hi hL (by omega) (by omega) hV hl hM next
    have hM := ite_f c_37 hM
    by_cases c_38 : o = 38
    · have hM := ite_t c_38 hM
      refine lv_tableIn (tgt := 1497) (off := 1464) hx hb dL_law_33 (by rw [c_38]; decide) (by rw [c_38]; decide) (by rw [c_38]; decide) (by decide) ?_
      exact lz_38 C hX hbl hbA hi hL (by omega) (by omega) hV hl hM next
    have hM := ite_f c_38 hM
    by_cases c_39 : o = 39
    · have hM := ite_t c_39 hM
      refine lv_tableIn (tgt := 1530) (off := 1497) hx hb dL_law_33 (by rw [c_39]; decide) (by rw [c_39]; decide) (by rw [c_39]; decide) (by decide) ?_
      exact lz_39 C hX hbl hbA hi hL (by omega) (by omega) hV hl hM next
    have hM := ite_f c_39 hM
    by_cases c_40 : o = 40
    · have hM := ite_t c_40 hM
      refine lv_tableIn (tgt := 1573) (off := 1540) hx hb dL_law_33 (by rw [c_40]; decide) (by rw [c_40]; decide) (by rw [c_40]; decide) (by decide) ?_
      exact lz_40 C hX hbl hbA hi hL (by omega) (by omega) hV hl hM next
    have hM := ite_f c_40 hM
    by_cases c_41 : o = 41
    · have hM := ite_t c_41 hM
      refine lv_tableIn (tgt := 1596) (off := 1563) hx hb dL_law_33 (by rw [c_41]; decide) (by rw [c_41]; decide) (by rw [c_41]; decide) (by decide) ?_
      exact lz_41 C hX hbl hbA hi hL (by omega) (by omega) hV hl hM next
    have hM := ite_f c_41 hM
    by_cases c_42 : o = 42
    · have hM := ite_t c_42 hM
      refine lv_tableIn (tgt := 1619) (off := 1586) hx hb dL_law_33 (by rw [c_42]; decide) (by rw [c_42]; decide) (by rw [c_42]; decide) (by decide) ?_
      exact lz_42 C hX hbl hbA hi hL (by omega) (by omega) hV hl hM next
    have hM := ite_f c_42 hM
    by_cases c_43 : o = 43
    · have hM := ite_t c_43 hM
      refine lv_tableIn (tgt := 1632) (off := 1599) hx hb dL_law_33 (by rw [c_43]; decide) (by rw [c_43]; decide) (by rw [c_43]; decide) (by decide) ?_
      exact lz_43 C hX hbl hbA hi hL (by omega) (by omega) hV hl hM next
    have hM := ite_f c_43 hM
    refine lv_tableOut (tgt := 1645) hx hb dL_law_33 (by have q0 := lv_neT c_0 (a := 0) (by decide); have q1 := lv_neT c_1 (a := 1) (by decide); have q2 := lv_neT c_2 (a := 2) (by decide); have q3 := lv_neT c_3 (a := 3) (by decide); have q4 := lv_neT c_4 (a := 4) (by decide); have q5 := lv_neT c_5 (a := 5) (by decide); have q6 := lv_neT c_6 (a := 6) (by decide); have q7 := lv_neT c_7 (a := 7) (by decide); have q8 := lv_neT c_8 (a := 8) (by decide); have q9 := lv_neT c_9 (a := 9) (by decide); have q10 := lv_neT c_10 (a := 10) (by decide); have q11 := lv_neT c_11 (a := 11) (by decide); have q12 := lv_neT c_12 (a := 12) (by decide); have q13 := lv_neT c_13 (a := 13) (by decide); have q14 := lv_neT c_14 (a := 14) (by decide); have q15 := lv_neT c_15 (a := 15) (by decide); have q16 := lv_neT c_16 (a := 16) (by decide); have q17 := lv_neT c_17 (a := 17) (by decide); have q18 := lv_neT c_18 (a := 18) (by decide); have q19 := lv_neT c_19 (a := 19) (by decide); have q20 := lv_neT c_20 (a := 20) (by decide); have q21 := lv_neT c_21 (a := 21) (by decide); have q22 := lv_neT c_22 (a := 22) (by decide); have q23 := lv_neT c_23 (a := 23) (by decide); have q24 := lv_neT c_24 (a := 24) (by decide); have q25 := lv_neT c_25 (a := 25) (by decide); have q26 := lv_neT c_26 (a := 26) (by decide); have q27 := lv_neT c_27 (a := 27) (by decide); have q28 := lv_neT c_28 (a := 28) (by decide); have q29 := lv_neT c_29 (a := 29) (by decide); have q30 := lv_neT c_30 (a := 30) (by decide); have q31 := lv_neT c_31 (a := 31) (by decide); have q32 := lv_neT c_32 (a := 32) (by decide); have q33 := lv_neT c_33 (a := 33) (by decide); have q34 := lv_neT c_34 (a := 34) (by decide); have q35 := lv_neT c_35 (a := 35) (by decide); have q36 := lv_neT c_36 (a := 36) (by decide); have q37 := lv_neT c_37 (a := 37) (by decide); have q38 := lv_neT c_38 (a := 38) (by decide); have q39 := lv_neT c_39 (a := 39) (by decide); have q40 := lv_neT c_40 (a := 40) (by decide); have q41 := lv_neT c_41 (a := 41) (by decide); have q42 := lv_neT c_42 (a := 42) (by decide); have q43 := lv_neT c_43 (a := 43) (by decide); omega) (by decide) ?_
    refine W.widen (k := cells + 2) (n := slots + 201) (by omega) (by omega) ?_
    exact next S H locs hM hV
