theorem wk_ac_l : Cond.methodLink RJ7 150 arraycopyName ∈ TBL := tb_in 676 (by decide +kernel) (by decide +kernel)
theorem wk_ac_n : Cond.native arraycopyName ∈ TBL := tb_in 678 (by decide +kernel) (by decide +kernel)
theorem wk_ac_s : Cond.static arraycopyName ∈ TBL := tb_in 677 (by decide +kernel) (by decide +kernel)
theorem wk_ac_i : Cond.initialized "java/lang/System" ∈ TBL := tb_in 101 (by decide +kernel) (by decide +kernel)
theorem wk_cl_l : Cond.methodLink RJ7 316 ⟨"[I", "clone", "()Ljava/lang/Object;"⟩ ∈ TBL := tb_in 666 (by decide +kernel) (by decide +kernel)
theorem wk_cl_m : Cond.sameMethod "[I" "java/lang/Object" "clone" "()Ljava/lang/Object;" ∈ TBL := tb_in 667 (by decide +kernel) (by decide +kernel)
theorem wk_cl_n : Cond.native ⟨"java/lang/Object", "clone", "()Ljava/lang/Object;"⟩ ∈ TBL := tb_in 668 (by decide +kernel) (by decide +kernel)
theorem wk_cl_i : Cond.instanceMethod ⟨"java/lang/Object", "clone", "()Ljava/lang/Object;"⟩ ∈ TBL := tb_in 669 (by decide +kernel) (by decide +kernel)
theorem wk_cl_s : Cond.selects "[I" ⟨"[I", "clone", "()Ljava/lang/Object;"⟩ ⟨"java/lang/Object", "clone", "()Ljava/lang/Object;"⟩ ∈ TBL := tb_in 670 (by decide +kernel) (by decide +kernel)
theorem wk_cl_c : Cond.classLink RJ7 317 "[I" ∈ TBL := tb_in 672 (by decide +kernel) (by decide +kernel)
theorem wk_ai : Cond.arrayClass .int ∈ TBL := tb_in 167 (by decide +kernel) (by decide +kernel)
theorem wk_ac : Cond.arrayClass .char ∈ TBL := tb_in 277 (by decide +kernel) (by decide +kernel)
theorem wk_aj : Cond.arrayClass .long ∈ TBL := tb_in 1268 (by decide +kernel) (by decide +kernel)
theorem wn_L_7 : Cond.classLink RL 7 RX10 ∈ TBL := tb_in 102 (by decide +kernel) (by decide +kernel)
theorem wm_L_7 : NC RL 7 11 17 := NC.mk 10 rfl cf_10 (by decide) wn_L_7 (tb_in 103 (by decide +kernel) (by decide +kernel)) (tb_in 83 (by decide +kernel) (by decide +kernel))
theorem wn_X10_7 : Cond.classLink RX10 7 RX9 ∈ TBL := tb_in 110 (by decide +kernel) (by decide +kernel)
theorem wm_X10_7 : NC RX10 7 10 14 := NC.mk 9 rfl cf_9 (by decide) wn_X10_7 (tb_in 111 (by decide +kernel) (by decide +kernel)) (tb_in 84 (by decide +kernel) (by decide +kernel))
theorem wn_X9_36 : Cond.classLink RX9 36 RX1 ∈ TBL := tb_in 116 (by decide +kernel) (by decide +kernel)
theorem wm_X9_36 : NC RX9 36 2 9 := NC.mk 1 rfl cf_1 (by decide) wn_X9_36 (tb_in 122 (by decide +kernel) (by decide +kernel)) (tb_in 85 (by decide +kernel) (by decide +kernel))
theorem wn_X9_52 : Cond.classLink RX9 52 RX6 ∈ TBL := tb_in 118 (by decide +kernel) (by decide +kernel)
theorem wm_X9_52 : NC RX9 52 7 4 := NC.mk 6 rfl cf_6 (by decide) wn_X9_52 (tb_in 168 (by decide +kernel) (by decide +kernel)) (tb_in 86 (by decide +kernel) (by decide +kernel))
theorem wn_X9_58 : Cond.classLink RX9 58 RX2 ∈ TBL := tb_in 120 (by decide +kernel) (by decide +kernel)
theorem wm_X9_58 : NC RX9 58 3 1 := NC.mk 2 rfl cf_2 (by decide) wn_X9_58 (tb_in 189 (by decide +kernel) (by decide +kernel)) (tb_in 87 (by decide +kernel) (by decide +kernel))
theorem wn_X10_31 : Cond.classLink RX10 31 RX8 ∈ TBL := tb_in 255 (by decide +kernel) (by decide +kernel)
theorem wm_X10_31 : NC RX10 31 9 5 := NC.mk 8 rfl cf_8 (by decide) wn_X10_31 (tb_in 256 (by decide +kernel) (by decide +kernel)) (tb_in 88 (by decide +kernel) (by decide +kernel))
theorem wn_X10_38 : Cond.classLink RX10 38 RX7 ∈ TBL := tb_in 278 (by decide +kernel) (by decide +kernel)
theorem wm_X10_38 : NC RX10 38 8 5 := NC.mk 7 rfl cf_7 (by decide) wn_X10_38 (tb_in 279 (by decide +kernel) (by decide +kernel)) (tb_in 89 (by decide +kernel) (by decide +kernel))
theorem wn_X10_47 : Cond.classLink RX10 47 RX3 ∈ TBL := tb_in 300 (by decide +kernel) (by decide +kernel)
theorem wm_X10_47 : NC RX10 47 4 3 := NC.mk 3 rfl cf_3 (by decide) wn_X10_47 (tb_in 301 (by decide +kernel) (by decide +kernel)) (tb_in 90 (by decide +kernel) (by decide +kernel))
theorem wn_X10_73 : Cond.classLink RX10 73 RX4 ∈ TBL := tb_in 316 (by decide +kernel) (by decide +kernel)
theorem wm_X10_73 : NC RX10 73 5 3 := NC.mk 4 rfl cf_4 (by decide) wn_X10_73 (tb_in 348 (by decide +kernel) (by decide +kernel)) (tb_in 92 (by decide +kernel) (by decide +kernel))
theorem wn_X10_79 : Cond.classLink RX10 79 RX5 ∈ TBL := tb_in 318 (by decide +kernel) (by decide +kernel)
theorem wm_X10_79 : NC RX10 79 6 4 := NC.mk 5 rfl cf_5 (by decide) wn_X10_79 (tb_in 366 (by decide +kernel) (by decide +kernel)) (tb_in 93 (by decide +kernel) (by decide +kernel))
theorem wn_X10_85 : Cond.classLink RX10 85 RX0 ∈ TBL := tb_in 320 (by decide +kernel) (by decide +kernel)
theorem wm_X10_85 : NC RX10 85 1 6 := NC.mk 0 rfl cf_0 (by decide) wn_X10_85 (tb_in 321 (by decide +kernel) (by decide +kernel)) (tb_in 91 (by decide +kernel) (by decide +kernel))
theorem wn_X7_45 : Cond.classLink RX7 45 RX6 ∈ TBL := tb_in 662 (by decide +kernel) (by decide +kernel)
theorem wm_X7_45 : NC RX7 45 7 4 := NC.mk 6 rfl cf_6 (by decide) wn_X7_45 (tb_in 168 (by decide +kernel) (by decide +kernel)) (tb_in 86 (by decide +kernel) (by decide +kernel))
theorem wn_X3_23 : Cond.classLink RX3 23 RX2 ∈ TBL := tb_in 908 (by decide +kernel) (by decide +kernel)
theorem wm_X3_23 : NC RX3 23 3 1 := NC.mk 2 rfl cf_2 (by decide) wn_X3_23 (tb_in 189 (by decide +kernel) (by decide +kernel)) (tb_in 87 (by decide +kernel) (by decide +kernel))
theorem wn_L_10 : Cond.classLink RL 10 RX11 ∈ TBL := tb_in 1099 (by decide +kernel) (by decide +kernel)
theorem wm_L_10 : NC RL 10 12 54 := NC.mk 11 rfl cf_11 (by decide) wn_L_10 (tb_in 1100 (by decide +kernel) (by decide +kernel)) (tb_in 94 (by decide +kernel) (by decide +kernel))
def PS.rowA (S : PS) (a : Nat) (f : Nat → Int32) : PS := (S.K, S.ln, S.R, S.Q, S.I, S.J, va_up S.A a f, S.B)
theorem row_new {S : PS} {q n : Nat} {f : Nat → Int32} : (S.newA q 20 n).rowA q f = S.cpA q n f := by
  have : va_up (uz S.A q 0) q f = va_up S.A q f := by
    funext a
    by_cases h : a = q
    · subst h
      rw [va_up_self, va_up_self]
    · rw [va_up_ne _ _ h, va_up_ne _ _ h]
      funext k
      exact if_neg h
  show (va_up S.K q 20, va_up S.ln q n, S.R, uz S.Q q none, S.I, S.J, va_up (uz S.A q 0) q f, uz S.B q 0) = _
  rw [this]
  rfl
section
variable {p : Program} {l : Launch} {e : Env} {R : Room} {s : State} {m : MethodId} {args : Array Value} {below : List Frame} {meth : Method} {c : Code} {H : Heap} {locs : List Loc} {cells slots : Nat} {Q : State → Prop}
variable {cc : ByteArray} {nL pc : Nat} {own : String} {ret : Option FieldType} {D : DX} {cA : Nat → ClassId} {z0 : Nat} {ls : Array Slot} {rest : List Value} {S : PS} {idx : Nat}
theorem x_acopy {a0 a : Nat} {sp dp n : Int32} (C : CX p s m args meth c cc nL own ret D cA z0) (hls : ls.size = nL) (hV : XV D cA z0 s S H locs) (hw : Cond.methodLink own idx arraycopyName ∈ TBL) (hk0 : S.K a0 = 20) (hk : S.K a = 20) (h1 : ¬ sp < 0) (h2 : ¬ dp < 0) (h3 : ¬ n < 0) (h4 : sp.toNatClampNeg + n.toNatClampNeg ≤ S.ln a0) (h5 : dp.toNatClampNeg + n.toNatClampNeg ≤ S.ln a)
    (hfr : 1 ≤ R.frames) (hlo : (rest.map fun v => v.category).sum + (nativeFrameWords "java/lang/System" "arraycopy" 5 + 11) ≤ R.locals) (hd : decode cc pc = .ok (.invokestatic idx, 3))
    (kk : ∀ (H1 : Heap) (locs1 : List Loc), XV D cA z0 s (S.rowA a (va_cpy (S.A a0) (S.A a) sp.toNatClampNeg dp.toNatClampNeg n.toNatClampNeg)) H1 locs1 → W p l e R s m args below meth c H1 locs1 cells slots Q (F0 m (pc + 3) ls rest)) : W p l e R s m args below meth c H locs cells slots Q (F0 m pc ls (.int n :: .int dp :: .ref a :: .int sp :: .ref a0 :: rest)) := by
  obtain ⟨hx, hb, hml, hown, hts, hK, hz, hlk, hr⟩ := C
  obtain ⟨L, k, hL, hP, hD, hLL, hg⟩ := hV.1.at (a := a) (by rw [hk]; omega)
  obtain ⟨k2, hk2⟩ := va_pl_get (X := []) (f := cellE cA S) ((hLL a0).mpr (by rw [hk0]; omega))
  rw [List.nil_append, cell_A hk0 (by omega) (by omega)] at hk2
  have hg' := hg
  rw [cell_A hk (by omega) (by omega)] at hg'
  refine va_copyi hx hb (hml.trans hls.symm) hown (hts _ hw) (hts _ wk_ac_n) (hts _ wk_ac_s) (hts _ wk_ac_i) hK hP hD hV.2 k2 k 0 0 hk2 hg' rfl rfl rfl h1 h2 h3 h4 h5 (fun _ _ => rfl) hfr hlo hd (fun H1 locs1 hP1 hD1 hS1 => kk H1 locs1 ⟨XW.put hL hLL hD hg (S' := S.rowA a (va_cpy (S.A a0) (S.A a) sp.toNatClampNeg dp.toNatClampNeg n.toNatClampNeg)) rfl (cell_arr rfl rfl rfl rfl rfl ?_ ?_ (fun _ _ => rfl) (fun _ _ => rfl)) hP1 hD1, hS1⟩)
  · rw [cell_A (S := S.rowA a (va_cpy (S.A a0) (S.A a) sp.toNatClampNeg dp.toNatClampNeg n.toNatClampNeg)) (a := a) (kd := 20) hk (by omega) (by omega)]
    show _ = Sum.inl (cA 20, S.ln a, Sum.inl (va_up S.A a (va_cpy (S.A a0) (S.A a) sp.toNatClampNeg dp.toNatClampNeg n.toNatClampNeg) a))
    rw [va_up_self]
  · intro b hb
    exact va_up_ne _ _ hb
theorem fits_ints {cX : ClassId} {n : Nat} {f : Nat → Int32} : ∀ (i : Nat) (v : Value), (vp_cell cX (n, .inl f)).slots[i]? = some v → fits .int v = true := by
  intro i v h
  have h' : (arrV cX n (fun j => .int (f j))).slots[i]? = some v := h
  by_cases hi : i < n
  · rw [arrV_read _ _ hi] at h'
    cases h'
    rfl
  · have := (Array.getElem?_eq_some_iff.mp h').1
    rw [arrV_size] at this
    exact absurd this hi
end
def wp_copyOf (S : PS) (a0 : Nat) (x1 : Int32) (K : Nat → PS → Prop) : Prop := S.K a0 = 20 ∧ (¬ x1 < 0) ∧ x1.toNatClampNeg ≤ S.ln a0 ∧ S.ln a0 < 2 ^ 31 ∧ ∀ (q : Nat) (f : Nat → Int32) (S1 : PS), S.K q = 0 → (∀ k, k < x1.toNatClampNeg → f k = S.A a0 k) → S1 = S.cpA q x1.toNatClampNeg f → K q S1
set_option maxHeartbeats 4000000 in
set_option maxRecDepth 100000 in
theorem c_copyOf {l : Launch} {D : DX} {cA : Nat → ClassId} {z0 : Nat} {S : PS} {a0 : Nat} {x1 : Int32} {K : Nat → PS → Prop} (ms : Nat) (hms : x1.toNatClampNeg ≤ ms) (hms2 : ms ≤ 1000) (hM : wp_copyOf S a0 x1 K) : MetR l yJ7_copyOf_59c91 cJ7_copyOf_59c91 3 (some (.array .int)) 2 1 ms D cA z0 [.ref a0, .int x1] S K := by
  refine x_met RJ7 (by decide) rfl ?_
  intro p e s m below meth c C hin hV
  have hl := lv_entry ([.ref a0, .int x1]) (n := 3) (Nat.le_of_ble_eq_true rfl)
  rw [lg_entry_eq]
  generalize (lg_sl ([.ref a0, .int x1]) ++ List.replicate (3 - (lg_sl ([.ref a0, .int x1])).length) Slot.unset).toArray = ls at hl ⊢
  have hl : lv_has ls 3 [(0, .ref a0), (1, .int x1)] := hl
  obtain ⟨hx, hb, hml, hown, hts, hK, hz, hlk, hr⟩ := id C
  obtain ⟨hk, hn0, hle, hsm, hM⟩ := hM
  obtain ⟨k, hk0, ek⟩ := nI_of hn0
  refine lv_iload_n hx hb dJ7_copyOf_59c91_0 rfl (lv_at hl 1 rfl) ?_
  refine lv_aload_n hx hb dJ7_copyOf_59c91_1 rfl (lv_at hl 0 rfl) ?_
  refine x_alen C hV hk (by decide) rfl dJ7_copyOf_59c91_2 ?_
  refine lv_icmp_ne (tgt := 14) hx hb dJ7_copyOf_59c91_3 (by decide) (fun c1 => ?_) (fun c1 => ?_)
  · refine lv_iload_n hx hb dJ7_copyOf_59c91_14 rfl (lv_at hl 1 rfl) ?_
    refine x_newI (N' := x1.toNatClampNeg) C hV wk_ai hn0 rfl (by omega) (Nat.le_refl _) (by show 0 + _ ≤ ms; omega) dJ7_copyOf_59c91_15 (fun q H1 S1 hq eS hV => ?_)
    have hk1 : S1.K a0 = 20 := kp_N eS hq hk (by decide)
    have hk2 : S1.K q = 20 := kq_N eS
    have hne : a0 ≠ q := fun z => by rw [z, hq] at hk; exact absurd hk (by decide)
    refine lv_astore_n (lv' := [(2, .ref q), (0, .ref a0), (1, .int x1)]) hx hb dJ7_copyOf_59c91_17 rfl hl (by decide) rfl (fun ls hl => ?_)
    refine lv_aload_n hx hb dJ7_copyOf_59c91_18 rfl (lv_at hl 1 rfl) ?_
    refine lv_iconst (v := 0) hx hb dJ7_copyOf_59c91_19 (by decide) ?_
    refine lv_aload_n hx hb dJ7_copyOf_59c91_20 rfl (lv_at hl 0 rfl) ?_
    refine lv_iconst (v := 0) hx hb dJ7_copyOf_59c91_21 (by decide) ?_
    refine lv_aload_n hx hb dJ7_copyOf_59c91_22 rfl (lv_at hl 1 rfl) ?_
    refine x_alen C hV hk1 (by decide) rfl dJ7_copyOf_59c91_23 ?_
    refine lv_iload_n hx hb dJ7_copyOf_59c91_24 rfl (lv_at hl 2 rfl) ?_
    refine x_mmin C hl.1 wl_J7_304 (Nat.le_of_ble_eq_true rfl) (Nat.le_of_ble_eq_true rfl) (Nat.le_refl _) (by show 0 + _ ≤ ms; omega) (Nat.le_of_ble_eq_true rfl) dJ7_copyOf_59c91_25 ?_
    have el : S1.ln a0 = S.ln a0 := by rw [eS]; exact va_up_ne _ _ hne
    have el2 : S1.ln q = x1.toNatClampNeg := by rw [eS]; exact va_up_self _ _ _
    have em : (if x1 < nI (S1.ln a0) then x1 else nI (S1.ln a0)) = x1 := by
      by_cases h : x1 < nI (S1.ln a0)
      · rw [if_pos h]
      · rw [if_neg h, el]
        rw [el, ek] at h
        rw [ek, nI_clamp hk0] at hle
        rcases Nat.lt_or_ge k (S.ln a0) with h6 | h6
        · exact absurd (nI_lt h6 hsm) h
        · rw [ek, show S.ln a0 = k by omega]
    rw [em]
    refine x_acopy C hl.1 hV wk_ac_l hk1 hk2 (by decide) (by decide) hn0 (by rw [el]; show 0 + _ ≤ _; omega) (by rw [el2]; show 0 + _ ≤ _; omega) (Nat.le_of_ble_eq_true rfl) (Nat.le_of_ble_eq_true rfl) dJ7_copyOf_59c91_28 (fun H1 locs1 hV => ?_)
    refine lv_aload_n hx hb dJ7_copyOf_59c91_31 rfl (lv_at hl 0 rfl) ?_
    refine W.widen (k := 1) (n := ms) (Nat.le_refl _) (by show 0 + _ ≤ ms; omega) ?_
    refine x_aret C (Or.inr ⟨_, rfl⟩) hV (hM q (va_cpy (S1.A a0) (S1.A q) 0 0 x1.toNatClampNeg) _ hq ?_ ?_) dJ7_copyOf_59c91_32
    · intro j hj
      rw [sb_cpy0 hj, eS]
      exact congrFun (show uz S.A q 0 a0 = S.A a0 from by funext z; exact if_neg hne) j
    · rw [← row_new, ← eS]
      rfl
  · have hlen : x1.toNatClampNeg = S.ln a0 := by rw [c1, nI_clamp hsm]
    refine lv_aload_n hx hb dJ7_copyOf_59c91_6 rfl (lv_at hl 0 rfl) ?_
    obtain ⟨L, k3, hL, hP, hD, hLL, hg⟩ := hV.1.at (a := a0) (by rw [hk]; omega)
    rw [cell_A hk (by omega) (by omega)] at hg
    have hA : ∀ q, s.heap.size ≤ q → zA z0 q := fun q h => Nat.le_trans hz.1 h
    have hnm : s.vm.findClass "[I" = some (cA 20) := (hK.2 0 _ rfl).2
    refine va_clone hx hb (hml.trans hl.1.symm) hown (hts _ wk_cl_l) (hts _ wk_cl_m) (hts _ wk_cl_n) (hts _ wk_cl_i) (hts _ wk_cl_s) hz.2.2.2.2.2.2.2.2.2.2.2.2.2.2.2 hK hP hD hV.2 hA k3 0 hg rfl hnm fits_ints (Nat.le_of_ble_eq_true rfl) (Nat.le_of_ble_eq_true rfl) (Nat.le_refl _) (by show 0 + S.ln a0 ≤ ms; omega) dJ7_copyOf_59c91_7 (fun q H1 hK1 hP1 hD1 hS1 => ?_)
    have hq : q ∉ L := va_pl_fresh2 (X := []) (f := cellE cA S) (by rw [List.nil_append]; exact hD1)
    have hq0 : S.K q = 0 := Decidable.byContradiction fun z => hq ((hLL q).mpr z)
    have hV1 : XV D cA z0 s (S.cpA q (S.ln a0) (S.A a0)) H1 [] := by
      refine ⟨XW.push (k := 20) (by decide) hLL hq rfl ?_ ?_ hP1 hD1, hS1⟩
      · rw [cell_A (S := S.cpA q (S.ln a0) (S.A a0)) (a := q) (kd := 20) (va_up_self S.K q 20) (by decide) (by decide)]
        show _ = Sum.inl (cA 20, va_up S.ln q (S.ln a0) q, Sum.inl (va_up S.A q (S.A a0) q))
        rw [va_up_self, va_up_self]
      · intro b hb
        refine (cell_same (S := S) (S' := S.cpA q (S.ln a0) (S.A a0)) (b := b) (va_up_ne S.K 20 hb) (va_up_ne S.ln _ hb) (fun g => rfl) (fun g => rfl) (fun g => rfl) (va_up_ne S.A _ hb) ?_ ?_).symm
        · funext z; exact if_neg hb
        · funext z; exact if_neg hb
    obtain ⟨L2, k4, hL2, hP2, hD2, hLL2, hg2⟩ := hV1.1.at (a := q) (by show va_up S.K q 20 q ≠ 0; rw [va_up_self]; decide)
    rw [cell_A (S := S.cpA q (S.ln a0) (S.A a0)) (a := q) (kd := 20) (va_up_self S.K q 20) (by decide) (by decide)] at hg2
    refine va_castA hx hb hown (hts _ wk_cl_c) hP2 k4 hg2 hnm dJ7_copyOf_59c91_10 ?_
    refine W.widen (k := 1) (n := ms) (Nat.le_refl _) (by show 0 + S.ln a0 ≤ ms; omega) ?_
    exact x_aret C (Or.inr ⟨_, rfl⟩) hV1 (hM q (S.A a0) _ hq0 (fun _ _ => rfl) (by rw [hlen])) dJ7_copyOf_59c91_13
