theorem act_end {ad : Nat → Nat} {S S5 S6 : PS} {np nr ns nh dy no : Nat} {tr : List Int32} (h : Sh ad S) (hN0 : RN S ad np nr ns nh dy no) (h2 : RK S ad) (h3 : RT S ad) (h4 : RR S ad) (h5 : RS S ad) (h6 : RF S ad) (u1 : UC ad S S5) (u2 : UM ad S5 S6) (c1 : S5.I 65 (ad 15) = nI tr.length) (c2 : tr.length ≤ 30) (c3 : ∀ k, k < tr.length → S5.A (ad 21) k = tr.getD k 0) (d1 : S6.I 816 (ad 80) = nI tr.length) (d3 : ∀ k, k < tr.length → S6.A (ad 101) k = tr.getD k 0) : InvR (ad 1) (ad 80) S6 := by
  have g5 := Un.sh u1 h
  have hU : Un ad (fun g n => (n = 15 ∧ 65 ≤ g ∧ g ≤ 69) ∨ (n = 80 ∧ 812 ≤ g ∧ g ≤ 817)) (fun n => n = 21 ∨ n = 101) False S S6 := Un.tr (Un.mono u1 (fun _ _ e => Or.inl e) (fun _ e => Or.inl e) id) (Un.mono u2 (fun _ _ e => Or.inr e) (fun _ e => Or.inr e) id)
  refine ⟨ad, rfl, rfl, hU.sh h, ⟨np, nr, ns, nh, dy, no, hN0.un hU h ⟨(by intros; first | omega | simp), (by intros; first | omega | simp), (by intros; first | omega | simp), (by first | omega | (simp <;> intros <;> omega))⟩ (by intros; first | omega | simp) (by first | omega | (simp <;> intros <;> omega))⟩, h2.un hU h ⟨(by intros; first | omega | simp), (by intros; first | omega | simp), (by intros; first | omega | simp), (by first | omega | (simp <;> intros <;> omega))⟩ (by first | omega | (simp <;> intros <;> omega)), h3.un hU h (by first | omega | (simp <;> intros <;> omega)), h4.un hU h (by first | omega | (simp <;> intros <;> omega)), h5.un hU h (by first | omega | (simp <;> intros <;> omega)), h6.un hU h (by first | omega | (simp <;> intros <;> omega)), tr.length, c2, (Un.I u2 g5 (by omega)).trans c1, d1, fun k hk => ?_⟩
  rw [Un.A u2 g5 (n := 21) (by omega), c3 k hk, d3 k hk]
theorem w_kindOn {N s : Nat} {ad : Nat → Nat} {S : PS} {K : Int32 → PS → Prop} {np : Nat} (h : Sh ad S) (e : S.I 772 (ad 80) = nI np) (hn : np ≤ 10) (hs : s < 4) : wp_X11_kindOn N S (ad 80) (nI s) K = if S.A (ad 98) s = 0 then (if S.A (ad 99) s < 0 then K (-1) S else if nI np ≤ S.A (ad 99) s then K (-1) S else wp_X11_its N S (ad 80) (S.A (ad 99) s) 0 (fun r18 S17 => K r18 S17)) else if 0 ≤ S.A (ad 98) s then K 9 S else K (-1) S := by
  have v : vp_in (nI s) 4 := vp_in_nI hs (by decide)
  unfold wp_X11_kindOn
  simp only [h.k80, h.r809, h.k98, h.l98, h.r810, h.k99, h.l99, v, nI_clamp (show s < 2 ^ 31 by omega), w_isPart h e hn, true_and, and_true, Option.some.injEq, exists_eq_left', exists_eq_left, forall_eq, forall_eq_apply_imp_iff, true_or, or_true, false_or, or_false, not_true_eq_false, not_false_eq_true, false_and, if_true, if_false, reduceIte]
  by_cases c1 : S.A (ad 98) s = 0
  · rw [if_pos c1, if_pos c1]
    by_cases c2 : S.A (ad 99) s < 0
    · simp only [c2, true_and, and_true, Option.some.injEq, exists_eq_left', exists_eq_left, forall_eq, forall_eq_apply_imp_iff, true_or, or_true, false_or, or_false, not_true_eq_false, not_false_eq_true, false_and, if_true, if_false, reduceIte]
    by_cases c3 : nI np ≤ S.A (ad 99) s
    · simp only [c2, c3, true_and, and_true, Option.some.injEq, exists_eq_left', exists_eq_left, forall_eq, forall_eq_apply_imp_iff, true_or, or_true, false_or, or_false, not_true_eq_false, not_false_eq_true, false_and, if_true, if_false, reduceIte]
    · simp only [c2, c3, i10, h.k80, h.r810, h.k99, h.l99, v, true_and, and_true, Option.some.injEq, exists_eq_left', exists_eq_left, forall_eq, forall_eq_apply_imp_iff, true_or, or_true, false_or, or_false, not_true_eq_false, not_false_eq_true, false_and, if_true, if_false, reduceIte]
  · rw [if_neg c1, if_neg c1]
theorem case_39 {N x mm : Nat} {S : PS} (hI : InvR x mm S) (a1 a2 a3 : Int32) : lc_39 N x mm (InvR x mm) S a1 a2 a3 := by
  obtain ⟨ad, rfl, rfl, h, ⟨np, nr, ns, nh, dy, no, hN⟩, h2, h3, h4, h5, h6, h7⟩ := hI
  have hN0 := hN
  obtain ⟨hb, hc, hm, hP⟩ := hN
  have e772 : S.I 772 (ad 80) = nI np := hm.2.2.1
  have e644 : S.I 644 (ad 2) = nI np := hc.2.2.2.2.1
  refine ⟨h.k1, h.k1, ad 15, h.r720, h.k15, ⟨h.k15, fun S2 e2 S4 e4 => ?_⟩⟩
  have u4 : UC ad S S4 := by rw [e4, e2]; exact Un.tr (Un.setI ⟨rfl, by omega, by omega⟩) (Un.setI ⟨rfl, by omega, by omega⟩)
  have g4 := Un.sh u4 h
  have i65 : S4.I 65 (ad 15) = nI 0 := by rw [e4, e2]; simp only [setI_K, setI_ln, setI_R, setI_Q, setI_I, setI_J, setI_A, setI_B, setJ_K, setJ_ln, setJ_R, setJ_Q, setJ_I, setJ_J, setJ_A, setJ_B, setR_K, setR_ln, setR_R, setR_Q, setR_I, setR_J, setR_A, setR_B, setA_K, setA_ln, setA_R, setA_Q, setA_I, setA_J, setA_A, setA_B, setB_K, setB_ln, setB_R, setB_Q, setB_I, setB_J, setB_A, setB_B, setQ_K, setQ_ln, setQ_R, setQ_Q, setQ_I, setQ_J, setQ_A, setQ_B, u2_ap, Nat.reduceEqDiff, and_self, true_and, and_true, Option.some.injEq, exists_eq_left', exists_eq_left, forall_eq, forall_eq_apply_imp_iff, true_or, or_true, false_or, or_false, not_true_eq_false, not_false_eq_true, false_and, if_true, if_false, reduceIte]; rfl
  have i66 : S4.I 66 (ad 15) = 0 := by rw [e4]; simp only [setI_K, setI_ln, setI_R, setI_Q, setI_I, setI_J, setI_A, setI_B, setJ_K, setJ_ln, setJ_R, setJ_Q, setJ_I, setJ_J, setJ_A, setJ_B, setR_K, setR_ln, setR_R, setR_Q, setR_I, setR_J, setR_A, setR_B, setA_K, setA_ln, setA_R, setA_Q, setA_I, setA_J, setA_A, setA_B, setB_K, setB_ln, setB_R, setB_Q, setB_I, setB_J, setB_A, setB_B, setQ_K, setQ_ln, setQ_R, setQ_Q, setQ_I, setQ_J, setQ_A, setQ_B, u2_ap, and_self, true_and, and_true, Option.some.injEq, exists_eq_left', exists_eq_left, forall_eq, forall_eq_apply_imp_iff, true_or, or_true, false_or, or_false, not_true_eq_false, not_false_eq_true, false_and, if_true, if_false, reduceIte]
  have zero : ∀ S5, UC ad S S5 → S5.I 65 (ad 15) = nI 0 → InvR (ad 1) (ad 80) (S5.setI 816 (ad 80) 0) := by
    intro S5 u5 i5
    refine act_end (tr := []) h hN0 h2 h3 h4 h5 h6 u5 (show UM ad S5 _ from Un.setI ⟨rfl, by omega, by omega⟩) i5 (by simp) (fun k hk => absurd hk (by simp)) ?_ (fun k hk => absurd hk (by simp))
    simp only [setI_K, setI_ln, setI_R, setI_Q, setI_I, setI_J, setI_A, setI_B, setJ_K, setJ_ln, setJ_R, setJ_Q, setJ_I, setJ_J, setJ_A, setJ_B, setR_K, setR_ln, setR_R, setR_Q, setR_I, setR_J, setR_A, setR_B, setA_K, setA_ln, setA_R, setA_Q, setA_I, setA_J, setA_A, setA_B, setB_K, setB_ln, setB_R, setB_Q, setB_I, setB_J, setB_A, setB_B, setQ_K, setQ_ln, setQ_R, setQ_Q, setQ_I, setQ_J, setQ_A, setQ_B, u2_ap, and_self, true_and, and_true, Option.some.injEq, exists_eq_left', exists_eq_left, forall_eq, forall_eq_apply_imp_iff, true_or, or_true, false_or, or_false, not_true_eq_false, not_false_eq_true, false_and, if_true, if_false, reduceIte]
    rfl
  by_cases c1 : a1 < 0
  · simp only [wp_X10_isShelf, wp_X10_within, wp_X11_act, wp_X11_isShelf, wp_X11_in, g4.k1, g4.k2, g4.k3, g4.k4, g4.k5, g4.k6, g4.k7, g4.k8, g4.k9, g4.k10, g4.k11, g4.k12, g4.k13, g4.k14, g4.k15, g4.k16, g4.k17, g4.k18, g4.k19, g4.k20, g4.k21, g4.k22, g4.k23, g4.k24, g4.k25, g4.k26, g4.k27, g4.k28, g4.k29, g4.k30, g4.k31, g4.k32, g4.k33, g4.k40, g4.k41, g4.k42, g4.k43, g4.k44, g4.k45, g4.k50, g4.k51, g4.k52, g4.k53, g4.k54, g4.k55, g4.k80, g4.k81, g4.k82, g4.k83, g4.k84, g4.k85, g4.k86, g4.k87, g4.k88, g4.k89, g4.k90, g4.k91, g4.k92, g4.k93, g4.k94, g4.k95, g4.k96, g4.k97, g4.k98, g4.k99, g4.k100, g4.k101, g4.k102, g4.k103, g4.l4, g4.l8, g4.l9, g4.l10, g4.l11, g4.l12, g4.l13, g4.l14, g4.l16, g4.l17, g4.l18, g4.l19, g4.l20, g4.l21, g4.l26, g4.l27, g4.l28, g4.l29, g4.l40, g4.l41, g4.l42, g4.l43, g4.l44, g4.l45, g4.l50, g4.l51, g4.l52, g4.l53, g4.l54, g4.l55, g4.l81, g4.l82, g4.l83, g4.l84, g4.l85, g4.l86, g4.l87, g4.l88, g4.l89, g4.l90, g4.l91, g4.l92, g4.l93, g4.l94, g4.l95, g4.l96, g4.l97, g4.l98, g4.l99, g4.l100, g4.l101, g4.l102, g4.l103, g4.r704, g4.r705, g4.r707, g4.r709, g4.r710, g4.r711, g4.r712, g4.r713, g4.r714, g4.r715, g4.r716, g4.r718, g4.r719, g4.r720, g4.r648_2, g4.r649_2, g4.r650_2, g4.r651_2, g4.r652_2, g4.r653_2, g4.r648_3, g4.r649_3, g4.r650_3, g4.r651_3, g4.r652_3, g4.r653_3, g4.r576, g4.r577, g4.r578, g4.r512, g4.r513, g4.r256, g4.r257, g4.r64, g4.r322_22, g4.r322_23, g4.r322_24, g4.r322_25, g4.r773, g4.r775, g4.r777, g4.r779, g4.r780, g4.r781, g4.r789, g4.r792, g4.r794, g4.r795, g4.r796, g4.r802, g4.r803, g4.r804, g4.r806, g4.r807, g4.r808, g4.r809, g4.r810, g4.r811, g4.r815, g4.r819, g4.r821, true_and, and_true, Option.some.injEq, exists_eq_left', exists_eq_left, forall_eq, forall_eq_apply_imp_iff, true_or, or_true, false_or, or_false, not_true_eq_false, not_false_eq_true, false_and, if_true, if_false, reduceIte, c1]
    exact zero S4 u4 i65
  by_cases c2 : 3 < a1
  · simp only [wp_X10_isShelf, wp_X10_within, wp_X11_act, wp_X11_isShelf, wp_X11_in, g4.k1, g4.k2, g4.k3, g4.k4, g4.k5, g4.k6, g4.k7, g4.k8, g4.k9, g4.k10, g4.k11, g4.k12, g4.k13, g4.k14, g4.k15, g4.k16, g4.k17, g4.k18, g4.k19, g4.k20, g4.k21, g4.k22, g4.k23, g4.k24, g4.k25, g4.k26, g4.k27, g4.k28, g4.k29, g4.k30, g4.k31, g4.k32, g4.k33, g4.k40, g4.k41, g4.k42, g4.k43, g4.k44, g4.k45, g4.k50, g4.k51, g4.k52, g4.k53, g4.k54, g4.k55, g4.k80, g4.k81, g4.k82, g4.k83, g4.k84, g4.k85, g4.k86, g4.k87, g4.k88, g4.k89, g4.k90, g4.k91, g4.k92, g4.k93, g4.k94, g4.k95, g4.k96, g4.k97, g4.k98, g4.k99, g4.k100, g4.k101, g4.k102, g4.k103, g4.l4, g4.l8, g4.l9, g4.l10, g4.l11, g4.l12, g4.l13, g4.l14, g4.l16, g4.l17, g4.l18, g4.l19, g4.l20, g4.l21, g4.l26, g4.l27, g4.l28, g4.l29, g4.l40, g4.l41, g4.l42, g4.l43, g4.l44, g4.l45, g4.l50, g4.l51, g4.l52, g4.l53, g4.l54, g4.l55, g4.l81, g4.l82, g4.l83, g4.l84, g4.l85, g4.l86, g4.l87, g4.l88, g4.l89, g4.l90, g4.l91, g4.l92, g4.l93, g4.l94, g4.l95, g4.l96, g4.l97, g4.l98, g4.l99, g4.l100, g4.l101, g4.l102, g4.l103, g4.r704, g4.r705, g4.r707, g4.r709, g4.r710, g4.r711, g4.r712, g4.r713, g4.r714, g4.r715, g4.r716, g4.r718, g4.r719, g4.r720, g4.r648_2, g4.r649_2, g4.r650_2, g4.r651_2, g4.r652_2, g4.r653_2, g4.r648_3, g4.r649_3, g4.r650_3, g4.r651_3, g4.r652_3, g4.r653_3, g4.r576, g4.r577, g4.r578, g4.r512, g4.r513, g4.r256, g4.r257, g4.r64, g4.r322_22, g4.r322_23, g4.r322_24, g4.r322_25, g4.r773, g4.r775, g4.r777, g4.r779, g4.r780, g4.r781, g4.r789, g4.r792, g4.r794, g4.r795, g4.r796, g4.r802, g4.r803, g4.r804, g4.r806, g4.r807, g4.r808, g4.r809, g4.r810, g4.r811, g4.r815, g4.r819, g4.r821, true_and, and_true, Option.some.injEq, exists_eq_left', exists_eq_left, forall_eq, forall_eq_apply_imp_iff, true_or, or_true, false_or, or_false, not_true_eq_false, not_false_eq_true, false_and, if_true, if_false, reduceIte, c1, c2]
    exact zero S4 u4 i65
  obtain ⟨s, hs, rfl⟩ := in_lit (n := 3) (by decide) c1 c2
  have hs4 : s < 4 := by omega
  have vs : vp_in (nI s) 4 := vp_in_nI hs4 (by decide)
  -- what the reference does where it refuses
  have ref0 : ∀ S5, UC ad S S5 → S5.I 65 (ad 15) = nI 0 → ((a2 < 0 ∨ 3 < a2) ∨ ¬ S.A (ad 98) s = 0 ∨ S.A (ad 99) s < 0 ∨ nI np ≤ S.A (ad 99) s) → S5.K (ad 80) = 12 ∧ wp_X11_act N S5 (ad 80) (nI s) a2 a3 (fun r6 S7 => 0 = r6 ∧ InvR (ad 1) (ad 80) S7) := by
    intro S5 u5 i5 hz
    have g5 := Un.sh u5 h
    obtain ⟨S6, e6⟩ : ∃ z : PS, z = S5.setI 816 (ad 80) 0 := ⟨_, rfl⟩
    have u6 : UM ad S5 S6 := by rw [e6]; exact Un.setI ⟨rfl, by omega, by omega⟩
    have g6 := Un.sh u6 g5
    have f1 : S6.I 772 (ad 80) = nI np := (Un.I u6 g5 (by omega)).trans ((Un.I u5 h (by omega)).trans e772)
    have f2 : S6.A (ad 98) = S.A (ad 98) := (Un.A u6 g5 (by omega)).trans (Un.A u5 h (by omega))
    have f3 : S6.A (ad 99) = S.A (ad 99) := (Un.A u6 g5 (by omega)).trans (Un.A u5 h (by omega))
    have z0 := zero S5 u5 i5
    rw [← e6] at z0
    refine ⟨g5.k80, ?_⟩
    unfold wp_X11_act
    refine ⟨g5.k80, fun S2 e2 => ?_⟩
    rw [show S2 = S6 by rw [e2, e6]]
    by_cases d1 : a2 < 0
    · simp only [wp_X11_isShelf, wp_X11_in, i10, g6.k1, g6.k2, g6.k3, g6.k4, g6.k5, g6.k6, g6.k7, g6.k8, g6.k9, g6.k10, g6.k11, g6.k12, g6.k13, g6.k14, g6.k15, g6.k16, g6.k17, g6.k18, g6.k19, g6.k20, g6.k21, g6.k22, g6.k23, g6.k24, g6.k25, g6.k26, g6.k27, g6.k28, g6.k29, g6.k30, g6.k31, g6.k32, g6.k33, g6.k40, g6.k41, g6.k42, g6.k43, g6.k44, g6.k45, g6.k50, g6.k51, g6.k52, g6.k53, g6.k54, g6.k55, g6.k80, g6.k81, g6.k82, g6.k83, g6.k84, g6.k85, g6.k86, g6.k87, g6.k88, g6.k89, g6.k90, g6.k91, g6.k92, g6.k93, g6.k94, g6.k95, g6.k96, g6.k97, g6.k98, g6.k99, g6.k100, g6.k101, g6.k102, g6.k103, g6.l4, g6.l8, g6.l9, g6.l10, g6.l11, g6.l12, g6.l13, g6.l14, g6.l16, g6.l17, g6.l18, g6.l19, g6.l20, g6.l21, g6.l26, g6.l27, g6.l28, g6.l29, g6.l40, g6.l41, g6.l42, g6.l43, g6.l44, g6.l45, g6.l50, g6.l51, g6.l52, g6.l53, g6.l54, g6.l55, g6.l81, g6.l82, g6.l83, g6.l84, g6.l85, g6.l86, g6.l87, g6.l88, g6.l89, g6.l90, g6.l91, g6.l92, g6.l93, g6.l94, g6.l95, g6.l96, g6.l97, g6.l98, g6.l99, g6.l100, g6.l101, g6.l102, g6.l103, g6.r704, g6.r705, g6.r707, g6.r709, g6.r710, g6.r711, g6.r712, g6.r713, g6.r714, g6.r715, g6.r716, g6.r718, g6.r719, g6.r720, g6.r648_2, g6.r649_2, g6.r650_2, g6.r651_2, g6.r652_2, g6.r653_2, g6.r648_3, g6.r649_3, g6.r650_3, g6.r651_3, g6.r652_3, g6.r653_3, g6.r576, g6.r577, g6.r578, g6.r512, g6.r513, g6.r256, g6.r257, g6.r64, g6.r322_22, g6.r322_23, g6.r322_24, g6.r322_25, g6.r773, g6.r775, g6.r777, g6.r779, g6.r780, g6.r781, g6.r789, g6.r792, g6.r794, g6.r795, g6.r796, g6.r802, g6.r803, g6.r804, g6.r806, g6.r807, g6.r808, g6.r809, g6.r810, g6.r811, g6.r815, g6.r819, g6.r821, true_and, and_true, Option.some.injEq, exists_eq_left', exists_eq_left, forall_eq, forall_eq_apply_imp_iff, true_or, or_true, false_or, or_false, not_true_eq_false, not_false_eq_true, false_and, if_true, if_false, reduceIte, c1, c2, d1]
      exact z0
    by_cases d2 : 3 < a2
    · simp only [wp_X11_isShelf, wp_X11_in, i10, g6.k1, g6.k2, g6.k3, g6.k4, g6.k5, g6.k6, g6.k7, g6.k8, g6.k9, g6.k10, g6.k11, g6.k12, g6.k13, g6.k14, g6.k15, g6.k16, g6.k17, g6.k18, g6.k19, g6.k20, g6.k21, g6.k22, g6.k23, g6.k24, g6.k25, g6.k26, g6.k27, g6.k28, g6.k29, g6.k30, g6.k31, g6.k32, g6.k33, g6.k40, g6.k41, g6.k42, g6.k43, g6.k44, g6.k45, g6.k50, g6.k51, g6.k52, g6.k53, g6.k54, g6.k55, g6.k80, g6.k81, g6.k82, g6.k83, g6.k84, g6.k85, g6.k86, g6.k87, g6.k88, g6.k89, g6.k90, g6.k91, g6.k92, g6.k93, g6.k94, g6.k95, g6.k96, g6.k97, g6.k98, g6.k99, g6.k100, g6.k101, g6.k102, g6.k103, g6.l4, g6.l8, g6.l9, g6.l10, g6.l11, g6.l12, g6.l13, g6.l14, g6.l16, g6.l17, g6.l18, g6.l19, g6.l20, g6.l21, g6.l26, g6.l27, g6.l28, g6.l29, g6.l40, g6.l41, g6.l42, g6.l43, g6.l44, g6.l45, g6.l50, g6.l51, g6.l52, g6.l53, g6.l54, g6.l55, g6.l81, g6.l82, g6.l83, g6.l84, g6.l85, g6.l86, g6.l87, g6.l88, g6.l89, g6.l90, g6.l91, g6.l92, g6.l93, g6.l94, g6.l95, g6.l96, g6.l97, g6.l98, g6.l99, g6.l100, g6.l101, g6.l102, g6.l103, g6.r704, g6.r705, g6.r707, g6.r709, g6.r710, g6.r711, g6.r712, g6.r713, g6.r714, g6.r715, g6.r716, g6.r718, g6.r719, g6.r720, g6.r648_2, g6.r649_2, g6.r650_2, g6.r651_2, g6.r652_2, g6.r653_2, g6.r648_3, g6.r649_3, g6.r650_3, g6.r651_3, g6.r652_3, g6.r653_3, g6.r576, g6.r577, g6.r578, g6.r512, g6.r513, g6.r256, g6.r257, g6.r64, g6.r322_22, g6.r322_23, g6.r322_24, g6.r322_25, g6.r773, g6.r775, g6.r777, g6.r779, g6.r780, g6.r781, g6.r789, g6.r792, g6.r794, g6.r795, g6.r796, g6.r802, g6.r803, g6.r804, g6.r806, g6.r807, g6.r808, g6.r809, g6.r810, g6.r811, g6.r815, g6.r819, g6.r821, true_and, and_true, Option.some.injEq, exists_eq_left', exists_eq_left, forall_eq, forall_eq_apply_imp_iff, true_or, or_true, false_or, or_false, not_true_eq_false, not_false_eq_true, false_and, if_true, if_false, reduceIte, c1, c2, d1, d2]
      exact z0
    simp only [wp_X11_isShelf, wp_X11_in, i10, g6.k1, g6.k2, g6.k3, g6.k4, g6.k5, g6.k6, g6.k7, g6.k8, g6.k9, g6.k10, g6.k11, g6.k12, g6.k13, g6.k14, g6.k15, g6.k16, g6.k17, g6.k18, g6.k19, g6.k20, g6.k21, g6.k22, g6.k23, g6.k24, g6.k25, g6.k26, g6.k27, g6.k28, g6.k29, g6.k30, g6.k31, g6.k32, g6.k33, g6.k40, g6.k41, g6.k42, g6.k43, g6.k44, g6.k45, g6.k50, g6.k51, g6.k52, g6.k53, g6.k54, g6.k55, g6.k80, g6.k81, g6.k82, g6.k83, g6.k84, g6.k85, g6.k86, g6.k87, g6.k88, g6.k89, g6.k90, g6.k91, g6.k92, g6.k93, g6.k94, g6.k95, g6.k96, g6.k97, g6.k98, g6.k99, g6.k100, g6.k101, g6.k102, g6.k103, g6.l4, g6.l8, g6.l9, g6.l10, g6.l11, g6.l12, g6.l13, g6.l14, g6.l16, g6.l17, g6.l18, g6.l19, g6.l20, g6.l21, g6.l26, g6.l27, g6.l28, g6.l29, g6.l40, g6.l41, g6.l42, g6.l43, g6.l44, g6.l45, g6.l50, g6.l51, g6.l52, g6.l53, g6.l54, g6.l55, g6.l81, g6.l82, g6.l83, g6.l84, g6.l85, g6.l86, g6.l87, g6.l88, g6.l89, g6.l90, g6.l91, g6.l92, g6.l93, g6.l94, g6.l95, g6.l96, g6.l97, g6.l98, g6.l99, g6.l100, g6.l101, g6.l102, g6.l103, g6.r704, g6.r705, g6.r707, g6.r709, g6.r710, g6.r711, g6.r712, g6.r713, g6.r714, g6.r715, g6.r716, g6.r718, g6.r719, g6.r720, g6.r648_2, g6.r649_2, g6.r650_2, g6.r651_2, g6.r652_2, g6.r653_2, g6.r648_3, g6.r649_3, g6.r650_3, g6.r651_3, g6.r652_3, g6.r653_3, g6.r576, g6.r577, g6.r578, g6.r512, g6.r513, g6.r256, g6.r257, g6.r64, g6.r322_22, g6.r322_23, g6.r322_24, g6.r322_25, g6.r773, g6.r775, g6.r777, g6.r779, g6.r780, g6.r781, g6.r789, g6.r792, g6.r794, g6.r795, g6.r796, g6.r802, g6.r803, g6.r804, g6.r806, g6.r807, g6.r808, g6.r809, g6.r810, g6.r811, g6.r815, g6.r819, g6.r821, true_and, and_true, Option.some.injEq, exists_eq_left', exists_eq_left, forall_eq, forall_eq_apply_imp_iff, true_or, or_true, false_or, or_false, not_true_eq_false, not_false_eq_true, false_and, if_true, if_false, reduceIte, c1, c2, d1, d2, w_kindOn g6 f1 hb.1 hs4, f2, f3]
    have hz := hz.resolve_left (fun e => e.elim d1 d2)
    by_cases d3 : S.A (ad 98) s = 0
    · have hz := hz.resolve_left (fun e => e d3)
      rw [if_pos d3]
      by_cases d4 : S.A (ad 99) s < 0
      · rw [if_pos d4, if_pos (by decide)]
        exact z0
      · have hz := hz.resolve_left d4
        rw [if_neg d4, if_pos hz, if_pos (by decide)]
        exact z0
    · rw [if_neg d3]
      by_cases d4 : 0 ≤ S.A (ad 98) s
      · rw [if_pos d4, if_neg (by decide), if_pos (by decide)]
        exact z0
      · rw [if_neg d4, if_pos (by decide)]
        exact z0
  have i384 : S4.I 384 (ad (30 + s)) = S.I 384 (ad (30 + s)) := Un.I u4 h (by omega)
  have i385 : S4.I 385 (ad (30 + s)) = S.I 385 (ad (30 + s)) := Un.I u4 h (by omega)
  have f644 : S4.I 644 (ad 2) = nI np := (Un.I u4 h (by omega)).trans e644
  have ksh : S.K (ad (30 + s)) = 6 := by
    obtain rfl | rfl | rfl | rfl : s = 0 ∨ s = 1 ∨ s = 2 ∨ s = 3 := by omega
    · exact h.k30
    · exact h.k31
    · exact h.k32
    · exact h.k33
  have ksh4 : S4.K (ad (30 + s)) = 6 := by rw [u4.1]; exact ksh
  simp only [wp_X10_isShelf, wp_X10_within, i10, g4.k1, g4.k2, g4.k3, g4.k4, g4.k5, g4.k6, g4.k7, g4.k8, g4.k9, g4.k10, g4.k11, g4.k12, g4.k13, g4.k14, g4.k15, g4.k16, g4.k17, g4.k18, g4.k19, g4.k20, g4.k21, g4.k22, g4.k23, g4.k24, g4.k25, g4.k26, g4.k27, g4.k28, g4.k29, g4.k30, g4.k31, g4.k32, g4.k33, g4.k40, g4.k41, g4.k42, g4.k43, g4.k44, g4.k45, g4.k50, g4.k51, g4.k52, g4.k53, g4.k54, g4.k55, g4.k80, g4.k81, g4.k82, g4.k83, g4.k84, g4.k85, g4.k86, g4.k87, g4.k88, g4.k89, g4.k90, g4.k91, g4.k92, g4.k93, g4.k94, g4.k95, g4.k96, g4.k97, g4.k98, g4.k99, g4.k100, g4.k101, g4.k102, g4.k103, g4.l4, g4.l8, g4.l9, g4.l10, g4.l11, g4.l12, g4.l13, g4.l14, g4.l16, g4.l17, g4.l18, g4.l19, g4.l20, g4.l21, g4.l26, g4.l27, g4.l28, g4.l29, g4.l40, g4.l41, g4.l42, g4.l43, g4.l44, g4.l45, g4.l50, g4.l51, g4.l52, g4.l53, g4.l54, g4.l55, g4.l81, g4.l82, g4.l83, g4.l84, g4.l85, g4.l86, g4.l87, g4.l88, g4.l89, g4.l90, g4.l91, g4.l92, g4.l93, g4.l94, g4.l95, g4.l96, g4.l97, g4.l98, g4.l99, g4.l100, g4.l101, g4.l102, g4.l103, g4.r704, g4.r705, g4.r707, g4.r709, g4.r710, g4.r711, g4.r712, g4.r713, g4.r714, g4.r715, g4.r716, g4.r718, g4.r719, g4.r720, g4.r648_2, g4.r649_2, g4.r650_2, g4.r651_2, g4.r652_2, g4.r653_2, g4.r648_3, g4.r649_3, g4.r650_3, g4.r651_3, g4.r652_3, g4.r653_3, g4.r576, g4.r577, g4.r578, g4.r512, g4.r513, g4.r256, g4.r257, g4.r64, g4.r322_22, g4.r322_23, g4.r322_24, g4.r322_25, g4.r773, g4.r775, g4.r777, g4.r779, g4.r780, g4.r781, g4.r789, g4.r792, g4.r794, g4.r795, g4.r796, g4.r802, g4.r803, g4.r804, g4.r806, g4.r807, g4.r808, g4.r809, g4.r810, g4.r811, g4.r815, g4.r819, g4.r821, true_and, and_true, Option.some.injEq, exists_eq_left', exists_eq_left, forall_eq, forall_eq_apply_imp_iff, true_or, or_true, false_or, or_false, not_true_eq_false, not_false_eq_true, false_and, if_true, if_false, reduceIte, c1, c2, vs, nI_clamp (show s < 2 ^ 31 by omega), g4.q14 hs4, wp_X10_holdsPart, wp_X9_hasPart, ksh4, i384, i385, f644]
  rcases h6 s hs4 with ⟨q1, q2⟩ | ⟨q1, q2, q3⟩ | ⟨q1, q2, -⟩
  · rw [if_neg (by rw [q1]; decide)]
    exact (ref0 S4 u4 i65 (Or.inr (Or.inl (by rw [q2]; decide)))).2
  · rw [if_pos q1, q3]
    by_cases d1 : S.A (ad 99) s < 0
    · simp only [d1, true_and, and_true, Option.some.injEq, exists_eq_left', exists_eq_left, forall_eq, forall_eq_apply_imp_iff, true_or, or_true, false_or, or_false, not_true_eq_false, not_false_eq_true, false_and, if_true, if_false, reduceIte]
      exact (ref0 S4 u4 i65 (Or.inr (Or.inr (Or.inl d1)))).2
    by_cases d2 : nI np ≤ S.A (ad 99) s
    · simp only [d1, d2, true_and, and_true, Option.some.injEq, exists_eq_left', exists_eq_left, forall_eq, forall_eq_apply_imp_iff, true_or, or_true, false_or, or_false, not_true_eq_false, not_false_eq_true, false_and, if_true, if_false, reduceIte]
      exact (ref0 S4 u4 i65 (Or.inr (Or.inr (Or.inr d2)))).2
    obtain ⟨j, hj, ej⟩ := nl_lt d2 d1 (by omega)
    have hj10 : j < 10 := by omega
    have vj : vp_in (nI j) 10 := vp_in_nI hj10 (by decide)
    have hpj : PR S (ad (60 + j)) (fun k => S.A (ad 81) (9 * j + k)) := hP.1 j hj
    have p0 : S4.I 128 (ad (60 + j)) = S.A (ad 81) (9 * j + 0) := (Un.I u4 h (by omega)).trans (hpj.1 0 (by decide))
    have p3 : S4.I 131 (ad (60 + j)) = S.A (ad 81) (9 * j + 3) := (Un.I u4 h (by omega)).trans (hpj.1 3 (by decide))
    have q4 : S4.I 385 (ad (30 + s)) = nI j := i385.trans (q3.trans ej)
    rw [ej] at d1 d2
    simp only [ej, d1, d2, i10, g4.k1, g4.k2, g4.k3, g4.k4, g4.k5, g4.k6, g4.k7, g4.k8, g4.k9, g4.k10, g4.k11, g4.k12, g4.k13, g4.k14, g4.k15, g4.k16, g4.k17, g4.k18, g4.k19, g4.k20, g4.k21, g4.k22, g4.k23, g4.k24, g4.k25, g4.k26, g4.k27, g4.k28, g4.k29, g4.k30, g4.k31, g4.k32, g4.k33, g4.k40, g4.k41, g4.k42, g4.k43, g4.k44, g4.k45, g4.k50, g4.k51, g4.k52, g4.k53, g4.k54, g4.k55, g4.k80, g4.k81, g4.k82, g4.k83, g4.k84, g4.k85, g4.k86, g4.k87, g4.k88, g4.k89, g4.k90, g4.k91, g4.k92, g4.k93, g4.k94, g4.k95, g4.k96, g4.k97, g4.k98, g4.k99, g4.k100, g4.k101, g4.k102, g4.k103, g4.l4, g4.l8, g4.l9, g4.l10, g4.l11, g4.l12, g4.l13, g4.l14, g4.l16, g4.l17, g4.l18, g4.l19, g4.l20, g4.l21, g4.l26, g4.l27, g4.l28, g4.l29, g4.l40, g4.l41, g4.l42, g4.l43, g4.l44, g4.l45, g4.l50, g4.l51, g4.l52, g4.l53, g4.l54, g4.l55, g4.l81, g4.l82, g4.l83, g4.l84, g4.l85, g4.l86, g4.l87, g4.l88, g4.l89, g4.l90, g4.l91, g4.l92, g4.l93, g4.l94, g4.l95, g4.l96, g4.l97, g4.l98, g4.l99, g4.l100, g4.l101, g4.l102, g4.l103, g4.r704, g4.r705, g4.r707, g4.r709, g4.r710, g4.r711, g4.r712, g4.r713, g4.r714, g4.r715, g4.r716, g4.r718, g4.r719, g4.r720, g4.r648_2, g4.r649_2, g4.r650_2, g4.r651_2, g4.r652_2, g4.r653_2, g4.r648_3, g4.r649_3, g4.r650_3, g4.r651_3, g4.r652_3, g4.r653_3, g4.r576, g4.r577, g4.r578, g4.r512, g4.r513, g4.r256, g4.r257, g4.r64, g4.r322_22, g4.r322_23, g4.r322_24, g4.r322_25, g4.r773, g4.r775, g4.r777, g4.r779, g4.r780, g4.r781, g4.r789, g4.r792, g4.r794, g4.r795, g4.r796, g4.r802, g4.r803, g4.r804, g4.r806, g4.r807, g4.r808, g4.r809, g4.r810, g4.r811, g4.r815, g4.r819, g4.r821, true_and, and_true, Option.some.injEq, exists_eq_left', exists_eq_left, forall_eq, forall_eq_apply_imp_iff, true_or, or_true, false_or, or_false, not_true_eq_false, not_false_eq_true, false_and, if_true, if_false, reduceIte, vs, g4.q14 hs4, ksh4, q4, vj, nI_clamp (show j < 2 ^ 31 by omega), nI_clamp (show s < 2 ^ 31 by omega), g4.q40 hj10, g4.kp hj10, wp_X0_play, p0, p3]
    obtain ⟨kd, hkd⟩ : ∃ k : Int32, k = S.A (ad 81) (9 * j + 0) := ⟨_, rfl⟩
    obtain ⟨sp, hsp⟩ : ∃ k : Int32, k = S.A (ad 81) (9 * j + 3) := ⟨_, rfl⟩
    rw [← hkd, ← hsp]
    obtain ⟨S5, e5⟩ : ∃ z : PS, z = ((S4.setI 67 (ad 15) (nI j)).setI 68 (ad 15) kd).setI 69 (ad 15) sp := ⟨_, rfl⟩
    rw [← e5]
    have u5' : UC ad S4 S5 := by rw [e5]; exact Un.tr (Un.tr (Un.setI ⟨rfl, by omega, by omega⟩) (Un.setI ⟨rfl, by omega, by omega⟩)) (Un.setI ⟨rfl, by omega, by omega⟩)
    have u5 : UC ad S S5 := Un.tr u4 u5'
    have g5 := Un.sh u5 h
    have ac : AC S5 ad kd (nI j) sp [] 0 := by
      refine ⟨g5, ?_, ?_, ?_, ?_, ?_, by simp, fun k hk => absurd hk (by simp)⟩
      · rw [e5]; simp only [setI_K, setI_ln, setI_R, setI_Q, setI_I, setI_J, setI_A, setI_B, setJ_K, setJ_ln, setJ_R, setJ_Q, setJ_I, setJ_J, setJ_A, setJ_B, setR_K, setR_ln, setR_R, setR_Q, setR_I, setR_J, setR_A, setR_B, setA_K, setA_ln, setA_R, setA_Q, setA_I, setA_J, setA_A, setA_B, setB_K, setB_ln, setB_R, setB_Q, setB_I, setB_J, setB_A, setB_B, setQ_K, setQ_ln, setQ_R, setQ_Q, setQ_I, setQ_J, setQ_A, setQ_B, u2_ap, Nat.reduceEqDiff, and_self, true_and, and_true, Option.some.injEq, exists_eq_left', exists_eq_left, forall_eq, forall_eq_apply_imp_iff, true_or, or_true, false_or, or_false, not_true_eq_false, not_false_eq_true, false_and, if_true, if_false, reduceIte]
      · rw [e5]; simp only [setI_K, setI_ln, setI_R, setI_Q, setI_I, setI_J, setI_A, setI_B, setJ_K, setJ_ln, setJ_R, setJ_Q, setJ_I, setJ_J, setJ_A, setJ_B, setR_K, setR_ln, setR_R, setR_Q, setR_I, setR_J, setR_A, setR_B, setA_K, setA_ln, setA_R, setA_Q, setA_I, setA_J, setA_A, setA_B, setB_K, setB_ln, setB_R, setB_Q, setB_I, setB_J, setB_A, setB_B, setQ_K, setQ_ln, setQ_R, setQ_Q, setQ_I, setQ_J, setQ_A, setQ_B, u2_ap, Nat.reduceEqDiff, and_self, true_and, and_true, Option.some.injEq, exists_eq_left', exists_eq_left, forall_eq, forall_eq_apply_imp_iff, true_or, or_true, false_or, or_false, not_true_eq_false, not_false_eq_true, false_and, if_true, if_false, reduceIte]
      · rw [e5]; simp only [setI_K, setI_ln, setI_R, setI_Q, setI_I, setI_J, setI_A, setI_B, setJ_K, setJ_ln, setJ_R, setJ_Q, setJ_I, setJ_J, setJ_A, setJ_B, setR_K, setR_ln, setR_R, setR_Q, setR_I, setR_J, setR_A, setR_B, setA_K, setA_ln, setA_R, setA_Q, setA_I, setA_J, setA_A, setA_B, setB_K, setB_ln, setB_R, setB_Q, setB_I, setB_J, setB_A, setB_B, setQ_K, setQ_ln, setQ_R, setQ_Q, setQ_I, setQ_J, setQ_A, setQ_B, u2_ap, Nat.reduceEqDiff, and_self, true_and, and_true, Option.some.injEq, exists_eq_left', exists_eq_left, forall_eq, forall_eq_apply_imp_iff, true_or, or_true, false_or, or_false, not_true_eq_false, not_false_eq_true, false_and, if_true, if_false, reduceIte]
      · rw [e5]; simp only [setI_K, setI_ln, setI_R, setI_Q, setI_I, setI_J, setI_A, setI_B, setJ_K, setJ_ln, setJ_R, setJ_Q, setJ_I, setJ_J, setJ_A, setJ_B, setR_K, setR_ln, setR_R, setR_Q, setR_I, setR_J, setR_A, setR_B, setA_K, setA_ln, setA_R, setA_Q, setA_I, setA_J, setA_A, setA_B, setB_K, setB_ln, setB_R, setB_Q, setB_I, setB_J, setB_A, setB_B, setQ_K, setQ_ln, setQ_R, setQ_Q, setQ_I, setQ_J, setQ_A, setQ_B, u2_ap, Nat.reduceEqDiff, and_self, true_and, and_true, Option.some.injEq, exists_eq_left', exists_eq_left, forall_eq, forall_eq_apply_imp_iff, true_or, or_true, false_or, or_false, not_true_eq_false, not_false_eq_true, false_and, if_true, if_false, reduceIte]; exact i66
      · rw [e5]; simp only [setI_K, setI_ln, setI_R, setI_Q, setI_I, setI_J, setI_A, setI_B, setJ_K, setJ_ln, setJ_R, setJ_Q, setJ_I, setJ_J, setJ_A, setJ_B, setR_K, setR_ln, setR_R, setR_Q, setR_I, setR_J, setR_A, setR_B, setA_K, setA_ln, setA_R, setA_Q, setA_I, setA_J, setA_A, setA_B, setB_K, setB_ln, setB_R, setB_Q, setB_I, setB_J, setB_A, setB_B, setQ_K, setQ_ln, setQ_R, setQ_Q, setQ_I, setQ_J, setQ_A, setQ_B, u2_ap, Nat.reduceEqDiff, and_self, true_and, and_true, Option.some.injEq, exists_eq_left', exists_eq_left, forall_eq, forall_eq_apply_imp_iff, true_or, or_true, false_or, or_false, not_true_eq_false, not_false_eq_true, false_and, if_true, if_false, reduceIte]; exact i65
    -- the reference's way to its act
    have kle : ¬ kd < 0 ∧ ¬ 6 < kd := by
      obtain ⟨v, hv, ev⟩ := hpj.2.1
      have ev' : kd = nI v := hkd.trans ev
      rw [ev']
      exact ⟨nI_pos (by omega), nI_nlt (a := 6) (by omega) (by decide)⟩
    have refA : ∀ (S6 : PS) (tr : List Int32) (z v : Int32), UC ad S S6 → AC S6 ad kd (nI j) sp tr z → (∀ (S7 : PS), MDC S7 ad kd (nI j) sp [] 0 → UM ad S6 S7 → (if a2 = 0 then (wp_X11_takesIt N S7 (ad 80) a3 (fun r51 S50 => wq_X11_act_117 N (fun r6 S8 => v = r6 ∧ InvR (ad 1) (ad 80) S8) S50 (ad 80) r51)) else (if a2 = 1 then (wp_X11_sharesIt N S7 (ad 80) a3 (fun r48 S47 => wq_X11_act_117 N (fun r6 S8 => v = r6 ∧ InvR (ad 1) (ad 80) S8) S47 (ad 80) r48)) else (if a2 = 2 then (wp_X11_boundsIt N S7 (ad 80) a3 (fun r45 S44 => wq_X11_act_117 N (fun r6 S8 => v = r6 ∧ InvR (ad 1) (ad 80) S8) S44 (ad 80) r45)) else (wp_X11_tellsIt N S7 (ad 80) a3 (fun r40 S39 => wq_X11_act_117 N (fun r6 S8 => v = r6 ∧ InvR (ad 1) (ad 80) S8) S39 (ad 80) r40)))))) → ¬ a2 < 0 → ¬ 3 < a2 → S6.K (ad 80) = 12 ∧ wp_X11_act N S6 (ad 80) (nI s) a2 a3 (fun r6 S8 => v = r6 ∧ InvR (ad 1) (ad 80) S8) := by
      intro S6 tr z v u6 ac6 hK n1 n2
      have g6 := Un.sh u6 h
      refine ⟨g6.k80, ?_⟩
      unfold wp_X11_act
      refine ⟨g6.k80, fun S7 e7 => ?_⟩
      have u7 : UM ad S6 S7 := by rw [e7]; exact Un.setI ⟨rfl, by omega, by omega⟩
      have g7 := Un.sh u7 g6
      have f1 : S7.I 772 (ad 80) = nI np := (Un.I u7 g6 (by omega)).trans ((Un.I u6 h (by omega)).trans e772)
      have f2 : S7.A (ad 98) = S.A (ad 98) := (Un.A u7 g6 (by omega)).trans (Un.A u6 h (by omega))
      have f3 : S7.A (ad 99) = S.A (ad 99) := (Un.A u7 g6 (by omega)).trans (Un.A u6 h (by omega))
      have f4 : S7.A (ad 81) = S.A (ad 81) := (Un.A u7 g6 (by omega)).trans (Un.A u6 h (by omega))
      have its0 : ∀ K : Int32 → PS → Prop, wp_X11_its N S7 (ad 80) (nI j) 0 K = K kd S7 := fun K => by
        have := w_its (N := N) (K := K) (j := j) (k := 0) g7 hj10 (by decide)
        rw [f4, ← hkd] at this
        exact this
      simp only [wp_X11_isShelf, wp_X11_in, i10, g7.k1, g7.k2, g7.k3, g7.k4, g7.k5, g7.k6, g7.k7, g7.k8, g7.k9, g7.k10, g7.k11, g7.k12, g7.k13, g7.k14, g7.k15, g7.k16, g7.k17, g7.k18, g7.k19, g7.k20, g7.k21, g7.k22, g7.k23, g7.k24, g7.k25, g7.k26, g7.k27, g7.k28, g7.k29, g7.k30, g7.k31, g7.k32, g7.k33, g7.k40, g7.k41, g7.k42, g7.k43, g7.k44, g7.k45, g7.k50, g7.k51, g7.k52, g7.k53, g7.k54, g7.k55, g7.k80, g7.k81, g7.k82, g7.k83, g7.k84, g7.k85, g7.k86, g7.k87, g7.k88, g7.k89, g7.k90, g7.k91, g7.k92, g7.k93, g7.k94, g7.k95, g7.k96, g7.k97, g7.k98, g7.k99, g7.k100, g7.k101, g7.k102, g7.k103, g7.l4, g7.l8, g7.l9, g7.l10, g7.l11, g7.l12, g7.l13, g7.l14, g7.l16, g7.l17, g7.l18, g7.l19, g7.l20, g7.l21, g7.l26, g7.l27, g7.l28, g7.l29, g7.l40, g7.l41, g7.l42, g7.l43, g7.l44, g7.l45, g7.l50, g7.l51, g7.l52, g7.l53, g7.l54, g7.l55, g7.l81, g7.l82, g7.l83, g7.l84, g7.l85, g7.l86, g7.l87, g7.l88, g7.l89, g7.l90, g7.l91, g7.l92, g7.l93, g7.l94, g7.l95, g7.l96, g7.l97, g7.l98, g7.l99, g7.l100, g7.l101, g7.l102, g7.l103, g7.r704, g7.r705, g7.r707, g7.r709, g7.r710, g7.r711, g7.r712, g7.r713, g7.r714, g7.r715, g7.r716, g7.r718, g7.r719, g7.r720, g7.r648_2, g7.r649_2, g7.r650_2, g7.r651_2, g7.r652_2, g7.r653_2, g7.r648_3, g7.r649_3, g7.r650_3, g7.r651_3, g7.r652_3, g7.r653_3, g7.r576, g7.r577, g7.r578, g7.r512, g7.r513, g7.r256, g7.r257, g7.r64, g7.r322_22, g7.r322_23, g7.r322_24, g7.r322_25, g7.r773, g7.r775, g7.r777, g7.r779, g7.r780, g7.r781, g7.r789, g7.r792, g7.r794, g7.r795, g7.r796, g7.r802, g7.r803, g7.r804, g7.r806, g7.r807, g7.r808, g7.r809, g7.r810, g7.r811, g7.r815, g7.r819, g7.r821, true_and, and_true, Option.some.injEq, exists_eq_left', exists_eq_left, forall_eq, forall_eq_apply_imp_iff, true_or, or_true, false_or, or_false, not_true_eq_false, not_false_eq_true, false_and, if_true, if_false, reduceIte, c1, c2, n1, n2, w_kindOn g7 f1 hb.1 hs4, f2, f3, q2, ej, d1, d2, its0, kle.1, kle.2]
      obtain ⟨S8, e8⟩ : ∃ z : PS, z = S7.setI 812 (ad 80) kd := ⟨_, rfl⟩
      rw [← e8]
      have g8 : Sh ad S8 := by rw [e8]; exact g7
      refine ⟨ad 99, g8.r810, g8.k99, by rw [g8.l99]; exact vs, ?_⟩
      have f5 : S8.A (ad 99) s = nI j := by rw [e8]; show S7.A (ad 99) s = nI j; rw [f3]; exact ej
      rw [nI_clamp (by omega), f5]
      obtain ⟨S9, e9⟩ : ∃ z : PS, z = S8.setI 813 (ad 80) (nI j) := ⟨_, rfl⟩
      rw [← e9]
      have g9 : Sh ad S9 := by rw [e9]; exact g8
      have f6 : S9.I 813 (ad 80) = nI j := by rw [e9]; simp only [setI_K, setI_ln, setI_R, setI_Q, setI_I, setI_J, setI_A, setI_B, setJ_K, setJ_ln, setJ_R, setJ_Q, setJ_I, setJ_J, setJ_A, setJ_B, setR_K, setR_ln, setR_R, setR_Q, setR_I, setR_J, setR_A, setR_B, setA_K, setA_ln, setA_R, setA_Q, setA_I, setA_J, setA_A, setA_B, setB_K, setB_ln, setB_R, setB_Q, setB_I, setB_J, setB_A, setB_B, setQ_K, setQ_ln, setQ_R, setQ_Q, setQ_I, setQ_J, setQ_A, setQ_B, u2_ap, and_self, true_and, and_true, Option.some.injEq, exists_eq_left', exists_eq_left, forall_eq, forall_eq_apply_imp_iff, true_or, or_true, false_or, or_false, not_true_eq_false, not_false_eq_true, false_and, if_true, if_false, reduceIte]
      have its3 : ∀ K : Int32 → PS → Prop, wp_X11_its N S9 (ad 80) (nI j) 3 K = K sp S9 := fun K => by
        have := w_its (N := N) (K := K) (j := j) (k := 3) g9 hj10 (by decide)
        rw [show S9.A (ad 81) = S.A (ad 81) by rw [e9, e8]; exact f4, ← hsp] at this
        exact this
      rw [f6, its3]
      refine ⟨g9.k80, ?_⟩
      obtain ⟨S11, e11⟩ : ∃ z : PS, z = (S9.setI 814 (ad 80) sp).setI 817 (ad 80) 0 := ⟨_, rfl⟩
      rw [← e11]
      refine hK S11 ?_ ?_
      · refine ⟨by rw [e11]; exact g9, ?_, ?_, ?_, ?_, ?_, by simp, fun k hk => absurd hk (by simp)⟩
        · rw [e11, e9, e8]; simp only [setI_K, setI_ln, setI_R, setI_Q, setI_I, setI_J, setI_A, setI_B, setJ_K, setJ_ln, setJ_R, setJ_Q, setJ_I, setJ_J, setJ_A, setJ_B, setR_K, setR_ln, setR_R, setR_Q, setR_I, setR_J, setR_A, setR_B, setA_K, setA_ln, setA_R, setA_Q, setA_I, setA_J, setA_A, setA_B, setB_K, setB_ln, setB_R, setB_Q, setB_I, setB_J, setB_A, setB_B, setQ_K, setQ_ln, setQ_R, setQ_Q, setQ_I, setQ_J, setQ_A, setQ_B, u2_ap, Nat.reduceEqDiff, and_self, true_and, and_true, Option.some.injEq, exists_eq_left', exists_eq_left, forall_eq, forall_eq_apply_imp_iff, true_or, or_true, false_or, or_false, not_true_eq_false, not_false_eq_true, false_and, if_true, if_false, reduceIte]
        · rw [e11, e9, e8]; simp only [setI_K, setI_ln, setI_R, setI_Q, setI_I, setI_J, setI_A, setI_B, setJ_K, setJ_ln, setJ_R, setJ_Q, setJ_I, setJ_J, setJ_A, setJ_B, setR_K, setR_ln, setR_R, setR_Q, setR_I, setR_J, setR_A, setR_B, setA_K, setA_ln, setA_R, setA_Q, setA_I, setA_J, setA_A, setA_B, setB_K, setB_ln, setB_R, setB_Q, setB_I, setB_J, setB_A, setB_B, setQ_K, setQ_ln, setQ_R, setQ_Q, setQ_I, setQ_J, setQ_A, setQ_B, u2_ap, Nat.reduceEqDiff, and_self, true_and, and_true, Option.some.injEq, exists_eq_left', exists_eq_left, forall_eq, forall_eq_apply_imp_iff, true_or, or_true, false_or, or_false, not_true_eq_false, not_false_eq_true, false_and, if_true, if_false, reduceIte]
        · rw [e11, e9, e8]; simp only [setI_K, setI_ln, setI_R, setI_Q, setI_I, setI_J, setI_A, setI_B, setJ_K, setJ_ln, setJ_R, setJ_Q, setJ_I, setJ_J, setJ_A, setJ_B, setR_K, setR_ln, setR_R, setR_Q, setR_I, setR_J, setR_A, setR_B, setA_K, setA_ln, setA_R, setA_Q, setA_I, setA_J, setA_A, setA_B, setB_K, setB_ln, setB_R, setB_Q, setB_I, setB_J, setB_A, setB_B, setQ_K, setQ_ln, setQ_R, setQ_Q, setQ_I, setQ_J, setQ_A, setQ_B, u2_ap, Nat.reduceEqDiff, and_self, true_and, and_true, Option.some.injEq, exists_eq_left', exists_eq_left, forall_eq, forall_eq_apply_imp_iff, true_or, or_true, false_or, or_false, not_true_eq_false, not_false_eq_true, false_and, if_true, if_false, reduceIte]
        · rw [e11, e9, e8]; simp only [setI_K, setI_ln, setI_R, setI_Q, setI_I, setI_J, setI_A, setI_B, setJ_K, setJ_ln, setJ_R, setJ_Q, setJ_I, setJ_J, setJ_A, setJ_B, setR_K, setR_ln, setR_R, setR_Q, setR_I, setR_J, setR_A, setR_B, setA_K, setA_ln, setA_R, setA_Q, setA_I, setA_J, setA_A, setA_B, setB_K, setB_ln, setB_R, setB_Q, setB_I, setB_J, setB_A, setB_B, setQ_K, setQ_ln, setQ_R, setQ_Q, setQ_I, setQ_J, setQ_A, setQ_B, u2_ap, Nat.reduceEqDiff, and_self, true_and, and_true, Option.some.injEq, exists_eq_left', exists_eq_left, forall_eq, forall_eq_apply_imp_iff, true_or, or_true, false_or, or_false, not_true_eq_false, not_false_eq_true, false_and, if_true, if_false, reduceIte]
        · rw [e11, e9, e8, e7]; simp only [setI_K, setI_ln, setI_R, setI_Q, setI_I, setI_J, setI_A, setI_B, setJ_K, setJ_ln, setJ_R, setJ_Q, setJ_I, setJ_J, setJ_A, setJ_B, setR_K, setR_ln, setR_R, setR_Q, setR_I, setR_J, setR_A, setR_B, setA_K, setA_ln, setA_R, setA_Q, setA_I, setA_J, setA_A, setA_B, setB_K, setB_ln, setB_R, setB_Q, setB_I, setB_J, setB_A, setB_B, setQ_K, setQ_ln, setQ_R, setQ_Q, setQ_I, setQ_J, setQ_A, setQ_B, u2_ap, Nat.reduceEqDiff, and_self, true_and, and_true, Option.some.injEq, exists_eq_left', exists_eq_left, forall_eq, forall_eq_apply_imp_iff, true_or, or_true, false_or, or_false, not_true_eq_false, not_false_eq_true, false_and, if_true, if_false, reduceIte]; rfl
      · rw [e11, e9, e8]
        exact Un.tr u7 (Un.tr (Un.tr (Un.tr (Un.setI ⟨rfl, by omega, by omega⟩) (Un.setI ⟨rfl, by omega, by omega⟩)) (Un.setI ⟨rfl, by omega, by omega⟩)) (Un.setI ⟨rfl, by omega, by omega⟩))
    -- the ends of both
    have fin : ∀ (S6 S7 S8 : PS) (tr : List Int32) (z w v : Int32), UC ad S S6 → AC S6 ad kd (nI j) sp tr z → UM ad S6 S7 → UM ad S7 S8 → MDC S8 ad kd (nI j) sp tr z → v = (if z = 0 then w else -15) → wq_X11_act_117 N (fun r6 S8 => v = r6 ∧ InvR (ad 1) (ad 80) S8) S8 (ad 80) w := by
      intro S6 S7 S8 tr z w v u6 ac6 u7 u8 mc8 ev
      have hi : InvR (ad 1) (ad 80) S8 := act_end h hN0 h2 h3 h4 h5 h6 u6 (Un.tr u7 u8) ac6.2.2.2.2.2.1 ac6.2.2.2.2.2.2.1 ac6.2.2.2.2.2.2.2 mc8.2.2.2.2.2.1 mc8.2.2.2.2.2.2.2
      refine ⟨mc8.1.k80, ?_⟩
      rw [mc8.2.2.2.2.1]
      by_cases c : z = 0
      · rw [if_pos c] at ev ⊢
        exact ⟨ev, hi⟩
      · rw [if_neg c] at ev ⊢
        exact ⟨ev, hi⟩
    have cls : ∀ (S6 : PS) (tr : List Int32) (z w : Int32), AC S6 ad kd (nI j) sp tr z → (∀ v, v = (if z = 0 then w else -15) → S6.K (ad 80) = 12 ∧ wp_X11_act N S6 (ad 80) (nI s) a2 a3 (fun r6 S8 => v = r6 ∧ InvR (ad 1) (ad 80) S8)) → wq_X10_act_162 N (fun r3 S2 => S2.K (ad 80) = 12 ∧ wp_X11_act N S2 (ad 80) (nI s) a2 a3 (fun r6 S5 => r3 = r6 ∧ InvR (ad 1) (ad 80) S5)) S6 (ad 1) w := by
      intro S6 tr z w ac6 hK
      refine ⟨ac6.1.k1, ad 15, ac6.1.r720, ac6.1.k15, ?_⟩
      rw [ac6.2.2.2.2.1]
      by_cases c : z = 0
      · rw [if_pos c]
        exact hK _ (by rw [if_pos c])
      · rw [if_neg c]
        exact hK _ (by rw [if_neg c])
    by_cases b0 : a2 = 0
    · rw [if_pos b0]
      refine ⟨g5.k1, ad 15, g5.r720, g5.k15, c_takes ac (fun S6 u6 ac6 => cls S6 _ _ _ ac6 (fun v ev => refA S6 _ _ v (Un.tr u5 u6) ac6 (fun S7 mc7 u7 => ?_) (by rw [b0]; decide) (by rw [b0]; decide)))⟩
      rw [if_pos b0]
      exact m_takes mc7 (fun S8 u8 mc8 => fin S6 S7 S8 _ _ _ v (Un.tr u5 u6) ac6 u7 u8 mc8 ev)
    rw [if_neg b0]
    by_cases b1 : a2 = 1
    · rw [if_pos b1]
      refine ⟨g5.k1, ad 15, g5.r720, g5.k15, c_shares ac (fun S6 u6 ac6 => cls S6 _ _ _ ac6 (fun v ev => refA S6 _ _ v (Un.tr u5 u6) ac6 (fun S7 mc7 u7 => ?_) (by rw [b1]; decide) (by rw [b1]; decide)))⟩
      rw [if_neg b0, if_pos b1]
      exact m_shares mc7 (fun S8 u8 mc8 => fin S6 S7 S8 _ _ _ v (Un.tr u5 u6) ac6 u7 u8 mc8 ev)
    rw [if_neg b1]
    by_cases b2 : a2 = 2
    · rw [if_pos b2]
      refine ⟨g5.k1, ad 15, g5.r720, g5.k15, c_bounds ac (fun S6 u6 ac6 => cls S6 _ _ _ ac6 (fun v ev => refA S6 _ _ v (Un.tr u5 u6) ac6 (fun S7 mc7 u7 => ?_) (by rw [b2]; decide) (by rw [b2]; decide)))⟩
      rw [if_neg b0, if_neg b1, if_pos b2]
      exact m_bounds mc7 (fun S8 u8 mc8 => fin S6 S7 S8 _ _ _ v (Un.tr u5 u6) ac6 u7 u8 mc8 ev)
    rw [if_neg b2]
    by_cases b3 : a2 = 3
    · rw [if_pos b3]
      refine ⟨g5.k1, ad 15, g5.r720, g5.k15, c_tells ac (fun S6 u6 ac6 => cls S6 _ _ _ ac6 (fun v ev => refA S6 _ _ v (Un.tr u5 u6) ac6 (fun S7 mc7 u7 => ?_) (by rw [b3]; decide) (by rw [b3]; decide)))⟩
      rw [if_neg b0, if_neg b1, if_neg b2]
      exact m_tells mc7 (fun S8 u8 mc8 => fin S6 S7 S8 _ _ _ v (Un.tr u5 u6) ac6 u7 u8 mc8 ev)
    rw [if_neg b3]
    refine ref0 S5 u5 ac.2.2.2.2.2.1 (Or.inl ?_)
    by_cases n1 : a2 < 0
    · exact Or.inl n1
    by_cases n2 : 3 < a2
    · exact Or.inr n2
    obtain ⟨k, hk, rfl⟩ := in_lit (x := a2) (n := 3) (by decide) n1 n2
    obtain rfl | rfl | rfl | rfl : k = 0 ∨ k = 1 ∨ k = 2 ∨ k = 3 := by omega
    · exact absurd rfl b0
    · exact absurd rfl b1
    · exact absurd rfl b2
    · exact absurd rfl b3
  · rw [if_neg (by rw [q1]; decide)]
    exact (ref0 S4 u4 i65 (Or.inr (Or.inl (by rw [q2]; decide)))).2
