section
variable {ad : Nat → Nat} {S S1 : PS} {q kd n g : Nat}
theorem Fr.tr {S2 : PS} (f : Fr S S1) (f2 : Fr S1 S2) : Fr S S2 := by
  intro a ha
  obtain ⟨a1, a2, a3, a4, a5, a6, a7⟩ := f a ha
  obtain ⟨b1, b2, b3, b4, b5, b6, b7⟩ := f2 a (by rw [a1]; exact ha)
  exact ⟨b1.trans a1, b2.trans a2, fun g => (b3 g).trans (a3 g), b4.trans a4, fun g => (b5 g).trans (a5 g), b6.trans a6, b7.trans a7⟩
theorem fr_newO (h : S.K q = 0) : Fr S (S.newO q kd) := by
  intro a ha
  have n : ¬ a = q := fun e => ha (by rw [e]; exact h)
  refine ⟨?_, rfl, fun g => ?_, rfl, fun g => ?_, rfl, rfl⟩
  · show va_up S.K q kd a = _; unfold va_up; rw [if_neg n]
  · show uz2 S.R q none g a = _; unfold uz2; rw [if_neg n]
  · show uz2 S.I q 0 g a = _; unfold uz2; rw [if_neg n]
theorem fr_cpA {f : Nat → Int32} (h : S.K q = 0) : Fr S (S.cpA q n f) := by
  intro a ha
  have n : ¬ a = q := fun e => ha (by rw [e]; exact h)
  refine ⟨?_, ?_, fun g => rfl, ?_, fun g => rfl, ?_, ?_⟩
  · show va_up S.K q 20 a = _; unfold va_up; rw [if_neg n]
  · show va_up S.ln q _ a = _; unfold va_up; rw [if_neg n]
  · show uz S.Q q none a = _; funext k; unfold uz; rw [if_neg n]
  · show va_up S.A q f a = _; unfold va_up; rw [if_neg n]
  · show uz S.B q 0 a = _; funext k; unfold uz; rw [if_neg n]
theorem Fr.sI {v : Int32} (f : Fr S S1) (h : S.K q = 0) : Fr S (S1.setI g q v) := by
  intro a ha
  have n : ¬ a = q := fun e => ha (by rw [e]; exact h)
  obtain ⟨a1, a2, a3, a4, a5, a6, a7⟩ := f a ha
  refine ⟨a1, a2, a3, a4, fun g' => ?_, a6, a7⟩
  show u2 S1.I g q v g' a = _
  rw [u2_ap, if_neg (fun z => n z.2)]
  exact a5 g'
theorem Fr.sR {v : Option Nat} (f : Fr S S1) (h : S.K q = 0) : Fr S (S1.setR g q v) := by
  intro a ha
  have n : ¬ a = q := fun e => ha (by rw [e]; exact h)
  obtain ⟨a1, a2, a3, a4, a5, a6, a7⟩ := f a ha
  refine ⟨a1, a2, fun g' => ?_, a4, a5, a6, a7⟩
  show u2 S1.R g q v g' a = _
  rw [u2_ap, if_neg (fun z => n z.2)]
  exact a3 g'
end
section
variable {N : Nat} {ad : Nat → Nat} {S : PS} {C V : Nat → Int32} {x1 : Int32}
theorem k_told {K : Nat → PS → Prop} (h : Sh ad S) (hk : KS S ad C V) (hx : ∃ v : Nat, 1 ≤ v ∧ v ≤ 99 ∧ x1 = nI v) (hK : ∀ a c S', Fr S S' → S'.K a = 7 → (∀ f, SF C V x1 f → SR S' ad a c f) → K a S') : wp_X7_told N S (ad 6) x1 K := by
  intro q1 S2 z1 e2
  have f2 : Fr S S2 := by rw [e2]; exact fr_newO z1
  have g2 := f2.sh h
  obtain ⟨k1, k2, k3, k4⟩ := hk
  have n4 := pst_le C V
  have i515 : S2.I 515 (ad 6) = nI (pst C V).2.2.2.1 := (f2.I h).trans k2
  have i514 : S2.I 514 (ad 6) = (pst C V).2.2.1 := (f2.I h).trans k1
  have m3 : nI (pst C V).2.2.2.1 * 3 = nI (3 * (pst C V).2.2.2.1) := by rw [Nat.mul_comm]; exact (Int32.ofNat_mul _ 3).symm
  have cl := nI_clamp (show 3 * (pst C V).2.2.2.1 < 2 ^ 31 by omega)
  refine ⟨g2.k6, ad 19, g2.r513, ?_, ?_⟩
  · rw [i515, m3, cl]; omega
  rw [i515, m3, i514]
  refine ⟨g2.k19, ?_, ?_, ?_, ?_⟩
  · exact nI_pos (by omega)
  · rw [cl, g2.l19]; omega
  · rw [g2.l19]; decide
  rw [cl]
  intro q f S7 z7 hf e7
  have f7 : Fr S2 S7 := by rw [e7]; exact fr_cpA z7
  have K2 : S2.K q1 = 7 := by rw [e2]; show va_up S.K q1 7 q1 = 7; unfold va_up; rw [if_pos rfl]
  have ne : ¬ q = q1 := fun z => by rw [z, K2] at z7; exact absurd z7 (by decide)
  have K7 : S7.K q1 = 7 := ((f7 q1 (by rw [K2]; decide)).1).trans K2
  have Kq : S7.K q = 20 := by rw [e7]; show va_up S2.K q 20 q = 20; unfold va_up; rw [if_pos rfl]
  have lq : S7.ln q = 3 * (pst C V).2.2.2.1 := by rw [e7]; show va_up S2.ln q _ q = _; unfold va_up; rw [if_pos rfl]
  have Aq : S7.A q = f := by rw [e7]; show va_up S2.A q f q = _; unfold va_up; rw [if_pos rfl]
  refine ⟨K7, fun S10 e10 S12 e12 S14 e14 S16 e16 => ?_⟩
  have F : Fr S S16 := by rw [e16, e14, e12, e10]; exact ((((f2.tr f7).sI z1).sI z1).sI z1).sR z1
  have K16 : S16.K = S7.K := by rw [e16, e14, e12, e10]; rfl
  refine hK q1 q S16 F (by rw [K16]; exact K7) (fun v hv => ?_)
  obtain ⟨v0, v1⟩ := hv
  have i448 : S16.I 448 q1 = x1 := by rw [e16, e14, e12, e10]; simp only [setI_K, setI_ln, setI_R, setI_Q, setI_I, setI_J, setI_A, setI_B, setJ_K, setJ_ln, setJ_R, setJ_Q, setJ_I, setJ_J, setJ_A, setJ_B, setR_K, setR_ln, setR_R, setR_Q, setR_I, setR_J, setR_A, setR_B, setA_K, setA_ln, setA_R, setA_Q, setA_I, setA_J, setA_A, setA_B, setB_K, setB_ln, setB_R, setB_Q, setB_I, setB_J, setB_A, setB_B, setQ_K, setQ_ln, setQ_R, setQ_Q, setQ_I, setQ_J, setQ_A, setQ_B, u2_ap, Nat.reduceEqDiff, false_and, and_self, true_and, and_true, Option.some.injEq, exists_eq_left', exists_eq_left, forall_eq, forall_eq_apply_imp_iff, true_or, or_true, false_or, or_false, not_true_eq_false, not_false_eq_true, false_and, if_true, if_false, reduceIte]
  have i449 : S16.I 449 q1 = (pst C V).2.2.1 := by rw [e16, e14, e12]; simp only [setI_K, setI_ln, setI_R, setI_Q, setI_I, setI_J, setI_A, setI_B, setJ_K, setJ_ln, setJ_R, setJ_Q, setJ_I, setJ_J, setJ_A, setJ_B, setR_K, setR_ln, setR_R, setR_Q, setR_I, setR_J, setR_A, setR_B, setA_K, setA_ln, setA_R, setA_Q, setA_I, setA_J, setA_A, setA_B, setB_K, setB_ln, setB_R, setB_Q, setB_I, setB_J, setB_A, setB_B, setQ_K, setQ_ln, setQ_R, setQ_Q, setQ_I, setQ_J, setQ_A, setQ_B, u2_ap, Nat.reduceEqDiff, false_and, and_self, true_and, and_true, Option.some.injEq, exists_eq_left', exists_eq_left, forall_eq, forall_eq_apply_imp_iff, true_or, or_true, false_or, or_false, not_true_eq_false, not_false_eq_true, false_and, if_true, if_false, reduceIte]
  have i450 : S16.I 450 q1 = S2.I 516 (ad 6) := by rw [e16, e14]; simp only [setI_K, setI_ln, setI_R, setI_Q, setI_I, setI_J, setI_A, setI_B, setJ_K, setJ_ln, setJ_R, setJ_Q, setJ_I, setJ_J, setJ_A, setJ_B, setR_K, setR_ln, setR_R, setR_Q, setR_I, setR_J, setR_A, setR_B, setA_K, setA_ln, setA_R, setA_Q, setA_I, setA_J, setA_A, setA_B, setB_K, setB_ln, setB_R, setB_Q, setB_I, setB_J, setB_A, setB_B, setQ_K, setQ_ln, setQ_R, setQ_Q, setQ_I, setQ_J, setQ_A, setQ_B, u2_ap, Nat.reduceEqDiff, false_and, and_self, true_and, and_true, Option.some.injEq, exists_eq_left', exists_eq_left, forall_eq, forall_eq_apply_imp_iff, true_or, or_true, false_or, or_false, not_true_eq_false, not_false_eq_true, false_and, if_true, if_false, reduceIte]
  refine ⟨by rw [K16]; exact K7, ?_, by rw [K16]; exact Kq, fun n hn z => ?_, i448.trans v0.symm, by rw [v0]; exact hx, ?_⟩
  · rw [e16]; simp only [setI_K, setI_ln, setI_R, setI_Q, setI_I, setI_J, setI_A, setI_B, setJ_K, setJ_ln, setJ_R, setJ_Q, setJ_I, setJ_J, setJ_A, setJ_B, setR_K, setR_ln, setR_R, setR_Q, setR_I, setR_J, setR_A, setR_B, setA_K, setA_ln, setA_R, setA_Q, setA_I, setA_J, setA_A, setA_B, setB_K, setB_ln, setB_R, setB_Q, setB_I, setB_J, setB_A, setB_B, setQ_K, setQ_ln, setQ_R, setQ_Q, setQ_I, setQ_J, setQ_A, setQ_B, u2_ap, and_self, true_and, and_true, Option.some.injEq, exists_eq_left', exists_eq_left, forall_eq, forall_eq_apply_imp_iff, true_or, or_true, false_or, or_false, not_true_eq_false, not_false_eq_true, false_and, if_true, if_false, reduceIte]
  · have := g2.kn hn
    rw [← z] at this
    exact this z7
  · have l16 : S16.ln q = 3 * (pst C V).2.2.2.1 := by rw [e16, e14, e12, e10]; exact lq
    have A16 : S16.A q = f := by rw [e16, e14, e12, e10]; exact Aq
    rw [l16, A16, i449, i450]
    rcases v1 with ⟨p1, p2, p3, p4⟩ | ⟨p1, p2, p3⟩
    · refine Or.inl ⟨p1, p2, ?_, by omega⟩
      rw [p3, ← k3 p1]
      exact f2.I h
    · refine Or.inr ⟨p1, _, n4, p2, rfl, fun k hk => ?_⟩
      rw [p3 k hk, hf k hk, f2.A h, k4 k hk]
end
section
variable {ad : Nat → Nat} {S S1 : PS} {np nr ns nh dy no a c : Nat} {f : Nat → Int32}
theorem RN.tale (hq : Uq ad (fun g n => (g = 646 ∧ n = 2) ∨ (n = 80 ∧ ((782 ≤ g ∧ g ≤ 788) ∨ g = 776))) (fun n => n = 87 ∨ n = 83) (fun n => n = 44) S S1) (k : Sh ad S) (hns : ns < 8) (hp : RN S ad np nr ns nh dy no) (i1 : S1.I 646 (ad 2) = nI (ns + 1)) (i2 : S1.I 776 (ad 80) = nI (ns + 1)) (q1 : ∀ s, s < ns → S1.Q (ad 44) s = S.Q (ad 44) s) (q2 : S1.Q (ad 44) ns = some a) (s : SR S ad a c f) (a1 : ∀ i, i < 16 * ns → S1.A (ad 83) i = S.A (ad 83) i) (a2 : ∀ i, i < 16 → S1.A (ad 83) (16 * ns + i) = f i) : RN S1 ad np nr (ns + 1) nh dy no := by
  obtain ⟨h1, h2, h3, h4, h5, h6, h7⟩ := hp
  have hU := hq.1
  have sr : ∀ {a c : Nat} {f : Nat → Int32}, SR S ad a c f → SR S1 ad a c f := fun z => SR.un hU (fun n => ⟨by omega, by omega, by omega⟩) z
  have hr : ∀ {a c : Nat} {m : Int32} {f : Nat → Int32}, HR S ad a c m f → HR S1 ad a c m f := fun z => HR.un hU z
  refine ⟨⟨h1.1, h1.2.1, by omega, h1.2.2.2⟩, ?_, ?_, fun i hi => ?_, ?_, fun s' hs => ?_, ?_⟩
  · refine ⟨(hq.I k (by omega)).trans h2.1, (hq.I k (by omega)).trans h2.2.1, ?_, ?_, (hq.I k (by omega)).trans h2.2.2.2.2.1, (hq.I k (by omega)).trans h2.2.2.2.2.2.1, i1, (hq.I k (by omega)).trans h2.2.2.2.2.2.2.2⟩
    · exact ((hq.I k (g := 642) (n := 2) (by omega)).trans h2.2.2.1).trans (hq.I k (g := 770) (n := 80) (by omega)).symm
    · exact ((hq.I k (g := 643) (n := 2) (by omega)).trans h2.2.2.2.1).trans (hq.I k (g := 771) (n := 80) (by omega)).symm
  · exact ⟨(hq.I k (g := 768) (n := 80) (by omega)).trans h3.1, (hq.I k (g := 769) (n := 80) (by omega)).trans h3.2.1, (hq.I k (g := 772) (n := 80) (by omega)).trans h3.2.2.1, (hq.I k (g := 774) (n := 80) (by omega)).trans h3.2.2.2.1, i2, (hq.I k (g := 778) (n := 80) (by omega)).trans h3.2.2.2.2.2⟩
  · rw [hq.A k (n := 81) (by omega)]
    exact (h4 i hi).un hU k (fun j hj => by omega)
  · rw [hq.A k (n := 82) (by omega), hq.A k (n := 41 + 10 * 0) (by omega), hq.A k (n := 42 + 10 * 0) (by omega), hq.A k (n := 43 + 10 * 0) (by omega)]
    exact h5
  · by_cases e : s' = ns
    · rw [e]
      exact ⟨a, c, q2, SR.congr (fun j hj => (a2 j hj).symm) (sr s)⟩
    · obtain ⟨a', c', p1, p2⟩ := h6 s' (by omega)
      exact ⟨a', c', (q1 s' (by omega)).trans p1, SR.congr (fun j hj => (a1 _ (by omega)).symm) (sr p2)⟩
  · rw [hq.A k (n := 84) (by omega), hq.A k (n := 85) (by omega), hq.Q k (n := 45 + 10 * 0) (by omega)]
    exact fun s hs => by obtain ⟨a, c, q, r⟩ := h7 s hs; exact ⟨a, c, q, hr r⟩
end
theorem nI_of1 {x : Int32} (c1 : ¬ x < 1) (c2 : ¬ 99 < x) : ∃ v : Nat, 1 ≤ v ∧ v ≤ 99 ∧ x = nI v := by
  obtain ⟨k, hk, rfl⟩ := nI_of2 (x := x) (M := 99) (n := 99) (by decide) (fun z => c1 (Int32.lt_trans z (by decide))) (Int32.not_lt.mp c2)
  refine ⟨k, ?_, hk, rfl⟩
  refine Classical.byContradiction (fun z => c1 ?_)
  obtain rfl : k = 0 := by omega
  decide
theorem case_11 {N x mm : Nat} {S : PS} (hN5 : 5000 ≤ N) (hI : InvR x mm S) (a1 : Int32) : lc_11 N x mm (InvR x mm) S a1 := by
  have hI0 := hI
  obtain ⟨ad, rfl, rfl, h, ⟨np, nr, ns, nh, dy, no, hN⟩, h2, h3, h4, h5, h6, h7⟩ := hI
  have hN0 := hN
  obtain ⟨hb, hc, hm, hP⟩ := hN
  refine ⟨h.k1, ?_⟩
  unfold wp_X10_story wp_X10_within
  by_cases c1 : a1 < 1
  · rw [if_pos c1]
    show (if (0 : Int32) = 0 then _ else _)
    rw [if_pos rfl]
    refine ⟨h.k80, ?_⟩
    unfold wp_X11_story wp_X11_in
    rw [if_pos c1]
    show (if (0 : Int32) = 0 then _ else _)
    rw [if_pos rfl]
    exact ⟨rfl, hI0⟩
  by_cases c2 : 99 < a1
  · rw [if_neg c1, if_pos c2]
    show (if (0 : Int32) = 0 then _ else _)
    rw [if_pos rfl]
    refine ⟨h.k80, ?_⟩
    unfold wp_X11_story wp_X11_in
    rw [if_neg c1, if_pos c2]
    show (if (0 : Int32) = 0 then _ else _)
    rw [if_pos rfl]
    exact ⟨rfl, hI0⟩
  have hx := nI_of1 c1 c2
  have e646 : S.I 646 (ad 2) = nI ns := hc.2.2.2.2.2.2.1
  have e776 : S.I 776 (ad 80) = nI ns := hm.2.2.2.2.1
  rw [if_neg c1, if_neg c2]
  show (if (1 : Int32) = 0 then _ else _)
  rw [if_neg (by decide)]
  refine ⟨h.k1, ad 2, h.r704, h.k2, ?_⟩
  by_cases c3 : ns < 8
  case neg =>
    obtain rfl : ns = 8 := by omega
    rw [e646, if_neg (by decide)]
    refine ⟨h.k80, ?_⟩
    unfold wp_X11_story wp_X11_in
    rw [if_neg c1, if_neg c2]
    show (if (1 : Int32) = 0 then _ else _)
    rw [if_neg (by decide)]
    refine ⟨h.k80, ?_⟩
    rw [e776, if_pos (show nI 8 = 8 from rfl)]
    exact ⟨rfl, hI0⟩
  have n8 : ¬ nI ns = 8 := ii_ne (b := 8) (by omega) (by decide) (by omega)
  rw [e646, if_pos (show nI ns < 8 from nI_lt (b := 8) c3 (by decide))]
  obtain ⟨nt, t1, t2, t3, t4⟩ := id h3
  obtain ⟨T, hT, T4, T86⟩ : ∃ T : Nat → Nat, (∀ k, T k < 256) ∧ (∀ k, k < nt → S.A (ad 4) k = nI (T k)) ∧ ∀ k, k < nt → S.A (ad 86) k = nI (T k) := by
    refine ⟨fun k => if k < nt then (S.A (ad 86) k).toNatClampNeg else 0, fun k => ?_, fun k hk => ?_, fun k hk => ?_⟩
    · show (if k < nt then _ else 0) < 256
      by_cases e : k < nt
      · rw [if_pos e]
        obtain ⟨-, v, v1, v2⟩ := t4 k e
        rw [v2, nI_clamp (by omega)]
        exact v1
      · rw [if_neg e]; decide
    · obtain ⟨e, v, v1, v2⟩ := t4 k hk
      show _ = nI (if k < nt then _ else 0)
      rw [if_pos hk, e, v2, nI_clamp (by omega)]
    · obtain ⟨e, v, v1, v2⟩ := t4 k hk
      show _ = nI (if k < nt then _ else 0)
      rw [if_pos hk, v2, nI_clamp (by omega)]
  refine w_read hT t1 hN5 h t2 T4 (fun S9 c u9 b1 b2 b3 tk i580 i708 => ?_)
  have g9 := u9.sh h
  refine ⟨g9.k1, ad 6, g9.r710, g9.k6, k_whole hN5 ⟨g9, tk, i580, by omega, b1, b2, b3⟩ (fun S14 u14 h14 k14 => ?_)⟩
  have hU : Un ad (fun g n => (n = 5 ∧ (g = 579 ∨ g = 580)) ∨ (n = 1 ∧ g = 708) ∨ (n = 6 ∧ 514 ≤ g ∧ g ≤ 516)) (fun n => 16 ≤ n ∧ n ≤ 19) False S S14 := Un.tr (u9.mono (fun _ _ e => by omega) (fun _ e => by omega) id) (Un.mono u14 (fun _ _ e => by omega) (fun _ e => by omega) id)
  have g14 := h14.1
  have i708' : S14.I 708 (ad 1) = 0 := (Un.I u14 g9 (by omega)).trans i708
  have i776 : S14.I 776 (ad 80) = nI ns := (hU.I h (by omega)).trans e776
  have i646 : S14.I 646 (ad 2) = nI ns := (hU.I h (by omega)).trans e646
  have B14 : RB S14 ad T nt := ⟨g14, (hU.I h (by omega)).trans t3, by rw [hU.A h (by omega)]; exact T86⟩
  have RN14 : RN S14 ad np nr ns nh dy no := hN0.un hU h ⟨(by intros; first | omega | simp), (by intros; first | omega | simp), (by intros; first | omega | simp), by omega⟩ (by intros; first | omega | simp) (by omega)
  have RK14 : RK S14 ad := h2.un hU h ⟨(by intros; first | omega | simp), (by intros; first | omega | simp), (by intros; first | omega | simp), (by first | omega | (simp <;> intros <;> omega))⟩ (by first | omega | (simp <;> intros <;> omega))
  have RR14 : RR S14 ad := h4.un hU h (by first | omega | (simp <;> intros <;> omega))
  have RS14 : RS S14 ad := h5.un hU h (by first | omega | (simp <;> intros <;> omega))
  have RF14 : RF S14 ad := h6.un hU h (by first | omega | (simp <;> intros <;> omega))
  have RC14 : RC S14 ad := h7.un hU h (by first | omega | (simp <;> intros <;> omega))
  by_cases ok : (pst (Cc T nt) (Vc T nt)).1 = true ∧ Cc T nt (pst (Cc T nt) (Vc T nt)).2.1 = 258
  case neg =>
    rw [if_neg ok, if_pos rfl]
    refine ⟨g14.k1, ad 5, g14.r709, g14.k5, ?_⟩
    rw [k_place h14]
    refine ⟨g14.k80, ?_⟩
    unfold wp_X11_story wp_X11_in
    rw [if_neg c1, if_neg c2]
    show (if (1 : Int32) = 0 then _ else _)
    rw [if_neg (by decide)]
    refine ⟨g14.k80, ?_⟩
    rw [i776, if_neg n8]
    refine r_story hT t1 c3 hN5 B14 i776 (fun z => absurd z ok) (fun _ S' u' j => ⟨rfl, ad, rfl, rfl, u'.sh g14, ⟨np, nr, ns, nh, dy, no, RN14.un u' g14 ⟨(by intros; first | omega | simp), (by intros; first | omega | simp), (by intros; first | omega | simp), by omega⟩ (by intros; first | omega | simp) (by omega)⟩, RK14.un u' g14 ⟨(by intros; first | omega | simp), (by intros; first | omega | simp), (by intros; first | omega | simp), by omega⟩ (by omega), ⟨0, by omega, (u'.I g14 (by omega)).trans i708', j, fun k hk => absurd hk (by omega)⟩, RR14.un u' g14 (by omega), RS14.un u' g14 ⟨(by intros; first | omega | simp), by omega, by omega, id⟩, RF14.un u' g14 ⟨(by intros; first | omega | simp), by omega⟩, RC14.un u' g14 (by omega)⟩)
  rw [if_pos ok, if_neg (by decide)]
  refine ⟨g14.k1, ad 2, g14.r704, g14.k2, ad 44, g14.r652_2, ad 2, g14.r704, g14.k2, ad 6, g14.r710, g14.k6, k_told g14 (k14 ok.1) hx (fun a c' S26 f26 ka s26 => ?_)⟩
  have g26 := f26.sh g14
  rw [i646, nI_clamp (by omega)]
  refine ⟨g26.k44, ka, by rw [g26.l44]; exact vp_in_nI c3 (by decide), fun S31 e31 => ?_⟩
  have q31 : Uq ad (fun g n => (g = 646 ∧ n = 2) ∨ (n = 80 ∧ ((782 ≤ g ∧ g ≤ 788) ∨ g = 776))) (fun n => n = 87 ∨ n = 83) (fun n => n = 44) S26 S31 := by rw [e31]; exact Uq.setQ rfl
  have g31 := q31.sh g26 (by omega)
  have j646 : S31.I 646 (ad 2) = nI ns := (by rw [e31]; exact (f26.I g14).trans i646)
  refine ⟨g31.k1, ad 2, g31.r704, g31.k2, fun S35 e35 => ?_⟩
  rw [j646, a1i] at e35
  have q35 : Uq ad (fun g n => (g = 646 ∧ n = 2) ∨ (n = 80 ∧ ((782 ≤ g ∧ g ≤ 788) ∨ g = 776))) (fun n => n = 87 ∨ n = 83) (fun n => n = 44) S26 S35 := Uq.tr q31 (Uq.of (by rw [e35]; exact Un.setI (Or.inl ⟨rfl, rfl⟩)))
  have g35 := q35.sh g26 (by omega)
  have k646 : S35.I 646 (ad 2) = nI (ns + 1) := by rw [e35]; simp only [setI_K, setI_ln, setI_R, setI_Q, setI_I, setI_J, setI_A, setI_B, setJ_K, setJ_ln, setJ_R, setJ_Q, setJ_I, setJ_J, setJ_A, setJ_B, setR_K, setR_ln, setR_R, setR_Q, setR_I, setR_J, setR_A, setR_B, setA_K, setA_ln, setA_R, setA_Q, setA_I, setA_J, setA_A, setA_B, setB_K, setB_ln, setB_R, setB_Q, setB_I, setB_J, setB_A, setB_B, setQ_K, setQ_ln, setQ_R, setQ_Q, setQ_I, setQ_J, setQ_A, setQ_B, u2_ap, and_self, true_and, and_true, Option.some.injEq, exists_eq_left', exists_eq_left, forall_eq, forall_eq_apply_imp_iff, true_or, or_true, false_or, or_false, not_true_eq_false, not_false_eq_true, false_and, if_true, if_false, reduceIte]
  refine ⟨ad 2, g35.r704, g35.k2, ?_⟩
  rw [k646, show nI (ns + 1) - 1 = nI ns from nI_pred ns]
  have k776 : S35.I 776 (ad 80) = nI ns := by rw [e35, e31]; simp only [setI_K, setI_ln, setI_R, setI_Q, setI_I, setI_J, setI_A, setI_B, setJ_K, setJ_ln, setJ_R, setJ_Q, setJ_I, setJ_J, setJ_A, setJ_B, setR_K, setR_ln, setR_R, setR_Q, setR_I, setR_J, setR_A, setR_B, setA_K, setA_ln, setA_R, setA_Q, setA_I, setA_J, setA_A, setA_B, setB_K, setB_ln, setB_R, setB_Q, setB_I, setB_J, setB_A, setB_B, setQ_K, setQ_ln, setQ_R, setQ_Q, setQ_I, setQ_J, setQ_A, setQ_B, u2_ap, Nat.reduceEqDiff, false_and, true_and, and_true, Option.some.injEq, exists_eq_left', exists_eq_left, forall_eq, forall_eq_apply_imp_iff, true_or, or_true, false_or, or_false, not_true_eq_false, not_false_eq_true, false_and, if_true, if_false, reduceIte]; exact (f26.I g14).trans i776
  have k782 : S35.I 782 (ad 80) = nI nt := by rw [e35, e31]; simp only [setI_K, setI_ln, setI_R, setI_Q, setI_I, setI_J, setI_A, setI_B, setJ_K, setJ_ln, setJ_R, setJ_Q, setJ_I, setJ_J, setJ_A, setJ_B, setR_K, setR_ln, setR_R, setR_Q, setR_I, setR_J, setR_A, setR_B, setA_K, setA_ln, setA_R, setA_Q, setA_I, setA_J, setA_A, setA_B, setB_K, setB_ln, setB_R, setB_Q, setB_I, setB_J, setB_A, setB_B, setQ_K, setQ_ln, setQ_R, setQ_Q, setQ_I, setQ_J, setQ_A, setQ_B, u2_ap, Nat.reduceEqDiff, false_and, true_and, and_true, Option.some.injEq, exists_eq_left', exists_eq_left, forall_eq, forall_eq_apply_imp_iff, true_or, or_true, false_or, or_false, not_true_eq_false, not_false_eq_true, false_and, if_true, if_false, reduceIte]; exact (f26.I g14).trans B14.2.1
  have A35 : S35.A = S26.A := by rw [e35, e31]; rfl
  have B35 : RB S35 ad T nt := ⟨g35, k782, by rw [A35, f26.A g14]; exact B14.2.2⟩
  have Q35 : ∀ s, S35.Q (ad 44) s = if s = ns then some a else S26.Q (ad 44) s := fun s => by rw [e35, e31]; simp only [setI_K, setI_ln, setI_R, setI_Q, setI_I, setI_J, setI_A, setI_B, setJ_K, setJ_ln, setJ_R, setJ_Q, setJ_I, setJ_J, setJ_A, setJ_B, setR_K, setR_ln, setR_R, setR_Q, setR_I, setR_J, setR_A, setR_B, setA_K, setA_ln, setA_R, setA_Q, setA_I, setA_J, setA_A, setA_B, setB_K, setB_ln, setB_R, setB_Q, setB_I, setB_J, setB_A, setB_B, setQ_K, setQ_ln, setQ_R, setQ_Q, setQ_I, setQ_J, setQ_A, setQ_B, u2_ap, true_and, true_and, and_true, Option.some.injEq, exists_eq_left', exists_eq_left, forall_eq, forall_eq_apply_imp_iff, true_or, or_true, false_or, or_false, not_true_eq_false, not_false_eq_true, false_and, if_true, if_false, reduceIte]
  refine ⟨g35.k80, ?_⟩
  unfold wp_X11_story wp_X11_in
  rw [if_neg c1, if_neg c2]
  show (if (1 : Int32) = 0 then _ else _)
  rw [if_neg (by decide)]
  refine ⟨g35.k80, ?_⟩
  rw [k776, if_neg n8]
  refine r_story hT t1 c3 hN5 B35 k776 (fun _ S' f u' j1 j2 j3 j4 sf => ?_) (fun z => absurd ok z)
  have q' : Uq ad (fun g n => (g = 646 ∧ n = 2) ∨ (n = 80 ∧ ((782 ≤ g ∧ g ≤ 788) ∨ g = 776))) (fun n => n = 87 ∨ n = 83) (fun n => n = 44) S26 S' := Uq.tr q35 (Uq.of (Un.mono u' (fun _ _ e => Or.inr e) (fun _ e => e) id))
  have hV := q'.1
  have Q' : S'.Q = S35.Q := u'.2.2.2.1
  refine ⟨rfl, ad, rfl, rfl, q'.sh g26 (by omega), ⟨np, nr, ns + 1, nh, dy, no, RN.tale q' g26 c3 (RN14.fr f26 g14) ((Un.I u' g35 (by omega)).trans k646) j2 (fun s hs => ?_) ?_ (s26 f sf) (fun i hi => ?_) j4⟩, (RK14.fr f26 g14).uq q' g26 ⟨(by intros; first | omega | simp), (by intros; first | omega | simp), (by intros; first | omega | simp), by omega⟩ (by omega) (by omega), ⟨0, by omega, ?_, j1, fun k hk => absurd hk (by omega)⟩, ?_, ?_, ?_, ?_⟩
  · rw [Q', Q35, if_neg (by omega)]
  · rw [Q', Q35, if_pos rfl]
  · rw [j3 i hi, A35]
  · exact (q'.I g26 (by omega)).trans ((f26.I g14).trans i708')
  · have z : RR (S'.wQ S26.Q) ad := (RR14.fr f26 g14).un hV g26 (by omega)
    exact z
  · have z : RS (S'.wQ S26.Q) ad := (RS14.fr f26 g14).un hV g26 ⟨(by intros; first | omega | simp), by omega, by omega, id⟩
    exact z
  · have z : RF (S'.wQ S26.Q) ad := (RF14.fr f26 g14).un hV g26 ⟨(by intros; first | omega | simp), by omega⟩
    exact z
  · have z : RC (S'.wQ S26.Q) ad := (RC14.fr f26 g14).un hV g26 (by omega)
    exact z
