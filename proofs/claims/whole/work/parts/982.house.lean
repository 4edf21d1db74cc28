section
variable {ad : Nat → Nat} {S S1 : PS} {np nr ns nh dy no a c : Nat} {m : Int32}
theorem RN.rule (hq : Uq ad (fun g n => (g = 647 ∧ n = 2) ∨ (n = 80 ∧ ((782 ≤ g ∧ g ≤ 788) ∨ (797 ≤ g ∧ g ≤ 801) ∨ g = 778))) (fun n => n = 90 ∨ n = 91 ∨ n = 84 ∨ n = 85) (fun n => n = 45) S S1) (k : Sh ad S) (hnh : nh < 8) (hp : RN S ad np nr ns nh dy no) (i1 : S1.I 647 (ad 2) = nI (nh + 1)) (i2 : S1.I 778 (ad 80) = nI (nh + 1)) (q1 : ∀ s, s < nh → S1.Q (ad 45) s = S.Q (ad 45) s) (q2 : S1.Q (ad 45) nh = some a) (a1 : ∀ i, i < nh → S1.A (ad 84) i = S.A (ad 84) i) (a2 : S1.A (ad 84) nh = m) (a3 : ∀ i, i < 200 * nh → S1.A (ad 85) i = S.A (ad 85) i) (s : HR S ad a c m (fun k => S1.A (ad 85) (200 * nh + k))) : RN S1 ad np nr ns (nh + 1) dy no := by
  obtain ⟨h1, h2, h3, h4, h5, h6, h7⟩ := hp
  have hU := hq.1
  have sr : ∀ {a c : Nat} {f : Nat → Int32}, SR S ad a c f → SR S1 ad a c f := fun z => SR.un hU (fun n => ⟨by omega, by omega, by omega⟩) z
  have hr : ∀ {a c : Nat} {m : Int32} {f : Nat → Int32}, HR S ad a c m f → HR S1 ad a c m f := fun z => HR.un hU z
  refine ⟨⟨h1.1, h1.2.1, h1.2.2.1, by omega, h1.2.2.2.2⟩, ?_, ?_, fun i hi => ?_, ?_, ?_, fun s' hs => ?_⟩
  · refine ⟨(hq.I k (by omega)).trans h2.1, (hq.I k (by omega)).trans h2.2.1, ?_, ?_, (hq.I k (by omega)).trans h2.2.2.2.2.1, (hq.I k (by omega)).trans h2.2.2.2.2.2.1, (hq.I k (by omega)).trans h2.2.2.2.2.2.2.1, i1⟩
    · exact ((hq.I k (g := 642) (n := 2) (by omega)).trans h2.2.2.1).trans (hq.I k (g := 770) (n := 80) (by omega)).symm
    · exact ((hq.I k (g := 643) (n := 2) (by omega)).trans h2.2.2.2.1).trans (hq.I k (g := 771) (n := 80) (by omega)).symm
  · exact ⟨(hq.I k (g := 768) (n := 80) (by omega)).trans h3.1, (hq.I k (g := 769) (n := 80) (by omega)).trans h3.2.1, (hq.I k (g := 772) (n := 80) (by omega)).trans h3.2.2.1, (hq.I k (g := 774) (n := 80) (by omega)).trans h3.2.2.2.1, (hq.I k (g := 776) (n := 80) (by omega)).trans h3.2.2.2.2.1, i2⟩
  · rw [hq.A k (n := 81) (by omega)]
    exact (h4 i hi).un hU k (fun j hj => by omega)
  · rw [hq.A k (n := 82) (by omega), hq.A k (n := 41 + 10 * 0) (by omega), hq.A k (n := 42 + 10 * 0) (by omega), hq.A k (n := 43 + 10 * 0) (by omega)]
    exact h5
  · rw [hq.A k (n := 83) (by omega), hq.Q k (n := 44 + 10 * 0) (by omega)]
    exact fun s hs => by obtain ⟨a, c, q, r⟩ := h6 s hs; exact ⟨a, c, q, sr r⟩
  · by_cases e : s' = nh
    · rw [e]
      refine ⟨a, c, q2, ?_⟩
      rw [a2]
      exact hr s
    · obtain ⟨a', c', p1, p2⟩ := h7 s' (by omega)
      refine ⟨a', c', (q1 s' (by omega)).trans p1, ?_⟩
      rw [a1 s' (by omega)]
      exact HR.congr (fun j hj => (a3 _ (by omega)).symm) (hr p2)
end
theorem case_26 {N x mm : Nat} {S : PS} (hN5 : 5000 ≤ N) (hI : InvR x mm S) : lc_26 N x mm (InvR x mm) S := by
  have hI0 := hI
  obtain ⟨ad, rfl, rfl, h, ⟨np, nr, ns, nh, dy, no, hN⟩, h2, h3, h4, h5, h6, h7⟩ := hI
  have hN0 := hN
  obtain ⟨hb, hc, hm, hP⟩ := hN
  have e647 : S.I 647 (ad 2) = nI nh := hc.2.2.2.2.2.2.2
  have e778 : S.I 778 (ad 80) = nI nh := hm.2.2.2.2.2
  refine ⟨h.k1, h.k1, ad 2, h.r704, h.k2, ?_⟩
  by_cases c3 : nh < 8
  case neg =>
    obtain rfl : nh = 8 := by omega
    rw [e647, if_neg (by decide)]
    refine ⟨h.k80, h.k80, ?_⟩
    rw [e778, if_pos (show nI 8 = 8 from rfl)]
    exact ⟨rfl, hI0⟩
  rw [e647, if_pos (show nI nh < 8 from nI_lt (b := 8) c3 (by decide))]
  obtain ⟨nt, t1, t2, t3, t4⟩ := id h3
  obtain ⟨T, hT, T4, T86⟩ : ∃ T : Nat → Nat, (∀ k, T k < 256) ∧ (∀ k, k < nt → S.A (ad 4) k = nI (T k)) ∧ ∀ k, k < nt → S.A (ad 86) k = nI (T k) := by
    refine ⟨fun k => if k < nt then (S.A (ad 86) k).toNatClampNeg else 0, fun k => ?_, fun k hk => ?_, fun k hk => ?_⟩
    · show (if k < nt then _ else 0) < 256
      by_cases e : k < nt
      · rw [if_pos e]
        obtain ⟨-, v, v1, v2⟩ := t4 k e
        rw [v2, nI_clamp (by omega)]
        exact v1
      · rw [if_neg e]; decide
    · obtain ⟨e, v, v1, v2⟩ := t4 k hk
      show _ = nI (if k < nt then _ else 0)
      rw [if_pos hk, e, v2, nI_clamp (by omega)]
    · obtain ⟨e, v, v1, v2⟩ := t4 k hk
      show _ = nI (if k < nt then _ else 0)
      rw [if_pos hk, v2, nI_clamp (by omega)]
  refine w_read hT t1 hN5 h t2 T4 (fun S9 c u9 b1 b2 b3 tk i580 i708 => ?_)
  have g9 := u9.sh h
  refine ⟨g9.k1, ad 7, g9.r711, g9.k7, g9.k7, fun S10 e10 => ?_⟩
  have u10 : Un ad (fun g n => g = 258 ∧ n = 7) (fun _ => False) False S9 S10 := by rw [e10]; exact Un.setI ⟨rfl, rfl⟩
  have h10 : CT S10 ad T nt c 0 := CT.un ⟨g9, tk, i580, by omega, b1, b2, b3⟩ u10 (by omega) (by simp)
  have o10 : KO S10 ad [] := ⟨by rw [e10]; simp only [setI_K, setI_ln, setI_R, setI_Q, setI_I, setI_J, setI_A, setI_B, setJ_K, setJ_ln, setJ_R, setJ_Q, setJ_I, setJ_J, setJ_A, setJ_B, setR_K, setR_ln, setR_R, setR_Q, setR_I, setR_J, setR_A, setR_B, setA_K, setA_ln, setA_R, setA_Q, setA_I, setA_J, setA_A, setA_B, setB_K, setB_ln, setB_R, setB_Q, setB_I, setB_J, setB_A, setB_B, setQ_K, setQ_ln, setQ_R, setQ_Q, setQ_I, setQ_J, setQ_A, setQ_B, u2_ap, and_self, true_and, and_true, Option.some.injEq, exists_eq_left', exists_eq_left, forall_eq, forall_eq_apply_imp_iff, true_or, or_true, false_or, or_false, not_true_eq_false, not_false_eq_true, false_and, if_true, if_false, reduceIte]; rfl, trivial⟩
  have g10 := h10.1
  have U10 : Un ad (fun g n => (n = 5 ∧ (g = 579 ∨ g = 580)) ∨ (n = 1 ∧ g = 708) ∨ (n = 7 ∧ g = 258)) (fun n => (16 ≤ n ∧ n ≤ 18) ∨ n = 20) False S S10 := Un.tr (u9.mono (fun _ _ e => by omega) (fun _ e => by omega) id) (u10.mono (fun _ _ e => by omega) (fun _ e => absurd e id) id)
  have bad : ∀ (S14 : PS) (t' : Nat), UR ad S10 S14 → CT S14 ad T nt c t' → MU (Cc T nt) (Vc T nt) 0 [] [] 0 false 0 (badR t') → wq_X10_house_50 N (fun r3 S2 => S2.K (ad 80) = 12 ∧ wp_X11_house N S2 (ad 80) (fun r6 S5 => r3 = r6 ∧ InvR (ad 1) (ad 80) S5)) S14 (ad 1) := by
    intro S14 t' u14 h14 hM
    have hU : Un ad (fun g n => (n = 5 ∧ (g = 579 ∨ g = 580)) ∨ (n = 1 ∧ g = 708) ∨ (n = 7 ∧ g = 258)) (fun n => (16 ≤ n ∧ n ≤ 18) ∨ n = 20) False S S14 := U10.tr (Un.mono u14 (fun _ _ e => by omega) (fun _ e => by omega) id)
    have g14 := h14.1
    have i708' : S14.I 708 (ad 1) = 0 := (Un.I u14 g10 (by omega)).trans ((u10.I g9 (by omega)).trans i708)
    have i778 : S14.I 778 (ad 80) = nI nh := (hU.I h (by omega)).trans e778
    have B14 : RB S14 ad T nt := ⟨g14, (hU.I h (by omega)).trans t3, by rw [hU.A h (by omega)]; exact T86⟩
    have RN14 : RN S14 ad np nr ns nh dy no := hN0.un hU h ⟨(by intros; first | omega | simp), (by intros; first | omega | simp), (by intros; first | omega | simp), by omega⟩ (by intros; first | omega | simp) (by omega)
    have RK14 : RK S14 ad := h2.un hU h ⟨(by intros; first | omega | simp), (by intros; first | omega | simp), (by intros; first | omega | simp), (by first | omega | (simp <;> intros <;> omega))⟩ (by first | omega | (simp <;> intros <;> omega))
    have RR14 : RR S14 ad := h4.un hU h (by first | omega | (simp <;> intros <;> omega))
    have RS14 : RS S14 ad := h5.un hU h (by first | omega | (simp <;> intros <;> omega))
    have RF14 : RF S14 ad := h6.un hU h (by first | omega | (simp <;> intros <;> omega))
    have RC14 : RC S14 ad := h7.un hU h (by first | omega | (simp <;> intros <;> omega))
    refine ⟨g14.k1, ad 5, g14.r709, g14.k5, ?_⟩
    rw [k_place h14]
    refine ⟨g14.k80, r_house hT t1 hN5 b1 b2 c3 B14 i778 hM (Nat.zero_le _) (fun z => absurd z (show ¬ false = true by decide)) (fun _ S' u' j => ⟨rfl, ad, rfl, rfl, Un.sh u' g14, ⟨np, nr, ns, nh, dy, no, RN14.un u' g14 ⟨(by intros; first | omega | simp), (by intros; first | omega | simp), (by intros; first | omega | simp), by omega⟩ (by intros; first | omega | simp) (by omega)⟩, RK14.un u' g14 ⟨(by intros; first | omega | simp), (by intros; first | omega | simp), (by intros; first | omega | simp), by omega⟩ (by omega), ⟨0, by omega, (Un.I u' g14 (by omega)).trans i708', j, fun k hk => absurd hk (by omega)⟩, RR14.un u' g14 (by omega), RS14.un u' g14 ⟨(by intros; first | omega | simp), by omega, by omega, id⟩, RF14.un u' g14 ⟨(by intros; first | omega | simp), by omega⟩, RC14.un u' g14 (by omega)⟩)⟩
  refine ⟨g10.k1, ad 7, g10.r711, g10.k7, k_either (p := []) (d := 0) (x := false) (Z := fun r => MU (Cc T nt) (Vc T nt) 0 [] [] 0 false 0 r) hN5 (k_one hT hN5 6) (by omega) (by omega) (show bnd 0 < 1 by decide) (show (0 : Int32) ≠ 40003 by decide) (show (0 : Int32) ≠ 40002 by decide) h10 o10 (Nat.le_refl 0) (fun r hr => hr) (fun S14 t' u14 h14 z14 => ?_) (fun S14 t' o x' u14 h14 o14 l14 w14 m5 m6 z14 => ?_)⟩
  · rw [if_pos rfl]
    exact bad S14 t' u14 h14 z14
  rw [if_neg (by decide)]
  rw [List.append_nil] at o14 z14
  have hU : Un ad (fun g n => (n = 5 ∧ (g = 579 ∨ g = 580)) ∨ (n = 1 ∧ g = 708) ∨ (n = 7 ∧ g = 258)) (fun n => (16 ≤ n ∧ n ≤ 18) ∨ n = 20) False S S14 := U10.tr (Un.mono u14 (fun _ _ e => by omega) (fun _ e => by omega) id)
  have g14 := h14.1
  refine ⟨g14.k1, ad 5, g14.r709, g14.k5, ?_⟩
  rw [k_now h14]
  by_cases ok : Cc T nt t' = 258
  case neg =>
    rw [if_neg (show ¬ cdp T nt (pos T nt t') = 258 from ok), if_pos rfl]
    exact bad S14 t' u14 h14 (z14 _ (MU.ebad m5 m6 (fun _ p' z => by cases z) (fun z => absurd z ok)))
  have hM : MU (Cc T nt) (Vc T nt) 0 [] [] 0 false 0 (okR o) := z14 _ (MU.eok ok rfl)
  have lo : o.length ≤ 200 := by
    have := h14.2.2.2.1
    omega
  have i708' : S14.I 708 (ad 1) = 0 := (Un.I u14 g10 (by omega)).trans ((u10.I g9 (by omega)).trans i708)
  have i778 : S14.I 778 (ad 80) = nI nh := (hU.I h (by omega)).trans e778
  have i647 : S14.I 647 (ad 2) = nI nh := (hU.I h (by omega)).trans e647
  have B14 : RB S14 ad T nt := ⟨g14, (hU.I h (by omega)).trans t3, by rw [hU.A h (by omega)]; exact T86⟩
  have RN14 : RN S14 ad np nr ns nh dy no := hN0.un hU h ⟨(by intros; first | omega | simp), (by intros; first | omega | simp), (by intros; first | omega | simp), by omega⟩ (by intros; first | omega | simp) (by omega)
  have RK14 : RK S14 ad := h2.un hU h ⟨(by intros; first | omega | simp), (by intros; first | omega | simp), (by intros; first | omega | simp), (by first | omega | (simp <;> intros <;> omega))⟩ (by first | omega | (simp <;> intros <;> omega))
  have RR14 : RR S14 ad := h4.un hU h (by first | omega | (simp <;> intros <;> omega))
  have RS14 : RS S14 ad := h5.un hU h (by first | omega | (simp <;> intros <;> omega))
  have RF14 : RF S14 ad := h6.un hU h (by first | omega | (simp <;> intros <;> omega))
  have RC14 : RC S14 ad := h7.un hU h (by first | omega | (simp <;> intros <;> omega))
  rw [if_pos (show cdp T nt (pos T nt t') = 258 from ok), if_neg (by decide)]
  refine ⟨g14.k1, ad 2, g14.r704, g14.k2, ad 45, g14.r653_2, ad 2, g14.r704, g14.k2, ad 7, g14.r711, g14.k7, k_told3 g14 o14 lo (w14 []) (fun a c' S26 f26 ka s26 => ?_)⟩
  have g26 := f26.sh g14
  rw [i647, nI_clamp (by omega)]
  refine ⟨g26.k45, ka, by rw [g26.l45]; exact vp_in_nI c3 (by decide), fun S31 e31 => ?_⟩
  have q31 : Uq ad (fun g n => (g = 647 ∧ n = 2) ∨ (n = 80 ∧ ((782 ≤ g ∧ g ≤ 788) ∨ (797 ≤ g ∧ g ≤ 801) ∨ g = 778))) (fun n => n = 90 ∨ n = 91 ∨ n = 84 ∨ n = 85) (fun n => n = 45) S26 S31 := by rw [e31]; exact Uq.setQ rfl
  have g31 := q31.sh g26 (by omega)
  have j647 : S31.I 647 (ad 2) = nI nh := (by rw [e31]; exact (f26.I g14).trans i647)
  refine ⟨g31.k1, ad 2, g31.r704, g31.k2, fun S35 e35 => ?_⟩
  rw [j647, a1i] at e35
  have q35 : Uq ad (fun g n => (g = 647 ∧ n = 2) ∨ (n = 80 ∧ ((782 ≤ g ∧ g ≤ 788) ∨ (797 ≤ g ∧ g ≤ 801) ∨ g = 778))) (fun n => n = 90 ∨ n = 91 ∨ n = 84 ∨ n = 85) (fun n => n = 45) S26 S35 := Uq.tr q31 (Uq.of (by rw [e35]; exact Un.setI (Or.inl ⟨rfl, rfl⟩)))
  have g35 := q35.sh g26 (by omega)
  have k647 : S35.I 647 (ad 2) = nI (nh + 1) := by rw [e35]; simp only [setI_K, setI_ln, setI_R, setI_Q, setI_I, setI_J, setI_A, setI_B, setJ_K, setJ_ln, setJ_R, setJ_Q, setJ_I, setJ_J, setJ_A, setJ_B, setR_K, setR_ln, setR_R, setR_Q, setR_I, setR_J, setR_A, setR_B, setA_K, setA_ln, setA_R, setA_Q, setA_I, setA_J, setA_A, setA_B, setB_K, setB_ln, setB_R, setB_Q, setB_I, setB_J, setB_A, setB_B, setQ_K, setQ_ln, setQ_R, setQ_Q, setQ_I, setQ_J, setQ_A, setQ_B, u2_ap, and_self, true_and, and_true, Option.some.injEq, exists_eq_left', exists_eq_left, forall_eq, forall_eq_apply_imp_iff, true_or, or_true, false_or, or_false, not_true_eq_false, not_false_eq_true, false_and, if_true, if_false, reduceIte]
  refine ⟨ad 2, g35.r704, g35.k2, ?_⟩
  rw [k647, show nI (nh + 1) - 1 = nI nh from nI_pred nh]
  have k778 : S35.I 778 (ad 80) = nI nh := by rw [e35, e31]; simp only [setI_K, setI_ln, setI_R, setI_Q, setI_I, setI_J, setI_A, setI_B, setJ_K, setJ_ln, setJ_R, setJ_Q, setJ_I, setJ_J, setJ_A, setJ_B, setR_K, setR_ln, setR_R, setR_Q, setR_I, setR_J, setR_A, setR_B, setA_K, setA_ln, setA_R, setA_Q, setA_I, setA_J, setA_A, setA_B, setB_K, setB_ln, setB_R, setB_Q, setB_I, setB_J, setB_A, setB_B, setQ_K, setQ_ln, setQ_R, setQ_Q, setQ_I, setQ_J, setQ_A, setQ_B, u2_ap, Nat.reduceEqDiff, false_and, true_and, and_true, Option.some.injEq, exists_eq_left', exists_eq_left, forall_eq, forall_eq_apply_imp_iff, true_or, or_true, false_or, or_false, not_true_eq_false, not_false_eq_true, false_and, if_true, if_false, reduceIte]; exact (f26.I g14).trans i778
  have k782 : S35.I 782 (ad 80) = nI nt := by rw [e35, e31]; simp only [setI_K, setI_ln, setI_R, setI_Q, setI_I, setI_J, setI_A, setI_B, setJ_K, setJ_ln, setJ_R, setJ_Q, setJ_I, setJ_J, setJ_A, setJ_B, setR_K, setR_ln, setR_R, setR_Q, setR_I, setR_J, setR_A, setR_B, setA_K, setA_ln, setA_R, setA_Q, setA_I, setA_J, setA_A, setA_B, setB_K, setB_ln, setB_R, setB_Q, setB_I, setB_J, setB_A, setB_B, setQ_K, setQ_ln, setQ_R, setQ_Q, setQ_I, setQ_J, setQ_A, setQ_B, u2_ap, Nat.reduceEqDiff, false_and, true_and, and_true, Option.some.injEq, exists_eq_left', exists_eq_left, forall_eq, forall_eq_apply_imp_iff, true_or, or_true, false_or, or_false, not_true_eq_false, not_false_eq_true, false_and, if_true, if_false, reduceIte]; exact (f26.I g14).trans B14.2.1
  have A35 : S35.A = S26.A := by rw [e35, e31]; rfl
  have B35 : RB S35 ad T nt := ⟨g35, k782, by rw [A35, f26.A g14]; exact B14.2.2⟩
  have Q35 : ∀ s, S35.Q (ad 45) s = if s = nh then some a else S26.Q (ad 45) s := fun s => by rw [e35, e31]; simp only [setI_K, setI_ln, setI_R, setI_Q, setI_I, setI_J, setI_A, setI_B, setJ_K, setJ_ln, setJ_R, setJ_Q, setJ_I, setJ_J, setJ_A, setJ_B, setR_K, setR_ln, setR_R, setR_Q, setR_I, setR_J, setR_A, setR_B, setA_K, setA_ln, setA_R, setA_Q, setA_I, setA_J, setA_A, setA_B, setB_K, setB_ln, setB_R, setB_Q, setB_I, setB_J, setB_A, setB_B, setQ_K, setQ_ln, setQ_R, setQ_Q, setQ_I, setQ_J, setQ_A, setQ_B, u2_ap, true_and, true_and, and_true, Option.some.injEq, exists_eq_left', exists_eq_left, forall_eq, forall_eq_apply_imp_iff, true_or, or_true, false_or, or_false, not_true_eq_false, not_false_eq_true, false_and, if_true, if_false, reduceIte]
  refine ⟨g35.k80, r_house hT t1 hN5 b1 b2 c3 B35 k778 hM lo (fun _ S' u' j1 j2 j3 j4 j5 j6 => ?_) (fun z => absurd rfl z)⟩
  have q' : Uq ad (fun g n => (g = 647 ∧ n = 2) ∨ (n = 80 ∧ ((782 ≤ g ∧ g ≤ 788) ∨ (797 ≤ g ∧ g ≤ 801) ∨ g = 778))) (fun n => n = 90 ∨ n = 91 ∨ n = 84 ∨ n = 85) (fun n => n = 45) S26 S' := Uq.tr q35 (Uq.of (Un.mono u' (fun _ _ e => Or.inr e) (fun _ e => e) id))
  have hV := q'.1
  have Q' : S'.Q = S35.Q := u'.2.2.2.1
  refine ⟨rfl, ad, rfl, rfl, q'.sh g26 (by omega), ⟨np, nr, ns, nh + 1, dy, no, RN.rule q' g26 c3 (RN14.fr f26 g14) ((Un.I u' g35 (by omega)).trans k647) j2 (fun s hs => ?_) ?_ (fun i hi => ?_) j4 (fun i hi => ?_) (s26 _ j6)⟩, (RK14.fr f26 g14).uq q' g26 ⟨(by intros; first | omega | simp), (by intros; first | omega | simp), (by intros; first | omega | simp), by omega⟩ (by omega) (by omega), ⟨0, by omega, ?_, j1, fun k hk => absurd hk (by omega)⟩, ?_, ?_, ?_, ?_⟩
  · rw [Q', Q35, if_neg (by omega)]
  · rw [Q', Q35, if_pos rfl]
  · rw [j3 i hi, A35]
  · rw [j5 i hi, A35]
  · exact (q'.I g26 (by omega)).trans ((f26.I g14).trans i708')
  · have z : RR (S'.wQ S26.Q) ad := (RR14.fr f26 g14).un hV g26 (by omega)
    exact z
  · have z : RS (S'.wQ S26.Q) ad := (RS14.fr f26 g14).un hV g26 ⟨(by intros; first | omega | simp), by omega, by omega, id⟩
    exact z
  · have z : RF (S'.wQ S26.Q) ad := (RF14.fr f26 g14).un hV g26 ⟨(by intros; first | omega | simp), by omega⟩
    exact z
  · have z : RC (S'.wQ S26.Q) ad := (RC14.fr f26 g14).un hV g26 (by omega)
    exact z
