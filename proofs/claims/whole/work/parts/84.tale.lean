/-- what the reference's whole story writes -/
def UG (ad : Nat → Nat) (S S' : PS) : Prop := Un ad (fun g n => n = 80 ∧ ((782 ≤ g ∧ g ≤ 788) ∨ g = 776)) (fun n => n = 87 ∨ n = 83) False S S'
section
variable {N nt t ns : Nat} {ad : Nat → Nat} {S : PS} {T : Nat → Nat} {g : Int32} {K : Int32 → PS → Prop}
theorem UX.ug {S' : PS} (u : UX ad S S') : UG ad S S' := Un.mono u (fun _ _ e => by omega) (fun _ e => Or.inl e) id
theorem l_149 (hns : ns < 8) : ∀ (m n k : Nat) (S : PS), k + m = 16 → m < n → Sh ad S → S.I 776 (ad 80) = nI ns → (∀ S', Un ad (fun g n => g = 776 ∧ n = 80) (fun n => n = 83) False S S' → S'.I 776 (ad 80) = nI (ns + 1) → (∀ i, i < 16 * ns + k → S'.A (ad 83) i = S.A (ad 83) i) → (∀ i, k ≤ i → i < 16 → S'.A (ad 83) (16 * ns + i) = S.A (ad 87) i) → K (nI ns) S') → wq_X11_story_149 N K n S (ad 80) (nI k) := by
  intro m
  induction m with
  | zero =>
    intro n k S hk hn h i hK
    obtain ⟨n, rfl⟩ : ∃ z, n = z + 1 := ⟨n - 1, by omega⟩
    obtain rfl : k = 16 := by omega
    rw [wq_X11_story_149.eq_2, if_pos (by decide)]
    refine ⟨h.k80, fun S43 e43 => ?_⟩
    rw [i, a1i] at e43
    have u : Un ad (fun g n => g = 776 ∧ n = 80) (fun n => n = 83) False S S43 := by rw [e43]; exact Un.setI ⟨rfl, rfl⟩
    have i43 : S43.I 776 (ad 80) = nI (ns + 1) := by rw [e43]; simp only [setI_K, setI_ln, setI_R, setI_Q, setI_I, setI_J, setI_A, setI_B, setJ_K, setJ_ln, setJ_R, setJ_Q, setJ_I, setJ_J, setJ_A, setJ_B, setR_K, setR_ln, setR_R, setR_Q, setR_I, setR_J, setR_A, setR_B, setA_K, setA_ln, setA_R, setA_Q, setA_I, setA_J, setA_A, setA_B, setB_K, setB_ln, setB_R, setB_Q, setB_I, setB_J, setB_A, setB_B, setQ_K, setQ_ln, setQ_R, setQ_Q, setQ_I, setQ_J, setQ_A, setQ_B, u2_ap, and_self, true_and, and_true, Option.some.injEq, exists_eq_left', exists_eq_left, forall_eq, forall_eq_apply_imp_iff, true_or, or_true, false_or, or_false, not_true_eq_false, not_false_eq_true, false_and, if_true, if_false, reduceIte]
    rw [i43, show nI (ns + 1) - 1 = nI ns from nI_pred ns]
    exact hK S43 u i43 (fun k _ => by rw [e43]; rfl) (fun k k1 k2 => absurd k1 (by omega))
  | succ m ih =>
    intro n k S hk hn h i hK
    obtain ⟨n, rfl⟩ : ∃ z, n = z + 1 := ⟨n - 1, by omega⟩
    have m16 : (16 : Int32) * nI ns = nI (16 * ns) := (Int32.ofNat_mul 16 ns).symm
    rw [wq_X11_story_149.eq_2, if_neg (show ¬ (16 : Int32) ≤ nI k from nI_ge (b := 16) (by omega) (by decide)), i, m16, nI_add, nI_clamp (show 16 * ns + k < 2 ^ 31 by omega), nI_clamp (show k < 2 ^ 31 by omega), a1i]
    refine ⟨h.k80, ad 83, h.r777, ad 87, h.r789, h.k87, by rw [h.l87]; exact vp_in_nI (by omega) (by decide), h.k83, by rw [h.l83]; exact vp_in_nI (by omega) (by decide), fun S52 e52 => ?_⟩
    have u : Un ad (fun g n => g = 776 ∧ n = 80) (fun n => n = 83) False S S52 := by rw [e52]; exact Un.setA rfl
    have f : ∀ i, S52.A (ad 83) i = if i = 16 * ns + k then S.A (ad 87) k else S.A (ad 83) i := fun i => by rw [e52]; simp only [setI_K, setI_ln, setI_R, setI_Q, setI_I, setI_J, setI_A, setI_B, setJ_K, setJ_ln, setJ_R, setJ_Q, setJ_I, setJ_J, setJ_A, setJ_B, setR_K, setR_ln, setR_R, setR_Q, setR_I, setR_J, setR_A, setR_B, setA_K, setA_ln, setA_R, setA_Q, setA_I, setA_J, setA_A, setA_B, setB_K, setB_ln, setB_R, setB_Q, setB_I, setB_J, setB_A, setB_B, setQ_K, setQ_ln, setQ_R, setQ_Q, setQ_I, setQ_J, setQ_A, setQ_B, u2_ap, true_and, true_and, and_true, Option.some.injEq, exists_eq_left', exists_eq_left, forall_eq, forall_eq_apply_imp_iff, true_or, or_true, false_or, or_false, not_true_eq_false, not_false_eq_true, false_and, if_true, if_false, reduceIte]
    have f2 : S52.A (ad 87) = S.A (ad 87) := u.A h (by omega)
    refine ih n (k + 1) S52 (by omega) (by omega) (u.sh h) (by rw [e52]; exact i) (fun S' u' i' b' c' => hK S' (u.tr u') i' (fun i hi => ?_) (fun i i1 i2 => ?_))
    · rw [b' i (by omega), f, if_neg (by omega)]
    · by_cases c : i = k
      · rw [c, b' _ (by omega), f, if_pos rfl]
      · rw [c' i (by omega) i2, f2]
theorem r_124 (hns : ns < 8) (hN5 : 5000 ≤ N) {v : Int32} (h : RG S ad T nt t g) (hv : v = 0 ∨ v = 1) (i : S.I 776 (ad 80) = nI ns) (h1 : v = 1 → ∀ S', UG ad S S' → S'.I 782 (ad 80) = 0 → S'.I 776 (ad 80) = nI (ns + 1) → (∀ i, i < 16 * ns → S'.A (ad 83) i = S.A (ad 83) i) → (∀ i, i < 16 → S'.A (ad 83) (16 * ns + i) = S.A (ad 87) i) → K (nI ns) S') (h0 : v = 0 → ∀ S', Un ad (fun g n => n = 80 ∧ 782 ≤ g ∧ g ≤ 788) (fun _ => False) False S S' → S'.I 782 (ad 80) = 0 → K (-100 - nI (pos T nt t)) S') : wq_X11_story_124 N K S (ad 80) (ad 80) v := by
  have g0 := h.1.1
  refine ⟨g0.k80, hv, fun S36 e36 => ⟨by rw [e36]; exact g0.k80, fun S38 e38 => ?_⟩⟩
  have u : Un ad (fun g n => n = 80 ∧ (g = 782 ∨ g = 788)) (fun _ => False) False S S38 := by rw [e38, e36]; exact Un.tr (Un.setI (by omega)) (Un.setI (by omega))
  have j1 : S38.I 788 (ad 80) = v := by rw [e38, e36]; simp only [setI_K, setI_ln, setI_R, setI_Q, setI_I, setI_J, setI_A, setI_B, setJ_K, setJ_ln, setJ_R, setJ_Q, setJ_I, setJ_J, setJ_A, setJ_B, setR_K, setR_ln, setR_R, setR_Q, setR_I, setR_J, setR_A, setR_B, setA_K, setA_ln, setA_R, setA_Q, setA_I, setA_J, setA_A, setA_B, setB_K, setB_ln, setB_R, setB_Q, setB_I, setB_J, setB_A, setB_B, setQ_K, setQ_ln, setQ_R, setQ_Q, setQ_I, setQ_J, setQ_A, setQ_B, u2_ap, Nat.reduceEqDiff, false_and, and_self, true_and, and_true, Option.some.injEq, exists_eq_left', exists_eq_left, forall_eq, forall_eq_apply_imp_iff, true_or, or_true, false_or, or_false, not_true_eq_false, not_false_eq_true, false_and, if_true, if_false, reduceIte]
  have j2 : S38.I 782 (ad 80) = 0 := by rw [e38]; simp only [setI_K, setI_ln, setI_R, setI_Q, setI_I, setI_J, setI_A, setI_B, setJ_K, setJ_ln, setJ_R, setJ_Q, setJ_I, setJ_J, setJ_A, setJ_B, setR_K, setR_ln, setR_R, setR_Q, setR_I, setR_J, setR_A, setR_B, setA_K, setA_ln, setA_R, setA_Q, setA_I, setA_J, setA_A, setA_B, setB_K, setB_ln, setB_R, setB_Q, setB_I, setB_J, setB_A, setB_B, setQ_K, setQ_ln, setQ_R, setQ_Q, setQ_I, setQ_J, setQ_A, setQ_B, u2_ap, and_self, true_and, and_true, Option.some.injEq, exists_eq_left', exists_eq_left, forall_eq, forall_eq_apply_imp_iff, true_or, or_true, false_or, or_false, not_true_eq_false, not_false_eq_true, false_and, if_true, if_false, reduceIte]
  have j3 : S38.I 784 (ad 80) = nI (pos T nt t) := (u.I g0 (by omega)).trans h.2.1.2.1
  rw [j1, j3]
  by_cases c : v = 0
  · rw [if_pos c]
    exact h0 c S38 (u.mono (fun _ _ e => by omega) (fun _ e => e) id) j2
  · rw [if_neg c]
    refine l_149 hns 16 N 0 S38 (by omega) (by omega) (u.sh g0) ((u.I g0 (by omega)).trans i) (fun S' u' i' b' c' => h1 (hv.resolve_left c) S' (Un.tr (u.mono (fun _ _ e => by omega) (fun _ e => absurd e id) id) (u'.mono (fun _ _ e => by omega) (fun _ e => Or.inr e) id)) ((u'.I (u.sh g0) (by omega)).trans j2) i' (fun i hi => ?_) (fun i hi => ?_))
    · rw [b' i (by omega), u.A g0 (by simp)]
    · rw [c' i (by omega) hi, u.A g0 (by simp)]
theorem r_104 (hT : ∀ k, T k < 256) (hns : ns < 8) (hN5 : 5000 ≤ N) (h : RG S ad T nt t g) (hg : g = 0 ∨ g = 1) (i : S.I 776 (ad 80) = nI ns) (h1 : g = 1 ∧ Cc T nt t = 258 → ∀ S', UG ad S S' → S'.I 782 (ad 80) = 0 → S'.I 776 (ad 80) = nI (ns + 1) → (∀ i, i < 16 * ns → S'.A (ad 83) i = S.A (ad 83) i) → (∀ i, i < 16 → S'.A (ad 83) (16 * ns + i) = S.A (ad 87) i) → K (nI ns) S') (h0 : ¬ (g = 1 ∧ Cc T nt t = 258) → ∀ S', Un ad (fun g n => n = 80 ∧ 782 ≤ g ∧ g ≤ 788) (fun _ => False) False S S' → S'.I 782 (ad 80) = 0 → K (-100 - nI (pos T nt t)) S') : wq_X11_story_104 N K S (ad 80) := by
  refine ⟨h.1.1.k80, ?_⟩
  rw [h.2.2, h.2.1.1]
  unfold wq_X11_story_123
  by_cases c : g = 0
  · rw [if_pos c]
    exact r_124 hns hN5 h (Or.inl rfl) i (fun z => absurd z (by decide)) (fun _ => h0 (fun z => absurd (c.symm.trans z.1) (by decide)))
  rw [if_neg c]
  by_cases d : srp T nt (pos T nt t) = 0
  · rw [if_pos d]
    exact r_124 hns hN5 h (Or.inr rfl) i (fun _ => h1 ⟨hg.resolve_left c, (t_end hT).mp d⟩) (fun z => absurd z (by decide))
  · rw [if_neg d]
    exact r_124 hns hN5 h (Or.inl rfl) i (fun z => absurd z (by decide)) (fun _ => h0 (fun z => d ((t_end hT).mpr z.2)))
/-- sixteen numbers that stand for the story that is read -/
def SF (C V : Nat → Int32) (w : Int32) (f : Nat → Int32) : Prop := f 0 = w ∧ (((pst C V).2.2.1 = 1 ∧ f 1 = -1 ∧ f 2 = (pst C V).2.2.2.2.1 ∧ (pst C V).2.2.2.1 = 0) ∨ ((pst C V).2.2.1 ≠ 1 ∧ f 1 = nI (pst C V).2.2.2.1 ∧ ∀ k, k < 3 * (pst C V).2.2.2.1 → f (2 + k) = (pst C V).2.2.2.2.2 k))
theorem r_story {w : Int32} (hT : ∀ k, T k < 256) (hn : nt ≤ 200) (hns : ns < 8) (hN5 : 5000 ≤ N) (h : RB S ad T nt) (i : S.I 776 (ad 80) = nI ns) (h1 : (pst (Cc T nt) (Vc T nt)).1 = true ∧ Cc T nt (pst (Cc T nt) (Vc T nt)).2.1 = 258 → ∀ S' f, UG ad S S' → S'.I 782 (ad 80) = 0 → S'.I 776 (ad 80) = nI (ns + 1) → (∀ i, i < 16 * ns → S'.A (ad 83) i = S.A (ad 83) i) → (∀ i, i < 16 → S'.A (ad 83) (16 * ns + i) = f i) → SF (Cc T nt) (Vc T nt) w f → K (nI ns) S') (h0 : ¬ ((pst (Cc T nt) (Vc T nt)).1 = true ∧ Cc T nt (pst (Cc T nt) (Vc T nt)).2.1 = 258) → ∀ S', Un ad (fun g n => n = 80 ∧ 782 ≤ g ∧ g ≤ 788) (fun n => n = 87) False S S' → S'.I 782 (ad 80) = 0 → K (-100 - nI (pos T nt (pst (Cc T nt) (Vc T nt)).2.1)) S') : wp_X11_begin N S (ad 80) (fun S7 => S7.K (ad 80) = 12 ∧ ∃ p10 : Nat, S7.R 789 (ad 80) = some p10 ∧ S7.K p10 = 20 ∧ vp_in 0 (S7.ln p10) ∧ ∀ S13 : PS, S13 = S7.setA p10 (0 : Int32).toNatClampNeg w → ∃ p15 : Nat, S13.R 789 (ad 80) = some p15 ∧ S13.K p15 = 20 ∧ vp_in 1 (S13.ln p15) ∧ ∀ S18 : PS, S18 = S13.setA p15 (1 : Int32).toNatClampNeg 0 → wp_X11_isWord N S18 (ad 80) (5649913681 : Int64) (fun r21 S20 => if r21 = 0 then (S20.K (ad 80) = 12 ∧ wp_X11_isWord N S20 (ad 80) (6559778 : Int64) (fun r26 S25 => if r26 = 0 then (S25.K (ad 80) = 12 ∧ wp_X11_wantClauses N S25 (ad 80) (fun S30 => wq_X11_story_104 N K S30 (ad 80))) else (S25.K (ad 80) = 12 ∧ wp_X11_advance N S25 (ad 80) (fun S55 => S55.K (ad 80) = 12 ∧ wp_X11_wantWord N S55 (ad 80) (79 : Int64) (fun S58 => S58.K (ad 80) = 12 ∧ ∃ p61 : Nat, S58.R 789 (ad 80) = some p61 ∧ S58.K p61 = 20 ∧ vp_in 1 (S58.ln p61) ∧ ∀ S64 : PS, S64 = S58.setA p61 (1 : Int32).toNatClampNeg (-1) → ∃ p66 : Nat, S64.R 789 (ad 80) = some p66 ∧ wp_X11_wantInt N S64 (ad 80) (fun r68 S67 => S67.K p66 = 20 ∧ vp_in 2 (S67.ln p66) ∧ ∀ S71 : PS, S71 = S67.setA p66 (2 : Int32).toNatClampNeg r68 → wq_X11_story_104 N K S71 (ad 80))))))) else (S20.K (ad 80) = 12 ∧ wp_X11_advance N S20 (ad 80) (fun S73 => wq_X11_story_104 N K S73 (ad 80))))) := by
  have vi : ∀ k : Nat, k < 16 → vp_in (nI k) 16 := fun k hk => vp_in_nI hk (by decide)
  -- the end, from a state where all is read
  have fin : ∀ (S1 : PS) (g : Int32), UX ad S S1 → (g = 0 ∨ g = 1) → RG S1 ad T nt (pst (Cc T nt) (Vc T nt)).2.1 g → (g = 1 ↔ (pst (Cc T nt) (Vc T nt)).1 = true) → (g = 1 → SF (Cc T nt) (Vc T nt) w (S1.A (ad 87))) → wq_X11_story_104 N K S1 (ad 80) := by
    intro S1 g u1 hg hr e1 e2
    refine r_104 hT hns hN5 hr hg ((Un.I u1 h.1 (by omega)).trans i) (fun z S' u' j1 j2 j3 j4 => h1 ⟨e1.mp z.1, z.2⟩ S' (S1.A (ad 87)) (Un.tr u1.ug u') j1 j2 (fun i hi => ?_) j4 (e2 z.1)) (fun z S' u' j1 => h0 (fun q => z ⟨e1.mpr q.1, q.2⟩) S' (Un.tr (Un.mono u1 (fun _ _ e => by omega) (fun _ e => e) id) (Un.mono u' (fun _ _ e => e) (fun _ e => absurd e id) id)) j1)
    rw [j3 i hi, Un.A u1 h.1 (by omega)]
  refine ⟨h.1.k80, fun S2 e2 S4 e4 => ?_⟩
  have u4 : UB ad S S4 := by rw [e4, e2]; exact Un.tr (Un.setI (by omega)) (Un.setI (by omega))
  have B4 : RB S4 ad T nt := ⟨Un.sh u4 h.1, (Un.I u4 h.1 (by omega)).trans h.2.1, by rw [Un.A u4 h.1 (by simp)]; exact h.2.2⟩
  have i785 : S4.I 785 (ad 80) = nI 0 := by rw [e4, e2]; simp only [setI_K, setI_ln, setI_R, setI_Q, setI_I, setI_J, setI_A, setI_B, setJ_K, setJ_ln, setJ_R, setJ_Q, setJ_I, setJ_J, setJ_A, setJ_B, setR_K, setR_ln, setR_R, setR_Q, setR_I, setR_J, setR_A, setR_B, setA_K, setA_ln, setA_R, setA_Q, setA_I, setA_J, setA_A, setA_B, setB_K, setB_ln, setB_R, setB_Q, setB_I, setB_J, setB_A, setB_B, setQ_K, setQ_ln, setQ_R, setQ_Q, setQ_I, setQ_J, setQ_A, setQ_B, u2_ap, Nat.reduceEqDiff, false_and, and_self, true_and, and_true, Option.some.injEq, exists_eq_left', exists_eq_left, forall_eq, forall_eq_apply_imp_iff, true_or, or_true, false_or, or_false, not_true_eq_false, not_false_eq_true, false_and, if_true, if_false, reduceIte]; rfl
  have i788 : S4.I 788 (ad 80) = 1 := by rw [e4]; simp only [setI_K, setI_ln, setI_R, setI_Q, setI_I, setI_J, setI_A, setI_B, setJ_K, setJ_ln, setJ_R, setJ_Q, setJ_I, setJ_J, setJ_A, setJ_B, setR_K, setR_ln, setR_R, setR_Q, setR_I, setR_J, setR_A, setR_B, setA_K, setA_ln, setA_R, setA_Q, setA_I, setA_J, setA_A, setA_B, setB_K, setB_ln, setB_R, setB_Q, setB_I, setB_J, setB_A, setB_B, setQ_K, setQ_ln, setQ_R, setQ_Q, setQ_I, setQ_J, setQ_A, setQ_B, u2_ap, and_self, true_and, and_true, Option.some.injEq, exists_eq_left', exists_eq_left, forall_eq, forall_eq_apply_imp_iff, true_or, or_true, false_or, or_false, not_true_eq_false, not_false_eq_true, false_and, if_true, if_false, reduceIte]
  refine w_advance hT hn hN5 B4 i785 (by omega) (fun S7 u7 r7 => ?_)
  have h7 : RG S7 ad T nt 0 1 := ⟨B4.ua u7, r7, (Un.I u7 B4.1 (by omega)).trans i788⟩
  refine ⟨h7.1.1.k80, ad 87, h7.1.1.r789, h7.1.1.k87, by rw [h7.1.1.l87]; exact vi 0 (by decide), fun S13 e13 => ?_⟩
  obtain ⟨h13, u13, f13⟩ := rg_setA h7 e13
  refine ⟨ad 87, h13.1.1.r789, h13.1.1.k87, by rw [h13.1.1.l87]; exact vi 1 (by decide), fun S18 e18 => ?_⟩
  obtain ⟨h18, u18, f18⟩ := rg_setA h13 e18
  have U18 : UX ad S S18 := Un.tr u4.ux (Un.tr u7.ub.ux (Un.tr u13 u18))
  have w0 : S18.A (ad 87) 0 = w := by rw [f18, if_neg (by decide), f13, if_pos (by decide)]
  have w1 : S18.A (ad 87) 1 = 0 := by rw [f18, if_pos (by decide)]
  show wp_X11_isWord N S18 (ad 80) (lN (Wn.getD 0 0)) _
  rw [t_word hT h18.1.1 h18.2.1 (i := 0) (by omega)]
  unfold SF at fin
  unfold pst at fin
  by_cases d : Cc T nt 0 = 300
  · rw [if_pos d] at fin
    rw [if_pos (show cdp T nt (pos T nt 0) = nI (300 + 0) from d), if_neg (by decide)]
    refine ⟨h18.1.1.k80, r_adv hT hn hN5 h18 (fun S73 u73 h73 => ?_)⟩
    refine fin S73 1 (Un.tr U18 u73.ub.ux) (Or.inr rfl) h73 (by simp) (fun _ => ?_)
    rw [Un.A u73 h18.1.1 (by simp)]
    exact ⟨w0, Or.inr ⟨by simp, w1, fun k hk => absurd hk (by simp)⟩⟩
  rw [if_neg d] at fin
  rw [if_neg (show ¬ cdp T nt (pos T nt 0) = nI (300 + 0) from d), if_pos rfl]
  refine ⟨h18.1.1.k80, ?_⟩
  show wp_X11_isWord N S18 (ad 80) (lN (Wn.getD 1 0)) _
  rw [t_word hT h18.1.1 h18.2.1 (i := 1) (by omega)]
  by_cases d1 : Cc T nt 0 = 301
  · rw [if_pos d1] at fin
    rw [if_pos (show cdp T nt (pos T nt 0) = nI (300 + 1) from d1), if_neg (by decide)]
    refine ⟨h18.1.1.k80, r_adv hT hn hN5 h18 (fun S55 u55 h55 => ⟨h55.1.1.k80, ?_⟩)⟩
    have A55 : S55.A (ad 87) = S18.A (ad 87) := Un.A u55 h18.1.1 (by simp)
    have U55 : UX ad S S55 := Un.tr U18 u55.ub.ux
    show wp_X11_wantWord N S55 (ad 80) (lN (Wn.getD 2 0)) _
    refine r_word hT hn hN5 h55 (Or.inr rfl) (i := 2) (by omega) (fun S58 u58 h58 => ?_)
    have A58 : S58.A (ad 87) = S18.A (ad 87) := (Un.A u58 h55.1.1 (by simp)).trans A55
    unfold pby at fin
    by_cases d2 : Cc T nt 1 = 302
    · rw [if_pos d2] at fin
      rw [if_pos ⟨rfl, d2⟩] at h58
      refine ⟨h58.1.1.k80, ad 87, h58.1.1.r789, h58.1.1.k87, by rw [h58.1.1.l87]; exact vi 1 (by decide), fun S64 e64 => ?_⟩
      obtain ⟨h64, u64, f64⟩ := rg_setA h58 e64
      refine ⟨ad 87, h64.1.1.r789, r_int hT hn hN5 h64 (Or.inr rfl) (fun S67 x u67 h67 => ?_)⟩
      rw [if_pos rfl] at h67
      have A67 : S67.A (ad 87) = S64.A (ad 87) := Un.A u67 h64.1.1 (by simp)
      have U67 : UX ad S S67 := Un.tr U55 (Un.tr u58.ux (Un.tr u64 u67.ux))
      have g67 := Un.sh u67 h64.1.1
      refine ⟨g67.k87, by rw [g67.l87]; exact vi 2 (by decide), fun S71 e71 => ?_⟩
      by_cases d3 : (pin (Cc T nt) (Vc T nt) 2).1 = true
      · rw [if_pos (show (pin (fun k => cdp T nt (pos T nt k)) (fun k => vlp T nt (pos T nt k)) (0 + 1 + 1)).1 = true from d3)] at h67
        obtain ⟨h67, ex⟩ := h67
        obtain ⟨h71, u71, f71⟩ := rg_setA h67 e71
        refine fin S71 1 (Un.tr U67 u71) (Or.inr rfl) h71 ⟨fun _ => d3, fun _ => rfl⟩ (fun _ => ⟨?_, Or.inl ⟨rfl, ?_, ?_, rfl⟩⟩)
        · rw [f71, if_neg (by decide), A67, f64, if_neg (by decide), A58]; exact w0
        · rw [f71, if_neg (by decide), A67, f64, if_pos (by decide)]
        · rw [f71, if_pos (by decide)]; exact ex
      · rw [if_neg (show ¬ (pin (fun k => cdp T nt (pos T nt k)) (fun k => vlp T nt (pos T nt k)) (0 + 1 + 1)).1 = true from d3)] at h67
        obtain ⟨h71, u71, f71⟩ := rg_setA h67 e71
        exact fin S71 0 (Un.tr U67 u71) (Or.inl rfl) h71 ⟨fun z => absurd z (by decide), fun z => absurd z d3⟩ (fun z => absurd z (by decide))
    · rw [if_neg d2] at fin
      rw [if_neg (fun z => d2 z.2)] at h58
      refine ⟨h58.1.1.k80, ad 87, h58.1.1.r789, h58.1.1.k87, by rw [h58.1.1.l87]; exact vi 1 (by decide), fun S64 e64 => ?_⟩
      obtain ⟨h64, u64, f64⟩ := rg_setA h58 e64
      refine ⟨ad 87, h64.1.1.r789, r_int0 hT hn hN5 h64 (fun S67 x u67 h67 => ?_)⟩
      have U67 : UX ad S S67 := Un.tr U55 (Un.tr u58.ux (Un.tr u64 u67.ux))
      have g67 := h67.1.1
      refine ⟨g67.k87, by rw [g67.l87]; exact vi 2 (by decide), fun S71 e71 => ?_⟩
      obtain ⟨h71, u71, f71⟩ := rg_setA h67 e71
      exact fin S71 0 (Un.tr U67 u71) (Or.inl rfl) h71 ⟨fun z => absurd z (by decide), fun z => absurd z (by simp)⟩ (fun z => absurd z (by decide))
  · rw [if_neg d1] at fin
    rw [if_neg (show ¬ cdp T nt (pos T nt 0) = nI (300 + 1) from d1), if_pos rfl]
    refine ⟨h18.1.1.k80, ?_⟩
    unfold wp_X11_wantClauses
    refine r_clauses hT hn hN5 3 N 0 0 S18 (by omega) (by omega) h18 (fun S30 u30 h30 => ?_)
    by_cases e : (pcs (Cc T nt) (Vc T nt) (3 + 1) 0).1 = true
    · rw [if_pos e] at h30
      obtain ⟨h30, b30, c30, d30⟩ := h30
      refine fin S30 1 (Un.tr U18 u30) (Or.inr rfl) h30 ⟨fun _ => e, fun _ => rfl⟩ (fun _ => ⟨?_, Or.inr ⟨by show ¬ (2 : Int32) = 1; decide, ?_, fun k hk => ?_⟩⟩)
      · rw [b30 0 (by omega) (by decide)]; exact w0
      · rw [c30, Nat.zero_add]
      · exact d30 k hk
    · rw [if_neg e] at h30
      exact fin S30 0 (Un.tr U18 u30) (Or.inl rfl) h30 ⟨fun z => absurd z (by decide), fun z => absurd z e⟩ (fun z => absurd z (by decide))
end
