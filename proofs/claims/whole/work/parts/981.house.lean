theorem HR.congr {S : PS} {ad : Nat → Nat} {a c : Nat} {m : Int32} {f f' : Nat → Int32} (e : ∀ k, k < 200 → f k = f' k) (h : HR S ad a c m f) : HR S ad a c m f' := by
  obtain ⟨h1, h2, h3, h4, n, n1, n2, n3, n4, n5, n6⟩ := h
  exact ⟨h1, h2, h3, h4, n, n1, n2, n3, n4, fun k hk => by rw [n5 k hk, e k (by omega)], wrn_congr n 0 _ _ (fun i _ hi => e i (by omega)) n6⟩
theorem set_set {S : PS} {g a : Nat} {v : Int32} : (S.setI g a v).setI g a v = S.setI g a v := by
  have : u2 (u2 S.I g a v) g a v = u2 S.I g a v := by
    funext x y
    rw [u2_ap (u2 S.I g a v), u2_ap S.I]
    by_cases z : x = g ∧ y = a
    · simp only [if_pos z]
    · simp only [if_neg z]
  show (S.K, S.ln, S.R, S.Q, u2 (u2 S.I g a v) g a v, S.J, S.A, S.B) = (S.K, S.ln, S.R, S.Q, u2 S.I g a v, S.J, S.A, S.B)
  rw [this]
theorem one_set {N a : Nat} {S : PS} {K : PS → Prop} (h : wp_X11_beginOne N (S.setI 801 a 0) a K) : wp_X11_beginOne N S a K := by
  obtain ⟨h1, h2⟩ := h
  refine ⟨h1, fun S2 e => h2 S2 ?_⟩
  rw [e, set_set]
section
variable {N nt c n : Nat} {ad : Nat → Nat} {S : PS} {T : Nat → Nat} {K : PS → Prop}
/-- the reference's reading from its start, whatever it compared before -/
theorem j_first (hT : ∀ k, T k < 256) (hn : nt ≤ 200) (hN5 : 5000 ≤ N) (c1 : c ≤ 200) (c2 : pos T nt c = nt) (hn' : 802 ≤ n) {r : Rs} (h : RG S ad T nt 0 1) (i1 : S.I 797 (ad 80) = nI 0) (i2 : S.I 798 (ad 80) = nI 0) (i3 : S.I 799 (ad 80) = nI 0) (i4 : S.I 800 (ad 80) = nI 0) (hM : MU (Cc T nt) (Vc T nt) 0 [] [] 0 false 0 r) (hK : ∀ S', UJ ad S S' → FinR S' ad T nt r → K S') : wq_X11_wantRule_20 N K n S (ad 80) := by
  have s := h.1.1
  obtain ⟨S2, e2⟩ : ∃ z, z = S.setI 801 (ad 80) 0 := ⟨_, rfl⟩
  have u2 : UJ ad S S2 := by rw [e2]; exact Un.setI (by omega)
  have u3 : Un ad (fun g n => n = 80 ∧ g = 801) (fun _ => False) False S S2 := by rw [e2]; exact Un.setI (by omega)
  have h2 : MR S2 ad T nt 0 [] [] 0 false 0 1 := ⟨rg_far (by omega) h e2, (u3.I s (by omega)).trans i1, trivial, (u3.I s (by omega)).trans i2, trivial, (u3.I s (by omega)).trans i3, (u3.I s (by omega)).trans i4, by rw [e2]; simp only [setI_K, setI_ln, setI_R, setI_Q, setI_I, setI_J, setI_A, setI_B, setJ_K, setJ_ln, setJ_R, setJ_Q, setJ_I, setJ_J, setJ_A, setJ_B, setR_K, setR_ln, setR_R, setR_Q, setR_I, setR_J, setR_A, setR_B, setA_K, setA_ln, setA_R, setA_Q, setA_I, setA_J, setA_A, setA_B, setB_K, setB_ln, setB_R, setB_Q, setB_I, setB_J, setB_A, setB_B, setQ_K, setQ_ln, setQ_R, setQ_Q, setQ_I, setQ_J, setQ_A, setQ_B, u2_ap, and_self, true_and, and_true, Option.some.injEq, exists_eq_left', exists_eq_left, forall_eq, forall_eq_apply_imp_iff, true_or, or_true, false_or, or_false, not_true_eq_false, not_false_eq_true, false_and, if_true, if_false, reduceIte]; rfl⟩
  have L := j_loop (N := N) (ad := ad) hT hn hN5 c1 c2 n 0 [] [] 0 false 0 S2 r K (by rw [if_pos (Or.inl rfl)]; omega) (by omega) rfl (by omega) (Nat.le_refl 0) (by omega) h2 hM (fun S' u' f' => hK S' (Un.tr u2 u') f')
  obtain ⟨n, rfl⟩ : ∃ z, n = z + 1 := ⟨n - 1, by omega⟩
  rw [wq_X11_wantRule_20.eq_2] at L ⊢
  obtain ⟨-, L⟩ := L
  refine ⟨s.k80, ?_⟩
  rw [h2.1.2.2, if_neg (by decide), h2.1.2.1.1] at L
  rw [h.2.2, if_neg (by decide), h.2.1.1]
  by_cases e : srp T nt (pos T nt 0) = 0
  · rw [if_pos e, i4, if_neg (by decide)]
    have st : ∀ (m : Nat) (K' : PS → Prop), 0 < m → K' S → wq_X11_settle_0 N K' m S (ad 80) 1 := by
      intro m K' hm k
      obtain ⟨m, rfl⟩ : ∃ z, m = z + 1 := ⟨m - 1, by omega⟩
      have top : ∀ K2 : Int32 → PS → Prop, K2 0 S → wp_X11_top N S (ad 80) K2 := by
        intro K2 k2
        refine ⟨s.k80, ?_⟩
        rw [i2, if_pos (show nI 0 = 0 from rfl)]
        exact k2
      rw [wq_X11_settle_0.eq_2]
      refine ⟨s.k80, top _ ?_⟩
      rw [j_binds, if_pos (show nI (bnd 0) < 1 by decide)]
      exact k
    refine ⟨s.k80, ?_⟩
    rw [h.2.2, if_neg (by decide)]
    unfold wp_X11_settle
    refine st N _ (by omega) ⟨s.k80, ?_⟩
    rw [i4, if_neg (by decide)]
    refine ⟨s.k80, Or.inl rfl, fun S19 e19 => ?_⟩
    obtain ⟨h19, u19⟩ := rg_set h e19
    have e' : Cc T nt 0 = 258 := (t_end hT).mp e
    have er : r = badR 0 := by
      rcases hM.inv with ⟨z, k⟩ | ⟨z, k⟩ | ⟨z, k⟩ | ⟨z, k⟩
      · rcases k with ⟨a, b, m⟩ | ⟨a, b, m⟩ | ⟨a, b, m⟩ | ⟨a, b, e1, m⟩ | ⟨a, m⟩
        · rw [e'] at a; exact absurd a (by decide)
        · rw [e'] at a; exact absurd a (by decide)
        · exact m
        · exact absurd e' e1
        · exact m
      · omega
      · omega
      · omega
    rw [er] at hK
    refine hK S19 (Un.mono u19 (fun _ _ e => by omega) (fun _ e => absurd e id) id) ?_
    unfold FinR
    rw [if_neg (show ¬ (badR 0).1 = true from show ¬ false = true by decide)]
    exact ⟨h19.2.2, h19.2.1.2.1⟩
  · rw [if_neg e] at L ⊢
    obtain ⟨-, L⟩ := L
    rw [h2.2.2.2.2.2.2.1, if_pos (show nI 0 = 0 from rfl), e2] at L
    refine ⟨s.k80, ?_⟩
    rw [i4, if_pos (show nI 0 = 0 from rfl)]
    exact one_set L
end
section
variable {N nt c nh : Nat} {ad : Nat → Nat} {S : PS} {T : Nat → Nat} {K : Int32 → PS → Prop}
/-- the words are copied -/
theorem l_h55 (hnh : nh < 8) {L : Nat} (hL : L ≤ 200) : ∀ (m n k : Nat) (S : PS), k + m = L → m < n → Sh ad S → S.I 778 (ad 80) = nI nh → S.I 797 (ad 80) = nI L → (∀ S', Un ad (fun g n => g = 778 ∧ n = 80) (fun n => n = 85) False S S' → S'.I 778 (ad 80) = nI (nh + 1) → (∀ i, i < 200 * nh + k → S'.A (ad 85) i = S.A (ad 85) i) → (∀ i, k ≤ i → i < L → S'.A (ad 85) (200 * nh + i) = S.A (ad 90) i) → K (nI nh) S') → wq_X11_house_55 N K n S (ad 80) (nI k) := by
  intro m
  induction m with
  | zero =>
    intro n k S hk hn h i i2 hK
    obtain ⟨n, rfl⟩ : ∃ z, n = z + 1 := ⟨n - 1, by omega⟩
    obtain rfl : k = L := by omega
    rw [wq_X11_house_55.eq_2]
    refine ⟨h.k80, ?_⟩
    rw [i2, if_pos (nI_le (Nat.le_refl _) (by omega))]
    intro S43 e43
    rw [i, a1i] at e43
    have u : Un ad (fun g n => g = 778 ∧ n = 80) (fun n => n = 85) False S S43 := by rw [e43]; exact Un.setI ⟨rfl, rfl⟩
    have i43 : S43.I 778 (ad 80) = nI (nh + 1) := by rw [e43]; simp only [setI_K, setI_ln, setI_R, setI_Q, setI_I, setI_J, setI_A, setI_B, setJ_K, setJ_ln, setJ_R, setJ_Q, setJ_I, setJ_J, setJ_A, setJ_B, setR_K, setR_ln, setR_R, setR_Q, setR_I, setR_J, setR_A, setR_B, setA_K, setA_ln, setA_R, setA_Q, setA_I, setA_J, setA_A, setA_B, setB_K, setB_ln, setB_R, setB_Q, setB_I, setB_J, setB_A, setB_B, setQ_K, setQ_ln, setQ_R, setQ_Q, setQ_I, setQ_J, setQ_A, setQ_B, u2_ap, and_self, true_and, and_true, Option.some.injEq, exists_eq_left', exists_eq_left, forall_eq, forall_eq_apply_imp_iff, true_or, or_true, false_or, or_false, not_true_eq_false, not_false_eq_true, false_and, if_true, if_false, reduceIte]
    rw [i43, show nI (nh + 1) - 1 = nI nh from nI_pred nh]
    exact hK S43 u i43 (fun k _ => by rw [e43]; rfl) (fun k k1 k2 => absurd k1 (by omega))
  | succ m ih =>
    intro n k S hk hn h i i2 hK
    obtain ⟨n, rfl⟩ : ∃ z, n = z + 1 := ⟨n - 1, by omega⟩
    have m16 : (200 : Int32) * nI nh = nI (200 * nh) := (Int32.ofNat_mul 200 nh).symm
    rw [wq_X11_house_55.eq_2]
    refine ⟨h.k80, ?_⟩
    rw [i2, if_neg (nI_ge (by omega) (by omega)), i, m16, nI_add, nI_clamp (show 200 * nh + k < 2 ^ 31 by omega), nI_clamp (show k < 2 ^ 31 by omega), a1i]
    refine ⟨ad 85, h.r780, ad 90, h.r795, h.k90, by rw [h.l90]; exact vp_in_nI (by omega) (by decide), h.k85, by rw [h.l85]; exact vp_in_nI (by omega) (by decide), fun S52 e52 => ?_⟩
    have u : Un ad (fun g n => g = 778 ∧ n = 80) (fun n => n = 85) False S S52 := by rw [e52]; exact Un.setA rfl
    have f : ∀ i, S52.A (ad 85) i = if i = 200 * nh + k then S.A (ad 90) k else S.A (ad 85) i := fun i => by rw [e52]; simp only [setI_K, setI_ln, setI_R, setI_Q, setI_I, setI_J, setI_A, setI_B, setJ_K, setJ_ln, setJ_R, setJ_Q, setJ_I, setJ_J, setJ_A, setJ_B, setR_K, setR_ln, setR_R, setR_Q, setR_I, setR_J, setR_A, setR_B, setA_K, setA_ln, setA_R, setA_Q, setA_I, setA_J, setA_A, setA_B, setB_K, setB_ln, setB_R, setB_Q, setB_I, setB_J, setB_A, setB_B, setQ_K, setQ_ln, setQ_R, setQ_Q, setQ_I, setQ_J, setQ_A, setQ_B, u2_ap, true_and, true_and, and_true, Option.some.injEq, exists_eq_left', exists_eq_left, forall_eq, forall_eq_apply_imp_iff, true_or, or_true, false_or, or_false, not_true_eq_false, not_false_eq_true, false_and, if_true, if_false, reduceIte]
    have f2 : S52.A (ad 90) = S.A (ad 90) := u.A h (by omega)
    refine ih n (k + 1) S52 (by omega) (by omega) (u.sh h) (by rw [e52]; exact i) (by rw [e52]; exact i2) (fun S' u' i' b' c' => hK S' (u.tr u') i' (fun i hi => ?_) (fun i i1 i2 => ?_))
    · rw [b' i (by omega), f, if_neg (by omega)]
    · by_cases c : i = k
      · rw [c, b' _ (by omega), f, if_pos rfl]
      · rw [c' i (by omega) i2, f2]
/-- what the reference's house writes, read ill -/
def UO (ad : Nat → Nat) (S S' : PS) : Prop := Un ad (fun g n => n = 80 ∧ ((782 ≤ g ∧ g ≤ 788) ∨ (797 ≤ g ∧ g ≤ 801))) (fun n => n = 90 ∨ n = 91) False S S'
/-- and read well -/
def UP (ad : Nat → Nat) (S S' : PS) : Prop := Un ad (fun g n => n = 80 ∧ ((782 ≤ g ∧ g ≤ 788) ∨ (797 ≤ g ∧ g ≤ 801) ∨ g = 778)) (fun n => n = 90 ∨ n = 91 ∨ n = 84 ∨ n = 85) False S S'
theorem r_house (hT : ∀ k, T k < 256) (hn : nt ≤ 200) (hN5 : 5000 ≤ N) (c1 : c ≤ 200) (c2 : pos T nt c = nt) (hnh : nh < 8) (h : RB S ad T nt) (i : S.I 778 (ad 80) = nI nh) {r : Rs} (hM : MU (Cc T nt) (Vc T nt) 0 [] [] 0 false 0 r) (hl : r.2.2.length ≤ 200) (h1 : r.1 = true → ∀ S', UP ad S S' → S'.I 782 (ad 80) = 0 → S'.I 778 (ad 80) = nI (nh + 1) → (∀ i, i < nh → S'.A (ad 84) i = S.A (ad 84) i) → S'.A (ad 84) nh = nI r.2.2.length → (∀ i, i < 200 * nh → S'.A (ad 85) i = S.A (ad 85) i) → stk (fun k => S'.A (ad 85) (200 * nh + k)) r.2.2 → K (nI nh) S') (h0 : ¬ r.1 = true → ∀ S', UO ad S S' → S'.I 782 (ad 80) = 0 → K (-100 - nI (pos T nt r.2.1)) S') : wp_X11_house N S (ad 80) K := by
  refine ⟨h.1.k80, ?_⟩
  rw [i, if_neg (show ¬ nI nh = 8 from ii_ne (b := 8) (by omega) (by decide) (by omega))]
  refine ⟨h.1.k80, fun S2 e2 S4 e4 => ?_⟩
  have u4 : UB ad S S4 := by rw [e4, e2]; exact Un.tr (Un.setI (by omega)) (Un.setI (by omega))
  have B4 : RB S4 ad T nt := ⟨Un.sh u4 h.1, (Un.I u4 h.1 (by omega)).trans h.2.1, by rw [Un.A u4 h.1 (by simp)]; exact h.2.2⟩
  have i785 : S4.I 785 (ad 80) = nI 0 := by rw [e4, e2]; simp only [setI_K, setI_ln, setI_R, setI_Q, setI_I, setI_J, setI_A, setI_B, setJ_K, setJ_ln, setJ_R, setJ_Q, setJ_I, setJ_J, setJ_A, setJ_B, setR_K, setR_ln, setR_R, setR_Q, setR_I, setR_J, setR_A, setR_B, setA_K, setA_ln, setA_R, setA_Q, setA_I, setA_J, setA_A, setA_B, setB_K, setB_ln, setB_R, setB_Q, setB_I, setB_J, setB_A, setB_B, setQ_K, setQ_ln, setQ_R, setQ_Q, setQ_I, setQ_J, setQ_A, setQ_B, u2_ap, Nat.reduceEqDiff, false_and, and_self, true_and, and_true, Option.some.injEq, exists_eq_left', exists_eq_left, forall_eq, forall_eq_apply_imp_iff, true_or, or_true, false_or, or_false, not_true_eq_false, not_false_eq_true, false_and, if_true, if_false, reduceIte]; rfl
  have i788 : S4.I 788 (ad 80) = 1 := by rw [e4]; simp only [setI_K, setI_ln, setI_R, setI_Q, setI_I, setI_J, setI_A, setI_B, setJ_K, setJ_ln, setJ_R, setJ_Q, setJ_I, setJ_J, setJ_A, setJ_B, setR_K, setR_ln, setR_R, setR_Q, setR_I, setR_J, setR_A, setR_B, setA_K, setA_ln, setA_R, setA_Q, setA_I, setA_J, setA_A, setA_B, setB_K, setB_ln, setB_R, setB_Q, setB_I, setB_J, setB_A, setB_B, setQ_K, setQ_ln, setQ_R, setQ_Q, setQ_I, setQ_J, setQ_A, setQ_B, u2_ap, and_self, true_and, and_true, Option.some.injEq, exists_eq_left', exists_eq_left, forall_eq, forall_eq_apply_imp_iff, true_or, or_true, false_or, or_false, not_true_eq_false, not_false_eq_true, false_and, if_true, if_false, reduceIte]
  refine w_advance hT hn hN5 B4 i785 (by omega) (fun S7 u7 r7 => ?_)
  have h7 : RG S7 ad T nt 0 1 := ⟨B4.ua u7, r7, (Un.I u7 B4.1 (by omega)).trans i788⟩
  refine ⟨h7.1.1.k80, h7.1.1.k80, fun A2 d2 A4 d4 A6 d6 A8 d8 => ?_⟩
  have r8 : RG A8 ad T nt 0 1 := rg_far (by omega) (rg_far (by omega) (rg_far (by omega) (rg_far (by omega) h7 d2) d4) d6) d8
  have uA : UJ ad S7 A8 := by rw [d8, d6, d4, d2]; exact Un.tr (Un.setI (by omega)) (Un.tr (Un.setI (by omega)) (Un.tr (Un.setI (by omega)) (Un.setI (by omega))))
  have v0 : A8.I 800 (ad 80) = nI 0 := by rw [d8]; simp only [setI_K, setI_ln, setI_R, setI_Q, setI_I, setI_J, setI_A, setI_B, setJ_K, setJ_ln, setJ_R, setJ_Q, setJ_I, setJ_J, setJ_A, setJ_B, setR_K, setR_ln, setR_R, setR_Q, setR_I, setR_J, setR_A, setR_B, setA_K, setA_ln, setA_R, setA_Q, setA_I, setA_J, setA_A, setA_B, setB_K, setB_ln, setB_R, setB_Q, setB_I, setB_J, setB_A, setB_B, setQ_K, setQ_ln, setQ_R, setQ_Q, setQ_I, setQ_J, setQ_A, setQ_B, u2_ap, and_self, true_and, and_true, Option.some.injEq, exists_eq_left', exists_eq_left, forall_eq, forall_eq_apply_imp_iff, true_or, or_true, false_or, or_false, not_true_eq_false, not_false_eq_true, false_and, if_true, if_false, reduceIte]; rfl
  have v1 : A8.I 799 (ad 80) = nI 0 := by rw [d8, d6]; simp only [setI_K, setI_ln, setI_R, setI_Q, setI_I, setI_J, setI_A, setI_B, setJ_K, setJ_ln, setJ_R, setJ_Q, setJ_I, setJ_J, setJ_A, setJ_B, setR_K, setR_ln, setR_R, setR_Q, setR_I, setR_J, setR_A, setR_B, setA_K, setA_ln, setA_R, setA_Q, setA_I, setA_J, setA_A, setA_B, setB_K, setB_ln, setB_R, setB_Q, setB_I, setB_J, setB_A, setB_B, setQ_K, setQ_ln, setQ_R, setQ_Q, setQ_I, setQ_J, setQ_A, setQ_B, u2_ap, Nat.reduceEqDiff, false_and, and_self, true_and, and_true, Option.some.injEq, exists_eq_left', exists_eq_left, forall_eq, forall_eq_apply_imp_iff, true_or, or_true, false_or, or_false, not_true_eq_false, not_false_eq_true, false_and, if_true, if_false, reduceIte]; rfl
  have v2 : A8.I 797 (ad 80) = nI 0 := by rw [d8, d6, d4]; simp only [setI_K, setI_ln, setI_R, setI_Q, setI_I, setI_J, setI_A, setI_B, setJ_K, setJ_ln, setJ_R, setJ_Q, setJ_I, setJ_J, setJ_A, setJ_B, setR_K, setR_ln, setR_R, setR_Q, setR_I, setR_J, setR_A, setR_B, setA_K, setA_ln, setA_R, setA_Q, setA_I, setA_J, setA_A, setA_B, setB_K, setB_ln, setB_R, setB_Q, setB_I, setB_J, setB_A, setB_B, setQ_K, setQ_ln, setQ_R, setQ_Q, setQ_I, setQ_J, setQ_A, setQ_B, u2_ap, Nat.reduceEqDiff, false_and, and_self, true_and, and_true, Option.some.injEq, exists_eq_left', exists_eq_left, forall_eq, forall_eq_apply_imp_iff, true_or, or_true, false_or, or_false, not_true_eq_false, not_false_eq_true, false_and, if_true, if_false, reduceIte]; rfl
  have v3 : A8.I 798 (ad 80) = nI 0 := by rw [d8, d6, d4, d2]; simp only [setI_K, setI_ln, setI_R, setI_Q, setI_I, setI_J, setI_A, setI_B, setJ_K, setJ_ln, setJ_R, setJ_Q, setJ_I, setJ_J, setJ_A, setJ_B, setR_K, setR_ln, setR_R, setR_Q, setR_I, setR_J, setR_A, setR_B, setA_K, setA_ln, setA_R, setA_Q, setA_I, setA_J, setA_A, setA_B, setB_K, setB_ln, setB_R, setB_Q, setB_I, setB_J, setB_A, setB_B, setQ_K, setQ_ln, setQ_R, setQ_Q, setQ_I, setQ_J, setQ_A, setQ_B, u2_ap, Nat.reduceEqDiff, false_and, and_self, true_and, and_true, Option.some.injEq, exists_eq_left', exists_eq_left, forall_eq, forall_eq_apply_imp_iff, true_or, or_true, false_or, or_false, not_true_eq_false, not_false_eq_true, false_and, if_true, if_false, reduceIte]; rfl
  refine j_first hT hn hN5 c1 c2 (by omega) r8 v2 v3 v1 v0 hM (fun S6 u6 f6 => ?_)
  have uJ : UJ ad S S6 := Un.tr (Un.mono u4 (fun _ _ e => by omega) (fun _ e => absurd e id) id) (Un.tr (Un.mono u7 (fun _ _ e => by omega) (fun _ e => absurd e id) id) (Un.tr uA u6))
  have g6 := Un.sh uJ h.1
  refine ⟨g6.k80, fun S9 e9 => ?_⟩
  have U9 : UO ad S S9 := Un.tr (Un.mono uJ (fun _ _ e => by omega) (fun _ e => e) id) (by rw [e9]; exact Un.setI (by omega))
  have g9 := Un.sh U9 h.1
  have j788 : S9.I 788 (ad 80) = S6.I 788 (ad 80) := by rw [e9]; simp only [setI_K, setI_ln, setI_R, setI_Q, setI_I, setI_J, setI_A, setI_B, setJ_K, setJ_ln, setJ_R, setJ_Q, setJ_I, setJ_J, setJ_A, setJ_B, setR_K, setR_ln, setR_R, setR_Q, setR_I, setR_J, setR_A, setR_B, setA_K, setA_ln, setA_R, setA_Q, setA_I, setA_J, setA_A, setA_B, setB_K, setB_ln, setB_R, setB_Q, setB_I, setB_J, setB_A, setB_B, setQ_K, setQ_ln, setQ_R, setQ_Q, setQ_I, setQ_J, setQ_A, setQ_B, u2_ap, Nat.reduceEqDiff, false_and, true_and, and_true, Option.some.injEq, exists_eq_left', exists_eq_left, forall_eq, forall_eq_apply_imp_iff, true_or, or_true, false_or, or_false, not_true_eq_false, not_false_eq_true, false_and, if_true, if_false, reduceIte]
  have j784 : S9.I 784 (ad 80) = S6.I 784 (ad 80) := by rw [e9]; simp only [setI_K, setI_ln, setI_R, setI_Q, setI_I, setI_J, setI_A, setI_B, setJ_K, setJ_ln, setJ_R, setJ_Q, setJ_I, setJ_J, setJ_A, setJ_B, setR_K, setR_ln, setR_R, setR_Q, setR_I, setR_J, setR_A, setR_B, setA_K, setA_ln, setA_R, setA_Q, setA_I, setA_J, setA_A, setA_B, setB_K, setB_ln, setB_R, setB_Q, setB_I, setB_J, setB_A, setB_B, setQ_K, setQ_ln, setQ_R, setQ_Q, setQ_I, setQ_J, setQ_A, setQ_B, u2_ap, Nat.reduceEqDiff, false_and, true_and, and_true, Option.some.injEq, exists_eq_left', exists_eq_left, forall_eq, forall_eq_apply_imp_iff, true_or, or_true, false_or, or_false, not_true_eq_false, not_false_eq_true, false_and, if_true, if_false, reduceIte]
  have j782 : S9.I 782 (ad 80) = 0 := by rw [e9]; simp only [setI_K, setI_ln, setI_R, setI_Q, setI_I, setI_J, setI_A, setI_B, setJ_K, setJ_ln, setJ_R, setJ_Q, setJ_I, setJ_J, setJ_A, setJ_B, setR_K, setR_ln, setR_R, setR_Q, setR_I, setR_J, setR_A, setR_B, setA_K, setA_ln, setA_R, setA_Q, setA_I, setA_J, setA_A, setA_B, setB_K, setB_ln, setB_R, setB_Q, setB_I, setB_J, setB_A, setB_B, setQ_K, setQ_ln, setQ_R, setQ_Q, setQ_I, setQ_J, setQ_A, setQ_B, u2_ap, and_self, true_and, and_true, Option.some.injEq, exists_eq_left', exists_eq_left, forall_eq, forall_eq_apply_imp_iff, true_or, or_true, false_or, or_false, not_true_eq_false, not_false_eq_true, false_and, if_true, if_false, reduceIte]
  have j797 : S9.I 797 (ad 80) = S6.I 797 (ad 80) := by rw [e9]; simp only [setI_K, setI_ln, setI_R, setI_Q, setI_I, setI_J, setI_A, setI_B, setJ_K, setJ_ln, setJ_R, setJ_Q, setJ_I, setJ_J, setJ_A, setJ_B, setR_K, setR_ln, setR_R, setR_Q, setR_I, setR_J, setR_A, setR_B, setA_K, setA_ln, setA_R, setA_Q, setA_I, setA_J, setA_A, setA_B, setB_K, setB_ln, setB_R, setB_Q, setB_I, setB_J, setB_A, setB_B, setQ_K, setQ_ln, setQ_R, setQ_Q, setQ_I, setQ_J, setQ_A, setQ_B, u2_ap, Nat.reduceEqDiff, false_and, true_and, and_true, Option.some.injEq, exists_eq_left', exists_eq_left, forall_eq, forall_eq_apply_imp_iff, true_or, or_true, false_or, or_false, not_true_eq_false, not_false_eq_true, false_and, if_true, if_false, reduceIte]
  have j778 : S9.I 778 (ad 80) = nI nh := (Un.I U9 h.1 (by omega)).trans i
  unfold FinR at f6
  rw [j788]
  by_cases q : r.1 = true
  · rw [if_pos q] at f6
    obtain ⟨f1, f2, f3⟩ := f6
    rw [f1, if_neg (by decide)]
    refine ⟨ad 84, g9.r779, g9.k84, by rw [g9.l84, j778]; exact vp_in_nI hnh (by decide), fun S15 e15 => ?_⟩
    rw [j778, nI_clamp (by omega), j797, f2] at e15
    have u15 : Un ad (fun _ _ => False) (fun n => n = 84) False S9 S15 := by rw [e15]; exact Un.setA rfl
    have g15 := u15.sh g9
    have f84 : ∀ i, S15.A (ad 84) i = if i = nh then nI r.2.2.length else S9.A (ad 84) i := fun i => by rw [e15]; simp only [setI_K, setI_ln, setI_R, setI_Q, setI_I, setI_J, setI_A, setI_B, setJ_K, setJ_ln, setJ_R, setJ_Q, setJ_I, setJ_J, setJ_A, setJ_B, setR_K, setR_ln, setR_R, setR_Q, setR_I, setR_J, setR_A, setR_B, setA_K, setA_ln, setA_R, setA_Q, setA_I, setA_J, setA_A, setA_B, setB_K, setB_ln, setB_R, setB_Q, setB_I, setB_J, setB_A, setB_B, setQ_K, setQ_ln, setQ_R, setQ_Q, setQ_I, setQ_J, setQ_A, setQ_B, u2_ap, true_and, true_and, and_true, Option.some.injEq, exists_eq_left', exists_eq_left, forall_eq, forall_eq_apply_imp_iff, true_or, or_true, false_or, or_false, not_true_eq_false, not_false_eq_true, false_and, if_true, if_false, reduceIte]
    refine l_h55 hnh hl r.2.2.length N 0 S15 (by omega) (by omega) g15 ((u15.I g9 (by simp)).trans j778) ((u15.I g9 (by simp)).trans (j797.trans f2)) (fun S' u' w1 w2 w3 => h1 q S' ?_ ?_ w1 (fun i hi => ?_) ?_ (fun i hi => ?_) ?_)
    · exact Un.tr (Un.mono U9 (fun _ _ e => by omega) (fun _ e => by omega) id) (Un.tr (Un.mono u15 (fun _ _ e => absurd e id) (fun _ e => by omega) id) (Un.mono u' (fun _ _ e => by omega) (fun _ e => by omega) id))
    · exact (u'.I g15 (by omega)).trans ((u15.I g9 (by simp)).trans j782)
    · rw [u'.A g15 (by omega), f84, if_neg (by omega), Un.A U9 h.1 (by omega)]
    · rw [u'.A g15 (by omega), f84, if_pos rfl]
    · rw [w2 i (by omega), u15.A g9 (by omega), Un.A U9 h.1 (by omega)]
    · refine stk_up _ (fun k hk => ?_) f3
      rw [w3 k (by omega) hk, u15.A g9 (by omega), e9]
      rfl
  · rw [if_neg q] at f6
    obtain ⟨f1, f2⟩ := f6
    rw [f1, if_pos rfl, j784, f2]
    exact h0 q S9 U9 j782
end
