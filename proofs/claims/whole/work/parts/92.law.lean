/-- how the token binds as a sign -/
def lv (v : Int32) : Nat := if v = 42 then 5 else if v = 43 then 4 else if v = 45 then 4 else if v = 60 then 3 else if v = 61 then 3 else if v = 62 then 3 else 0
theorem bnd_lv {b : Nat} (hb : b < 256) : bnd (30000 + nI b) = lv (nI b) := by
  by_cases c1 : b = 42
  · subst c1; decide
  by_cases c2 : b = 43
  · subst c2; decide
  by_cases c3 : b = 45
  · subst c3; decide
  by_cases c4 : b = 60
  · subst c4; decide
  by_cases c5 : b = 61
  · subst c5; decide
  by_cases c6 : b = 62
  · subst c6; decide
  have e : (30000 : Int32) + nI b = nI (30000 + b) := nI_add 30000 b
  have h : ∀ k : Nat, k < 2 ^ 31 → k ≠ 30000 + b → nI (30000 + b) ≠ nI k := fun k h1 h2 => ii_ne (by omega) h1 (fun z => h2 z.symm)
  have h' : ∀ k : Nat, k < 2 ^ 31 → k ≠ b → nI b ≠ nI k := fun k h1 h2 => ii_ne (by omega) h1 (fun z => h2 z.symm)
  unfold bnd lv
  rw [e, if_neg (show ¬ nI (30000 + b) = 30042 from h 30042 (by decide) (by omega)), if_neg (show ¬ nI (30000 + b) = 30043 from h 30043 (by decide) (by omega)), if_neg (show ¬ nI (30000 + b) = 30045 from h 30045 (by decide) (by omega)), if_neg (show ¬ nI (30000 + b) = 30060 from h 30060 (by decide) (by omega)), if_neg (show ¬ nI (30000 + b) = 30061 from h 30061 (by decide) (by omega)), if_neg (show ¬ nI (30000 + b) = 30062 from h 30062 (by decide) (by omega)), if_neg (show ¬ nI (30000 + b) = 40000 from h 40000 (by decide) (by omega)), if_neg (show ¬ nI (30000 + b) = 40001 from h 40001 (by decide) (by omega)), if_neg (show ¬ nI b = 42 from h' 42 (by decide) (by omega)), if_neg (show ¬ nI b = 43 from h' 43 (by decide) (by omega)), if_neg (show ¬ nI b = 45 from h' 45 (by decide) (by omega)), if_neg (show ¬ nI b = 60 from h' 60 (by decide) (by omega)), if_neg (show ¬ nI b = 61 from h' 61 (by decide) (by omega)), if_neg (show ¬ nI b = 62 from h' 62 (by decide) (by omega))]
theorem mk_s {T : Nat → Nat} {nt p : Nat} (hT : ∀ k, T k < 256) : (srp T nt p = 3 ∧ vap T nt p = cdp T nt p ∧ ∃ b : Nat, b < 256 ∧ cdp T nt p = nI b) ∨ (srp T nt p ≠ 3 ∧ ∀ b : Nat, b < 256 → cdp T nt p ≠ nI b) := by
  have ht := hT p
  by_cases c0 : nt ≤ p
  · refine Or.inr ⟨?_, fun b hb => ?_⟩
    · unfold srp; rw [if_pos c0]; decide
    · unfold cdp; rw [if_pos c0]; exact ii_ne (a := 258) (by decide) (by omega) (by omega)
  by_cases c1 : 97 ≤ T p ∧ T p ≤ 122
  · refine Or.inr ⟨?_, fun b hb => ?_⟩
    · unfold srp; rw [if_neg c0, if_pos c1]; decide
    · unfold cdp; rw [if_neg c0, if_pos c1]; exact wcf_b _ _ _ _ (by omega)
  by_cases c2 : 48 ≤ T p ∧ T p ≤ 57
  · refine Or.inr ⟨?_, fun b hb => ?_⟩
    · unfold srp; rw [if_neg c0, if_neg c1, if_pos c2]; decide
    · unfold cdp; rw [if_neg c0, if_neg c1, if_pos c2]
      split
      · exact ii_ne (a := 256) (by decide) (by omega) (by omega)
      · exact ii_ne (a := 257) (by decide) (by omega) (by omega)
  · refine Or.inl ⟨?_, ?_, T p, ht, ?_⟩
    · unfold srp; rw [if_neg c0, if_neg c1, if_neg c2]
    · unfold vap cdp; rw [if_neg c0, if_neg c1, if_neg c2, if_neg c0, if_neg c1, if_neg c2]
    · unfold cdp; rw [if_neg c0, if_neg c1, if_neg c2]
section
variable {N nt w d t : Nat} {ad : Nat → Nat} {S : PS} {T : Nat → Nat} {o p : List Int32} {x : Bool} {g : Int32}
theorem j_goOn {K : PS → Prop} (hT : ∀ k, T k < 256) (h : MR S ad T nt w o p d x t g) : wp_X11_goOnAt N S (ad 80) K = wq_X11_goOnAt_23 N K S (ad 80) (nI (lv (Cc T nt t))) := by
  obtain ⟨⟨⟨s, -⟩, ⟨a1, -, -, -, a5⟩, -⟩, -⟩ := h
  unfold wp_X11_goOnAt
  rw [a1, a5]
  rcases mk_s (T := T) (nt := nt) (p := pos T nt t) hT with ⟨m1, m2, b, m3, m4⟩ | ⟨m1, m2⟩
  · rw [if_pos m1, j_binds, m2, show Cc T nt t = nI b from m4, m4, bnd_lv m3]
    simp only [s.k80, true_and, and_true, Option.some.injEq, exists_eq_left', exists_eq_left, forall_eq, forall_eq_apply_imp_iff, true_or, or_true, false_or, or_false, not_true_eq_false, not_false_eq_true, false_and, if_true, if_false, reduceIte]
  · rw [if_neg m1]
    have h' : ∀ k : Nat, k < 256 → Cc T nt t ≠ nI k := m2
    have e : lv (Cc T nt t) = 0 := by
      unfold lv
      rw [if_neg (show ¬ Cc T nt t = 42 from h' 42 (by decide)), if_neg (show ¬ Cc T nt t = 43 from h' 43 (by decide)), if_neg (show ¬ Cc T nt t = 45 from h' 45 (by decide)), if_neg (show ¬ Cc T nt t = 60 from h' 60 (by decide)), if_neg (show ¬ Cc T nt t = 61 from h' 61 (by decide)), if_neg (show ¬ Cc T nt t = 62 from h' 62 (by decide))]
    rw [e]
    simp only [s.k80, true_and, and_true, Option.some.injEq, exists_eq_left', exists_eq_left, forall_eq, forall_eq_apply_imp_iff, true_or, or_true, false_or, or_false, not_true_eq_false, not_false_eq_true, false_and, if_true, if_false, reduceIte]
    rfl
theorem mr_good {S1 : PS} {v : Int32} (h : MR S ad T nt w o p d x t g) (e : S1 = S.setI 788 (ad 80) v) : MR S1 ad T nt w o p d x t v ∧ UJ ad S S1 := by
  obtain ⟨r, i1, k1, i2, k2, i3, i4, i5⟩ := h
  have s := r.1.1
  have u2 : Un ad (fun g n => n = 80 ∧ g = 788) (fun _ => False) False S S1 := by rw [e]; exact Un.setI ⟨rfl, rfl⟩
  exact ⟨⟨(rg_set r e).1, (u2.I s (by omega)).trans i1, by rw [u2.A s (by simp)]; exact k1, (u2.I s (by omega)).trans i2, by rw [u2.A s (by simp)]; exact k2, (u2.I s (by omega)).trans i3, (u2.I s (by omega)).trans i4, (u2.I s (by omega)).trans i5⟩, u2.mono (fun _ _ e => by omega) (fun _ e => absurd e id) id⟩
theorem mr_more {S1 : PS} (h : MR S ad T nt w o p d x t g) (e : S1 = S.setI 799 (ad 80) (S.I 799 (ad 80) + 1)) : MR S1 ad T nt w o p (d + 1) x t g ∧ UJ ad S S1 := by
  obtain ⟨r, i1, k1, i2, k2, i3, i4, i5⟩ := h
  have s := r.1.1
  rw [i3, a1i] at e
  have u2 : Un ad (fun g n => n = 80 ∧ g = 799) (fun _ => False) False S S1 := by rw [e]; exact Un.setI ⟨rfl, rfl⟩
  exact ⟨⟨rg_far (by omega) r e, (u2.I s (by omega)).trans i1, by rw [u2.A s (by simp)]; exact k1, (u2.I s (by omega)).trans i2, by rw [u2.A s (by simp)]; exact k2, by rw [e]; simp only [setI_K, setI_ln, setI_R, setI_Q, setI_I, setI_J, setI_A, setI_B, setJ_K, setJ_ln, setJ_R, setJ_Q, setJ_I, setJ_J, setJ_A, setJ_B, setR_K, setR_ln, setR_R, setR_Q, setR_I, setR_J, setR_A, setR_B, setA_K, setA_ln, setA_R, setA_Q, setA_I, setA_J, setA_A, setA_B, setB_K, setB_ln, setB_R, setB_Q, setB_I, setB_J, setB_A, setB_B, setQ_K, setQ_ln, setQ_R, setQ_Q, setQ_I, setQ_J, setQ_A, setQ_B, u2_ap, and_self, true_and, and_true, Option.some.injEq, exists_eq_left', exists_eq_left, forall_eq, forall_eq_apply_imp_iff, true_or, or_true, false_or, or_false, not_true_eq_false, not_false_eq_true, false_and, if_true, if_false, reduceIte], (u2.I s (by omega)).trans i4, (u2.I s (by omega)).trans i5⟩, u2.mono (fun _ _ e => by omega) (fun _ e => absurd e id) id⟩
theorem mr_want {S1 : PS} {w' : Nat} (h : MR S ad T nt w o p d x t g) (e : S1 = S.setI 800 (ad 80) (nI w')) : MR S1 ad T nt w' o p d x t g ∧ UJ ad S S1 := by
  obtain ⟨r, i1, k1, i2, k2, i3, i4, i5⟩ := h
  have s := r.1.1
  have u2 : Un ad (fun g n => n = 80 ∧ g = 800) (fun _ => False) False S S1 := by rw [e]; exact Un.setI ⟨rfl, rfl⟩
  exact ⟨⟨rg_far (by omega) r e, (u2.I s (by omega)).trans i1, by rw [u2.A s (by simp)]; exact k1, (u2.I s (by omega)).trans i2, by rw [u2.A s (by simp)]; exact k2, (u2.I s (by omega)).trans i3, by rw [e]; simp only [setI_K, setI_ln, setI_R, setI_Q, setI_I, setI_J, setI_A, setI_B, setJ_K, setJ_ln, setJ_R, setJ_Q, setJ_I, setJ_J, setJ_A, setJ_B, setR_K, setR_ln, setR_R, setR_Q, setR_I, setR_J, setR_A, setR_B, setA_K, setA_ln, setA_R, setA_Q, setA_I, setA_J, setA_A, setA_B, setB_K, setB_ln, setB_R, setB_Q, setB_I, setB_J, setB_A, setB_B, setQ_K, setQ_ln, setQ_R, setQ_Q, setQ_I, setQ_J, setQ_A, setQ_B, u2_ap, and_self, true_and, and_true, Option.some.injEq, exists_eq_left', exists_eq_left, forall_eq, forall_eq_apply_imp_iff, true_or, or_true, false_or, or_false, not_true_eq_false, not_false_eq_true, false_and, if_true, if_false, reduceIte], (u2.I s (by omega)).trans i5⟩, u2.mono (fun _ _ e => by omega) (fun _ e => absurd e id) id⟩
theorem mr_cmp {S1 : PS} {x' : Bool} (h : MR S ad T nt w o p d x t g) (e : S1 = S.setI 801 (ad 80) (if x' then 1 else 0)) : MR S1 ad T nt w o p d x' t g ∧ UJ ad S S1 := by
  obtain ⟨r, i1, k1, i2, k2, i3, i4, i5⟩ := h
  have s := r.1.1
  have u2 : Un ad (fun g n => n = 80 ∧ g = 801) (fun _ => False) False S S1 := by rw [e]; exact Un.setI ⟨rfl, rfl⟩
  exact ⟨⟨rg_far (by omega) r e, (u2.I s (by omega)).trans i1, by rw [u2.A s (by simp)]; exact k1, (u2.I s (by omega)).trans i2, by rw [u2.A s (by simp)]; exact k2, (u2.I s (by omega)).trans i3, (u2.I s (by omega)).trans i4, by rw [e]; simp only [setI_K, setI_ln, setI_R, setI_Q, setI_I, setI_J, setI_A, setI_B, setJ_K, setJ_ln, setJ_R, setJ_Q, setJ_I, setJ_J, setJ_A, setJ_B, setR_K, setR_ln, setR_R, setR_Q, setR_I, setR_J, setR_A, setR_B, setA_K, setA_ln, setA_R, setA_Q, setA_I, setA_J, setA_A, setA_B, setB_K, setB_ln, setB_R, setB_Q, setB_I, setB_J, setB_A, setB_B, setQ_K, setQ_ln, setQ_R, setQ_Q, setQ_I, setQ_J, setQ_A, setQ_B, u2_ap, and_self, true_and, and_true, Option.some.injEq, exists_eq_left', exists_eq_left, forall_eq, forall_eq_apply_imp_iff, true_or, or_true, false_or, or_false, not_true_eq_false, not_false_eq_true, false_and, if_true, if_false, reduceIte]⟩, u2.mono (fun _ _ e => by omega) (fun _ e => absurd e id) id⟩
theorem j_adv {K : PS → Prop} (hT : ∀ k, T k < 256) (hn : nt ≤ 200) (hN5 : 5000 ≤ N) (h : MR S ad T nt w o p d x t g) (hK : ∀ S', UJ ad S S' → MR S' ad T nt w o p d x (t + 1) g → K S') : wp_X11_advance N S (ad 80) K := by
  obtain ⟨r, i1, k1, i2, k2, i3, i4, i5⟩ := h
  have s := r.1.1
  refine r_adv hT hn hN5 r (fun S' u' h' => hK S' (Un.mono u' (fun _ _ e => by omega) (fun _ e => absurd e id) id) ⟨h', (Un.I u' s (by omega)).trans i1, by rw [Un.A u' s (by simp)]; exact k1, (Un.I u' s (by omega)).trans i2, by rw [Un.A u' s (by simp)]; exact k2, (Un.I u' s (by omega)).trans i3, (Un.I u' s (by omega)).trans i4, (Un.I u' s (by omega)).trans i5⟩)
theorem j_opens {K : PS → Prop} {v : Int32} (hT : ∀ k, T k < 256) (hn : nt ≤ 200) (hN5 : 5000 ≤ N) (hd : d ≤ 4) (hl : p.length < 200) (h : MR S ad T nt w o p d x t 1) (h0 : 4 ≤ d → ∀ S', UJ ad S S' → MR S' ad T nt w o p d x t 0 → K S') (h1 : d < 4 → ∀ S', UJ ad S S' → MR S' ad T nt w o (v :: p) (d + 1) x (t + 1) 1 → K S') : wp_X11_opens N S (ad 80) v K := by
  refine ⟨h.1.1.1.k80, ?_⟩
  rw [h.2.2.2.2.2.1]
  unfold wq_X11_opens_14
  by_cases c : 4 ≤ d
  · rw [if_pos (show (4 : Int32) ≤ nI d from nI_le (a := 4) c (by omega))]
    refine ⟨h.1.1.1.k80, Or.inl rfl, fun S5 e5 => ?_⟩
    obtain ⟨h5, u5⟩ := mr_good h e5
    refine ⟨h5.1.1.1.k80, ?_⟩
    rw [h5.1.2.2, if_pos rfl]
    exact h0 c S5 u5 h5
  · rw [if_neg (show ¬ (4 : Int32) ≤ nI d from nI_ge (b := 4) (by omega) (by decide))]
    refine ⟨h.1.1.1.k80, Or.inr rfl, fun S5 e5 => ?_⟩
    obtain ⟨h5, u5⟩ := mr_good h e5
    refine ⟨h5.1.1.1.k80, ?_⟩
    rw [h5.1.2.2, if_neg (by decide)]
    intro S8 e8
    obtain ⟨h8, u8⟩ := mr_more h5 e8
    exact j_pend h8 hl (fun S10 u10 h10 => ⟨h10.1.1.1.k80, j_adv hT hn hN5 h10 (fun S' u' h' => h1 (by omega) S' (Un.tr u5 (Un.tr u8 (Un.tr u10 u'))) h')⟩)
end
