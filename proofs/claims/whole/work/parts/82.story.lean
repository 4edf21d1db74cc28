/-- a whole story: well read so far, where then, sort, how many clauses, the light's number, the clauses' numbers -/
def pst (C V : Nat → Int32) : Bool × Nat × Int32 × Nat × Int32 × (Nat → Int32) :=
  if C 0 = 300 then (true, 1, 0, 0, 0, fun _ => 0) else if C 0 = 301 then ((pby C V 1).1, (pby C V 1).2.1, 1, 0, (pby C V 1).2.2, fun _ => 0) else ((pcs C V 4 0).1, (pcs C V 4 0).2.1, 2, (pcs C V 4 0).2.2.1, 0, (pcs C V 4 0).2.2.2)
theorem pcs_le (C V : Nat → Int32) : ∀ m t, (pcs C V m t).2.2.1 ≤ m := by
  intro m
  induction m with
  | zero => intro t; exact Nat.le_refl _
  | succ m ih =>
    intro t
    rw [pcs]
    split
    · split
      · exact Nat.succ_le_succ (ih _)
      · exact Nat.succ_le_succ (Nat.zero_le _)
    · exact Nat.zero_le _
theorem pst_le (C V : Nat → Int32) : (pst C V).2.2.2.1 ≤ 4 := by
  unfold pst
  split
  · exact Nat.zero_le _
  · split
    · exact Nat.zero_le _
    · exact pcs_le C V 4 0
/-- the class has read it -/
def KS (S : PS) (ad : Nat → Nat) (C V : Nat → Int32) : Prop := S.I 514 (ad 6) = (pst C V).2.2.1 ∧ S.I 515 (ad 6) = nI (pst C V).2.2.2.1 ∧ ((pst C V).2.2.1 = 1 → S.I 516 (ad 6) = (pst C V).2.2.2.2.1) ∧ ∀ k, k < 3 * (pst C V).2.2.2.1 → S.A (ad 19) k = (pst C V).2.2.2.2.2 k
section
variable {N nt c t : Nat} {ad : Nat → Nat} {S : PS} {T : Nat → Nat} {K : Int32 → PS → Prop}
theorem k_w72 (h : CT S ad T nt c t) (hK : K (if Cc T nt t = 258 then 1 else 0) S) : wq_X7_readWhole_72 N K S (ad 6) := by
  refine ⟨h.1.k6, ad 5, h.1.r512, h.1.k5, ?_⟩
  rw [k_now h]
  refine ⟨?_, hK⟩
  split
  · exact Or.inr rfl
  · exact Or.inl rfl
theorem k_whole (hN5 : 5000 ≤ N) (h : CT S ad T nt c 0) (hK : ∀ S', UW ad S S' → CT S' ad T nt c (pst (Cc T nt) (Vc T nt)).2.1 → ((pst (Cc T nt) (Vc T nt)).1 = true → KS S' ad (Cc T nt) (Vc T nt)) → K (if (pst (Cc T nt) (Vc T nt)).1 = true ∧ Cc T nt (pst (Cc T nt) (Vc T nt)).2.1 = 258 then 1 else 0) S') : wp_X7_readWhole N S (ad 6) K := by
  have fin : ∀ (S' : PS), UW ad S S' → CT S' ad T nt c (pst (Cc T nt) (Vc T nt)).2.1 → (pst (Cc T nt) (Vc T nt)).1 = true → KS S' ad (Cc T nt) (Vc T nt) → wq_X7_readWhole_72 N K S' (ad 6) := by
    intro S' u' h' e' k'
    refine k_w72 h' ?_
    have := hK S' u' h' (fun _ => k')
    rw [e'] at this
    simp only [true_and] at this
    exact this
  refine ⟨h.1.k6, fun S2 e2 S4 e4 => ?_⟩
  have u4 : UW ad S S4 := by rw [e4, e2]; exact Un.tr (Un.setI (by omega)) (Un.setI (by omega))
  have h4 : CT S4 ad T nt c 0 := h.un (show Un ad (fun g n => (g = 515 ∨ g = 516) ∧ n = 6) (fun _ => False) False S S4 by rw [e4, e2]; exact Un.tr (Un.setI (by omega)) (Un.setI (by omega))) (by omega) (by simp)
  have i4 : S4.I 515 (ad 6) = 0 := by rw [e4, e2]; simp only [setI_K, setI_ln, setI_R, setI_Q, setI_I, setI_J, setI_A, setI_B, setJ_K, setJ_ln, setJ_R, setJ_Q, setJ_I, setJ_J, setJ_A, setJ_B, setR_K, setR_ln, setR_R, setR_Q, setR_I, setR_J, setR_A, setR_B, setA_K, setA_ln, setA_R, setA_Q, setA_I, setA_J, setA_A, setA_B, setB_K, setB_ln, setB_R, setB_Q, setB_I, setB_J, setB_A, setB_B, setQ_K, setQ_ln, setQ_R, setQ_Q, setQ_I, setQ_J, setQ_A, setQ_B, u2_ap, Nat.reduceEqDiff, false_and, and_self, true_and, and_true, Option.some.injEq, exists_eq_left', exists_eq_left, forall_eq, forall_eq_apply_imp_iff, true_or, or_true, false_or, or_false, not_true_eq_false, not_false_eq_true, false_and, if_true, if_false, reduceIte]
  have s514 : ∀ (T1 T2 : PS) (v : Int32) (t : Nat), T2 = T1.setI 514 (ad 6) v → CT T1 ad T nt c t → CT T2 ad T nt c t ∧ UW ad T1 T2 ∧ T2.I 514 (ad 6) = v ∧ T2.I 515 (ad 6) = T1.I 515 (ad 6) := by
    intro T1 T2 v t e h1
    have u : Un ad (fun g n => g = 514 ∧ n = 6) (fun _ => False) False T1 T2 := by rw [e]; exact Un.setI ⟨rfl, rfl⟩
    refine ⟨h1.un u (by omega) (by simp), Un.mono u (fun _ _ e => by omega) (fun _ e => absurd e id) id, ?_, u.I h1.1 (by omega)⟩
    rw [e]; simp only [setI_K, setI_ln, setI_R, setI_Q, setI_I, setI_J, setI_A, setI_B, setJ_K, setJ_ln, setJ_R, setJ_Q, setJ_I, setJ_J, setJ_A, setJ_B, setR_K, setR_ln, setR_R, setR_Q, setR_I, setR_J, setR_A, setR_B, setA_K, setA_ln, setA_R, setA_Q, setA_I, setA_J, setA_A, setA_B, setB_K, setB_ln, setB_R, setB_Q, setB_I, setB_J, setB_A, setB_B, setQ_K, setQ_ln, setQ_R, setQ_Q, setQ_I, setQ_J, setQ_A, setQ_B, u2_ap, and_self, true_and, and_true, Option.some.injEq, exists_eq_left', exists_eq_left, forall_eq, forall_eq_apply_imp_iff, true_or, or_true, false_or, or_false, not_true_eq_false, not_false_eq_true, false_and, if_true, if_false, reduceIte]
  refine ⟨ad 5, h4.1.r512, h4.1.k5, k_take h4 (by decide) ?_⟩
  unfold KS at fin hK
  unfold pst at fin hK
  by_cases d : Cc T nt 0 = 300
  · rw [if_pos d] at fin ⊢
    intro S8 u8 h8
    rw [if_neg (by decide)]
    refine ⟨h8.1.k6, fun S41 e41 => ?_⟩
    obtain ⟨h41, u41, i1, i2⟩ := s514 _ _ _ _ e41 h8
    exact fin S41 (Un.tr u4 (Un.tr (uy_of u8).uz.uw u41)) h41 rfl ⟨i1, i2.trans ((u8.I h4.1 (by omega)).trans i4), fun z => absurd z (by decide), fun k hk => absurd hk (by simp)⟩
  rw [if_neg d] at fin hK ⊢
  rw [if_pos rfl]
  refine ⟨h4.1.k6, ad 5, h4.1.r512, h4.1.k5, k_take h4 (by decide) ?_⟩
  by_cases d1 : Cc T nt 0 = 301
  · rw [if_pos d1] at fin hK ⊢
    intro S15 u15 h15
    rw [if_neg (by decide)]
    refine ⟨h15.1.k6, fun S34 e34 => ?_⟩
    obtain ⟨h34, u34, i1, i2⟩ := s514 _ _ _ _ e34 h15
    have U34 : UW ad S S34 := Un.tr u4 (Un.tr (uy_of u15).uz.uw u34)
    refine k_by h34 (fun S36 u36 h36 => ?_)
    have U36 : UW ad S S36 := Un.tr U34 u36.uz.uw
    by_cases f : (pby (Cc T nt) (Vc T nt) (0 + 1)).1 = true
    · rw [if_pos f] at h36
      rw [if_pos f, if_neg (by decide)]
      refine fin S36 U36 h36.1 f ⟨?_, ?_, fun _ => h36.2, fun k hk => absurd hk (by simp)⟩
      · rw [Un.I u36 h34.1 (by omega), i1]
      · rw [Un.I u36 h34.1 (by omega), i2, u15.I h4.1 (by omega), i4]; rfl
    · rw [if_neg f] at h36
      rw [if_neg f, if_pos rfl]
      have := hK S36 U36 h36 (fun z => absurd z f)
      rw [if_neg (fun z => f z.1)] at this
      exact this
  · rw [if_neg d1] at fin hK ⊢
    rw [if_pos rfl]
    refine ⟨h4.1.k6, fun S20 e20 => ?_⟩
    obtain ⟨h20, u20, i1, i2⟩ := s514 _ _ _ _ e20 h4
    have U20 : UW ad S S20 := Un.tr u4 u20
    unfold wp_X7_readClauses
    refine k_clauses 3 N 0 0 S20 (by omega) (by omega) h20 (i2.trans i4) (fun S22 u22 i22 h22 b22 c22 => ?_)
    have U22 : UW ad S S22 := Un.tr U20 u22
    by_cases f : (pcs (Cc T nt) (Vc T nt) 4 0).1 = true
    · rw [if_pos f, if_neg (by decide)]
      obtain ⟨c1, c2⟩ := c22 f
      refine fin S22 U22 h22 f ⟨i22.trans i1, ?_, fun z => absurd (show (2 : Int32) = 1 from z) (by decide), fun k hk => ?_⟩
      · rw [c1, Nat.zero_add]
      · rw [← c2 k hk]; simp
    · rw [if_neg f, if_pos rfl]
      have := hK S22 U22 h22 (fun z => absurd z f)
      rw [if_neg (fun z => f z.1)] at this
      exact this
end
