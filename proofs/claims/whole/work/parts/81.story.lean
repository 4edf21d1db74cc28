abbrev Cc (T : Nat → Nat) (nt : Nat) (k : Nat) : Int32 := cdp T nt (pos T nt k)
abbrev Vc (T : Nat → Nat) (nt : Nat) (k : Nat) : Int32 := vlp T nt (pos T nt k)
/-- by and a number -/
def pby (C V : Nat → Int32) (t : Nat) : Bool × Nat × Int32 := if C t = 302 then pin C V (t + 1) else (false, t, 0)
/-- one clause -/
def pcl (C V : Nat → Int32) (t : Nat) : Bool × Nat × Int32 × Int32 × Int32 :=
  if C t = 303 then (if C (t + 1) = 256 then (if (pby C V (t + 2)).1 = true then (if C (pby C V (t + 2)).2.1 = 304 then (if C ((pby C V (t + 2)).2.1 + 1) = 256 then (true, (pby C V (t + 2)).2.1 + 2, V (t + 1), (pby C V (t + 2)).2.2, V ((pby C V (t + 2)).2.1 + 1)) else (false, (pby C V (t + 2)).2.1 + 1, 0, 0, 0)) else (true, (pby C V (t + 2)).2.1, V (t + 1), (pby C V (t + 2)).2.2, 0)) else (false, (pby C V (t + 2)).2.1, 0, 0, 0)) else (false, t + 1, 0, 0, 0)) else (false, t, 0, 0, 0)
/-- clauses, at most m: well read, where then, how many, their numbers -/
def pcs (C V : Nat → Int32) : Nat → Nat → Bool × Nat × Nat × (Nat → Int32)
  | 0, t => (true, t, 0, fun _ => 0)
  | m + 1, t => if (pcl C V t).1 = true then (if m ≠ 0 ∧ C (pcl C V t).2.1 = 305 then ((pcs C V m ((pcl C V t).2.1 + 1)).1, (pcs C V m ((pcl C V t).2.1 + 1)).2.1, (pcs C V m ((pcl C V t).2.1 + 1)).2.2.1 + 1, fun k => if k = 0 then (pcl C V t).2.2.1 else if k = 1 then (pcl C V t).2.2.2.1 else if k = 2 then (pcl C V t).2.2.2.2 else (pcs C V m ((pcl C V t).2.1 + 1)).2.2.2 (k - 3)) else (true, (pcl C V t).2.1, 1, fun k => if k = 0 then (pcl C V t).2.2.1 else if k = 1 then (pcl C V t).2.2.2.1 else (pcl C V t).2.2.2.2)) else (false, (pcl C V t).2.1, 0, fun _ => 0)
/-- what the class writes reading a number after by -/
def UY (ad : Nat → Nat) (S S' : PS) : Prop := Un ad (fun g n => (g = 580 ∧ n = 5) ∨ (g = 516 ∧ n = 6)) (fun _ => False) False S S'
def UZ (ad : Nat → Nat) (S S' : PS) : Prop := Un ad (fun g n => (g = 580 ∧ n = 5) ∨ (g = 516 ∧ n = 6)) (fun n => n = 19) False S S'
def UW (ad : Nat → Nat) (S S' : PS) : Prop := Un ad (fun g n => (g = 580 ∧ n = 5) ∨ (514 ≤ g ∧ g ≤ 516 ∧ n = 6)) (fun n => n = 19) False S S'
section
variable {N nt c t : Nat} {ad : Nat → Nat} {S : PS} {T : Nat → Nat} {K : Int32 → PS → Prop}
theorem uy_of {S' : PS} (u : Un ad (fun g n => g = 580 ∧ n = 5) (fun _ => False) False S S') : UY ad S S' := Un.mono u (fun _ _ e => Or.inl e) (fun _ e => e) id
theorem UY.uz {S' : PS} (u : UY ad S S') : UZ ad S S' := Un.mono u (fun _ _ e => e) (fun _ e => absurd e id) id
theorem UZ.uw {S' : PS} (u : UZ ad S S') : UW ad S S' := Un.mono u (fun _ _ e => by omega) (fun _ e => e) id
theorem k_by48 {v : Int32} (h : CT S ad T nt c t) (hK : ∀ S', UY ad S S' → (if Cc T nt t = 256 then CT S' ad T nt c (t + 1) ∧ S'.I 516 (ad 6) = v else CT S' ad T nt c t) → K (if Cc T nt t = 256 then 1 else 0) S') : wq_X7_readBy_48 N K S (ad 6) (ad 6) v := by
  refine ⟨h.1.k6, fun S21 e21 => ?_⟩
  have u : UY ad S S21 := by rw [e21]; exact Un.setI (Or.inr ⟨rfl, rfl⟩)
  have h1 : CT S21 ad T nt c t := h.un (show Un ad (fun g n => g = 516 ∧ n = 6) (fun _ => False) False S S21 by rw [e21]; exact Un.setI ⟨rfl, rfl⟩) (by omega) (by simp)
  refine ⟨h1.1.k6, ad 5, h1.1.r512, h1.1.k5, k_take h1 (by decide) ?_⟩
  by_cases d : Cc T nt t = 256
  · rw [if_pos d] at hK ⊢
    intro S7 u7 h7
    have := hK S7 (Un.tr u (uy_of u7))
    rw [if_pos d] at this
    refine ⟨Or.inr rfl, this ⟨h7, ?_⟩⟩
    rw [u7.I h1.1 (by omega), e21]
    simp only [setI_K, setI_ln, setI_R, setI_Q, setI_I, setI_J, setI_A, setI_B, setJ_K, setJ_ln, setJ_R, setJ_Q, setJ_I, setJ_J, setJ_A, setJ_B, setR_K, setR_ln, setR_R, setR_Q, setR_I, setR_J, setR_A, setR_B, setA_K, setA_ln, setA_R, setA_Q, setA_I, setA_J, setA_A, setA_B, setB_K, setB_ln, setB_R, setB_Q, setB_I, setB_J, setB_A, setB_B, setQ_K, setQ_ln, setQ_R, setQ_Q, setQ_I, setQ_J, setQ_A, setQ_B, u2_ap, and_self, true_and, and_true, Option.some.injEq, exists_eq_left', exists_eq_left, forall_eq, forall_eq_apply_imp_iff, true_or, or_true, false_or, or_false, not_true_eq_false, not_false_eq_true, false_and, if_true, if_false, reduceIte]
  · rw [if_neg d] at hK ⊢
    have := hK S21 u
    rw [if_neg d] at this
    exact ⟨Or.inl rfl, this h1⟩
theorem k_by (h : CT S ad T nt c t) (hK : ∀ S', UY ad S S' → (if (pby (Cc T nt) (Vc T nt) t).1 = true then CT S' ad T nt c (pby (Cc T nt) (Vc T nt) t).2.1 ∧ S'.I 516 (ad 6) = (pby (Cc T nt) (Vc T nt) t).2.2 else CT S' ad T nt c (pby (Cc T nt) (Vc T nt) t).2.1) → K (if (pby (Cc T nt) (Vc T nt) t).1 = true then 1 else 0) S') : wp_X7_readBy N S (ad 6) K := by
  refine ⟨h.1.k6, ad 5, h.1.r512, h.1.k5, k_take h (by decide) ?_⟩
  unfold pby at hK
  by_cases d : Cc T nt t = 302
  · rw [if_pos d] at hK ⊢
    intro S4 u4 h4
    rw [if_neg (by decide)]
    refine ⟨h4.1.k6, ad 5, h4.1.r512, h4.1.k5, k_take h4 (by decide) ?_⟩
    unfold pin at hK
    by_cases f : Cc T nt (t + 1) = 45
    · rw [if_pos f] at hK ⊢
      intro S11 u11 h11
      rw [if_neg (by decide)]
      refine ⟨h11.1.k6, ad 5, h11.1.r512, h11.1.k5, ?_⟩
      rw [k_value h11]
      refine k_by48 h11 (fun S' u' h' => ?_)
      have z := hK S' (Un.tr (uy_of u4) (Un.tr (uy_of u11) u'))
      by_cases f2 : Cc T nt (t + 1 + 1) = 256
      · rw [if_pos f2] at h' z ⊢
        exact z h'
      · rw [if_neg f2] at h' z ⊢
        exact z h'
    · rw [if_neg f] at hK ⊢
      rw [if_pos rfl]
      refine ⟨h4.1.k6, ad 5, h4.1.r512, h4.1.k5, ?_⟩
      rw [k_value h4]
      refine k_by48 h4 (fun S' u' h' => ?_)
      have z := hK S' (Un.tr (uy_of u4) u')
      by_cases f2 : Cc T nt (t + 1) = 256
      · rw [if_pos f2] at h' z ⊢
        exact z h'
      · rw [if_neg f2] at h' z ⊢
        exact z h'
  · rw [if_neg d] at hK ⊢
    rw [if_pos rfl]
    exact hK S Un.rf h
theorem k_setA {S5 : PS} {i : Nat} {v : Int32} (h : CT S ad T nt c t) (e : S5 = S.setA (ad 19) i v) : CT S5 ad T nt c t ∧ UZ ad S S5 ∧ ∀ k, S5.A (ad 19) k = if k = i then v else S.A (ad 19) k := by
  have u : UZ ad S S5 := by rw [e]; exact Un.setA rfl
  refine ⟨h.un (show Un ad (fun _ _ => False) (fun n => n = 19) False S S5 by rw [e]; exact Un.setA rfl) (by simp) (by omega), u, fun k => ?_⟩
  rw [e]
  simp only [setI_K, setI_ln, setI_R, setI_Q, setI_I, setI_J, setI_A, setI_B, setJ_K, setJ_ln, setJ_R, setJ_Q, setJ_I, setJ_J, setJ_A, setJ_B, setR_K, setR_ln, setR_R, setR_Q, setR_I, setR_J, setR_A, setR_B, setA_K, setA_ln, setA_R, setA_Q, setA_I, setA_J, setA_A, setA_B, setB_K, setB_ln, setB_R, setB_Q, setB_I, setB_J, setB_A, setB_B, setQ_K, setQ_ln, setQ_R, setQ_Q, setQ_I, setQ_J, setQ_A, setQ_B, u2_ap, true_and, true_and, and_true, Option.some.injEq, exists_eq_left', exists_eq_left, forall_eq, forall_eq_apply_imp_iff, true_or, or_true, false_or, or_false, not_true_eq_false, not_false_eq_true, false_and, if_true, if_false, reduceIte]
theorem k_clause {j : Nat} (hj : j < 4) (h : CT S ad T nt c t) (hK : ∀ S', UZ ad S S' → CT S' ad T nt c (pcl (Cc T nt) (Vc T nt) t).2.1 → (∀ k, k < 3 * j → S'.A (ad 19) k = S.A (ad 19) k) → ((pcl (Cc T nt) (Vc T nt) t).1 = true → S'.A (ad 19) (3 * j) = (pcl (Cc T nt) (Vc T nt) t).2.2.1 ∧ S'.A (ad 19) (3 * j + 1) = (pcl (Cc T nt) (Vc T nt) t).2.2.2.1 ∧ S'.A (ad 19) (3 * j + 2) = (pcl (Cc T nt) (Vc T nt) t).2.2.2.2) → K (if (pcl (Cc T nt) (Vc T nt) t).1 = true then 1 else 0) S') : wp_X7_readClause N S (ad 6) (nI (3 * j)) K := by
  have v0 : vp_in (nI (3 * j)) 12 := vp_in_nI (by omega) (by decide)
  have v1 : vp_in (nI (3 * j + 1)) 12 := vp_in_nI (by omega) (by decide)
  have v2 : vp_in (nI (3 * j + 2)) 12 := vp_in_nI (by omega) (by decide)
  have a1 : nI (3 * j) + 1 = nI (3 * j + 1) := a1i _
  have a2 : nI (3 * j) + 2 = nI (3 * j + 2) := nI_add _ 2
  have q0 := nI_clamp (show 3 * j < 2 ^ 31 by omega)
  have q1 := nI_clamp (show 3 * j + 1 < 2 ^ 31 by omega)
  have q2 := nI_clamp (show 3 * j + 2 < 2 ^ 31 by omega)
  refine ⟨h.1.k6, ad 5, h.1.r512, h.1.k5, k_take h (by decide) ?_⟩
  unfold pcl at hK
  by_cases d : Cc T nt t = 303
  case neg =>
    rw [if_neg d] at hK ⊢
    rw [if_pos rfl]
    exact hK S Un.rf h (fun _ _ => rfl) (fun z => absurd z (by simp))
  rw [if_pos d] at hK ⊢
  intro S4 u4 h4
  rw [if_neg (by decide)]
  refine ⟨h4.1.k6, ad 19, h4.1.r513, ad 5, h4.1.r512, h4.1.k5, ?_⟩
  rw [k_value h4]
  refine ⟨h4.1.k19, by rw [h4.1.l19]; exact v0, fun S16 e16 => ?_⟩
  rw [q0] at e16
  obtain ⟨h16, u16, f16⟩ := k_setA h4 e16
  have U16 : UZ ad S S16 := Un.tr (uy_of u4).uz u16
  have A4 : S4.A (ad 19) = S.A (ad 19) := u4.A h.1 (by simp)
  refine ⟨h16.1.k6, ad 5, h16.1.r512, h16.1.k5, k_take h16 (by decide) ?_⟩
  by_cases d1 : Cc T nt (t + 1) = 256
  case neg =>
    rw [if_neg d1] at hK ⊢
    rw [if_pos rfl]
    refine hK S16 U16 h16 (fun k hk => ?_) (fun z => absurd z (by simp))
    rw [f16, if_neg (by omega), A4]
  rw [if_pos d1] at hK ⊢
  intro S20 u20 h20
  rw [if_neg (by decide)]
  have A20 : S20.A (ad 19) = S16.A (ad 19) := u20.A h16.1 (by simp)
  refine ⟨h20.1.k6, k_by h20 (fun S25 u25 h25 => ?_)⟩
  have A25 : S25.A (ad 19) = S16.A (ad 19) := (Un.A u25 h20.1 (by simp)).trans A20
  have U25 : UZ ad S S25 := Un.tr U16 (Un.tr (uy_of u20).uz u25.uz)
  by_cases d2 : (pby (Cc T nt) (Vc T nt) (t + 1 + 1)).1 = true
  case neg =>
    rw [if_neg d2] at h25 ⊢
    rw [if_neg (show ¬ (pby (Cc T nt) (Vc T nt) (t + 2)).1 = true from d2)] at hK
    rw [if_pos rfl]
    refine hK S25 U25 h25 (fun k hk => ?_) (fun z => absurd z (by simp))
    rw [A25, f16, if_neg (by omega), A4]
  rw [if_pos d2] at h25 ⊢
  rw [if_pos (show (pby (Cc T nt) (Vc T nt) (t + 2)).1 = true from d2)] at hK
  rw [if_neg (by decide)]
  obtain ⟨h25, i25⟩ := h25
  refine ⟨h25.1.k6, ad 19, h25.1.r513, h25.1.k19, by rw [h25.1.l19, a1]; exact v1, fun S33 e33 => ?_⟩
  rw [a1, q1, i25] at e33
  obtain ⟨h33, u33, f33⟩ := k_setA h25 e33
  refine ⟨ad 19, h33.1.r513, h33.1.k19, by rw [h33.1.l19, a2]; exact v2, fun S38 e38 => ?_⟩
  rw [a2, q2] at e38
  obtain ⟨h38, u38, f38⟩ := k_setA h33 e38
  have U38 : UZ ad S S38 := Un.tr U25 (Un.tr u33 u38)
  have B38 : ∀ k, k < 3 * j → S38.A (ad 19) k = S.A (ad 19) k := fun k hk => by rw [f38, if_neg (by omega), f33, if_neg (by omega), A25, f16, if_neg (by omega), A4]
  have C0 : S38.A (ad 19) (3 * j) = Vc T nt (t + 1) := by rw [f38, if_neg (by omega), f33, if_neg (by omega), A25, f16, if_pos rfl]
  have C1 : S38.A (ad 19) (3 * j + 1) = (pby (Cc T nt) (Vc T nt) (t + 2)).2.2 := by rw [f38, if_neg (by omega), f33, if_pos rfl]
  have C2 : S38.A (ad 19) (3 * j + 2) = 0 := by rw [f38, if_pos rfl]
  refine ⟨ad 5, h38.1.r512, h38.1.k5, k_take h38 (by decide) ?_⟩
  by_cases d3 : Cc T nt (pby (Cc T nt) (Vc T nt) (t + 2)).2.1 = 304
  case neg =>
    rw [if_neg d3] at hK ⊢
    rw [if_pos rfl]
    exact hK S38 U38 h38 B38 (fun _ => ⟨C0, C1, C2⟩)
  rw [if_pos d3] at hK ⊢
  intro S42 u42 h42
  rw [if_neg (by decide)]
  have A42 : S42.A (ad 19) = S38.A (ad 19) := u42.A h38.1 (by simp)
  refine ⟨h42.1.k6, ad 19, h42.1.r513, ad 5, h42.1.r512, h42.1.k5, ?_⟩
  rw [k_value h42]
  refine ⟨h42.1.k19, by rw [h42.1.l19, a2]; exact v2, fun S54 e54 => ?_⟩
  rw [a2, q2] at e54
  obtain ⟨h54, u54, f54⟩ := k_setA h42 e54
  have U54 : UZ ad S S54 := Un.tr U38 (Un.tr (uy_of u42).uz u54)
  have B54 : ∀ k, k < 3 * j → S54.A (ad 19) k = S.A (ad 19) k := fun k hk => by rw [f54, if_neg (by omega), A42, B38 k hk]
  refine ⟨h54.1.k6, ad 5, h54.1.r512, h54.1.k5, k_take h54 (by decide) ?_⟩
  by_cases d4 : Cc T nt ((pby (Cc T nt) (Vc T nt) (t + 2)).2.1 + 1) = 256
  case neg =>
    rw [if_neg d4] at hK ⊢
    exact ⟨Or.inl rfl, hK S54 U54 h54 B54 (fun z => absurd z (by simp))⟩
  rw [if_pos d4] at hK ⊢
  intro S58 u58 h58
  have A58 : S58.A (ad 19) = S54.A (ad 19) := u58.A h54.1 (by simp)
  refine ⟨Or.inr rfl, hK S58 (Un.tr U54 (uy_of u58).uz) h58 (fun k hk => by rw [A58, B54 k hk]) (fun _ => ⟨?_, ?_, ?_⟩)⟩
  · rw [A58, f54, if_neg (by omega), A42, C0]
  · rw [A58, f54, if_neg (by omega), A42, C1]
  · rw [A58, f54, if_pos rfl]
theorem k_clauses : ∀ (m n j t : Nat) (S : PS), j + (m + 1) = 4 → m < n → CT S ad T nt c t → S.I 515 (ad 6) = nI j → (∀ S', UW ad S S' → S'.I 514 (ad 6) = S.I 514 (ad 6) → CT S' ad T nt c (pcs (Cc T nt) (Vc T nt) (m + 1) t).2.1 → (∀ k, k < 3 * j → S'.A (ad 19) k = S.A (ad 19) k) → ((pcs (Cc T nt) (Vc T nt) (m + 1) t).1 = true → S'.I 515 (ad 6) = nI (j + (pcs (Cc T nt) (Vc T nt) (m + 1) t).2.2.1) ∧ ∀ k, k < 3 * (pcs (Cc T nt) (Vc T nt) (m + 1) t).2.2.1 → S'.A (ad 19) (3 * j + k) = (pcs (Cc T nt) (Vc T nt) (m + 1) t).2.2.2 k) → K (if (pcs (Cc T nt) (Vc T nt) (m + 1) t).1 = true then 1 else 0) S') → wq_X7_readClauses_2 N K n S (ad 6) (nI j) := by
  intro m
  induction m with
  | zero =>
    intro n j t S hj hn h i hK
    obtain ⟨n, rfl⟩ : ∃ z, n = z + 1 := ⟨n - 1, by omega⟩
    rw [wq_X7_readClauses_2.eq_2, if_neg (show ¬ (4 : Int32) ≤ nI j from nI_ge (b := 4) (by omega) (by decide)), show nI j * 3 = nI (3 * j) by rw [Nat.mul_comm]; exact (Int32.ofNat_mul j 3).symm]
    refine ⟨h.1.k6, k_clause (by omega) h (fun S3 u3 h3 b3 c3 => ?_)⟩
    rw [pcs] at hK
    by_cases d : (pcl (Cc T nt) (Vc T nt) t).1 = true
    case neg =>
      rw [if_neg d] at hK ⊢
      rw [if_pos rfl]
      exact hK S3 u3.uw (Un.I u3 h.1 (by omega)) h3 b3 (fun z => absurd z (by simp))
    rw [if_pos d, if_neg (fun z => z.1 rfl)] at hK
    rw [if_pos d, if_neg (by decide)]
    refine ⟨h3.1.k6, fun S8 e8 => ?_⟩
    rw [Un.I u3 h.1 (by omega), i, a1i] at e8
    have u8 : UW ad S3 S8 := by rw [e8]; exact Un.setI (by omega)
    have h8 : CT S8 ad T nt c _ := h3.un (show Un ad (fun g n => g = 515 ∧ n = 6) (fun _ => False) False S3 S8 by rw [e8]; exact Un.setI ⟨rfl, rfl⟩) (by omega) (by simp)
    rw [if_pos (show nI j = 3 by rw [show j = 3 by omega]; rfl)]
    refine hK S8 (Un.tr u3.uw u8) ?_ h8 (fun k hk => by rw [e8]; exact b3 k hk) (fun _ => ⟨?_, fun k hk => ?_⟩)
    · rw [e8]; simp only [setI_K, setI_ln, setI_R, setI_Q, setI_I, setI_J, setI_A, setI_B, setJ_K, setJ_ln, setJ_R, setJ_Q, setJ_I, setJ_J, setJ_A, setJ_B, setR_K, setR_ln, setR_R, setR_Q, setR_I, setR_J, setR_A, setR_B, setA_K, setA_ln, setA_R, setA_Q, setA_I, setA_J, setA_A, setA_B, setB_K, setB_ln, setB_R, setB_Q, setB_I, setB_J, setB_A, setB_B, setQ_K, setQ_ln, setQ_R, setQ_Q, setQ_I, setQ_J, setQ_A, setQ_B, u2_ap, Nat.reduceEqDiff, false_and, true_and, and_true, Option.some.injEq, exists_eq_left', exists_eq_left, forall_eq, forall_eq_apply_imp_iff, true_or, or_true, false_or, or_false, not_true_eq_false, not_false_eq_true, false_and, if_true, if_false, reduceIte]; exact Un.I u3 h.1 (by omega)
    · rw [e8]; simp only [setI_K, setI_ln, setI_R, setI_Q, setI_I, setI_J, setI_A, setI_B, setJ_K, setJ_ln, setJ_R, setJ_Q, setJ_I, setJ_J, setJ_A, setJ_B, setR_K, setR_ln, setR_R, setR_Q, setR_I, setR_J, setR_A, setR_B, setA_K, setA_ln, setA_R, setA_Q, setA_I, setA_J, setA_A, setA_B, setB_K, setB_ln, setB_R, setB_Q, setB_I, setB_J, setB_A, setB_B, setQ_K, setQ_ln, setQ_R, setQ_Q, setQ_I, setQ_J, setQ_A, setQ_B, u2_ap, and_self, true_and, and_true, Option.some.injEq, exists_eq_left', exists_eq_left, forall_eq, forall_eq_apply_imp_iff, true_or, or_true, false_or, or_false, not_true_eq_false, not_false_eq_true, false_and, if_true, if_false, reduceIte]
    · obtain ⟨c0, c1, c2⟩ := c3 d
      rw [e8]
      show S3.A (ad 19) (3 * j + k) = _
      obtain rfl | rfl | rfl : k = 0 ∨ k = 1 ∨ k = 2 := by have hk' : k < 3 * 1 := hk; omega
      · exact c0
      · exact c1
      · exact c2
  | succ m ih =>
    intro n j t S hj hn h i hK
    obtain ⟨n, rfl⟩ : ∃ z, n = z + 1 := ⟨n - 1, by omega⟩
    rw [wq_X7_readClauses_2.eq_2, if_neg (show ¬ (4 : Int32) ≤ nI j from nI_ge (b := 4) (by omega) (by decide)), show nI j * 3 = nI (3 * j) by rw [Nat.mul_comm]; exact (Int32.ofNat_mul j 3).symm]
    refine ⟨h.1.k6, k_clause (by omega) h (fun S3 u3 h3 b3 c3 => ?_)⟩
    rw [pcs] at hK
    by_cases d : (pcl (Cc T nt) (Vc T nt) t).1 = true
    case neg =>
      rw [if_neg d] at hK ⊢
      rw [if_pos rfl]
      exact hK S3 u3.uw (Un.I u3 h.1 (by omega)) h3 b3 (fun z => absurd z (by simp))
    rw [if_pos d] at hK
    rw [if_pos d, if_neg (by decide)]
    refine ⟨h3.1.k6, fun S8 e8 => ?_⟩
    rw [Un.I u3 h.1 (by omega), i, a1i] at e8
    have u8 : UW ad S3 S8 := by rw [e8]; exact Un.setI (by omega)
    have h8 : CT S8 ad T nt c _ := h3.un (show Un ad (fun g n => g = 515 ∧ n = 6) (fun _ => False) False S3 S8 by rw [e8]; exact Un.setI ⟨rfl, rfl⟩) (by omega) (by simp)
    have i8 : S8.I 515 (ad 6) = nI (j + 1) := by rw [e8]; simp only [setI_K, setI_ln, setI_R, setI_Q, setI_I, setI_J, setI_A, setI_B, setJ_K, setJ_ln, setJ_R, setJ_Q, setJ_I, setJ_J, setJ_A, setJ_B, setR_K, setR_ln, setR_R, setR_Q, setR_I, setR_J, setR_A, setR_B, setA_K, setA_ln, setA_R, setA_Q, setA_I, setA_J, setA_A, setA_B, setB_K, setB_ln, setB_R, setB_Q, setB_I, setB_J, setB_A, setB_B, setQ_K, setQ_ln, setQ_R, setQ_Q, setQ_I, setQ_J, setQ_A, setQ_B, u2_ap, and_self, true_and, and_true, Option.some.injEq, exists_eq_left', exists_eq_left, forall_eq, forall_eq_apply_imp_iff, true_or, or_true, false_or, or_false, not_true_eq_false, not_false_eq_true, false_and, if_true, if_false, reduceIte]
    have j8 : S8.I 514 (ad 6) = S.I 514 (ad 6) := by rw [e8]; simp only [setI_K, setI_ln, setI_R, setI_Q, setI_I, setI_J, setI_A, setI_B, setJ_K, setJ_ln, setJ_R, setJ_Q, setJ_I, setJ_J, setJ_A, setJ_B, setR_K, setR_ln, setR_R, setR_Q, setR_I, setR_J, setR_A, setR_B, setA_K, setA_ln, setA_R, setA_Q, setA_I, setA_J, setA_A, setA_B, setB_K, setB_ln, setB_R, setB_Q, setB_I, setB_J, setB_A, setB_B, setQ_K, setQ_ln, setQ_R, setQ_Q, setQ_I, setQ_J, setQ_A, setQ_B, u2_ap, Nat.reduceEqDiff, false_and, true_and, and_true, Option.some.injEq, exists_eq_left', exists_eq_left, forall_eq, forall_eq_apply_imp_iff, true_or, or_true, false_or, or_false, not_true_eq_false, not_false_eq_true, false_and, if_true, if_false, reduceIte]; exact Un.I u3 h.1 (by omega)
    have A8 : S8.A (ad 19) = S3.A (ad 19) := by rw [e8]; rfl
    obtain ⟨c0, c1, c2⟩ := c3 d
    rw [if_neg (show ¬ nI j = 3 from ii_ne (b := 3) (by omega) (by decide) (by omega))]
    refine ⟨ad 5, h8.1.r512, h8.1.k5, k_take h8 (by decide) ?_⟩
    by_cases d1 : Cc T nt (pcl (Cc T nt) (Vc T nt) t).2.1 = 305
    · rw [if_pos ⟨by omega, d1⟩] at hK
      rw [if_pos d1]
      intro S13 u13 h13
      rw [if_neg (by decide), a1i]
      have u13' : UW ad S8 S13 := (uy_of u13).uz.uw
      have A13 : S13.A (ad 19) = S3.A (ad 19) := (u13.A h8.1 (by simp)).trans A8
      refine ih n (j + 1) _ S13 (by omega) (by omega) h13 ((u13.I h8.1 (by omega)).trans i8) (fun S' u' i' h' b' c' => hK S' (Un.tr (Un.tr u3.uw u8) (Un.tr u13' u')) ?_ h' (fun k hk => ?_) (fun z => ⟨?_, fun k hk => ?_⟩))
      · rw [i', u13.I h8.1 (by omega), j8]
      · rw [b' k (by omega), A13, b3 k hk]
      · rw [(c' z).1]
        show nI _ = nI (j + (_ + 1))
        rw [show ∀ x : Nat, j + 1 + x = j + (x + 1) from fun x => by omega]
      · show _ = (if k = 0 then _ else if k = 1 then _ else if k = 2 then _ else _)
        have hk' : k < 3 * ((pcs (Cc T nt) (Vc T nt) (m + 1) ((pcl (Cc T nt) (Vc T nt) t).2.1 + 1)).2.2.1 + 1) := hk
        by_cases k0 : k = 0
        · rw [if_pos k0, k0, b' _ (by omega), A13]; exact c0
        by_cases k1 : k = 1
        · rw [if_neg k0, if_pos k1, k1, b' _ (by omega), A13]; exact c1
        by_cases k2 : k = 2
        · rw [if_neg k0, if_neg k1, if_pos k2, k2, b' _ (by omega), A13]; exact c2
        rw [if_neg k0, if_neg k1, if_neg k2, ← (c' z).2 (k - 3) (by omega), show 3 * (j + 1) + (k - 3) = 3 * j + k by omega]
    · rw [if_neg (fun z => d1 z.2)] at hK
      rw [if_neg d1, if_pos rfl]
      refine hK S8 (Un.tr u3.uw u8) j8 h8 (fun k hk => by rw [A8]; exact b3 k hk) (fun _ => ⟨i8, fun k hk => ?_⟩)
      rw [A8]
      obtain rfl | rfl | rfl : k = 0 ∨ k = 1 ∨ k = 2 := by have hk' : k < 3 * 1 := hk; omega
      · exact c0
      · exact c1
      · exact c2
end
