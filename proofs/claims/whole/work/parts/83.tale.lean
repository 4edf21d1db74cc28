/-- what the reference writes reading a story -/
def UX (ad : Nat → Nat) (S S' : PS) : Prop := Un ad (fun g n => n = 80 ∧ 783 ≤ g ∧ g ≤ 788) (fun n => n = 87) False S S'
section
variable {N nt t : Nat} {ad : Nat → Nat} {S : PS} {T : Nat → Nat} {g : Int32}
theorem UB.ux {S' : PS} (u : UB ad S S') : UX ad S S' := Un.mono u (fun _ _ e => e) (fun _ e => absurd e id) id
theorem rg_setA {S5 : PS} {i : Nat} {v : Int32} (h : RG S ad T nt t g) (e : S5 = S.setA (ad 87) i v) : RG S5 ad T nt t g ∧ UX ad S S5 ∧ ∀ k, S5.A (ad 87) k = if k = i then v else S.A (ad 87) k := by
  obtain ⟨⟨hB1, hB2, hB3⟩, ⟨a1, a2, a3, a4, a5⟩, i⟩ := h
  have u : UX ad S S5 := by rw [e]; exact Un.setA rfl
  have u2 : Un ad (fun _ _ => False) (fun n => n = 87) False S S5 := by rw [e]; exact Un.setA rfl
  refine ⟨⟨⟨u2.sh hB1, (u2.I hB1 (by simp)).trans hB2, by rw [u2.A hB1 (by omega)]; exact hB3⟩, ⟨(u2.I hB1 (by simp)).trans a1, (u2.I hB1 (by simp)).trans a2, (u2.I hB1 (by simp)).trans a3, by rw [e]; exact a4, (u2.I hB1 (by simp)).trans a5⟩, (u2.I hB1 (by simp)).trans i⟩, u, fun k => ?_⟩
  rw [e]
  simp only [setI_K, setI_ln, setI_R, setI_Q, setI_I, setI_J, setI_A, setI_B, setJ_K, setJ_ln, setJ_R, setJ_Q, setJ_I, setJ_J, setJ_A, setJ_B, setR_K, setR_ln, setR_R, setR_Q, setR_I, setR_J, setR_A, setR_B, setA_K, setA_ln, setA_R, setA_Q, setA_I, setA_J, setA_A, setA_B, setB_K, setB_ln, setB_R, setB_Q, setB_I, setB_J, setB_A, setB_B, setQ_K, setQ_ln, setQ_R, setQ_Q, setQ_I, setQ_J, setQ_A, setQ_B, u2_ap, true_and, true_and, and_true, Option.some.injEq, exists_eq_left', exists_eq_left, forall_eq, forall_eq_apply_imp_iff, true_or, or_true, false_or, or_false, not_true_eq_false, not_false_eq_true, false_and, if_true, if_false, reduceIte]
theorem r_word0 {K : PS → Prop} (hT : ∀ k, T k < 256) (hn : nt ≤ 200) (hN5 : 5000 ≤ N) (h : RG S ad T nt t 0) {i : Nat} (hi : i < 15) (hK : ∀ S', UB ad S S' → RG S' ad T nt t 0 → K S') : wp_X11_wantWord N S (ad 80) (lN (Wn.getD i 0)) K :=
  r_word hT hn hN5 h (Or.inl rfl) hi (fun S' u' h' => by rw [if_neg (fun z => absurd z.1 (by decide))] at h'; exact hK S' u' h')
theorem r_num0 {K : Int32 → PS → Prop} (hT : ∀ k, T k < 256) (hn : nt ≤ 200) (hN5 : 5000 ≤ N) (h : RG S ad T nt t 0) (hK : ∀ S' x, UB ad S S' → RG S' ad T nt t 0 → K x S') : wp_X11_wantNumber N S (ad 80) K :=
  r_num hT hn hN5 h (Or.inl rfl) (fun S' x u' h' => by rw [if_neg (fun z => absurd z.1 (by decide))] at h'; exact hK S' x u' h')
theorem r_int0 {K : Int32 → PS → Prop} (hT : ∀ k, T k < 256) (hn : nt ≤ 200) (hN5 : 5000 ≤ N) (h : RG S ad T nt t 0) (hK : ∀ S' x, UB ad S S' → RG S' ad T nt t 0 → K x S') : wp_X11_wantInt N S (ad 80) K :=
  r_int hT hn hN5 h (Or.inl rfl) (fun S' x u' h' => by rw [if_neg (by decide)] at h'; exact hK S' x u' h')
/-- by and a number -/
theorem r_by {K : Int32 → PS → Prop} (hT : ∀ k, T k < 256) (hn : nt ≤ 200) (hN5 : 5000 ≤ N) (h : RG S ad T nt t 1) (hK : ∀ S' x, UB ad S S' → (if (pby (Cc T nt) (Vc T nt) t).1 = true then RG S' ad T nt (pby (Cc T nt) (Vc T nt) t).2.1 1 ∧ x = (pby (Cc T nt) (Vc T nt) t).2.2 else RG S' ad T nt (pby (Cc T nt) (Vc T nt) t).2.1 0) → K x S') : wp_X11_wantWord N S (ad 80) (lN (Wn.getD 2 0)) (fun S5 => S5.K (ad 80) = 12 ∧ wp_X11_wantInt N S5 (ad 80) K) := by
  refine r_word hT hn hN5 h (Or.inr rfl) (i := 2) (by omega) (fun S5 u5 h5 => ?_)
  unfold pby at hK
  by_cases d : Cc T nt t = 302
  · rw [if_pos d] at hK
    rw [if_pos ⟨rfl, d⟩] at h5
    refine ⟨h5.1.1.k80, r_int hT hn hN5 h5 (Or.inr rfl) (fun S' x u' h' => ?_)⟩
    rw [if_pos rfl] at h'
    exact hK S' x (Un.tr u5 u') h'
  · rw [if_neg d] at hK
    rw [if_neg (fun z => d z.2)] at h5
    exact ⟨h5.1.1.k80, r_int0 hT hn hN5 h5 (fun S' x u' h' => hK S' x (Un.tr u5 u') h')⟩
theorem r_c70 {K : PS → Prop} {k4 : PS → Nat → Int32 → Int32 → Prop} {x3 x4 x5 : Int32} {j : Nat} (hT : ∀ k, T k < 256) (hn : nt ≤ 200) (hN5 : 5000 ≤ N) (hj : j < 4) (h : RG S ad T nt t g) (hg : g = 0 ∨ g = 1) (hK : ∀ S', UX ad S S' → (∀ k, S'.A (ad 87) k = if k = 4 + 3 * j then x5 else if k = 3 + 3 * j then x4 else if k = 2 + 3 * j then x3 else S.A (ad 87) k) → (if g = 1 ∧ j ≠ 3 ∧ Cc T nt t = 305 then RG S' ad T nt (t + 1) g else RG S' ad T nt t g) → k4 S' (ad 80) (nI (j + 1)) (if g = 1 ∧ j ≠ 3 ∧ Cc T nt t = 305 then 1 else 0)) : wq_X11_wantClauses_70 N K k4 S (ad 80) (nI j) x3 x4 x5 := by
  have m3 : (3 : Int32) * nI j = nI (3 * j) := (Int32.ofNat_mul 3 j).symm
  have a2 : (2 : Int32) + nI (3 * j) = nI (2 + 3 * j) := nI_add 2 _
  have a3 : (3 : Int32) + nI (3 * j) = nI (3 + 3 * j) := nI_add 3 _
  have a4 : (4 : Int32) + nI (3 * j) = nI (4 + 3 * j) := nI_add 4 _
  have v2 : vp_in (nI (2 + 3 * j)) 16 := vp_in_nI (by omega) (by decide)
  have v3 : vp_in (nI (3 + 3 * j)) 16 := vp_in_nI (by omega) (by decide)
  have v4 : vp_in (nI (4 + 3 * j)) 16 := vp_in_nI (by omega) (by decide)
  unfold wq_X11_wantClauses_70
  rw [m3, a2, a3, a4, nI_clamp (show 2 + 3 * j < 2 ^ 31 by omega), nI_clamp (show 3 + 3 * j < 2 ^ 31 by omega), nI_clamp (show 4 + 3 * j < 2 ^ 31 by omega), a1i]
  refine ⟨h.1.1.k80, ad 87, h.1.1.r789, h.1.1.k87, by rw [h.1.1.l87]; exact v2, fun S26 e26 => ?_⟩
  obtain ⟨h26, u26, f26⟩ := rg_setA h e26
  refine ⟨ad 87, h26.1.1.r789, h26.1.1.k87, by rw [h26.1.1.l87]; exact v3, fun S31 e31 => ?_⟩
  obtain ⟨h31, u31, f31⟩ := rg_setA h26 e31
  refine ⟨ad 87, h31.1.1.r789, h31.1.1.k87, by rw [h31.1.1.l87]; exact v4, fun S36 e36 => ?_⟩
  obtain ⟨h36, u36, f36⟩ := rg_setA h31 e36
  have U36 : UX ad S S36 := Un.tr u26 (Un.tr u31 u36)
  have F36 : ∀ k, S36.A (ad 87) k = if k = 4 + 3 * j then x5 else if k = 3 + 3 * j then x4 else if k = 2 + 3 * j then x3 else S.A (ad 87) k := fun k => by rw [f36, f31, f26]
  have no : ¬ (g = 1 ∧ j ≠ 3 ∧ Cc T nt t = 305) → wq_X11_wantClauses_134 N K k4 S36 (ad 80) (nI (j + 1)) := by
    intro c
    have := hK S36 U36 F36
    rw [if_neg c, if_neg c] at this
    unfold wq_X11_wantClauses_134 wq_X11_wantClauses_135
    rw [if_pos rfl]
    exact this h36
  rw [h36.2.2]
  by_cases c : g = 0
  · rw [if_pos c]
    exact no (fun z => absurd (c.symm.trans z.1) (by decide))
  have c1 := hg.resolve_left c
  rw [if_neg c]
  by_cases d : j = 3
  · rw [if_pos (show (4 : Int32) ≤ nI (j + 1) by rw [d]; decide)]
    exact no (fun z => z.2.1 d)
  rw [if_neg (show ¬ (4 : Int32) ≤ nI (j + 1) from nI_ge (b := 4) (by omega) (by decide))]
  show wp_X11_isWord N S36 (ad 80) (lN (Wn.getD 5 0)) _
  rw [t_word hT h36.1.1 h36.2.1 (i := 5) (by omega)]
  by_cases f : Cc T nt t = 305
  · rw [if_pos (show cdp T nt (pos T nt t) = nI (300 + 5) from f), if_neg (by decide)]
    unfold wq_X11_wantClauses_135
    rw [if_neg (by decide)]
    refine ⟨h36.1.1.k80, r_adv hT hn hN5 h36 (fun S' u' h' => ?_)⟩
    have := hK S' (Un.tr U36 u'.ub.ux) (fun k => by rw [Un.A u' h36.1.1 (by simp)]; exact F36 k)
    rw [if_pos ⟨c1, d, f⟩, if_pos ⟨c1, d, f⟩] at this
    exact this h'
  · rw [if_neg (show ¬ cdp T nt (pos T nt t) = nI (300 + 5) from f), if_pos rfl]
    exact no (fun z => f z.2.2)
theorem r_c147 {K : PS → Prop} {j : Nat} (hj : j ≤ 4) (h : RG S ad T nt t g) (hK : ∀ S', UX ad S S' → RG S' ad T nt t g → (∀ k, S'.A (ad 87) k = if k = 1 then nI j else S.A (ad 87) k) → K S') : wq_X11_wantClauses_147 N K S (ad 80) (nI j) := by
  refine ⟨h.1.1.k80, ad 87, h.1.1.r789, h.1.1.k87, by rw [h.1.1.l87]; exact vp_in_nI (show 1 < 16 by decide) (by decide), fun S7 e7 => ?_⟩
  obtain ⟨h7, u7, f7⟩ := rg_setA h e7
  exact hK S7 u7 h7 f7
/-- one clause, up to its writing down -/
theorem r_clause {K : PS → Prop} {k4 : PS → Nat → Int32 → Int32 → Prop} {j : Nat} (hT : ∀ k, T k < 256) (hn : nt ≤ 200) (hN5 : 5000 ≤ N) (h : RG S ad T nt t 1) (hK : ∀ S' x3 x4 x5, UB ad S S' → (if (pcl (Cc T nt) (Vc T nt) t).1 = true then RG S' ad T nt (pcl (Cc T nt) (Vc T nt) t).2.1 1 ∧ x3 = (pcl (Cc T nt) (Vc T nt) t).2.2.1 ∧ x4 = (pcl (Cc T nt) (Vc T nt) t).2.2.2.1 ∧ x5 = (pcl (Cc T nt) (Vc T nt) t).2.2.2.2 else RG S' ad T nt (pcl (Cc T nt) (Vc T nt) t).2.1 0) → wq_X11_wantClauses_70 N K k4 S' (ad 80) (nI j) x3 x4 x5) : wp_X11_wantWord N S (ad 80) (316163 : Int64) (fun S9 => S9.K (ad 80) = 12 ∧ wp_X11_wantNumber N S9 (ad 80) (fun r13 S12 => S12.K (ad 80) = 12 ∧ wp_X11_wantWord N S12 (ad 80) (79 : Int64) (fun S15 => S15.K (ad 80) = 12 ∧ wp_X11_wantInt N S15 (ad 80) (fun r19 S18 => S18.K (ad 80) = 12 ∧ if (S18.I 788 (ad 80)) = 0 then (wq_X11_wantClauses_70 N K k4 S18 (ad 80) (nI j) r13 r19 0) else (wp_X11_isWord N S18 (ad 80) (131638 : Int64) (fun r49 S48 => if r49 = 0 then (wq_X11_wantClauses_70 N K k4 S48 (ad 80) (nI j) r13 r19 0) else (S48.K (ad 80) = 12 ∧ wp_X11_advance N S48 (ad 80) (fun S53 => S53.K (ad 80) = 12 ∧ wp_X11_wantNumber N S53 (ad 80) (fun r57 S56 => wq_X11_wantClauses_70 N K k4 S56 (ad 80) (nI j) r13 r19 r57))))))))) := by
  have bad : ∀ (S1 : PS) (t' : Nat), UB ad S S1 → RG S1 ad T nt t' 0 → (∀ S' x3 x4 x5, UB ad S S' → RG S' ad T nt t' 0 → wq_X11_wantClauses_70 N K k4 S' (ad 80) (nI j) x3 x4 x5) → ∀ r13, wp_X11_wantWord N S1 (ad 80) (lN (Wn.getD 2 0)) (fun S15 => S15.K (ad 80) = 12 ∧ wp_X11_wantInt N S15 (ad 80) (fun r19 S18 => S18.K (ad 80) = 12 ∧ if (S18.I 788 (ad 80)) = 0 then (wq_X11_wantClauses_70 N K k4 S18 (ad 80) (nI j) r13 r19 0) else (wp_X11_isWord N S18 (ad 80) (131638 : Int64) (fun r49 S48 => if r49 = 0 then (wq_X11_wantClauses_70 N K k4 S48 (ad 80) (nI j) r13 r19 0) else (S48.K (ad 80) = 12 ∧ wp_X11_advance N S48 (ad 80) (fun S53 => S53.K (ad 80) = 12 ∧ wp_X11_wantNumber N S53 (ad 80) (fun r57 S56 => wq_X11_wantClauses_70 N K k4 S56 (ad 80) (nI j) r13 r19 r57))))))) := by
    intro S1 t' u1 h1 hK1 r13
    refine r_word0 hT hn hN5 h1 (i := 2) (by omega) (fun S2 u2 h2 => ⟨h2.1.1.k80, r_int0 hT hn hN5 h2 (fun S3 x u3 h3 => ⟨h3.1.1.k80, ?_⟩)⟩)
    rw [h3.2.2, if_pos rfl]
    exact hK1 S3 r13 x 0 (Un.tr u1 (Un.tr u2 u3)) h3
  show wp_X11_wantWord N S (ad 80) (lN (Wn.getD 3 0)) _
  refine r_word hT hn hN5 h (Or.inr rfl) (i := 3) (by omega) (fun S9 u9 h9 => ?_)
  unfold pcl at hK
  by_cases d : Cc T nt t = 303
  case neg =>
    rw [if_neg d] at hK
    rw [if_neg (fun z => d z.2)] at h9
    exact ⟨h9.1.1.k80, r_num0 hT hn hN5 h9 (fun S12 x u12 h12 => ⟨h12.1.1.k80, bad S12 t (Un.tr u9 u12) h12 (fun S' x3 x4 x5 u' h' => hK S' x3 x4 x5 u' h') x⟩)⟩
  rw [if_pos d] at hK
  rw [if_pos ⟨rfl, d⟩] at h9
  refine ⟨h9.1.1.k80, r_num hT hn hN5 h9 (Or.inr rfl) (fun S12 x u12 h12 => ?_)⟩
  by_cases d1 : Cc T nt (t + 1) = 256
  case neg =>
    rw [if_neg d1] at hK
    rw [if_neg (fun z => d1 z.2)] at h12
    exact ⟨h12.1.1.k80, bad S12 (t + 1) (Un.tr u9 u12) h12 (fun S' x3 x4 x5 u' h' => hK S' x3 x4 x5 u' h') x⟩
  rw [if_pos d1] at hK
  rw [if_pos ⟨rfl, d1⟩] at h12
  obtain ⟨h12, rfl⟩ := h12
  refine ⟨h12.1.1.k80, r_by hT hn hN5 h12 (fun S18 x4 u18 h18 => ?_)⟩
  have U18 : UB ad S S18 := Un.tr u9 (Un.tr u12 u18)
  by_cases d2 : (pby (Cc T nt) (Vc T nt) (t + 2)).1 = true
  case neg =>
    rw [if_neg d2] at hK
    rw [if_neg (show ¬ (pby (Cc T nt) (Vc T nt) (t + 1 + 1)).1 = true from d2)] at h18
    refine ⟨h18.1.1.k80, ?_⟩
    rw [h18.2.2, if_pos rfl]
    exact hK S18 _ x4 0 U18 h18
  rw [if_pos d2] at hK
  rw [if_pos (show (pby (Cc T nt) (Vc T nt) (t + 1 + 1)).1 = true from d2)] at h18
  obtain ⟨h18, e4⟩ := h18
  refine ⟨h18.1.1.k80, ?_⟩
  rw [h18.2.2, if_neg (by decide)]
  show wp_X11_isWord N S18 (ad 80) (lN (Wn.getD 4 0)) _
  rw [t_word hT h18.1.1 h18.2.1 (i := 4) (by omega)]
  by_cases d3 : Cc T nt (pby (Cc T nt) (Vc T nt) (t + 2)).2.1 = 304
  case neg =>
    rw [if_neg d3] at hK
    rw [if_neg (show ¬ cdp T nt (pos T nt (pby (Cc T nt) (Vc T nt) (t + 1 + 1)).2.1) = nI (300 + 4) from d3), if_pos rfl]
    exact hK S18 _ x4 0 U18 ⟨h18, rfl, e4, rfl⟩
  rw [if_pos d3] at hK
  rw [if_pos (show cdp T nt (pos T nt (pby (Cc T nt) (Vc T nt) (t + 1 + 1)).2.1) = nI (300 + 4) from d3), if_neg (by decide)]
  refine ⟨h18.1.1.k80, r_adv hT hn hN5 h18 (fun S53 u53 h53 => ⟨h53.1.1.k80, r_num hT hn hN5 h53 (Or.inr rfl) (fun S56 x5 u56 h56 => ?_)⟩)⟩
  have U56 : UB ad S S56 := Un.tr U18 (Un.tr u53.ub u56)
  by_cases d4 : Cc T nt ((pby (Cc T nt) (Vc T nt) (t + 2)).2.1 + 1) = 256
  · rw [if_pos d4] at hK
    rw [if_pos ⟨rfl, d4⟩] at h56
    exact hK S56 _ x4 x5 U56 ⟨h56.1, rfl, e4, h56.2⟩
  · rw [if_neg d4] at hK
    rw [if_neg (fun z => d4 z.2)] at h56
    exact hK S56 _ x4 x5 U56 h56
theorem r_clauses {K : PS → Prop} (hT : ∀ k, T k < 256) (hn : nt ≤ 200) (hN5 : 5000 ≤ N) : ∀ (m n j t : Nat) (S : PS), j + (m + 1) = 4 → m + 1 < n → RG S ad T nt t 1 → (∀ S', UX ad S S' → (if (pcs (Cc T nt) (Vc T nt) (m + 1) t).1 = true then RG S' ad T nt (pcs (Cc T nt) (Vc T nt) (m + 1) t).2.1 1 ∧ (∀ k, k < 2 + 3 * j → k ≠ 1 → S'.A (ad 87) k = S.A (ad 87) k) ∧ S'.A (ad 87) 1 = nI (j + (pcs (Cc T nt) (Vc T nt) (m + 1) t).2.2.1) ∧ ∀ k, k < 3 * (pcs (Cc T nt) (Vc T nt) (m + 1) t).2.2.1 → S'.A (ad 87) (2 + 3 * j + k) = (pcs (Cc T nt) (Vc T nt) (m + 1) t).2.2.2 k else RG S' ad T nt (pcs (Cc T nt) (Vc T nt) (m + 1) t).2.1 0) → K S') → wq_X11_wantClauses_4 N K n S (ad 80) (nI j) 1 := by
  intro m
  induction m with
  | zero =>
    intro n j t S hj hm h hK
    obtain ⟨n, rfl⟩ : ∃ z, n = z + 1 := ⟨n - 1, by omega⟩
    obtain ⟨n, rfl⟩ : ∃ z, n = z + 1 := ⟨n - 1, by omega⟩
    rw [wq_X11_wantClauses_4.eq_2]
    refine ⟨h.1.1.k80, ?_⟩
    rw [h.2.2, if_neg (by decide), if_neg (by decide)]
    refine r_clause hT hn hN5 h (fun S1 x3 x4 x5 u1 h1 => ?_)
    rw [pcs] at hK
    by_cases d : (pcl (Cc T nt) (Vc T nt) t).1 = true
    case neg =>
      rw [if_neg d] at hK h1
      refine r_c70 hT hn hN5 (by omega) h1 (Or.inl rfl) (fun S2 u2 f2 h2 => ?_)
      rw [if_neg (fun z => absurd z.1 (by decide))] at h2
      rw [if_neg (fun z => absurd z.1 (by decide)), wq_X11_wantClauses_4.eq_2]
      refine ⟨h2.1.1.k80, ?_⟩
      rw [h2.2.2, if_pos rfl]
      exact r_c147 (by omega) h2 (fun S3 u3 h3 _ => hK S3 (Un.tr u1.ux (Un.tr u2 u3)) h3)
    rw [if_pos d, if_neg (fun z => z.1 rfl)] at hK
    rw [if_pos d] at h1
    obtain ⟨h1, e3, e4, e5⟩ := h1
    refine r_c70 hT hn hN5 (by omega) h1 (Or.inr rfl) (fun S2 u2 f2 h2 => ?_)
    rw [if_neg (fun z => z.2.1 (by omega))] at h2
    rw [if_neg (fun z => z.2.1 (by omega)), wq_X11_wantClauses_4.eq_2]
    refine ⟨h2.1.1.k80, ?_⟩
    rw [h2.2.2, if_neg (by decide), if_pos rfl]
    refine r_c147 (by omega) h2 (fun S3 u3 h3 f3 => hK S3 (Un.tr u1.ux (Un.tr u2 u3)) ⟨h3, fun k hk k1 => ?_, ?_, fun k hk => ?_⟩)
    · rw [f3, if_neg k1, f2, if_neg (by omega), if_neg (by omega), if_neg (by omega), Un.A u1 h.1.1 (by simp)]
    · rw [f3, if_pos rfl]
    · rw [f3, if_neg (by omega), f2]
      obtain rfl | rfl | rfl : k = 0 ∨ k = 1 ∨ k = 2 := by have hk' : k < 3 * 1 := hk; omega
      · rw [if_neg (by omega), if_neg (by omega), if_pos (by omega)]; exact e3
      · rw [if_neg (by omega), if_pos (by omega)]; exact e4
      · rw [if_pos (by omega)]; exact e5
  | succ m ih =>
    intro n j t S hj hm h hK
    obtain ⟨n, rfl⟩ : ∃ z, n = z + 1 := ⟨n - 1, by omega⟩
    rw [wq_X11_wantClauses_4.eq_2]
    refine ⟨h.1.1.k80, ?_⟩
    rw [h.2.2, if_neg (by decide), if_neg (by decide)]
    refine r_clause hT hn hN5 h (fun S1 x3 x4 x5 u1 h1 => ?_)
    rw [pcs] at hK
    by_cases d : (pcl (Cc T nt) (Vc T nt) t).1 = true
    case neg =>
      obtain ⟨n, rfl⟩ : ∃ z, n = z + 1 := ⟨n - 1, by omega⟩
      rw [if_neg d] at hK h1
      refine r_c70 hT hn hN5 (by omega) h1 (Or.inl rfl) (fun S2 u2 f2 h2 => ?_)
      rw [if_neg (fun z => absurd z.1 (by decide))] at h2
      rw [if_neg (fun z => absurd z.1 (by decide)), wq_X11_wantClauses_4.eq_2]
      refine ⟨h2.1.1.k80, ?_⟩
      rw [h2.2.2, if_pos rfl]
      exact r_c147 (by omega) h2 (fun S3 u3 h3 _ => hK S3 (Un.tr u1.ux (Un.tr u2 u3)) h3)
    rw [if_pos d] at hK h1
    obtain ⟨h1, e3, e4, e5⟩ := h1
    refine r_c70 hT hn hN5 (by omega) h1 (Or.inr rfl) (fun S2 u2 f2 h2 => ?_)
    have g0 : S2.A (ad 87) (2 + 3 * j) = (pcl (Cc T nt) (Vc T nt) t).2.2.1 := by rw [f2, if_neg (by omega), if_neg (by omega), if_pos rfl, e3]
    have g1 : S2.A (ad 87) (3 + 3 * j) = (pcl (Cc T nt) (Vc T nt) t).2.2.2.1 := by rw [f2, if_neg (by omega), if_pos rfl, e4]
    have g2 : S2.A (ad 87) (4 + 3 * j) = (pcl (Cc T nt) (Vc T nt) t).2.2.2.2 := by rw [f2, if_pos rfl, e5]
    have g3 : ∀ k, k < 2 + 3 * j → S2.A (ad 87) k = S.A (ad 87) k := fun k hk => by rw [f2, if_neg (by omega), if_neg (by omega), if_neg (by omega), Un.A u1 h.1.1 (by simp)]
    by_cases d1 : Cc T nt (pcl (Cc T nt) (Vc T nt) t).2.1 = 305
    · rw [if_pos ⟨by omega, d1⟩] at hK
      rw [if_pos ⟨rfl, by omega, d1⟩] at h2
      rw [if_pos ⟨rfl, by omega, d1⟩]
      refine ih n (j + 1) _ S2 (by omega) (by omega) h2 (fun S3 u3 h3 => hK S3 (Un.tr u1.ux (Un.tr u2 u3)) ?_)
      by_cases e : (pcs (Cc T nt) (Vc T nt) (m + 1) ((pcl (Cc T nt) (Vc T nt) t).2.1 + 1)).1 = true
      · rw [if_pos e] at h3
        rw [if_pos e]
        obtain ⟨h3, b3, c3, d3⟩ := h3
        refine ⟨h3, fun k hk k1 => ?_, ?_, fun k hk => ?_⟩
        · rw [b3 k (by omega) k1, g3 k hk]
        · rw [c3]
          show nI _ = nI (j + (_ + 1))
          rw [show ∀ x : Nat, j + 1 + x = j + (x + 1) from fun x => by omega]
        · show _ = (if k = 0 then _ else if k = 1 then _ else if k = 2 then _ else _)
          have hk' : k < 3 * ((pcs (Cc T nt) (Vc T nt) (m + 1) ((pcl (Cc T nt) (Vc T nt) t).2.1 + 1)).2.2.1 + 1) := hk
          by_cases k0 : k = 0
          · rw [if_pos k0, k0, b3 _ (by omega) (by omega)]; exact g0
          by_cases k1 : k = 1
          · rw [if_neg k0, if_pos k1, k1, b3 _ (by omega) (by omega), show 2 + 3 * j + 1 = 3 + 3 * j by omega]; exact g1
          by_cases k2 : k = 2
          · rw [if_neg k0, if_neg k1, if_pos k2, k2, b3 _ (by omega) (by omega), show 2 + 3 * j + 2 = 4 + 3 * j by omega]; exact g2
          rw [if_neg k0, if_neg k1, if_neg k2, ← d3 (k - 3) (by omega), show 2 + 3 * (j + 1) + (k - 3) = 2 + 3 * j + k by omega]
      · rw [if_neg e] at h3
        rw [if_neg e]
        exact h3
    · obtain ⟨n, rfl⟩ : ∃ z, n = z + 1 := ⟨n - 1, by omega⟩
      rw [if_neg (fun z => d1 z.2)] at hK
      rw [if_neg (fun z => d1 z.2.2)] at h2
      rw [if_neg (fun z => d1 z.2.2), wq_X11_wantClauses_4.eq_2]
      refine ⟨h2.1.1.k80, ?_⟩
      rw [h2.2.2, if_neg (by decide), if_pos rfl]
      refine r_c147 (by omega) h2 (fun S3 u3 h3 f3 => hK S3 (Un.tr u1.ux (Un.tr u2 u3)) ⟨h3, fun k hk k1 => ?_, ?_, fun k hk => ?_⟩)
      · rw [f3, if_neg k1, g3 k hk]
      · rw [f3, if_pos rfl]
      · rw [f3, if_neg (by omega)]
        obtain rfl | rfl | rfl : k = 0 ∨ k = 1 ∨ k = 2 := by have hk' : k < 3 * 1 := hk; omega
        · exact g0
        · rw [show 2 + 3 * j + 1 = 3 + 3 * j by omega]; exact g1
        · rw [show 2 + 3 * j + 2 = 4 + 3 * j by omega]; exact g2
end
