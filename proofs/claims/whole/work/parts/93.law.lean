section
variable {N nt w d t : Nat} {ad : Nat → Nat} {S : PS} {T : Nat → Nat} {o p : List Int32} {x : Bool} {g : Int32}
theorem j_one {K : PS → Prop} (hT : ∀ k, T k < 256) (hn : nt ≤ 200) (hN5 : 5000 ≤ N) (hd : d ≤ 4) (hl : p.length < 200) (h : MR S ad T nt 0 o p d x t 1) (h7 : Cc T nt t = 307 → d < 4 → ∀ S', UJ ad S S' → MR S' ad T nt 0 o (40002 :: p) (d + 1) false (t + 1) 1 → K S') (h4 : Cc T nt t = 40 → d < 4 → ∀ S', UJ ad S S' → MR S' ad T nt 0 o (40004 :: p) (d + 1) false (t + 1) 1 → K S') (h0 : (Cc T nt t = 307 ∨ Cc T nt t = 40) → 4 ≤ d → ∀ S', UJ ad S S' → MR S' ad T nt 0 o p d false t 0 → K S') (h1 : Cc T nt t ≠ 307 → Cc T nt t ≠ 40 → ∀ S', UJ ad S S' → MR S' ad T nt 1 o p d false t 1 → K S') : wp_X11_beginOne N S (ad 80) K := by
  refine ⟨h.1.1.1.k80, fun S2 e2 => ?_⟩
  obtain ⟨h2, u2⟩ := mr_cmp (x' := false) h e2
  show wp_X11_isWord N S2 (ad 80) (lN (Wn.getD 7 0)) _
  rw [t_word hT h2.1.1.1 h2.1.2.1 (i := 7) (by omega)]
  by_cases q7 : Cc T nt t = 307
  · rw [if_pos (show cdp T nt (pos T nt t) = nI (300 + 7) from q7), if_neg (by decide)]
    exact ⟨h2.1.1.1.k80, j_opens hT hn hN5 hd hl h2 (fun z S' u' h' => h0 (Or.inl q7) z S' (Un.tr u2 u') h') (fun z S' u' h' => h7 q7 z S' (Un.tr u2 u') h')⟩
  rw [if_neg (show ¬ cdp T nt (pos T nt t) = nI (300 + 7) from q7), if_pos rfl]
  refine ⟨h2.1.1.1.k80, ?_⟩
  show wp_X11_isMark N S2 (ad 80) (nI 40) _
  rw [t_mark hT h2.1.1.1 h2.1.2.1 (b := 40) (by decide) (by decide) (by decide)]
  by_cases q4 : Cc T nt t = 40
  · rw [if_pos (show cdp T nt (pos T nt t) = nI 40 from q4), if_neg (by decide)]
    exact ⟨h2.1.1.1.k80, j_opens hT hn hN5 hd hl h2 (fun z S' u' h' => h0 (Or.inr q4) z S' (Un.tr u2 u') h') (fun z S' u' h' => h4 q4 z S' (Un.tr u2 u') h')⟩
  rw [if_neg (show ¬ cdp T nt (pos T nt t) = nI 40 from q4), if_pos rfl]
  refine ⟨h2.1.1.1.k80, fun S14 e14 => ?_⟩
  obtain ⟨h14, u14⟩ := mr_want (w' := 1) h2 e14
  exact h1 q7 q4 S14 (Un.tr u2 u14) h14
theorem j_fact (hT : ∀ k, T k < 256) (h : MR S ad T nt w o p d x t g) : (∃ i : Nat, i ≤ 6 ∧ Cc T nt t = nI (308 + i) ∧ ∀ K : Int32 → PS → Prop, wp_X11_factHere N S (ad 80) K = K (nI i) S) ∨ ((∀ i : Nat, i ≤ 6 → Cc T nt t ≠ nI (308 + i)) ∧ ∀ K : Int32 → PS → Prop, wp_X11_factHere N S (ad 80) K = K (-1) S) := by
  have s := h.1.1.1
  have no : ∀ (i : Nat) (j : Int64) (F : Int32 → PS → Prop), i < 15 → j = lN (Wn.getD i 0) → ¬ cdp T nt (pos T nt t) = nI (300 + i) → wp_X11_isWord N S (ad 80) j F = F 0 S := fun i j F hi hj hc => by rw [hj, t_word hT s h.1.2.1 hi, if_neg hc]
  have ye : ∀ (i : Nat) (j : Int64) (F : Int32 → PS → Prop), i < 15 → j = lN (Wn.getD i 0) → cdp T nt (pos T nt t) = nI (300 + i) → wp_X11_isWord N S (ad 80) j F = F 1 S := fun i j F hi hj hc => by rw [hj, t_word hT s h.1.2.1 hi, if_pos hc]
  by_cases c0 : Cc T nt t = nI (308 + 0)
  · refine Or.inl ⟨0, by omega, c0, ?_⟩
    have y : ∀ F : Int32 → PS → Prop, wp_X11_isWord N S (ad 80) (2968 : Int64) F = F 1 S := fun F => ye 8 _ F (by omega) rfl c0
    intro K
    unfold wp_X11_factHere
    (simp only [s.k80, i10,  true_and, and_true, Option.some.injEq, exists_eq_left', exists_eq_left, forall_eq, forall_eq_apply_imp_iff, true_or, or_true, false_or, or_false, not_true_eq_false, not_false_eq_true, false_and, if_true, if_false, reduceIte, y]) <;> rfl
  have n8 : ∀ F : Int32 → PS → Prop, wp_X11_isWord N S (ad 80) (2968 : Int64) F = F 0 S := fun F => no 8 _ F (by omega) rfl c0
  by_cases c1 : Cc T nt t = nI (308 + 1)
  · refine Or.inl ⟨1, by omega, c1, ?_⟩
    have y : ∀ F : Int32 → PS → Prop, wp_X11_isWord N S (ad 80) (370000 : Int64) F = F 1 S := fun F => ye 9 _ F (by omega) rfl c1
    intro K
    unfold wp_X11_factHere
    (simp only [s.k80, i10, n8, true_and, and_true, Option.some.injEq, exists_eq_left', exists_eq_left, forall_eq, forall_eq_apply_imp_iff, true_or, or_true, false_or, or_false, not_true_eq_false, not_false_eq_true, false_and, if_true, if_false, reduceIte, y]) <;> rfl
  have n9 : ∀ F : Int32 → PS → Prop, wp_X11_isWord N S (ad 80) (370000 : Int64) F = F 0 S := fun F => no 9 _ F (by omega) rfl c1
  by_cases c2 : Cc T nt t = nI (308 + 2)
  · refine Or.inl ⟨2, by omega, c2, ?_⟩
    have y : ∀ F : Int32 → PS → Prop, wp_X11_isWord N S (ad 80) (385331 : Int64) F = F 1 S := fun F => ye 10 _ F (by omega) rfl c2
    intro K
    unfold wp_X11_factHere
    (simp only [s.k80, i10, n8, n9, true_and, and_true, Option.some.injEq, exists_eq_left', exists_eq_left, forall_eq, forall_eq_apply_imp_iff, true_or, or_true, false_or, or_false, not_true_eq_false, not_false_eq_true, false_and, if_true, if_false, reduceIte, y]) <;> rfl
  have n10 : ∀ F : Int32 → PS → Prop, wp_X11_isWord N S (ad 80) (385331 : Int64) F = F 0 S := fun F => no 10 _ F (by omega) rfl c2
  by_cases c3 : Cc T nt t = nI (308 + 3)
  · refine Or.inl ⟨3, by omega, c3, ?_⟩
    have y : ∀ F : Int32 → PS → Prop, wp_X11_isWord N S (ad 80) (10989814 : Int64) F = F 1 S := fun F => ye 11 _ F (by omega) rfl c3
    intro K
    unfold wp_X11_factHere
    (simp only [s.k80, i10, n8, n9, n10, true_and, and_true, Option.some.injEq, exists_eq_left', exists_eq_left, forall_eq, forall_eq_apply_imp_iff, true_or, or_true, false_or, or_false, not_true_eq_false, not_false_eq_true, false_and, if_true, if_false, reduceIte, y]) <;> rfl
  have n11 : ∀ F : Int32 → PS → Prop, wp_X11_isWord N S (ad 80) (10989814 : Int64) F = F 0 S := fun F => no 11 _ F (by omega) rfl c3
  by_cases c4 : Cc T nt t = nI (308 + 4)
  · refine Or.inl ⟨4, by omega, c4, ?_⟩
    have y : ∀ F : Int32 → PS → Prop, wp_X11_isWord N S (ad 80) (10416350 : Int64) F = F 1 S := fun F => ye 12 _ F (by omega) rfl c4
    intro K
    unfold wp_X11_factHere
    (simp only [s.k80, i10, n8, n9, n10, n11, true_and, and_true, Option.some.injEq, exists_eq_left', exists_eq_left, forall_eq, forall_eq_apply_imp_iff, true_or, or_true, false_or, or_false, not_true_eq_false, not_false_eq_true, false_and, if_true, if_false, reduceIte, y]) <;> rfl
  have n12 : ∀ F : Int32 → PS → Prop, wp_X11_isWord N S (ad 80) (10416350 : Int64) F = F 0 S := fun F => no 12 _ F (by omega) rfl c4
  by_cases c5 : Cc T nt t = nI (308 + 5)
  · refine Or.inl ⟨5, by omega, c5, ?_⟩
    have y : ∀ F : Int32 → PS → Prop, wp_X11_isWord N S (ad 80) (262972 : Int64) F = F 1 S := fun F => ye 13 _ F (by omega) rfl c5
    intro K
    unfold wp_X11_factHere
    (simp only [s.k80, i10, n8, n9, n10, n11, n12, true_and, and_true, Option.some.injEq, exists_eq_left', exists_eq_left, forall_eq, forall_eq_apply_imp_iff, true_or, or_true, false_or, or_false, not_true_eq_false, not_false_eq_true, false_and, if_true, if_false, reduceIte, y]) <;> rfl
  have n13 : ∀ F : Int32 → PS → Prop, wp_X11_isWord N S (ad 80) (262972 : Int64) F = F 0 S := fun F => no 13 _ F (by omega) rfl c5
  by_cases c6 : Cc T nt t = nI (308 + 6)
  · refine Or.inl ⟨6, by omega, c6, ?_⟩
    have y : ∀ F : Int32 → PS → Prop, wp_X11_isWord N S (ad 80) (277560328 : Int64) F = F 1 S := fun F => ye 14 _ F (by omega) rfl c6
    intro K
    unfold wp_X11_factHere
    (simp only [s.k80, i10, n8, n9, n10, n11, n12, n13, true_and, and_true, Option.some.injEq, exists_eq_left', exists_eq_left, forall_eq, forall_eq_apply_imp_iff, true_or, or_true, false_or, or_false, not_true_eq_false, not_false_eq_true, false_and, if_true, if_false, reduceIte, y]) <;> rfl
  have n14 : ∀ F : Int32 → PS → Prop, wp_X11_isWord N S (ad 80) (277560328 : Int64) F = F 0 S := fun F => no 14 _ F (by omega) rfl c6
  refine Or.inr ⟨fun i hi => ?_, ?_⟩
  · obtain rfl | rfl | rfl | rfl | rfl | rfl | rfl : i = 0 ∨ i = 1 ∨ i = 2 ∨ i = 3 ∨ i = 4 ∨ i = 5 ∨ i = 6 := by omega
    · exact c0
    · exact c1
    · exact c2
    · exact c3
    · exact c4
    · exact c5
    · exact c6
  · intro K
    unfold wp_X11_factHere
    simp only [s.k80, n8, n9, n10, n11, n12, n13, n14, true_and, and_true, Option.some.injEq, exists_eq_left', exists_eq_left, forall_eq, forall_eq_apply_imp_iff, true_or, or_true, false_or, or_false, not_true_eq_false, not_false_eq_true, false_and, if_true, if_false, reduceIte]
/-- a number or a fact is written, the minuses before it are done -/
theorem j_val {K : PS → Prop} {v : Int32} (hT : ∀ k, T k < 256) (hn : nt ≤ 200) (hN5 : 5000 ≤ N) (hd : opn p ≤ d) (hl : o.length + p.length < 200) (h : MR S ad T nt w o p d x t g) (hK : ∀ S', UJ ad S S' → MR S' ad T nt (if x then 3 else 2) (ens 40003 p (v :: o) d).2.1 (ens 40003 p (v :: o) d).1 (ens 40003 p (v :: o) d).2.2 x (t + 1) g → K S') : wq_X11_beginAt_70 N K S (ad 80) (ad 80) v := by
  refine ⟨h.1.1.1.k80, j_emit h (by omega) (fun S24 u24 h24 => ⟨h24.1.1.1.k80, ?_⟩)⟩
  unfold wp_X11_ends
  refine j_ends (Or.inr rfl) p (v :: o) d N S24 (by omega) (by rw [List.length_cons]; omega) hd h24 (fun S27 u27 h27 => ⟨h27.1.1.1.k80, ?_⟩)
  rw [h27.2.2.2.2.2.2.2]
  cases x with
  | false =>
    rw [if_pos (by decide)]
    refine ⟨h27.1.1.1.k80, fun S32 e32 => ?_⟩
    obtain ⟨h32, u32⟩ := mr_want (w' := 2) h27 e32
    exact ⟨h32.1.1.1.k80, j_adv hT hn hN5 h32 (fun S' u' h' => hK S' (Un.tr u24 (Un.tr u27 (Un.tr u32 u'))) h')⟩
  | true =>
    rw [if_neg (by decide)]
    refine ⟨h27.1.1.1.k80, fun S32 e32 => ?_⟩
    obtain ⟨h32, u32⟩ := mr_want (w' := 3) h27 e32
    exact ⟨h32.1.1.1.k80, j_adv hT hn hN5 h32 (fun S' u' h' => hK S' (Un.tr u24 (Un.tr u27 (Un.tr u32 u'))) h')⟩
end
