/-- the reference stands at the token at p -/
def RA (S : PS) (ad : Nat → Nat) (T : Nat → Nat) (nt p : Nat) : Prop := S.I 783 (ad 80) = srp T nt p ∧ S.I 784 (ad 80) = nI p ∧ S.I 785 (ad 80) = nI (tnd T nt p) ∧ S.J 786 (ad 80) = wdp T nt p ∧ S.I 787 (ad 80) = vap T nt p
/-- the reference's tape -/
def RB (S : PS) (ad : Nat → Nat) (T : Nat → Nat) (nt : Nat) : Prop := Sh ad S ∧ S.I 782 (ad 80) = nI nt ∧ ∀ k, k < nt → S.A (ad 86) k = nI (T k)
/-- what advance writes -/
def UA (ad : Nat → Nat) (S S' : PS) : Prop := Un ad (fun g n => n = 80 ∧ 783 ≤ g ∧ g ≤ 787) (fun _ => False) False S S'
theorem RB.ua {S S' : PS} {ad : Nat → Nat} {T : Nat → Nat} {nt : Nat} (h : RB S ad T nt) (u : UA ad S S') : RB S' ad T nt := by
  obtain ⟨a, b, c⟩ := h
  exact ⟨Un.sh u a, (Un.I u a (by omega)).trans b, by rw [Un.A u a (by simp)]; exact c⟩
section
variable {N nt : Nat} {ad : Nat → Nat} {S : PS} {T : Nat → Nat}
theorem w_byte {K : Int32 → PS → Prop} {k : Nat} (h : RB S ad T nt) (hn : nt ≤ 200) (hk : k ≤ 300) : wp_X11_byteAt N S (ad 80) (nI k) K = K (if nt ≤ k then -1 else nI (T k)) S := by
  obtain ⟨a, b, c⟩ := h
  unfold wp_X11_byteAt
  by_cases d : nt ≤ k
  · simp only [a.k80, b, nI_le d (show k < 2 ^ 31 by omega), d, true_and, and_true, Option.some.injEq, exists_eq_left', exists_eq_left, forall_eq, forall_eq_apply_imp_iff, true_or, or_true, false_or, or_false, not_true_eq_false, not_false_eq_true, false_and, if_true, if_false, reduceIte]
  · have v : vp_in (nI k) 200 := vp_in_nI (by omega) (by decide)
    simp only [a.k80, b, nI_ge (show k < nt by omega) (show nt < 2 ^ 31 by omega), d, a.r781, a.k86, a.l86, v, nI_clamp (show k < 2 ^ 31 by omega), c k (by omega), true_and, and_true, Option.some.injEq, exists_eq_left', exists_eq_left, forall_eq, forall_eq_apply_imp_iff, true_or, or_true, false_or, or_false, not_true_eq_false, not_false_eq_true, false_and, if_true, if_false, reduceIte]
theorem w_let {K : Int32 → PS → Prop} {k : Nat} (hT : ∀ k, T k < 256) : wp_X11_isLetter N S (if nt ≤ k then -1 else nI (T k)) K = K (if k < nt ∧ 97 ≤ T k ∧ T k ≤ 122 then 1 else 0) S := by
  have ht := hT k
  unfold wp_X11_isLetter wp_X11_in
  by_cases d : nt ≤ k
  · rw [if_pos d, if_pos (show (-1 : Int32) < 97 by decide), if_neg (show ¬ (k < nt ∧ 97 ≤ T k ∧ T k ≤ 122) by omega)]
    simp only [true_and, and_true, Option.some.injEq, exists_eq_left', exists_eq_left, forall_eq, forall_eq_apply_imp_iff, true_or, or_true, false_or, or_false, not_true_eq_false, not_false_eq_true, false_and, if_true, if_false, reduceIte]
  · rw [if_neg d]
    by_cases c1 : T k < 97
    · rw [if_pos (show nI (T k) < 97 from nI_lt (b := 97) c1 (by decide)), if_neg (show ¬ (k < nt ∧ 97 ≤ T k ∧ T k ≤ 122) by omega)]
      simp only [true_and, and_true, Option.some.injEq, exists_eq_left', exists_eq_left, forall_eq, forall_eq_apply_imp_iff, true_or, or_true, false_or, or_false, not_true_eq_false, not_false_eq_true, false_and, if_true, if_false, reduceIte]
    · rw [if_neg (show ¬ nI (T k) < 97 from nI_nlt (b := 97) (by omega) (by omega))]
      by_cases c2 : 122 < T k
      · rw [if_pos (show 122 < nI (T k) from nI_lt (a := 122) c2 (by omega)), if_neg (show ¬ (k < nt ∧ 97 ≤ T k ∧ T k ≤ 122) by omega)]
        simp only [true_and, and_true, Option.some.injEq, exists_eq_left', exists_eq_left, forall_eq, forall_eq_apply_imp_iff, true_or, or_true, false_or, or_false, not_true_eq_false, not_false_eq_true, false_and, if_true, if_false, reduceIte]
      · rw [if_neg (show ¬ 122 < nI (T k) from nI_nlt (a := 122) (by omega) (by decide)), if_pos (show k < nt ∧ 97 ≤ T k ∧ T k ≤ 122 by omega)]
        simp only [true_and, and_true, Option.some.injEq, exists_eq_left', exists_eq_left, forall_eq, forall_eq_apply_imp_iff, true_or, or_true, false_or, or_false, not_true_eq_false, not_false_eq_true, false_and, if_true, if_false, reduceIte]
theorem w_dig {K : Int32 → PS → Prop} {k : Nat} (hT : ∀ k, T k < 256) : wp_X11_isDigit N S (if nt ≤ k then -1 else nI (T k)) K = K (if k < nt ∧ 48 ≤ T k ∧ T k ≤ 57 then 1 else 0) S := by
  have ht := hT k
  unfold wp_X11_isDigit wp_X11_in
  by_cases d : nt ≤ k
  · rw [if_pos d, if_pos (show (-1 : Int32) < 48 by decide), if_neg (show ¬ (k < nt ∧ 48 ≤ T k ∧ T k ≤ 57) by omega)]
    simp only [true_and, and_true, Option.some.injEq, exists_eq_left', exists_eq_left, forall_eq, forall_eq_apply_imp_iff, true_or, or_true, false_or, or_false, not_true_eq_false, not_false_eq_true, false_and, if_true, if_false, reduceIte]
  · rw [if_neg d]
    by_cases c1 : T k < 48
    · rw [if_pos (show nI (T k) < 48 from nI_lt (b := 48) c1 (by decide)), if_neg (show ¬ (k < nt ∧ 48 ≤ T k ∧ T k ≤ 57) by omega)]
      simp only [true_and, and_true, Option.some.injEq, exists_eq_left', exists_eq_left, forall_eq, forall_eq_apply_imp_iff, true_or, or_true, false_or, or_false, not_true_eq_false, not_false_eq_true, false_and, if_true, if_false, reduceIte]
    · rw [if_neg (show ¬ nI (T k) < 48 from nI_nlt (b := 48) (by omega) (by omega))]
      by_cases c2 : 57 < T k
      · rw [if_pos (show 57 < nI (T k) from nI_lt (a := 57) c2 (by omega)), if_neg (show ¬ (k < nt ∧ 48 ≤ T k ∧ T k ≤ 57) by omega)]
        simp only [true_and, and_true, Option.some.injEq, exists_eq_left', exists_eq_left, forall_eq, forall_eq_apply_imp_iff, true_or, or_true, false_or, or_false, not_true_eq_false, not_false_eq_true, false_and, if_true, if_false, reduceIte]
      · rw [if_neg (show ¬ 57 < nI (T k) from nI_nlt (a := 57) (by omega) (by decide)), if_pos (show k < nt ∧ 48 ≤ T k ∧ T k ≤ 57 by omega)]
        simp only [true_and, and_true, Option.some.injEq, exists_eq_left', exists_eq_left, forall_eq, forall_eq_apply_imp_iff, true_or, or_true, false_or, or_false, not_true_eq_false, not_false_eq_true, false_and, if_true, if_false, reduceIte]
theorem l_a207 {K : PS → Prop} {p : Nat} (hT : ∀ k, T k < 256) (hn : nt ≤ 200) (hp : p < nt) : ∀ (m n k : Nat) (S1 : PS), p + k + m = nt → m + 1 < n → RB S1 ad T nt → S1.I 783 (ad 80) = 2 → S1.I 784 (ad 80) = nI p → S1.I 785 (ad 80) = nI (p + k) → S1.I 787 (ad 80) = (if k ≤ 4 then nI (nmb T p k) else -1) → (∀ j, j < k → 48 ≤ T (p + j) ∧ T (p + j) ≤ 57) → (∀ S', UA ad S1 S' → S'.I 783 (ad 80) = S1.I 783 (ad 80) → S'.I 784 (ad 80) = nI p → S'.I 785 (ad 80) = nI (rnE T 48 57 m (p + k)) → S'.J 786 (ad 80) = S1.J 786 (ad 80) → S'.I 787 (ad 80) = (if rnE T 48 57 m (p + k) - p ≤ 4 then nI (nmb T p (rnE T 48 57 m (p + k) - p)) else -1) → K S') → wq_X11_advance_207 N K n S1 (ad 80) := by
  intro m
  induction m with
  | zero =>
    intro n k S1 hk hn2 hB i3 i4 i5 i7 hd hK
    obtain ⟨n, rfl⟩ : ∃ z, n = z + 1 := ⟨n - 1, by omega⟩
    rw [wq_X11_advance_207.eq_2, i3, if_pos rfl, i5, w_byte hB hn (by omega), w_dig hT, if_neg (show ¬ (p + k < nt ∧ 48 ≤ T (p + k) ∧ T (p + k) ≤ 57) by omega), if_pos rfl]
    refine ⟨hB.1.k80, hK S1 Un.rf rfl i4 i5 rfl ?_⟩
    rw [rnE, Nat.add_sub_cancel_left]
    exact i7
  | succ m ih =>
    intro n k S1 hk hn2 hB i3 i4 i5 i7 hd hK
    obtain ⟨n, rfl⟩ : ∃ z, n = z + 1 := ⟨n - 1, by omega⟩
    rw [rnE] at hK
    rw [wq_X11_advance_207.eq_2, i3, if_pos rfl, i5, w_byte hB hn (by omega), w_dig hT]
    refine ⟨hB.1.k80, ?_⟩
    by_cases c : 48 ≤ T (p + k) ∧ T (p + k) ≤ 57
    · rw [if_pos c] at hK
      rw [if_pos (show p + k < nt ∧ 48 ≤ T (p + k) ∧ T (p + k) ≤ 57 by omega), if_neg (by decide)]
      refine ⟨hB.1.k80, ?_⟩
      rw [i5, i4, pk_sub (by omega), Nat.add_sub_cancel_left, i7, w_byte hB hn (by omega), if_neg (show ¬ nt ≤ p + k by omega)]
      have step : ∀ v : Int32, v = (if k + 1 ≤ 4 then nI (nmb T p (k + 1)) else -1) → wq_X11_advance_266 N K (fun S a0 => wq_X11_advance_207 N K n S a0) S1 (ad 80) (ad 80) v := by
        intro v ev
        refine ⟨hB.1.k80, fun S44 e44 => ?_⟩
        have g44 : Sh ad S44 := by rw [e44]; exact hB.1
        refine ⟨g44.k80, fun S46 e46 => ?_⟩
        have i44 : S44.I 785 (ad 80) = nI (p + k) := by rw [e44]; simp only [setI_K, setI_ln, setI_R, setI_Q, setI_I, setI_J, setI_A, setI_B, setJ_K, setJ_ln, setJ_R, setJ_Q, setJ_I, setJ_J, setJ_A, setJ_B, setR_K, setR_ln, setR_R, setR_Q, setR_I, setR_J, setR_A, setR_B, setA_K, setA_ln, setA_R, setA_Q, setA_I, setA_J, setA_A, setA_B, setB_K, setB_ln, setB_R, setB_Q, setB_I, setB_J, setB_A, setB_B, setQ_K, setQ_ln, setQ_R, setQ_Q, setQ_I, setQ_J, setQ_A, setQ_B, u2_ap, Nat.reduceEqDiff, true_and, and_true, Option.some.injEq, exists_eq_left', exists_eq_left, forall_eq, forall_eq_apply_imp_iff, true_or, or_true, false_or, or_false, not_true_eq_false, not_false_eq_true, false_and, if_true, if_false, reduceIte]; exact i5
        rw [i44, a1i] at e46
        have uu : UA ad S1 S46 := by rw [e46, e44]; exact Un.tr (Un.setI (by omega)) (Un.setI (by omega))
        refine ih n (k + 1) S46 (by omega) (by omega) (hB.ua uu) ?_ ?_ ?_ ?_ (fun j hj => ?_) (fun S' u' a1 a2 a3 a4 a5 => hK S' (Un.tr uu u') ?_ a2 a3 ?_ a5)
        · rw [e46, e44]; simp only [setI_K, setI_ln, setI_R, setI_Q, setI_I, setI_J, setI_A, setI_B, setJ_K, setJ_ln, setJ_R, setJ_Q, setJ_I, setJ_J, setJ_A, setJ_B, setR_K, setR_ln, setR_R, setR_Q, setR_I, setR_J, setR_A, setR_B, setA_K, setA_ln, setA_R, setA_Q, setA_I, setA_J, setA_A, setA_B, setB_K, setB_ln, setB_R, setB_Q, setB_I, setB_J, setB_A, setB_B, setQ_K, setQ_ln, setQ_R, setQ_Q, setQ_I, setQ_J, setQ_A, setQ_B, u2_ap, Nat.reduceEqDiff, true_and, and_true, Option.some.injEq, exists_eq_left', exists_eq_left, forall_eq, forall_eq_apply_imp_iff, true_or, or_true, false_or, or_false, not_true_eq_false, not_false_eq_true, false_and, if_true, if_false, reduceIte]; exact i3
        · rw [e46, e44]; simp only [setI_K, setI_ln, setI_R, setI_Q, setI_I, setI_J, setI_A, setI_B, setJ_K, setJ_ln, setJ_R, setJ_Q, setJ_I, setJ_J, setJ_A, setJ_B, setR_K, setR_ln, setR_R, setR_Q, setR_I, setR_J, setR_A, setR_B, setA_K, setA_ln, setA_R, setA_Q, setA_I, setA_J, setA_A, setA_B, setB_K, setB_ln, setB_R, setB_Q, setB_I, setB_J, setB_A, setB_B, setQ_K, setQ_ln, setQ_R, setQ_Q, setQ_I, setQ_J, setQ_A, setQ_B, u2_ap, Nat.reduceEqDiff, true_and, and_true, Option.some.injEq, exists_eq_left', exists_eq_left, forall_eq, forall_eq_apply_imp_iff, true_or, or_true, false_or, or_false, not_true_eq_false, not_false_eq_true, false_and, if_true, if_false, reduceIte]; exact i4
        · rw [e46]; simp only [setI_K, setI_ln, setI_R, setI_Q, setI_I, setI_J, setI_A, setI_B, setJ_K, setJ_ln, setJ_R, setJ_Q, setJ_I, setJ_J, setJ_A, setJ_B, setR_K, setR_ln, setR_R, setR_Q, setR_I, setR_J, setR_A, setR_B, setA_K, setA_ln, setA_R, setA_Q, setA_I, setA_J, setA_A, setA_B, setB_K, setB_ln, setB_R, setB_Q, setB_I, setB_J, setB_A, setB_B, setQ_K, setQ_ln, setQ_R, setQ_Q, setQ_I, setQ_J, setQ_A, setQ_B, u2_ap, and_self, true_and, and_true, Option.some.injEq, exists_eq_left', exists_eq_left, forall_eq, forall_eq_apply_imp_iff, true_or, or_true, false_or, or_false, not_true_eq_false, not_false_eq_true, false_and, if_true, if_false, reduceIte]; rfl
        · rw [e46, e44]; simp only [setI_K, setI_ln, setI_R, setI_Q, setI_I, setI_J, setI_A, setI_B, setJ_K, setJ_ln, setJ_R, setJ_Q, setJ_I, setJ_J, setJ_A, setJ_B, setR_K, setR_ln, setR_R, setR_Q, setR_I, setR_J, setR_A, setR_B, setA_K, setA_ln, setA_R, setA_Q, setA_I, setA_J, setA_A, setA_B, setB_K, setB_ln, setB_R, setB_Q, setB_I, setB_J, setB_A, setB_B, setQ_K, setQ_ln, setQ_R, setQ_Q, setQ_I, setQ_J, setQ_A, setQ_B, u2_ap, Nat.reduceEqDiff, and_self, true_and, and_true, Option.some.injEq, exists_eq_left', exists_eq_left, forall_eq, forall_eq_apply_imp_iff, true_or, or_true, false_or, or_false, not_true_eq_false, not_false_eq_true, false_and, if_true, if_false, reduceIte]; exact ev
        · by_cases z : j = k
          · rw [z]; exact c
          · exact hd j (by omega)
        · rw [a1, e46, e44]; simp only [setI_K, setI_ln, setI_R, setI_Q, setI_I, setI_J, setI_A, setI_B, setJ_K, setJ_ln, setJ_R, setJ_Q, setJ_I, setJ_J, setJ_A, setJ_B, setR_K, setR_ln, setR_R, setR_Q, setR_I, setR_J, setR_A, setR_B, setA_K, setA_ln, setA_R, setA_Q, setA_I, setA_J, setA_A, setA_B, setB_K, setB_ln, setB_R, setB_Q, setB_I, setB_J, setB_A, setB_B, setQ_K, setQ_ln, setQ_R, setQ_Q, setQ_I, setQ_J, setQ_A, setQ_B, u2_ap, Nat.reduceEqDiff, true_and, and_true, Option.some.injEq, exists_eq_left', exists_eq_left, forall_eq, forall_eq_apply_imp_iff, true_or, or_true, false_or, or_false, not_true_eq_false, not_false_eq_true, false_and, if_true, if_false, reduceIte]
        · rw [a4, e46, e44]; rfl
      by_cases c4 : 4 ≤ k
      · rw [if_pos (show (4 : Int32) ≤ nI k from nI_le (a := 4) c4 (by omega))]
        exact step _ (by rw [if_neg (by omega)])
      · rw [if_neg (show ¬ (4 : Int32) ≤ nI k from nI_ge (b := 4) (by omega) (by decide)), if_pos (show k ≤ 4 by omega)]
        refine step _ ?_
        rw [if_pos (by omega), nmb, show (10 : Int32) = nI 10 from rfl, show (48 : Int32) = nI 48 from rfl, pk_mul, nI_add, pk_sub (by omega)]
        congr 1
        omega
    · rw [if_neg c] at hK
      rw [if_neg (show ¬ (p + k < nt ∧ 48 ≤ T (p + k) ∧ T (p + k) ≤ 57) by omega), if_pos rfl]
      refine hK S1 Un.rf rfl i4 i5 rfl ?_
      rw [Nat.add_sub_cancel_left]
      exact i7
theorem l_a126 {K : PS → Prop} {p : Nat} (hT : ∀ k, T k < 256) (hn : nt ≤ 200) (hp : p < nt) (hN5 : 5000 ≤ N) : ∀ (m n k : Nat) (S1 : PS), p + k + m = nt → m + 1 < n → RB S1 ad T nt → S1.I 783 (ad 80) = 1 → S1.I 784 (ad 80) = nI p → S1.I 785 (ad 80) = nI (p + k) → S1.J 786 (ad 80) = wrd T p k → (∀ j, j < k → 97 ≤ T (p + j) ∧ T (p + j) ≤ 122) → (∀ S', UA ad S1 S' → S'.I 783 (ad 80) = 1 → S'.I 784 (ad 80) = nI p → S'.I 785 (ad 80) = nI (rnE T 97 122 m (p + k)) → S'.J 786 (ad 80) = wrd T p (rnE T 97 122 m (p + k) - p) → S'.I 787 (ad 80) = S1.I 787 (ad 80) → K S') → wq_X11_advance_126 N K n S1 (ad 80) := by
  have out : ∀ (S1 : PS), RB S1 ad T nt → S1.I 783 (ad 80) = 1 → K S1 → wq_X11_advance_207 N K N S1 (ad 80) := by
    intro S1 hB i3 hK
    obtain ⟨q, rfl⟩ : ∃ z, N = z + 1 := ⟨N - 1, by omega⟩
    rw [wq_X11_advance_207.eq_2, i3, if_neg (by decide)]
    exact ⟨hB.1.k80, hK⟩
  intro m
  induction m with
  | zero =>
    intro n k S1 hk hn2 hB i3 i4 i5 j6 hd hK
    obtain ⟨n, rfl⟩ : ∃ z, n = z + 1 := ⟨n - 1, by omega⟩
    rw [wq_X11_advance_126.eq_2, i3, if_pos rfl, i5, w_byte hB hn (by omega), w_let hT, if_neg (show ¬ (p + k < nt ∧ 97 ≤ T (p + k) ∧ T (p + k) ≤ 122) by omega), if_pos rfl]
    refine ⟨hB.1.k80, out S1 hB i3 (hK S1 Un.rf i3 i4 i5 ?_ rfl)⟩
    rw [rnE, Nat.add_sub_cancel_left]
    exact j6
  | succ m ih =>
    intro n k S1 hk hn2 hB i3 i4 i5 j6 hd hK
    obtain ⟨n, rfl⟩ : ∃ z, n = z + 1 := ⟨n - 1, by omega⟩
    rw [rnE] at hK
    rw [wq_X11_advance_126.eq_2, i3, if_pos rfl, i5, w_byte hB hn (by omega), w_let hT]
    refine ⟨hB.1.k80, ?_⟩
    by_cases c : 97 ≤ T (p + k) ∧ T (p + k) ≤ 122
    · rw [if_pos c] at hK
      rw [if_pos (show p + k < nt ∧ 97 ≤ T (p + k) ∧ T (p + k) ≤ 122 by omega), if_neg (by decide)]
      refine ⟨hB.1.k80, ?_⟩
      rw [i5, i4, pk_sub (by omega), Nat.add_sub_cancel_left, j6, w_byte hB hn (by omega), if_neg (show ¬ nt ≤ p + k by omega)]
      have step : ∀ v : Int64, v = wrd T p (k + 1) → wq_X11_advance_191 N K (fun S a0 => wq_X11_advance_126 N K n S a0) S1 (ad 80) (ad 80) v := by
        intro v ev
        refine ⟨hB.1.k80, fun S44 e44 => ?_⟩
        have g44 : Sh ad S44 := by rw [e44]; exact hB.1
        refine ⟨g44.k80, fun S46 e46 => ?_⟩
        have i44 : S44.I 785 (ad 80) = nI (p + k) := by rw [e44]; exact i5
        rw [i44, a1i] at e46
        have uu : UA ad S1 S46 := by rw [e46, e44]; exact Un.tr Un.setJ (Un.setI (by omega))
        refine ih n (k + 1) S46 (by omega) (by omega) (hB.ua uu) ?_ ?_ ?_ ?_ (fun j hj => ?_) (fun S' u' a1 a2 a3 a4 a5 => hK S' (Un.tr uu u') a1 a2 a3 a4 ?_)
        · rw [e46, e44]; simp only [setI_K, setI_ln, setI_R, setI_Q, setI_I, setI_J, setI_A, setI_B, setJ_K, setJ_ln, setJ_R, setJ_Q, setJ_I, setJ_J, setJ_A, setJ_B, setR_K, setR_ln, setR_R, setR_Q, setR_I, setR_J, setR_A, setR_B, setA_K, setA_ln, setA_R, setA_Q, setA_I, setA_J, setA_A, setA_B, setB_K, setB_ln, setB_R, setB_Q, setB_I, setB_J, setB_A, setB_B, setQ_K, setQ_ln, setQ_R, setQ_Q, setQ_I, setQ_J, setQ_A, setQ_B, u2_ap, Nat.reduceEqDiff, true_and, and_true, Option.some.injEq, exists_eq_left', exists_eq_left, forall_eq, forall_eq_apply_imp_iff, true_or, or_true, false_or, or_false, not_true_eq_false, not_false_eq_true, false_and, if_true, if_false, reduceIte]; exact i3
        · rw [e46, e44]; simp only [setI_K, setI_ln, setI_R, setI_Q, setI_I, setI_J, setI_A, setI_B, setJ_K, setJ_ln, setJ_R, setJ_Q, setJ_I, setJ_J, setJ_A, setJ_B, setR_K, setR_ln, setR_R, setR_Q, setR_I, setR_J, setR_A, setR_B, setA_K, setA_ln, setA_R, setA_Q, setA_I, setA_J, setA_A, setA_B, setB_K, setB_ln, setB_R, setB_Q, setB_I, setB_J, setB_A, setB_B, setQ_K, setQ_ln, setQ_R, setQ_Q, setQ_I, setQ_J, setQ_A, setQ_B, u2_ap, Nat.reduceEqDiff, true_and, and_true, Option.some.injEq, exists_eq_left', exists_eq_left, forall_eq, forall_eq_apply_imp_iff, true_or, or_true, false_or, or_false, not_true_eq_false, not_false_eq_true, false_and, if_true, if_false, reduceIte]; exact i4
        · rw [e46]; simp only [setI_K, setI_ln, setI_R, setI_Q, setI_I, setI_J, setI_A, setI_B, setJ_K, setJ_ln, setJ_R, setJ_Q, setJ_I, setJ_J, setJ_A, setJ_B, setR_K, setR_ln, setR_R, setR_Q, setR_I, setR_J, setR_A, setR_B, setA_K, setA_ln, setA_R, setA_Q, setA_I, setA_J, setA_A, setA_B, setB_K, setB_ln, setB_R, setB_Q, setB_I, setB_J, setB_A, setB_B, setQ_K, setQ_ln, setQ_R, setQ_Q, setQ_I, setQ_J, setQ_A, setQ_B, u2_ap, and_self, true_and, and_true, Option.some.injEq, exists_eq_left', exists_eq_left, forall_eq, forall_eq_apply_imp_iff, true_or, or_true, false_or, or_false, not_true_eq_false, not_false_eq_true, false_and, if_true, if_false, reduceIte]; rfl
        · rw [e46, e44]; simp only [setI_K, setI_ln, setI_R, setI_Q, setI_I, setI_J, setI_A, setI_B, setJ_K, setJ_ln, setJ_R, setJ_Q, setJ_I, setJ_J, setJ_A, setJ_B, setR_K, setR_ln, setR_R, setR_Q, setR_I, setR_J, setR_A, setR_B, setA_K, setA_ln, setA_R, setA_Q, setA_I, setA_J, setA_A, setA_B, setB_K, setB_ln, setB_R, setB_Q, setB_I, setB_J, setB_A, setB_B, setQ_K, setQ_ln, setQ_R, setQ_Q, setQ_I, setQ_J, setQ_A, setQ_B, u2_ap, and_self, true_and, and_true, Option.some.injEq, exists_eq_left', exists_eq_left, forall_eq, forall_eq_apply_imp_iff, true_or, or_true, false_or, or_false, not_true_eq_false, not_false_eq_true, false_and, if_true, if_false, reduceIte]; exact ev
        · by_cases z : j = k
          · rw [z]; exact c
          · exact hd j (by omega)
        · rw [a5, e46, e44]; simp only [setI_K, setI_ln, setI_R, setI_Q, setI_I, setI_J, setI_A, setI_B, setJ_K, setJ_ln, setJ_R, setJ_Q, setJ_I, setJ_J, setJ_A, setJ_B, setR_K, setR_ln, setR_R, setR_Q, setR_I, setR_J, setR_A, setR_B, setA_K, setA_ln, setA_R, setA_Q, setA_I, setA_J, setA_A, setA_B, setB_K, setB_ln, setB_R, setB_Q, setB_I, setB_J, setB_A, setB_B, setQ_K, setQ_ln, setQ_R, setQ_Q, setQ_I, setQ_J, setQ_A, setQ_B, u2_ap, Nat.reduceEqDiff, true_and, and_true, Option.some.injEq, exists_eq_left', exists_eq_left, forall_eq, forall_eq_apply_imp_iff, true_or, or_true, false_or, or_false, not_true_eq_false, not_false_eq_true, false_and, if_true, if_false, reduceIte]
      by_cases c4 : 8 ≤ k
      · rw [if_pos (show (8 : Int32) ≤ nI k from nI_le (a := 8) c4 (by omega))]
        exact step _ (by unfold wrd; rw [if_neg (by omega)])
      · rw [if_neg (show ¬ (8 : Int32) ≤ nI k from nI_ge (b := 8) (by omega) (by decide))]
        refine step _ ?_
        unfold wrd
        rw [if_pos (show k ≤ 8 by omega), if_pos (show k + 1 ≤ 8 by omega), nI_l (by have := hT (p + k); omega), show (27 : Int64) = lN 27 from rfl, show (96 : Int64) = lN 96 from rfl, lN_mul, lN_add, lN_sub (by omega), hsh]
        congr 1
        omega
    · rw [if_neg c] at hK
      rw [if_neg (show ¬ (p + k < nt ∧ 97 ≤ T (p + k) ∧ T (p + k) ≤ 122) by omega), if_pos rfl]
      refine out S1 hB i3 (hK S1 Un.rf i3 i4 i5 ?_ rfl)
      rw [Nat.add_sub_cancel_left]
      exact j6
theorem w_a83 {K : PS → Prop} {p : Nat} (hT : ∀ k, T k < 256) (hn : nt ≤ 200) (hp : p ≤ nt) (hN5 : 5000 ≤ N) (S1 : PS) (hB : RB S1 ad T nt) (i4 : S1.I 784 (ad 80) = nI p) (i5 : S1.I 785 (ad 80) = nI p) (hK : ∀ S', UA ad S1 S' → RA S' ad T nt p → K S') : wq_X11_advance_83 N K S1 (ad 80) (if nt ≤ p then -1 else nI (T p)) (ad 80) (srp T nt p) := by
  refine ⟨hB.1.k80, fun S22 e22 => ?_⟩
  have g22 : Sh ad S22 := by rw [e22]; exact hB.1
  refine ⟨g22.k80, fun S24 e24 => ?_⟩
  have i3 : S24.I 783 (ad 80) = srp T nt p := by rw [e24, e22]; simp only [setI_K, setI_ln, setI_R, setI_Q, setI_I, setI_J, setI_A, setI_B, setJ_K, setJ_ln, setJ_R, setJ_Q, setJ_I, setJ_J, setJ_A, setJ_B, setR_K, setR_ln, setR_R, setR_Q, setR_I, setR_J, setR_A, setR_B, setA_K, setA_ln, setA_R, setA_Q, setA_I, setA_J, setA_A, setA_B, setB_K, setB_ln, setB_R, setB_Q, setB_I, setB_J, setB_A, setB_B, setQ_K, setQ_ln, setQ_R, setQ_Q, setQ_I, setQ_J, setQ_A, setQ_B, u2_ap, and_self, true_and, and_true, Option.some.injEq, exists_eq_left', exists_eq_left, forall_eq, forall_eq_apply_imp_iff, true_or, or_true, false_or, or_false, not_true_eq_false, not_false_eq_true, false_and, if_true, if_false, reduceIte]
  rw [i3]
  obtain ⟨v, ev⟩ : ∃ v : Int32, v = (if srp T nt p = 2 then 0 else if nt ≤ p then -1 else nI (T p)) := ⟨_, rfl⟩
  have key : wq_X11_advance_105 N K S24 (ad 80) (ad 80) v := by
    have g24 : Sh ad S24 := by rw [e24]; exact g22
    refine ⟨g24.k80, fun S28 e28 => ?_⟩
    have u28 : UA ad S1 S28 := by rw [e28, e24, e22]; exact Un.tr (Un.tr (Un.setI (by omega)) Un.setJ) (Un.setI (by omega))
    have hB28 := hB.ua u28
    have i3' : S28.I 783 (ad 80) = srp T nt p := by rw [e28]; simp only [setI_K, setI_ln, setI_R, setI_Q, setI_I, setI_J, setI_A, setI_B, setJ_K, setJ_ln, setJ_R, setJ_Q, setJ_I, setJ_J, setJ_A, setJ_B, setR_K, setR_ln, setR_R, setR_Q, setR_I, setR_J, setR_A, setR_B, setA_K, setA_ln, setA_R, setA_Q, setA_I, setA_J, setA_A, setA_B, setB_K, setB_ln, setB_R, setB_Q, setB_I, setB_J, setB_A, setB_B, setQ_K, setQ_ln, setQ_R, setQ_Q, setQ_I, setQ_J, setQ_A, setQ_B, u2_ap, Nat.reduceEqDiff, true_and, and_true, Option.some.injEq, exists_eq_left', exists_eq_left, forall_eq, forall_eq_apply_imp_iff, true_or, or_true, false_or, or_false, not_true_eq_false, not_false_eq_true, false_and, if_true, if_false, reduceIte]; exact i3
    have i4' : S28.I 784 (ad 80) = nI p := by rw [e28, e24, e22]; simp only [setI_K, setI_ln, setI_R, setI_Q, setI_I, setI_J, setI_A, setI_B, setJ_K, setJ_ln, setJ_R, setJ_Q, setJ_I, setJ_J, setJ_A, setJ_B, setR_K, setR_ln, setR_R, setR_Q, setR_I, setR_J, setR_A, setR_B, setA_K, setA_ln, setA_R, setA_Q, setA_I, setA_J, setA_A, setA_B, setB_K, setB_ln, setB_R, setB_Q, setB_I, setB_J, setB_A, setB_B, setQ_K, setQ_ln, setQ_R, setQ_Q, setQ_I, setQ_J, setQ_A, setQ_B, u2_ap, Nat.reduceEqDiff, true_and, and_true, Option.some.injEq, exists_eq_left', exists_eq_left, forall_eq, forall_eq_apply_imp_iff, true_or, or_true, false_or, or_false, not_true_eq_false, not_false_eq_true, false_and, if_true, if_false, reduceIte]; exact i4
    have i5' : S28.I 785 (ad 80) = nI p := by rw [e28, e24, e22]; simp only [setI_K, setI_ln, setI_R, setI_Q, setI_I, setI_J, setI_A, setI_B, setJ_K, setJ_ln, setJ_R, setJ_Q, setJ_I, setJ_J, setJ_A, setJ_B, setR_K, setR_ln, setR_R, setR_Q, setR_I, setR_J, setR_A, setR_B, setA_K, setA_ln, setA_R, setA_Q, setA_I, setA_J, setA_A, setA_B, setB_K, setB_ln, setB_R, setB_Q, setB_I, setB_J, setB_A, setB_B, setQ_K, setQ_ln, setQ_R, setQ_Q, setQ_I, setQ_J, setQ_A, setQ_B, u2_ap, Nat.reduceEqDiff, true_and, and_true, Option.some.injEq, exists_eq_left', exists_eq_left, forall_eq, forall_eq_apply_imp_iff, true_or, or_true, false_or, or_false, not_true_eq_false, not_false_eq_true, false_and, if_true, if_false, reduceIte]; exact i5
    have j6' : S28.J 786 (ad 80) = 0 := by rw [e28, e24]; simp only [setI_K, setI_ln, setI_R, setI_Q, setI_I, setI_J, setI_A, setI_B, setJ_K, setJ_ln, setJ_R, setJ_Q, setJ_I, setJ_J, setJ_A, setJ_B, setR_K, setR_ln, setR_R, setR_Q, setR_I, setR_J, setR_A, setR_B, setA_K, setA_ln, setA_R, setA_Q, setA_I, setA_J, setA_A, setA_B, setB_K, setB_ln, setB_R, setB_Q, setB_I, setB_J, setB_A, setB_B, setQ_K, setQ_ln, setQ_R, setQ_Q, setQ_I, setQ_J, setQ_A, setQ_B, u2_ap, and_self, true_and, and_true, Option.some.injEq, exists_eq_left', exists_eq_left, forall_eq, forall_eq_apply_imp_iff, true_or, or_true, false_or, or_false, not_true_eq_false, not_false_eq_true, false_and, if_true, if_false, reduceIte]
    have i7' : S28.I 787 (ad 80) = v := by rw [e28]; simp only [setI_K, setI_ln, setI_R, setI_Q, setI_I, setI_J, setI_A, setI_B, setJ_K, setJ_ln, setJ_R, setJ_Q, setJ_I, setJ_J, setJ_A, setJ_B, setR_K, setR_ln, setR_R, setR_Q, setR_I, setR_J, setR_A, setR_B, setA_K, setA_ln, setA_R, setA_Q, setA_I, setA_J, setA_A, setA_B, setB_K, setB_ln, setB_R, setB_Q, setB_I, setB_J, setB_A, setB_B, setQ_K, setQ_ln, setQ_R, setQ_Q, setQ_I, setQ_J, setQ_A, setQ_B, u2_ap, and_self, true_and, and_true, Option.some.injEq, exists_eq_left', exists_eq_left, forall_eq, forall_eq_apply_imp_iff, true_or, or_true, false_or, or_false, not_true_eq_false, not_false_eq_true, false_and, if_true, if_false, reduceIte]
    refine ⟨hB28.1.k80, ?_⟩
    rw [i3']
    -- where neither word nor number is read
    have plain : ∀ (S2 : PS) (q : Nat), UA ad S1 S2 → RB S2 ad T nt → S2.I 783 (ad 80) = srp T nt p → srp T nt p ≠ 1 → srp T nt p ≠ 2 → K S2 → wq_X11_advance_126 N K N S2 (ad 80) := by
      intro S2 q u2 hB2 j3 n1 n2 hK2
      obtain ⟨q, rfl⟩ : ∃ z, N = z + 1 := ⟨N - 1, by omega⟩
      rw [wq_X11_advance_126.eq_2, j3, if_neg n1, wq_X11_advance_207.eq_2, j3, if_neg n2]
      exact ⟨hB2.1.k80, hB2.1.k80, hK2⟩
    by_cases c0 : nt ≤ p
    · have es : srp T nt p = 0 := by unfold srp; rw [if_pos c0]
      rw [if_neg (by rw [es]; decide)]
      refine plain S28 0 u28 hB28 i3' (by rw [es]; decide) (by rw [es]; decide) (hK S28 u28 ⟨i3', i4', ?_, ?_, ?_⟩)
      · rw [i5']; unfold tnd; rw [if_pos c0]
      · rw [j6']; unfold wdp; rw [if_pos c0]
      · rw [i7', ev, es, if_neg (by decide), if_pos c0]; unfold vap; rw [if_pos c0]
    by_cases c1 : 97 ≤ T p ∧ T p ≤ 122
    · have es : srp T nt p = 1 := by unfold srp; rw [if_neg c0, if_pos c1]
      have et : tnd T nt p = rnE T 97 122 (nt - p) p := by unfold tnd; rw [if_neg c0, if_pos c1]
      rw [if_neg (by rw [es]; decide)]
      refine l_a126 hT hn (by omega) hN5 (nt - p) N 0 S28 (by omega) (by omega) hB28 (i3'.trans es) i4' i5' (by rw [j6']; rfl) (fun j hj => absurd hj (by omega)) (fun S' u' a1 a2 a3 a4 a5 => hK S' (Un.tr u28 u') ⟨a1.trans es.symm, a2, ?_, ?_, ?_⟩)
      · rw [a3, et]; rfl
      · rw [a4]; unfold wdp; rw [if_neg c0, if_pos c1, et]; rfl
      · rw [a5, i7', ev, es, if_neg (by decide), if_neg c0]; unfold vap; rw [if_neg c0, if_pos c1]
    by_cases c2 : 48 ≤ T p ∧ T p ≤ 57
    · have es : srp T nt p = 2 := by unfold srp; rw [if_neg c0, if_neg c1, if_pos c2]
      have et : tnd T nt p = rnE T 48 57 (nt - p) p := by unfold tnd; rw [if_neg c0, if_neg c1, if_pos c2]
      rw [if_neg (by rw [es]; decide)]
      obtain ⟨q, hq⟩ : ∃ z, N = z + 1 := ⟨N - 1, by omega⟩
      have skip : wq_X11_advance_207 N K N S28 (ad 80) → wq_X11_advance_126 N K N S28 (ad 80) := by
        intro z
        have z' := z
        rw [hq] at z' ⊢
        rw [wq_X11_advance_126.eq_2, i3', if_neg (by rw [es]; decide)]
        exact ⟨hB28.1.k80, z'⟩
      refine skip (l_a207 hT hn (by omega) (nt - p) N 0 S28 (by omega) (by omega) hB28 (i3'.trans es) i4' i5' (by rw [i7', ev, if_pos es, if_pos (by omega)]; rfl) (fun j hj => absurd hj (by omega)) (fun S' u' a1 a2 a3 a4 a5 => hK S' (Un.tr u28 u') ⟨a1.trans i3', a2, ?_, ?_, ?_⟩))
      · rw [a3, et]; rfl
      · rw [a4, j6']; unfold wdp; rw [if_neg c0, if_neg c1]
      · rw [a5]; unfold vap; rw [if_neg c0, if_neg c1, if_pos c2, et]; rfl
    · have es : srp T nt p = 3 := by unfold srp; rw [if_neg c0, if_neg c1, if_neg c2]
      rw [if_pos es]
      intro S63 e63
      rw [i5', a1i] at e63
      have u63 : UA ad S1 S63 := Un.tr u28 (by rw [e63]; exact Un.setI (by omega))
      have i63 : S63.I 783 (ad 80) = srp T nt p := by rw [e63]; simp only [setI_K, setI_ln, setI_R, setI_Q, setI_I, setI_J, setI_A, setI_B, setJ_K, setJ_ln, setJ_R, setJ_Q, setJ_I, setJ_J, setJ_A, setJ_B, setR_K, setR_ln, setR_R, setR_Q, setR_I, setR_J, setR_A, setR_B, setA_K, setA_ln, setA_R, setA_Q, setA_I, setA_J, setA_A, setA_B, setB_K, setB_ln, setB_R, setB_Q, setB_I, setB_J, setB_A, setB_B, setQ_K, setQ_ln, setQ_R, setQ_Q, setQ_I, setQ_J, setQ_A, setQ_B, u2_ap, Nat.reduceEqDiff, true_and, and_true, Option.some.injEq, exists_eq_left', exists_eq_left, forall_eq, forall_eq_apply_imp_iff, true_or, or_true, false_or, or_false, not_true_eq_false, not_false_eq_true, false_and, if_true, if_false, reduceIte]; exact i3'
      refine plain S63 0 u63 (hB.ua u63) i63 (by rw [es]; decide) (by rw [es]; decide) (hK S63 u63 ⟨i63, ?_, ?_, ?_, ?_⟩)
      · rw [e63]; simp only [setI_K, setI_ln, setI_R, setI_Q, setI_I, setI_J, setI_A, setI_B, setJ_K, setJ_ln, setJ_R, setJ_Q, setJ_I, setJ_J, setJ_A, setJ_B, setR_K, setR_ln, setR_R, setR_Q, setR_I, setR_J, setR_A, setR_B, setA_K, setA_ln, setA_R, setA_Q, setA_I, setA_J, setA_A, setA_B, setB_K, setB_ln, setB_R, setB_Q, setB_I, setB_J, setB_A, setB_B, setQ_K, setQ_ln, setQ_R, setQ_Q, setQ_I, setQ_J, setQ_A, setQ_B, u2_ap, Nat.reduceEqDiff, true_and, and_true, Option.some.injEq, exists_eq_left', exists_eq_left, forall_eq, forall_eq_apply_imp_iff, true_or, or_true, false_or, or_false, not_true_eq_false, not_false_eq_true, false_and, if_true, if_false, reduceIte]; exact i4'
      · rw [e63]; simp only [setI_K, setI_ln, setI_R, setI_Q, setI_I, setI_J, setI_A, setI_B, setJ_K, setJ_ln, setJ_R, setJ_Q, setJ_I, setJ_J, setJ_A, setJ_B, setR_K, setR_ln, setR_R, setR_Q, setR_I, setR_J, setR_A, setR_B, setA_K, setA_ln, setA_R, setA_Q, setA_I, setA_J, setA_A, setA_B, setB_K, setB_ln, setB_R, setB_Q, setB_I, setB_J, setB_A, setB_B, setQ_K, setQ_ln, setQ_R, setQ_Q, setQ_I, setQ_J, setQ_A, setQ_B, u2_ap, and_self, true_and, and_true, Option.some.injEq, exists_eq_left', exists_eq_left, forall_eq, forall_eq_apply_imp_iff, true_or, or_true, false_or, or_false, not_true_eq_false, not_false_eq_true, false_and, if_true, if_false, reduceIte]; unfold tnd; rw [if_neg c0, if_neg c1, if_neg c2]
      · rw [e63]; unfold wdp; rw [if_neg c0, if_neg c1]; exact j6'
      · rw [e63]; simp only [setI_K, setI_ln, setI_R, setI_Q, setI_I, setI_J, setI_A, setI_B, setJ_K, setJ_ln, setJ_R, setJ_Q, setJ_I, setJ_J, setJ_A, setJ_B, setR_K, setR_ln, setR_R, setR_Q, setR_I, setR_J, setR_A, setR_B, setA_K, setA_ln, setA_R, setA_Q, setA_I, setA_J, setA_A, setA_B, setB_K, setB_ln, setB_R, setB_Q, setB_I, setB_J, setB_A, setB_B, setQ_K, setQ_ln, setQ_R, setQ_Q, setQ_I, setQ_J, setQ_A, setQ_B, u2_ap, Nat.reduceEqDiff, true_and, and_true, Option.some.injEq, exists_eq_left', exists_eq_left, forall_eq, forall_eq_apply_imp_iff, true_or, or_true, false_or, or_false, not_true_eq_false, not_false_eq_true, false_and, if_true, if_false, reduceIte]
        rw [i7', ev, es, if_neg (by decide), if_neg c0]; unfold vap; rw [if_neg c0, if_neg c1, if_neg c2]
  by_cases c : srp T nt p = 2
  · rw [if_pos c] at ev ⊢
    rw [← ev]
    exact key
  · rw [if_neg c] at ev ⊢
    rw [← ev]
    exact key
theorem l_a8 {K : PS → Prop} (hT : ∀ k, T k < 256) (hn : nt ≤ 200) (hN5 : 5000 ≤ N) : ∀ (m n p : Nat) (S1 : PS), p + m = nt → m < n → RB S1 ad T nt → S1.I 784 (ad 80) = nI p → (∀ S', UA ad S1 S' → RA S' ad T nt (sks T nt p) → K S') → wq_X11_advance_8 N K n S1 (ad 80) := by
  have fin : ∀ (p : Nat) (S1 : PS), p ≤ nt → (nt ≤ p ∨ T p ≠ 32) → RB S1 ad T nt → S1.I 784 (ad 80) = nI p → (∀ S', UA ad S1 S' → RA S' ad T nt p → K S') → (S1.K (ad 80) = 12 ∧ ∀ S8 : PS, S8 = S1.setI 785 (ad 80) (S1.I 784 (ad 80)) → wp_X11_byteAt N S8 (ad 80) (S8.I 784 (ad 80)) (fun r11 S10 => if 0 ≤ r11 then (wp_X11_isLetter N S10 r11 (fun r14 S13 => if r14 = 0 then (wp_X11_isDigit N S13 r11 (fun r18 S17 => if r18 = 0 then (wq_X11_advance_83 N K S17 (ad 80) r11 (ad 80) 3) else (wq_X11_advance_83 N K S17 (ad 80) r11 (ad 80) 2))) else (wq_X11_advance_83 N K S13 (ad 80) r11 (ad 80) 1))) else (wq_X11_advance_83 N K S10 (ad 80) r11 (ad 80) 0))) := by
    intro p S1 hp _ hB i4 hK
    refine ⟨hB.1.k80, fun S8 e8 => ?_⟩
    rw [i4] at e8
    have u8 : UA ad S1 S8 := by rw [e8]; exact Un.setI (by omega)
    have hB8 := hB.ua u8
    have i48 : S8.I 784 (ad 80) = nI p := by rw [e8]; simp only [setI_K, setI_ln, setI_R, setI_Q, setI_I, setI_J, setI_A, setI_B, setJ_K, setJ_ln, setJ_R, setJ_Q, setJ_I, setJ_J, setJ_A, setJ_B, setR_K, setR_ln, setR_R, setR_Q, setR_I, setR_J, setR_A, setR_B, setA_K, setA_ln, setA_R, setA_Q, setA_I, setA_J, setA_A, setA_B, setB_K, setB_ln, setB_R, setB_Q, setB_I, setB_J, setB_A, setB_B, setQ_K, setQ_ln, setQ_R, setQ_Q, setQ_I, setQ_J, setQ_A, setQ_B, u2_ap, Nat.reduceEqDiff, true_and, and_true, Option.some.injEq, exists_eq_left', exists_eq_left, forall_eq, forall_eq_apply_imp_iff, true_or, or_true, false_or, or_false, not_true_eq_false, not_false_eq_true, false_and, if_true, if_false, reduceIte]; exact i4
    have i58 : S8.I 785 (ad 80) = nI p := by rw [e8]; simp only [setI_K, setI_ln, setI_R, setI_Q, setI_I, setI_J, setI_A, setI_B, setJ_K, setJ_ln, setJ_R, setJ_Q, setJ_I, setJ_J, setJ_A, setJ_B, setR_K, setR_ln, setR_R, setR_Q, setR_I, setR_J, setR_A, setR_B, setA_K, setA_ln, setA_R, setA_Q, setA_I, setA_J, setA_A, setA_B, setB_K, setB_ln, setB_R, setB_Q, setB_I, setB_J, setB_A, setB_B, setQ_K, setQ_ln, setQ_R, setQ_Q, setQ_I, setQ_J, setQ_A, setQ_B, u2_ap, and_self, true_and, and_true, Option.some.injEq, exists_eq_left', exists_eq_left, forall_eq, forall_eq_apply_imp_iff, true_or, or_true, false_or, or_false, not_true_eq_false, not_false_eq_true, false_and, if_true, if_false, reduceIte]
    have key := w_a83 (K := K) hT hn hp hN5 S8 hB8 i48 i58 (fun S' u' r' => hK S' (Un.tr u8 u') r')
    have ht := hT p
    rw [i48, w_byte hB8 hn (by omega), w_let hT, w_dig hT]
    unfold srp at key
    by_cases c0 : nt ≤ p
    · rw [if_pos c0, if_neg (show ¬ (0 : Int32) ≤ -1 by decide)]
      rw [if_pos c0, if_pos c0] at key
      exact key
    · rw [if_neg c0] at key
      rw [if_neg c0] at key
      rw [if_neg c0, if_pos (nI_pos' (show T p < 2 ^ 31 by omega))]
      by_cases c1 : 97 ≤ T p ∧ T p ≤ 122
      · rw [if_pos (show p < nt ∧ 97 ≤ T p ∧ T p ≤ 122 by omega), if_neg (by decide)]
        rw [if_pos c1] at key
        exact key
      · rw [if_neg (show ¬ (p < nt ∧ 97 ≤ T p ∧ T p ≤ 122) by omega), if_pos rfl]
        rw [if_neg c1] at key
        by_cases c2 : 48 ≤ T p ∧ T p ≤ 57
        · rw [if_pos (show p < nt ∧ 48 ≤ T p ∧ T p ≤ 57 by omega), if_neg (by decide)]
          rw [if_pos c2] at key
          exact key
        · rw [if_neg (show ¬ (p < nt ∧ 48 ≤ T p ∧ T p ≤ 57) by omega), if_pos rfl]
          rw [if_neg c2] at key
          exact key
  intro m
  induction m with
  | zero =>
    intro n p S1 hp hn2 hB i4 hK
    obtain ⟨n, rfl⟩ : ∃ z, n = z + 1 := ⟨n - 1, by omega⟩
    rw [sks_ne T nt p (Or.inr (by omega))] at hK
    have := fin p S1 (by omega) (Or.inl (by omega)) hB i4 hK
    rw [wq_X11_advance_8.eq_2, i4, w_byte hB hn (by omega), if_pos (show nt ≤ p by omega), if_neg (show ¬ (-1 : Int32) = 32 by decide)]
    exact ⟨hB.1.k80, this⟩
  | succ m ih =>
    intro n p S1 hp hn2 hB i4 hK
    obtain ⟨n, rfl⟩ : ∃ z, n = z + 1 := ⟨n - 1, by omega⟩
    have ht := hT p
    rw [wq_X11_advance_8.eq_2, i4, w_byte hB hn (by omega), if_neg (show ¬ nt ≤ p by omega)]
    refine ⟨hB.1.k80, ?_⟩
    by_cases c : T p = 32
    · rw [if_pos (show nI (T p) = 32 by rw [c]; rfl)]
      refine ⟨hB.1.k80, fun S65 e65 => ?_⟩
      rw [i4, a1i] at e65
      have u65 : UA ad S1 S65 := by rw [e65]; exact Un.setI (by omega)
      rw [sks_32 T nt p (by omega) c] at hK
      exact ih n (p + 1) S65 (by omega) (by omega) (hB.ua u65) (by rw [e65]; simp only [setI_K, setI_ln, setI_R, setI_Q, setI_I, setI_J, setI_A, setI_B, setJ_K, setJ_ln, setJ_R, setJ_Q, setJ_I, setJ_J, setJ_A, setJ_B, setR_K, setR_ln, setR_R, setR_Q, setR_I, setR_J, setR_A, setR_B, setA_K, setA_ln, setA_R, setA_Q, setA_I, setA_J, setA_A, setA_B, setB_K, setB_ln, setB_R, setB_Q, setB_I, setB_J, setB_A, setB_B, setQ_K, setQ_ln, setQ_R, setQ_Q, setQ_I, setQ_J, setQ_A, setQ_B, u2_ap, and_self, true_and, and_true, Option.some.injEq, exists_eq_left', exists_eq_left, forall_eq, forall_eq_apply_imp_iff, true_or, or_true, false_or, or_false, not_true_eq_false, not_false_eq_true, false_and, if_true, if_false, reduceIte]) (fun S' u' r' => hK S' (Un.tr u65 u') r')
    · rw [if_neg (show ¬ nI (T p) = 32 from ii_ne (b := 32) (by omega) (by decide) c)]
      rw [sks_ne T nt p (Or.inl c)] at hK
      have := fin p S1 (by omega) (Or.inr c) hB i4 hK
      exact this
/-- the reference goes on to the next token -/
theorem w_advance {K : PS → Prop} {e : Nat} (hT : ∀ k, T k < 256) (hn : nt ≤ 200) (hN5 : 5000 ≤ N) (hB : RB S ad T nt) (he : S.I 785 (ad 80) = nI e) (hle : e ≤ nt) (hK : ∀ S', UA ad S S' → RA S' ad T nt (sks T nt e) → K S') : wp_X11_advance N S (ad 80) K := by
  refine ⟨hB.1.k80, fun S2 e2 => ?_⟩
  rw [he] at e2
  have u2 : UA ad S S2 := by rw [e2]; exact Un.setI (by omega)
  exact l_a8 hT hn hN5 (nt - e) N e S2 (by omega) (by omega) (hB.ua u2) (by rw [e2]; simp only [setI_K, setI_ln, setI_R, setI_Q, setI_I, setI_J, setI_A, setI_B, setJ_K, setJ_ln, setJ_R, setJ_Q, setJ_I, setJ_J, setJ_A, setJ_B, setR_K, setR_ln, setR_R, setR_Q, setR_I, setR_J, setR_A, setR_B, setA_K, setA_ln, setA_R, setA_Q, setA_I, setA_J, setA_A, setA_B, setB_K, setB_ln, setB_R, setB_Q, setB_I, setB_J, setB_A, setB_B, setQ_K, setQ_ln, setQ_R, setQ_Q, setQ_I, setQ_J, setQ_A, setQ_B, u2_ap, and_self, true_and, and_true, Option.some.injEq, exists_eq_left', exists_eq_left, forall_eq, forall_eq_apply_imp_iff, true_or, or_true, false_or, or_false, not_true_eq_false, not_false_eq_true, false_and, if_true, if_false, reduceIte]) (fun S' u' r' => hK S' (Un.tr u2 u') r')
end
