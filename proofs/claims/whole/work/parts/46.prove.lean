/-- one row more in a table of threes -/
def row3 (F : Nat → Int32) (c : Nat) (x y z : Int32) : Nat → Int32 := fun i => if i = 3 * c + 2 then z else if i = 3 * c + 1 then y else if i = 3 * c then x else F i
/-- the table that is made of m parts from k on -/
def pr (P L : Nat → Int32) : Nat → Nat → Nat → Int32 → (Nat → Int32) → Nat × (Nat → Int32)
  | 0, _, c, _, F => (c, F)
  | m + 1, k, c, acc, F => if P k = 0 then pr P L m (k + 1) c acc F else pr P L m (k + 1) (c + 1) (acc + L k) (row3 F c (nI k) (L k) (acc + L k))
theorem pr_le (P L : Nat → Int32) : ∀ (m k c : Nat) (acc : Int32) (F : Nat → Int32), (pr P L m k c acc F).1 ≤ c + m := by
  intro m
  induction m with
  | zero => intro k c acc F; exact Nat.le_refl _
  | succ m ih =>
    intro k c acc F
    rw [pr]
    by_cases e : P k = 0
    · rw [if_pos e]
      exact Nat.le_trans (ih _ _ _ _) (by omega)
    · rw [if_neg e]
      exact Nat.le_trans (ih _ _ _ _) (by omega)
theorem pr_eq (P L : Nat → Int32) : ∀ (m k c : Nat) (acc : Int32) (F G : Nat → Int32), (∀ i, i < 3 * c → F i = G i) → (pr P L m k c acc F).1 = (pr P L m k c acc G).1 ∧ ∀ i, i < 3 * (pr P L m k c acc F).1 → (pr P L m k c acc F).2 i = (pr P L m k c acc G).2 i := by
  intro m
  induction m with
  | zero => intro k c acc F G h; exact ⟨rfl, h⟩
  | succ m ih =>
    intro k c acc F G h
    rw [pr, pr]
    by_cases e : P k = 0
    · rw [if_pos e, if_pos e]
      exact ih _ _ _ _ _ h
    · rw [if_neg e, if_neg e]
      refine ih _ _ _ _ _ (fun i hi => ?_)
      unfold row3
      by_cases e2 : i = 3 * c + 2
      · rw [if_pos e2, if_pos e2]
      by_cases e1 : i = 3 * c + 1
      · rw [if_neg e2, if_neg e2, if_pos e1, if_pos e1]
      by_cases e0 : i = 3 * c
      · rw [if_neg e2, if_neg e2, if_neg e1, if_neg e1, if_pos e0, if_pos e0]
      · rw [if_neg e2, if_neg e2, if_neg e1, if_neg e1, if_neg e0, if_neg e0]
        exact h i (by omega)
theorem u2_row3 {A : Nat → Nat → Int32} {a c : Nat} {x y z : Int32} : u2 (u2 (u2 A a (3 * c) x) a (3 * c + 1) y) a (3 * c + 2) z a = row3 (A a) c x y z := by
  funext i
  simp only [u2_ap, true_and, row3]
theorem l_prove11 {N np dy : Nat} {ad : Nat → Nat} {w : Int32} {K : Int32 → PS → Prop} {A : Nat → Int32} (hn : np ≤ 10) (hd : dy ≤ 999) (hp : ∀ i, i < np → ∃ v : Nat, v ≤ 999 ∧ A (9 * i + 8) = nI v) : ∀ (m n k c : Nat) (acc : Int32) (S : PS), Sh ad S → S.I 772 (ad 80) = nI np → S.I 768 (ad 80) = nI dy → S.A (ad 81) = A → S.I 805 (ad 80) = nI c → c ≤ k → k + m = np → m < n → (∀ S', Un ad (fun g n => g = 805 ∧ n = 80) (fun n => n = 94) False S S' → S'.I 805 (ad 80) = nI (pr (fun i => isw (fun q => A (9 * i + q)) w) (fun i => tk (fun q => A (9 * i + q)) (nI dy) - A (9 * i + 5)) m k c acc (S.A (ad 94))).1 → S'.A (ad 94) = (pr (fun i => isw (fun q => A (9 * i + q)) w) (fun i => tk (fun q => A (9 * i + q)) (nI dy) - A (9 * i + 5)) m k c acc (S.A (ad 94))).2 → K (S'.I 805 (ad 80)) S') → wq_X11_prove_18 N K n S (ad 80) w acc (nI k) := by
  intro m
  induction m with
  | zero =>
    intro n k c acc S h e1 e2 eA ec hc hk hn2 hK
    obtain ⟨n, rfl⟩ : ∃ z, n = z + 1 := ⟨n - 1, by omega⟩
    rw [wq_X11_prove_18.eq_2, e1, if_pos (nI_le (by omega) (by omega))]
    exact ⟨h.k80, hK S Un.rf ec rfl⟩
  | succ m ih =>
    intro n k c acc S h e1 e2 eA ec hc hk hn2 hK
    obtain ⟨n, rfl⟩ : ∃ z, n = z + 1 := ⟨n - 1, by omega⟩
    have hk10 : k < 10 := by omega
    have hs : ∃ v : Nat, v ≤ 999 ∧ S.A (ad 81) (9 * k + 8) = nI v := by rw [eA]; exact hp k (by omega)
    rw [wq_X11_prove_18.eq_2, e1, if_neg (nI_ge (by omega) (by omega)), show nI k + 1 = nI (k + 1) from nI_add k 1, w_isOn h hk10, eA]
    rw [pr] at hK
    refine ⟨h.k80, ?_⟩
    by_cases e : isw (fun q => A (9 * k + q)) w = 0
    · rw [if_pos e] at hK ⊢
      exact ih n (k + 1) c acc S h e1 e2 eA ec (by omega) (by omega) (by omega) hK
    · rw [if_neg e] at hK ⊢
      refine ⟨h.k80, ?_⟩
      rw [w_lacks h hk10 e2 hd hs, eA]
      intro v16 e16
      have m0 : 3 * nI c = nI (3 * c) := by rw [show (3 : Int32) = nI 3 from rfl, pk_mul]
      have w1 : vp_in (nI (3 * c)) 30 := vp_in_nI (by omega) (by decide)
      have w2 : vp_in (nI (3 * c + 1)) 30 := vp_in_nI (by omega) (by decide)
      have w3 : vp_in (nI (3 * c + 2)) 30 := vp_in_nI (by omega) (by decide)
      rw [ec, m0]
      refine ⟨h.k80, ad 94, h.r804, h.k94, by rw [h.l94]; exact w1, fun S21 e21 => ⟨ad 94, by rw [e21]; exact h.r804, ?_⟩⟩
      rw [nI_clamp (by omega)] at e21
      have g21 : Sh ad S21 := by rw [e21]; exact h
      have b81 : S21.A (ad 81) = A := by
        rw [e21, ← eA]
        funext i
        simp only [setI_K, setI_ln, setI_R, setI_Q, setI_I, setI_J, setI_A, setI_B, setJ_K, setJ_ln, setJ_R, setJ_Q, setJ_I, setJ_J, setJ_A, setJ_B, setR_K, setR_ln, setR_R, setR_Q, setR_I, setR_J, setR_A, setR_B, setA_K, setA_ln, setA_R, setA_Q, setA_I, setA_J, setA_A, setA_B, setB_K, setB_ln, setB_R, setB_Q, setB_I, setB_J, setB_A, setB_B, setQ_K, setQ_ln, setQ_R, setQ_Q, setQ_I, setQ_J, setQ_A, setQ_B, u2_ap, h.adj, Nat.reduceEqDiff, true_and, and_true, Option.some.injEq, exists_eq_left', exists_eq_left, forall_eq, forall_eq_apply_imp_iff, true_or, or_true, false_or, or_false, not_true_eq_false, not_false_eq_true, false_and, if_true, if_false, reduceIte]
      have b805 : S21.I 805 (ad 80) = nI c := by rw [e21]; exact ec
      rw [w_lacks g21 hk10 (by rw [e21]; exact e2) hd (by rw [b81]; exact hp k (by omega)), b81, b805, m0, show nI (3 * c) + 1 = nI (3 * c + 1) from nI_add _ _]
      refine ⟨g21.k94, by rw [g21.l94]; exact w2, fun S28 e28 => ?_⟩
      rw [nI_clamp (by omega)] at e28
      have g28 : Sh ad S28 := by rw [e28]; exact g21
      have c805 : S28.I 805 (ad 80) = nI c := by rw [e28]; exact b805
      rw [c805, m0, show nI (3 * c) + 2 = nI (3 * c + 2) from nI_add _ _]
      refine ⟨g28.k80, ad 94, g28.r804, g28.k94, by rw [g28.l94]; exact w3, fun S33 e33 S35 e35 => ?_⟩
      rw [nI_clamp (by omega)] at e33
      have d805 : S33.I 805 (ad 80) = nI c := by rw [e33]; exact c805
      rw [d805, show nI c + 1 = nI (c + 1) from nI_add _ _] at e35
      have hU : Un ad (fun g n => g = 805 ∧ n = 80) (fun n => n = 94) False S S35 := by
        rw [e35, e33, e28, e21]
        exact Un.tr (Un.tr (Un.tr (Un.setA rfl) (Un.setA rfl)) (Un.setA rfl)) (Un.setI ⟨rfl, rfl⟩)
      have a94 : S35.A (ad 94) = row3 (S.A (ad 94)) c (nI k) (tk (fun q => A (9 * k + q)) (nI dy) - A (9 * k + 5)) v16 := by
        rw [e35, e33, e28, e21]
        exact u2_row3
      rw [e16] at a94
      rw [e16]
      rw [← a94] at hK
      refine ih n (k + 1) (c + 1) _ S35 (hU.sh h) ((hU.I h (by omega)).trans e1) ((hU.I h (by omega)).trans e2) ((hU.A h (by omega)).trans eA) (by rw [e35]; simp only [setI_K, setI_ln, setI_R, setI_Q, setI_I, setI_J, setI_A, setI_B, setJ_K, setJ_ln, setJ_R, setJ_Q, setJ_I, setJ_J, setJ_A, setJ_B, setR_K, setR_ln, setR_R, setR_Q, setR_I, setR_J, setR_A, setR_B, setA_K, setA_ln, setA_R, setA_Q, setA_I, setA_J, setA_A, setA_B, setB_K, setB_ln, setB_R, setB_Q, setB_I, setB_J, setB_A, setB_B, setQ_K, setQ_ln, setQ_R, setQ_Q, setQ_I, setQ_J, setQ_A, setQ_B, u2_ap, and_self, true_and, and_true, Option.some.injEq, exists_eq_left', exists_eq_left, forall_eq, forall_eq_apply_imp_iff, true_or, or_true, false_or, or_false, not_true_eq_false, not_false_eq_true, false_and, if_true, if_false, reduceIte]) (by omega) (by omega) (by omega) (fun S' hU' => hK S' (Un.tr hU hU'))
