/-- is a run of a way between two days, out of the reference's threes -/
def rin (A : Nat → Int32) (w lo hi : Int32) (i : Nat) : Prop := A (3 * i + 1) = w ∧ ¬ A (3 * i) < lo ∧ ¬ hi < A (3 * i)
/-- how many and how much -/
def rct (A : Nat → Int32) (w lo hi : Int32) (i : Nat) : Int32 := if A (3 * i + 1) = w then (if A (3 * i) < lo then 0 else if hi < A (3 * i) then 0 else 1) else 0
def rsm (A : Nat → Int32) (w lo hi : Int32) (i : Nat) : Int32 := if A (3 * i + 1) = w then (if A (3 * i) < lo then 0 else if hi < A (3 * i) then 0 else A (3 * i + 2)) else 0
theorem l_sum11 {N nr : Nat} {ad : Nat → Nat} {w lo hi : Int32} {K : Int32 → PS → Prop} {A : Nat → Int32} (hn : nr ≤ 40) : ∀ (m n k : Nat) (acc cnt : Int32) (S : PS), Sh ad S → S.I 774 (ad 80) = nI nr → S.A (ad 82) = A → S.I 793 (ad 80) = cnt → k + m = nr → m < n → (∀ S', Un ad (fun g n => g = 793 ∧ n = 80) (fun _ => False) False S S' → S'.I 793 (ad 80) = cnt + sm (rct A w lo hi) k m → K (acc + sm (rsm A w lo hi) k m) S') → wq_X11_sumOf_11 N K n S (ad 80) w lo hi acc (nI k) := by
  intro m
  induction m with
  | zero =>
    intro n k acc cnt S h e1 eA ec hk hn2 hK
    obtain ⟨n, rfl⟩ : ∃ z, n = z + 1 := ⟨n - 1, by omega⟩
    rw [wq_X11_sumOf_11.eq_2, e1, if_pos (nI_le (by omega) (by omega))]
    have := hK S Un.rf (by rw [ec, sm, Int32.add_zero])
    rw [sm, Int32.add_zero] at this
    exact ⟨h.k80, this⟩
  | succ m ih =>
    intro n k acc cnt S h e1 eA ec hk hn2 hK
    obtain ⟨n, rfl⟩ : ∃ z, n = z + 1 := ⟨n - 1, by omega⟩
    have m0 : 3 * nI k = nI (3 * k) := by rw [show (3 : Int32) = nI 3 from rfl, pk_mul]
    have w1 : vp_in (nI (3 * k)) 120 := vp_in_nI (by omega) (by decide)
    have w2 : vp_in (nI (3 * k + 1)) 120 := vp_in_nI (by omega) (by decide)
    have w3 : vp_in (nI (3 * k + 2)) 120 := vp_in_nI (by omega) (by decide)
    rw [wq_X11_sumOf_11.eq_2, e1, if_neg (nI_ge (by omega) (by omega)), m0, show nI (3 * k) + 1 = nI (3 * k + 1) from nI_add _ _, show nI (3 * k) + 2 = nI (3 * k + 2) from nI_add _ _, show nI k + 1 = nI (k + 1) from nI_add _ _, nI_clamp (by omega), nI_clamp (by omega), nI_clamp (by omega)]
    rw [sm, sm, ← Int32.add_assoc, ← Int32.add_assoc] at hK
    refine ⟨h.k80, ad 82, h.r775, h.k82, by rw [h.l82]; exact w2, ?_⟩
    rw [eA]
    by_cases c1 : A (3 * k + 1) = w
    · rw [if_pos c1]
      refine ⟨ad 82, h.r775, h.k82, by rw [h.l82]; exact w1, ?_⟩
      unfold wp_X11_in
      rw [eA]
      by_cases c2 : A (3 * k) < lo
      · rw [if_pos c2]
        rw [show rct A w lo hi k = 0 by unfold rct; rw [if_pos c1, if_pos c2], show rsm A w lo hi k = 0 by unfold rsm; rw [if_pos c1, if_pos c2], Int32.add_zero, Int32.add_zero] at hK
        exact ih n (k + 1) acc cnt S h e1 eA ec (by omega) (by omega) hK
      by_cases c3 : hi < A (3 * k)
      · rw [if_neg c2, if_pos c3]
        rw [show rct A w lo hi k = 0 by unfold rct; rw [if_pos c1, if_neg c2, if_pos c3], show rsm A w lo hi k = 0 by unfold rsm; rw [if_pos c1, if_neg c2, if_pos c3], Int32.add_zero, Int32.add_zero] at hK
        exact ih n (k + 1) acc cnt S h e1 eA ec (by omega) (by omega) hK
      · rw [if_neg c2, if_neg c3]
        rw [show rct A w lo hi k = 1 by unfold rct; rw [if_pos c1, if_neg c2, if_neg c3], show rsm A w lo hi k = A (3 * k + 2) by unfold rsm; rw [if_pos c1, if_neg c2, if_neg c3]] at hK
        refine ⟨h.k80, ad 82, h.r775, h.k82, by rw [h.l82]; exact w3, fun v20 e20 S21 e21 => ?_⟩
        rw [eA] at e20
        rw [e20]
        have hU : Un ad (fun g n => g = 793 ∧ n = 80) (fun _ => False) False S S21 := by rw [e21]; exact Un.setI ⟨rfl, rfl⟩
        exact ih n (k + 1) _ (cnt + 1) S21 (hU.sh h) ((hU.I h (by omega)).trans e1) ((hU.A h (by simp)).trans eA) (by rw [e21, ec]; simp only [setI_K, setI_ln, setI_R, setI_Q, setI_I, setI_J, setI_A, setI_B, setJ_K, setJ_ln, setJ_R, setJ_Q, setJ_I, setJ_J, setJ_A, setJ_B, setR_K, setR_ln, setR_R, setR_Q, setR_I, setR_J, setR_A, setR_B, setA_K, setA_ln, setA_R, setA_Q, setA_I, setA_J, setA_A, setA_B, setB_K, setB_ln, setB_R, setB_Q, setB_I, setB_J, setB_A, setB_B, setQ_K, setQ_ln, setQ_R, setQ_Q, setQ_I, setQ_J, setQ_A, setQ_B, u2_ap, and_self, true_and, and_true, Option.some.injEq, exists_eq_left', exists_eq_left, forall_eq, forall_eq_apply_imp_iff, true_or, or_true, false_or, or_false, not_true_eq_false, not_false_eq_true, false_and, if_true, if_false, reduceIte]) (by omega) (by omega) (fun S' hU' => hK S' (Un.tr hU hU'))
    · rw [if_neg c1]
      rw [show rct A w lo hi k = 0 by unfold rct; rw [if_neg c1], show rsm A w lo hi k = 0 by unfold rsm; rw [if_neg c1], Int32.add_zero, Int32.add_zero] at hK
      exact ih n (k + 1) acc cnt S h e1 eA ec (by omega) (by omega) hK
