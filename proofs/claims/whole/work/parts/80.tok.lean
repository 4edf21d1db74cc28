section
variable {N nt p : Nat} {ad : Nat → Nat} {S : PS} {T : Nat → Nat} {K : Int32 → PS → Prop}
theorem wd_let (T : Nat → Nat) (nt p : Nat) (c0 : ¬ nt ≤ p) (c1 : 97 ≤ T p ∧ T p ≤ 122) : ∀ k, k < tnd T nt p - p → 97 ≤ T (p + k) ∧ T (p + k) ≤ 122 := by
  intro k hk
  have et : tnd T nt p = rnE T 97 122 (nt - p) p := by unfold tnd; rw [if_neg c0, if_pos c1]
  rw [et] at hk
  exact (rnE_bd T 97 122 (nt - p) p).2.2 (p + k) (by omega) (by omega)
theorem t_word (hT : ∀ k, T k < 256) (h : Sh ad S) (hA : RA S ad T nt p) {i : Nat} (hi : i < 15) : wp_X11_isWord N S (ad 80) (lN (Wn.getD i 0)) K = K (if cdp T nt p = nI (300 + i) then 1 else 0) S := by
  have ht := hT p
  obtain ⟨a1, -, -, a4, -⟩ := hA
  have no : srp T nt p ≠ 1 → cdp T nt p ≠ nI (300 + i) → wp_X11_isWord N S (ad 80) (lN (Wn.getD i 0)) K = K (if cdp T nt p = nI (300 + i) then 1 else 0) S := by
    intro n1 n2
    unfold wp_X11_isWord
    rw [a1, if_neg n1, if_neg n2]
    simp only [h.k80, true_and, and_true, Option.some.injEq, exists_eq_left', exists_eq_left, forall_eq, forall_eq_apply_imp_iff, true_or, or_true, false_or, or_false, not_true_eq_false, not_false_eq_true, false_and, if_true, if_false, reduceIte]
  by_cases c0 : nt ≤ p
  · refine no ?_ ?_
    · unfold srp; rw [if_pos c0]; decide
    · unfold cdp; rw [if_pos c0]; exact ii_ne (a := 258) (by decide) (by omega) (by omega)
  by_cases c1 : 97 ≤ T p ∧ T p ≤ 122
  · have hl := wd_let T nt p c0 c1
    unfold wp_X11_isWord
    rw [a1, a4]
    unfold srp wdp cdp
    rw [if_neg c0, if_pos c1, if_pos rfl, if_neg c0, if_pos c1, if_neg c0, if_pos c1]
    by_cases e : spb T p (tnd T nt p - p) i = true
    · rw [if_pos ((lg_cmp_eq _ _).mpr ((wrd_iff T p _ i hT hi hl).mpr e)), if_pos ((wcf_iff T p _ i hT hi hl).mpr e)]
      simp only [h.k80, true_and, and_true, Option.some.injEq, exists_eq_left', exists_eq_left, forall_eq, forall_eq_apply_imp_iff, true_or, or_true, false_or, or_false, not_true_eq_false, not_false_eq_true, false_and, if_true, if_false, reduceIte]
    · rw [if_neg (fun z => e ((wrd_iff T p _ i hT hi hl).mp ((lg_cmp_eq _ _).mp z))), if_neg (fun z => e ((wcf_iff T p _ i hT hi hl).mp z))]
      simp only [h.k80, true_and, and_true, Option.some.injEq, exists_eq_left', exists_eq_left, forall_eq, forall_eq_apply_imp_iff, true_or, or_true, false_or, or_false, not_true_eq_false, not_false_eq_true, false_and, if_true, if_false, reduceIte]
  by_cases c2 : 48 ≤ T p ∧ T p ≤ 57
  · refine no ?_ ?_
    · unfold srp; rw [if_neg c0, if_neg c1, if_pos c2]; decide
    · unfold cdp; rw [if_neg c0, if_neg c1, if_pos c2]
      split
      · exact ii_ne (a := 256) (by decide) (by omega) (by omega)
      · exact ii_ne (a := 257) (by decide) (by omega) (by omega)
  · refine no ?_ ?_
    · unfold srp; rw [if_neg c0, if_neg c1, if_neg c2]; decide
    · unfold cdp; rw [if_neg c0, if_neg c1, if_neg c2]; exact ii_ne (by omega) (by omega) (by omega)
/-- the code of a word is none of a byte's -/
theorem wcf_b (T : Nat → Nat) (p l b : Nat) (hb : b < 257) : wcf T p l 15 0 ≠ nI b := by
  rcases wcf_le T p l with e | ⟨j, hj, e⟩
  · rw [e]; exact ii_ne (a := 257) (by decide) (by omega) (by omega)
  · rw [e]; exact ii_ne (by omega) (by omega) (by omega)
theorem t_mark (hT : ∀ k, T k < 256) (h : Sh ad S) (hA : RA S ad T nt p) {b : Nat} (hb : b < 256) (nl : ¬ (97 ≤ b ∧ b ≤ 122)) (nd : ¬ (48 ≤ b ∧ b ≤ 57)) : wp_X11_isMark N S (ad 80) (nI b) K = K (if cdp T nt p = nI b then 1 else 0) S := by
  have ht := hT p
  obtain ⟨a1, -, -, -, a5⟩ := hA
  have no : srp T nt p ≠ 3 → cdp T nt p ≠ nI b → wp_X11_isMark N S (ad 80) (nI b) K = K (if cdp T nt p = nI b then 1 else 0) S := by
    intro n1 n2
    unfold wp_X11_isMark
    rw [a1, if_neg n1, if_neg n2]
    simp only [h.k80, true_and, and_true, Option.some.injEq, exists_eq_left', exists_eq_left, forall_eq, forall_eq_apply_imp_iff, true_or, or_true, false_or, or_false, not_true_eq_false, not_false_eq_true, false_and, if_true, if_false, reduceIte]
  by_cases c0 : nt ≤ p
  · refine no ?_ ?_
    · unfold srp; rw [if_pos c0]; decide
    · unfold cdp; rw [if_pos c0]; exact ii_ne (a := 258) (by decide) (by omega) (by omega)
  by_cases c1 : 97 ≤ T p ∧ T p ≤ 122
  · refine no ?_ ?_
    · unfold srp; rw [if_neg c0, if_pos c1]; decide
    · unfold cdp; rw [if_neg c0, if_pos c1]; exact wcf_b _ _ _ _ (by omega)
  by_cases c2 : 48 ≤ T p ∧ T p ≤ 57
  · refine no ?_ ?_
    · unfold srp; rw [if_neg c0, if_neg c1, if_pos c2]; decide
    · unfold cdp; rw [if_neg c0, if_neg c1, if_pos c2]
      split
      · exact ii_ne (a := 256) (by decide) (by omega) (by omega)
      · exact ii_ne (a := 257) (by decide) (by omega) (by omega)
  · unfold wp_X11_isMark
    rw [a1, a5]
    unfold srp vap cdp
    rw [if_neg c0, if_neg c1, if_neg c2, if_pos rfl, if_neg c0, if_neg c1, if_neg c2, if_neg c0, if_neg c1, if_neg c2]
    by_cases e : nI (T p) = nI b
    · rw [if_pos e, if_pos e]; simp only [h.k80, true_and, and_true, Option.some.injEq, exists_eq_left', exists_eq_left, forall_eq, forall_eq_apply_imp_iff, true_or, or_true, false_or, or_false, not_true_eq_false, not_false_eq_true, false_and, if_true, if_false, reduceIte]
    · rw [if_neg e, if_neg e]; simp only [h.k80, true_and, and_true, Option.some.injEq, exists_eq_left', exists_eq_left, forall_eq, forall_eq_apply_imp_iff, true_or, or_true, false_or, or_false, not_true_eq_false, not_false_eq_true, false_and, if_true, if_false, reduceIte]
theorem t_num (hT : ∀ k, T k < 256) (h : Sh ad S) (hA : RA S ad T nt p) : wp_X11_isNumber N S (ad 80) K = K (if cdp T nt p = 256 then 1 else 0) S := by
  have ht := hT p
  obtain ⟨a1, -, -, -, a5⟩ := hA
  have no : srp T nt p ≠ 2 → cdp T nt p ≠ 256 → wp_X11_isNumber N S (ad 80) K = K (if cdp T nt p = 256 then 1 else 0) S := by
    intro n1 n2
    unfold wp_X11_isNumber
    rw [a1, if_neg n1, if_neg n2]
    simp only [h.k80, true_and, and_true, Option.some.injEq, exists_eq_left', exists_eq_left, forall_eq, forall_eq_apply_imp_iff, true_or, or_true, false_or, or_false, not_true_eq_false, not_false_eq_true, false_and, if_true, if_false, reduceIte]
  by_cases c0 : nt ≤ p
  · refine no ?_ ?_
    · unfold srp; rw [if_pos c0]; decide
    · unfold cdp; rw [if_pos c0]; decide
  by_cases c1 : 97 ≤ T p ∧ T p ≤ 122
  · refine no ?_ ?_
    · unfold srp; rw [if_neg c0, if_pos c1]; decide
    · unfold cdp; rw [if_neg c0, if_pos c1]; exact wcf_b _ _ _ 256 (by omega)
  by_cases c2 : 48 ≤ T p ∧ T p ≤ 57
  · unfold wp_X11_isNumber
    rw [a1, a5]
    unfold srp vap cdp
    rw [if_neg c0, if_neg c1, if_pos c2, if_pos rfl, if_neg c0, if_neg c1, if_pos c2, if_neg c0, if_neg c1, if_pos c2]
    by_cases e : tnd T nt p - p ≤ 4
    · have hd : ∀ k, k < tnd T nt p - p → T (p + k) ≤ 57 := by
        intro k hk
        have et : tnd T nt p = rnE T 48 57 (nt - p) p := by unfold tnd; rw [if_neg c0, if_neg c1, if_pos c2]
        rw [et] at hk
        exact ((rnE_bd T 48 57 (nt - p) p).2.2 (p + k) (by omega) (by omega)).2
      have hb := nmb_bd T p (tnd T nt p - p) hd
      have h4 : 10 ^ (tnd T nt p - p) ≤ 10 ^ 4 := Nat.pow_le_pow_right (by decide) e
      rw [if_pos e, if_pos e, if_neg (nI_pos (by omega)), if_pos rfl]
      simp only [h.k80, true_and, and_true, Option.some.injEq, exists_eq_left', exists_eq_left, forall_eq, forall_eq_apply_imp_iff, true_or, or_true, false_or, or_false, not_true_eq_false, not_false_eq_true, false_and, if_true, if_false, reduceIte]
    · rw [if_neg e, if_neg e, if_pos (by decide), if_neg (by decide)]
      simp only [h.k80, true_and, and_true, Option.some.injEq, exists_eq_left', exists_eq_left, forall_eq, forall_eq_apply_imp_iff, true_or, or_true, false_or, or_false, not_true_eq_false, not_false_eq_true, false_and, if_true, if_false, reduceIte]
  · refine no ?_ ?_
    · unfold srp; rw [if_neg c0, if_neg c1, if_neg c2]; decide
    · unfold cdp; rw [if_neg c0, if_neg c1, if_neg c2]; exact ii_ne (b := 256) (by omega) (by decide) (by omega)
theorem t_val (hT : ∀ k, T k < 256) (e : cdp T nt p = 256) : vap T nt p = vlp T nt p ∧ ∃ v : Nat, v ≤ 9999 ∧ vlp T nt p = nI v := by
  have ht := hT p
  unfold cdp at e
  by_cases c0 : nt ≤ p
  · rw [if_pos c0] at e; exact absurd e (by decide)
  rw [if_neg c0] at e
  by_cases c1 : 97 ≤ T p ∧ T p ≤ 122
  · rw [if_pos c1] at e; exact absurd e (wcf_b _ _ _ 256 (by omega))
  rw [if_neg c1] at e
  by_cases c2 : 48 ≤ T p ∧ T p ≤ 57
  · rw [if_pos c2] at e
    by_cases c3 : tnd T nt p - p ≤ 4
    · unfold vap vlp
      rw [if_neg c0, if_neg c1, if_pos c2, if_pos c3, if_neg c0, if_neg c1, if_pos c2, if_pos c3]
      have hd : ∀ k, k < tnd T nt p - p → T (p + k) ≤ 57 := by
        intro k hk
        have et : tnd T nt p = rnE T 48 57 (nt - p) p := by unfold tnd; rw [if_neg c0, if_neg c1, if_pos c2]
        rw [et] at hk
        exact ((rnE_bd T 48 57 (nt - p) p).2.2 (p + k) (by omega) (by omega)).2
      have hb := nmb_bd T p (tnd T nt p - p) hd
      have h4 : 10 ^ (tnd T nt p - p) ≤ 10 ^ 4 := Nat.pow_le_pow_right (by decide) c3
      exact ⟨rfl, _, by omega, rfl⟩
    · rw [if_neg c3] at e; exact absurd e (by decide)
  · rw [if_neg c2] at e
    exact absurd e (ii_ne (b := 256) (by omega) (by decide) (by omega))
theorem t_end (hT : ∀ k, T k < 256) : srp T nt p = 0 ↔ cdp T nt p = 258 := by
  have ht := hT p
  unfold srp cdp
  by_cases c0 : nt ≤ p
  · rw [if_pos c0, if_pos c0]; exact ⟨fun _ => rfl, fun _ => rfl⟩
  rw [if_neg c0, if_neg c0]
  by_cases c1 : 97 ≤ T p ∧ T p ≤ 122
  · rw [if_pos c1, if_pos c1]
    refine ⟨fun e => absurd e (by decide), fun e => ?_⟩
    rcases wcf_le T p (tnd T nt p - p) with z | ⟨j, hj, z⟩
    · rw [z] at e; exact absurd e (by decide)
    · rw [z] at e; exact absurd e (ii_ne (b := 258) (by omega) (by decide) (by omega))
  rw [if_neg c1, if_neg c1]
  by_cases c2 : 48 ≤ T p ∧ T p ≤ 57
  · rw [if_pos c2, if_pos c2]
    refine ⟨fun e => absurd e (by decide), fun e => ?_⟩
    split at e
    · exact absurd e (by decide)
    · exact absurd e (by decide)
  · rw [if_neg c2, if_neg c2]
    exact ⟨fun e => absurd e (by decide), fun e => absurd e (ii_ne (b := 258) (by omega) (by decide) (by omega))⟩
end
-- ===== the class at token t =====
def CT (S : PS) (ad : Nat → Nat) (T : Nat → Nat) (nt c t : Nat) : Prop := Sh ad S ∧ TK S ad T nt (c + 1) ∧ S.I 580 (ad 5) = nI t ∧ t ≤ c ∧ c ≤ 200 ∧ pos T nt c = nt ∧ ∀ j, j < c → pos T nt j < nt
section
variable {N nt c t : Nat} {ad : Nat → Nat} {S : PS} {T : Nat → Nat} {K : Int32 → PS → Prop} {x : Int32}
theorem k_now (h : CT S ad T nt c t) : wp_X8_isNow N S (ad 5) x K = K (if cdp T nt (pos T nt t) = x then 1 else 0) S := by
  obtain ⟨g, ⟨-, k2⟩, i, h1, h2, -⟩ := h
  have v : vp_in (nI t) 201 := vp_in_nI (by omega) (by decide)
  unfold wp_X8_isNow
  simp only [g.k5, g.r576, g.k16, g.l16, i, v, nI_clamp (show t < 2 ^ 31 by omega), (k2 t (by omega)).1, true_and, and_true, Option.some.injEq, exists_eq_left', exists_eq_left, forall_eq, forall_eq_apply_imp_iff, true_or, or_true, false_or, or_false, not_true_eq_false, not_false_eq_true, false_and, if_true, if_false, reduceIte]
  by_cases e : cdp T nt (pos T nt t) = x
  · rw [if_pos e, if_pos e]
  · rw [if_neg e, if_neg e]
theorem k_code (h : CT S ad T nt c t) : wp_X8_code N S (ad 5) K = K (cdp T nt (pos T nt t)) S := by
  obtain ⟨g, ⟨-, k2⟩, i, h1, h2, -⟩ := h
  have v : vp_in (nI t) 201 := vp_in_nI (by omega) (by decide)
  unfold wp_X8_code
  simp only [g.k5, g.r576, g.k16, g.l16, i, v, nI_clamp (show t < 2 ^ 31 by omega), (k2 t (by omega)).1, true_and, and_true, Option.some.injEq, exists_eq_left', exists_eq_left, forall_eq, forall_eq_apply_imp_iff, true_or, or_true, false_or, or_false, not_true_eq_false, not_false_eq_true, false_and, if_true, if_false, reduceIte]
theorem k_value (h : CT S ad T nt c t) : wp_X8_value N S (ad 5) K = K (vlp T nt (pos T nt t)) S := by
  obtain ⟨g, ⟨-, k2⟩, i, h1, h2, -⟩ := h
  have v : vp_in (nI t) 201 := vp_in_nI (by omega) (by decide)
  unfold wp_X8_value
  simp only [g.k5, g.r577, g.k17, g.l17, i, v, nI_clamp (show t < 2 ^ 31 by omega), (k2 t (by omega)).2.1, true_and, and_true, Option.some.injEq, exists_eq_left', exists_eq_left, forall_eq, forall_eq_apply_imp_iff, true_or, or_true, false_or, or_false, not_true_eq_false, not_false_eq_true, false_and, if_true, if_false, reduceIte]
theorem k_place (h : CT S ad T nt c t) : wp_X8_place N S (ad 5) K = K (nI (pos T nt t)) S := by
  obtain ⟨g, ⟨-, k2⟩, i, h1, h2, -⟩ := h
  have v : vp_in (nI t) 201 := vp_in_nI (by omega) (by decide)
  unfold wp_X8_place
  simp only [g.k5, g.r578, g.k18, g.l18, i, v, nI_clamp (show t < 2 ^ 31 by omega), (k2 t (by omega)).2.2, true_and, and_true, Option.some.injEq, exists_eq_left', exists_eq_left, forall_eq, forall_eq_apply_imp_iff, true_or, or_true, false_or, or_false, not_true_eq_false, not_false_eq_true, false_and, if_true, if_false, reduceIte]
theorem k_lt (h : CT S ad T nt c t) (e : cdp T nt (pos T nt t) ≠ 258) : t < c := by
  obtain ⟨-, -, -, h1, h2, h3, h4⟩ := h
  refine Classical.byContradiction (fun z => e ?_)
  obtain rfl : t = c := by omega
  rw [h3]
  unfold cdp
  rw [if_pos (Nat.le_refl _)]
/-- the frame of the class's reading -/
theorem CT.un {S S1 : PS} {PI : Nat → Nat → Prop} {PA : Nat → Prop} (h : CT S ad T nt c t) (u : Un ad PI PA False S S1) (q1 : ¬ PI 579 5 ∧ ¬ PI 580 5) (q2 : ¬ PA 16 ∧ ¬ PA 17 ∧ ¬ PA 18) : CT S1 ad T nt c t := by
  obtain ⟨g, ⟨k1, k2⟩, i, r⟩ := h
  refine ⟨u.sh g, ⟨(u.I g q1.1).trans k1, ?_⟩, (u.I g q1.2).trans i, r⟩
  rw [u.A g q2.1, u.A g q2.2.1, u.A g q2.2.2]
  exact k2
theorem k_take (h : CT S ad T nt c t) (hx : x ≠ 258) (hK : if cdp T nt (pos T nt t) = x then ∀ S7, Un ad (fun g n => g = 580 ∧ n = 5) (fun _ => False) False S S7 → CT S7 ad T nt c (t + 1) → K 1 S7 else K 0 S) : wp_X8_take N S (ad 5) x K := by
  have h0 := h
  obtain ⟨g, ⟨k1, k2⟩, i, h1, h2, h3, h4⟩ := h
  have v : vp_in (nI t) 201 := vp_in_nI (by omega) (by decide)
  unfold wp_X8_take
  refine ⟨g.k5, ad 16, g.r576, g.k16, by rw [g.l16, i]; exact v, ?_⟩
  rw [i, nI_clamp (by omega), (k2 t (by omega)).1]
  by_cases e : cdp T nt (pos T nt t) = x
  · rw [if_pos e] at hK ⊢
    have hlt := k_lt h0 (by rw [e]; exact hx)
    rw [k1, show nI (c + 1) - 1 = nI c from nI_pred c, if_pos (nI_lt hlt (by omega)), a1i]
    intro S7 e7
    have u7 : Un ad (fun g n => g = 580 ∧ n = 5) (fun _ => False) False S S7 := by rw [e7]; exact Un.setI ⟨rfl, rfl⟩
    refine hK S7 u7 ⟨u7.sh g, ⟨(u7.I g (by omega)).trans k1, ?_⟩, ?_, hlt, h2, h3, h4⟩
    · rw [e7]; exact k2
    · rw [e7]; simp only [setI_K, setI_ln, setI_R, setI_Q, setI_I, setI_J, setI_A, setI_B, setJ_K, setJ_ln, setJ_R, setJ_Q, setJ_I, setJ_J, setJ_A, setJ_B, setR_K, setR_ln, setR_R, setR_Q, setR_I, setR_J, setR_A, setR_B, setA_K, setA_ln, setA_R, setA_Q, setA_I, setA_J, setA_A, setA_B, setB_K, setB_ln, setB_R, setB_Q, setB_I, setB_J, setB_A, setB_B, setQ_K, setQ_ln, setQ_R, setQ_Q, setQ_I, setQ_J, setQ_A, setQ_B, u2_ap, and_self, true_and, and_true, Option.some.injEq, exists_eq_left', exists_eq_left, forall_eq, forall_eq_apply_imp_iff, true_or, or_true, false_or, or_false, not_true_eq_false, not_false_eq_true, false_and, if_true, if_false, reduceIte]
  · rw [if_neg e] at hK ⊢
    exact hK
end
-- ===== the reference at token t, with good =====
def RG (S : PS) (ad : Nat → Nat) (T : Nat → Nat) (nt t : Nat) (g : Int32) : Prop := RB S ad T nt ∧ RA S ad T nt (pos T nt t) ∧ S.I 788 (ad 80) = g
/-- what the reference's reading of words and numbers writes -/
def UB (ad : Nat → Nat) (S S' : PS) : Prop := Un ad (fun g n => n = 80 ∧ 783 ≤ g ∧ g ≤ 788) (fun _ => False) False S S'
theorem UA.ub {ad : Nat → Nat} {S S' : PS} (u : UA ad S S') : UB ad S S' := Un.mono u (fun _ _ e => by omega) (fun _ e => e) id
section
variable {N nt t : Nat} {ad : Nat → Nat} {S : PS} {T : Nat → Nat} {g : Int32}
theorem tnd_le (T : Nat → Nat) (nt t : Nat) : tnd T nt (pos T nt t) ≤ nt := by
  by_cases c : nt ≤ pos T nt t
  · unfold tnd; rw [if_pos c]; exact (pos_bd T nt t).1
  · exact (tnd_bd T nt _ (by omega)).2
theorem r_adv {K : PS → Prop} (hT : ∀ k, T k < 256) (hn : nt ≤ 200) (hN5 : 5000 ≤ N) (h : RG S ad T nt t g) (hK : ∀ S', UA ad S S' → RG S' ad T nt (t + 1) g → K S') : wp_X11_advance N S (ad 80) K := by
  obtain ⟨hB, hA, i⟩ := h
  refine w_advance hT hn hN5 hB hA.2.2.1 (tnd_le T nt t) (fun S' u' r' => hK S' u' ⟨hB.ua u', ?_, (Un.I u' hB.1 (by omega)).trans i⟩)
  rw [pos]
  exact r'
theorem rg_set {S5 : PS} {v : Int32} (h : RG S ad T nt t g) (e : S5 = S.setI 788 (ad 80) v) : RG S5 ad T nt t v ∧ UB ad S S5 := by
  obtain ⟨hB, hA, i⟩ := h
  have u : UB ad S S5 := by rw [e]; exact Un.setI (by omega)
  have u2 : Un ad (fun g n => n = 80 ∧ g = 788) (fun _ => False) False S S5 := by rw [e]; exact Un.setI (by omega)
  refine ⟨⟨⟨Un.sh u hB.1, (Un.I u hB.1 (by omega)).trans hB.2.1, by rw [Un.A u hB.1 (by simp)]; exact hB.2.2⟩, ?_, by rw [e]; simp only [setI_K, setI_ln, setI_R, setI_Q, setI_I, setI_J, setI_A, setI_B, setJ_K, setJ_ln, setJ_R, setJ_Q, setJ_I, setJ_J, setJ_A, setJ_B, setR_K, setR_ln, setR_R, setR_Q, setR_I, setR_J, setR_A, setR_B, setA_K, setA_ln, setA_R, setA_Q, setA_I, setA_J, setA_A, setA_B, setB_K, setB_ln, setB_R, setB_Q, setB_I, setB_J, setB_A, setB_B, setQ_K, setQ_ln, setQ_R, setQ_Q, setQ_I, setQ_J, setQ_A, setQ_B, u2_ap, and_self, true_and, and_true, Option.some.injEq, exists_eq_left', exists_eq_left, forall_eq, forall_eq_apply_imp_iff, true_or, or_true, false_or, or_false, not_true_eq_false, not_false_eq_true, false_and, if_true, if_false, reduceIte]⟩, u⟩
  obtain ⟨a1, a2, a3, a4, a5⟩ := hA
  exact ⟨(u2.I hB.1 (by omega)).trans a1, (u2.I hB.1 (by omega)).trans a2, (u2.I hB.1 (by omega)).trans a3, by rw [e]; exact a4, (u2.I hB.1 (by omega)).trans a5⟩
theorem r_want21 {K : PS → Prop} {v : Int32} (hT : ∀ k, T k < 256) (hn : nt ≤ 200) (hN5 : 5000 ≤ N) (h : RG S ad T nt t g) (hv : v = 0 ∨ v = 1) (hK : ∀ S', UB ad S S' → RG S' ad T nt (if v = 0 then t else t + 1) v → K S') : wq_X11_wantWord_21 N K S (ad 80) (ad 80) v := by
  refine ⟨h.1.1.k80, hv, fun S5 e5 => ?_⟩
  obtain ⟨h5, u5⟩ := rg_set h e5
  refine ⟨h5.1.1.k80, ?_⟩
  rw [h5.2.2]
  by_cases c : v = 0
  · rw [if_pos c]
    rw [if_pos c] at hK
    exact hK S5 u5 h5
  · rw [if_neg c]
    rw [if_neg c] at hK
    exact r_adv hT hn hN5 h5 (fun S' u' h' => hK S' (Un.tr u5 u'.ub) h')
theorem r_word {K : PS → Prop} (hT : ∀ k, T k < 256) (hn : nt ≤ 200) (hN5 : 5000 ≤ N) (h : RG S ad T nt t g) (hg : g = 0 ∨ g = 1) {i : Nat} (hi : i < 15) (hK : ∀ S', UB ad S S' → (if g = 1 ∧ cdp T nt (pos T nt t) = nI (300 + i) then RG S' ad T nt (t + 1) 1 else RG S' ad T nt t 0) → K S') : wp_X11_wantWord N S (ad 80) (lN (Wn.getD i 0)) K := by
  refine ⟨h.1.1.k80, ?_⟩
  rw [h.2.2]
  unfold wq_X11_wantWord_20
  by_cases c : g = 0
  · rw [if_pos c]
    refine r_want21 hT hn hN5 h (Or.inl rfl) (fun S' u' h' => hK S' u' ?_)
    rw [if_neg (fun z => absurd (c.symm.trans z.1) (by decide))]
    exact h'
  · have c1 := hg.resolve_left c
    rw [if_neg c, t_word hT h.1.1 h.2.1 hi]
    by_cases d : cdp T nt (pos T nt t) = nI (300 + i)
    · rw [if_pos d, if_neg (by decide)]
      refine r_want21 hT hn hN5 h (Or.inr rfl) (fun S' u' h' => hK S' u' ?_)
      rw [if_pos ⟨c1, d⟩]
      exact h'
    · rw [if_neg d, if_pos rfl]
      refine r_want21 hT hn hN5 h (Or.inl rfl) (fun S' u' h' => hK S' u' ?_)
      rw [if_neg (fun z => d z.2)]
      exact h'
theorem r_want25 {K : Int32 → PS → Prop} {v x : Int32} (hT : ∀ k, T k < 256) (hn : nt ≤ 200) (hN5 : 5000 ≤ N) (h : RG S ad T nt t g) (hv : v = 0 ∨ v = 1) (hK : ∀ S', UB ad S S' → RG S' ad T nt (if v = 0 then t else t + 1) v → K x S') : wq_X11_wantNumber_25 N K S (ad 80) x (ad 80) v := by
  refine ⟨h.1.1.k80, hv, fun S5 e5 => ?_⟩
  obtain ⟨h5, u5⟩ := rg_set h e5
  refine ⟨h5.1.1.k80, ?_⟩
  rw [h5.2.2]
  by_cases c : v = 0
  · rw [if_pos c]
    rw [if_pos c] at hK
    exact hK S5 u5 h5
  · rw [if_neg c]
    rw [if_neg c] at hK
    exact r_adv hT hn hN5 h5 (fun S' u' h' => hK S' (Un.tr u5 u'.ub) h')
theorem r_num {K : Int32 → PS → Prop} (hT : ∀ k, T k < 256) (hn : nt ≤ 200) (hN5 : 5000 ≤ N) (h : RG S ad T nt t g) (hg : g = 0 ∨ g = 1) (hK : ∀ S' x, UB ad S S' → (if g = 1 ∧ cdp T nt (pos T nt t) = 256 then RG S' ad T nt (t + 1) 1 ∧ x = vlp T nt (pos T nt t) else RG S' ad T nt t 0) → K x S') : wp_X11_wantNumber N S (ad 80) K := by
  refine ⟨h.1.1.k80, fun v2 e2 => ?_⟩
  rw [h.2.2]
  unfold wq_X11_wantNumber_24
  by_cases c : g = 0
  · rw [if_pos c]
    refine r_want25 hT hn hN5 h (Or.inl rfl) (fun S' u' h' => hK S' v2 u' ?_)
    rw [if_neg (fun z => absurd (c.symm.trans z.1) (by decide))]
    exact h'
  · have c1 := hg.resolve_left c
    rw [if_neg c, t_num hT h.1.1 h.2.1]
    by_cases d : cdp T nt (pos T nt t) = 256
    · rw [if_pos d, if_neg (by decide)]
      refine r_want25 hT hn hN5 h (Or.inr rfl) (fun S' u' h' => hK S' v2 u' ?_)
      rw [if_pos ⟨c1, d⟩]
      exact ⟨h', by rw [e2, h.2.1.2.2.2.2, (t_val hT d).1]⟩
    · rw [if_neg d, if_pos rfl]
      refine r_want25 hT hn hN5 h (Or.inl rfl) (fun S' u' h' => hK S' v2 u' ?_)
      rw [if_neg (fun z => d z.2)]
      exact h'
end
/-- a number with or without a minus: well read, where then, what -/
def pin (C V : Nat → Int32) (t : Nat) : Bool × Nat × Int32 := if C t = 45 then (if C (t + 1) = 256 then (true, t + 2, -V (t + 1)) else (false, t + 1, 0)) else if C t = 256 then (true, t + 1, V t) else (false, t, 0)
section
variable {N nt t : Nat} {ad : Nat → Nat} {S : PS} {T : Nat → Nat} {g : Int32}
theorem r_int {K : Int32 → PS → Prop} (hT : ∀ k, T k < 256) (hn : nt ≤ 200) (hN5 : 5000 ≤ N) (h : RG S ad T nt t g) (hg : g = 0 ∨ g = 1) (hK : ∀ S' x, UB ad S S' → (if g = 1 then (if (pin (fun k => cdp T nt (pos T nt k)) (fun k => vlp T nt (pos T nt k)) t).1 = true then RG S' ad T nt (pin (fun k => cdp T nt (pos T nt k)) (fun k => vlp T nt (pos T nt k)) t).2.1 1 ∧ x = (pin (fun k => cdp T nt (pos T nt k)) (fun k => vlp T nt (pos T nt k)) t).2.2 else RG S' ad T nt (pin (fun k => cdp T nt (pos T nt k)) (fun k => vlp T nt (pos T nt k)) t).2.1 0) else RG S' ad T nt t 0) → K x S') : wp_X11_wantInt N S (ad 80) K := by
  refine ⟨h.1.1.k80, ?_⟩
  rw [h.2.2]
  unfold wq_X11_wantInt_20 wq_X11_wantInt_21 wq_X11_wantInt_30
  by_cases c : g = 0
  · rw [if_pos c, if_pos rfl]
    refine ⟨h.1.1.k80, r_num hT hn hN5 h hg (fun S' x u' h' => ?_)⟩
    rw [if_pos rfl]
    refine hK S' x u' ?_
    rw [if_neg (fun z => absurd (c.symm.trans z) (by decide))]
    rw [if_neg (fun z => absurd (c.symm.trans z.1) (by decide))] at h'
    exact h'
  · have c1 := hg.resolve_left c
    subst c1
    have mk := t_mark (N := N) (K := fun r12 S11 => if r12 = 0 then (if (0 : Int32) = 0 then (S11.K (ad 80) = 12 ∧ wp_X11_wantNumber N S11 (ad 80) (fun r6 S5 => if (0 : Int32) = 0 then (K r6 S5) else (K (-r6) S5))) else (S11.K (ad 80) = 12 ∧ wp_X11_advance N S11 (ad 80) (fun S9 => S9.K (ad 80) = 12 ∧ wp_X11_wantNumber N S9 (ad 80) (fun r6 S5 => if (0 : Int32) = 0 then (K r6 S5) else (K (-r6) S5))))) else (if (1 : Int32) = 0 then (S11.K (ad 80) = 12 ∧ wp_X11_wantNumber N S11 (ad 80) (fun r6 S5 => if (1 : Int32) = 0 then (K r6 S5) else (K (-r6) S5))) else (S11.K (ad 80) = 12 ∧ wp_X11_advance N S11 (ad 80) (fun S9 => S9.K (ad 80) = 12 ∧ wp_X11_wantNumber N S9 (ad 80) (fun r6 S5 => if (1 : Int32) = 0 then (K r6 S5) else (K (-r6) S5)))))) hT h.1.1 h.2.1 (b := 45) (by decide) (by decide) (by decide)
    rw [if_neg c]
    show wp_X11_isMark N S (ad 80) (nI 45) _
    rw [mk]
    unfold pin at hK
    by_cases d : cdp T nt (pos T nt t) = 45
    · rw [if_pos (show cdp T nt (pos T nt t) = nI 45 from d), if_neg (by decide), if_neg (by decide)]
      refine ⟨h.1.1.k80, r_adv hT hn hN5 h (fun S1 u1 h1 => ⟨h1.1.1.k80, r_num hT hn hN5 h1 (Or.inr rfl) (fun S' x u' h' => ?_)⟩)⟩
      rw [if_neg (by decide)]
      refine hK S' (-x) (Un.tr u1.ub u') ?_
      rw [if_pos rfl, if_pos d]
      by_cases f : cdp T nt (pos T nt (t + 1)) = 256
      · rw [if_pos ⟨rfl, f⟩] at h'
        rw [if_pos f, if_pos rfl]
        exact ⟨h'.1, by rw [h'.2]⟩
      · rw [if_neg (fun z => f z.2)] at h'
        rw [if_neg f, if_neg (show ¬ (false = true) by decide)]
        exact h'
    · rw [if_neg (show ¬ cdp T nt (pos T nt t) = nI 45 from d), if_pos rfl, if_pos rfl]
      refine ⟨h.1.1.k80, r_num hT hn hN5 h (Or.inr rfl) (fun S' x u' h' => ?_)⟩
      rw [if_pos rfl]
      refine hK S' x u' ?_
      rw [if_pos rfl, if_neg d]
      by_cases f : cdp T nt (pos T nt t) = 256
      · rw [if_pos ⟨rfl, f⟩] at h'
        rw [if_pos f, if_pos rfl]
        exact h'
      · rw [if_neg (fun z => f z.2)] at h'
        rw [if_neg f, if_neg (show ¬ (false = true) by decide)]
        exact h'
end
