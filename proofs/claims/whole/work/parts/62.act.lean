/-- a body more in the trace -/
def bg (b : Int32) (tr : List Int32) : List Int32 := if 30 ≤ tr.length then tr else tr ++ [b]
/-- what the acts answer, and the trace -/
def tkp (kd nm x : Int32) (tr : List Int32) : Int32 × List Int32 := if kd = 2 then ((x + nm) * 3, bg 10 (bg 30 tr)) else if kd = 4 then (0 - (x + nm), bg 10 (bg 51 tr)) else if kd = 5 then (0 - (x + nm), bg 10 (bg 51 tr)) else if kd = 6 then (x + nm - 4, bg 10 (bg 70 tr)) else (x + nm, bg 10 tr)
def shq (kd nm x : Int32) (tr : List Int32) : Int32 × List Int32 := ((tkp kd nm x (bg 11 tr)).1 * 2, (tkp kd nm x (bg 11 tr)).2)
def shp (kd nm sp x : Int32) (tr : List Int32) : Int32 × List Int32 := if kd = 1 then ((shq kd nm x (bg 20 tr)).1 - sp, (shq kd nm x (bg 20 tr)).2) else if kd = 6 then ((shq kd nm x (bg 20 tr)).1 - sp, (shq kd nm x (bg 20 tr)).2) else if kd = 5 then ((shq kd nm x (bg 60 tr)).1 + (tkp kd nm sp (shq kd nm x (bg 60 tr)).2).1, (tkp kd nm sp (shq kd nm x (bg 60 tr)).2).2) else shq kd nm x tr
def bdq (nm sp x z : Int32) : Int32 × Int32 := if sp = nm then (0, 1) else (x / (sp - nm), z)
def bdp (kd nm sp x z : Int32) (tr : List Int32) : Int32 × List Int32 × Int32 := if kd = 4 then ((bdq nm sp (x + 2) z).1 ^^^ 1, bg 12 (bg 50 tr), (bdq nm sp (x + 2) z).2) else if kd = 5 then (((bdq nm sp (x + 2) z).1 ^^^ 1) * 2, bg 12 (bg 50 (bg 61 tr)), (bdq nm sp (x + 2) z).2) else ((bdq nm sp x z).1, bg 12 tr, (bdq nm sp x z).2)
def tlq (kd nm sp x : Int32) (tr : List Int32) : Int32 × List Int32 := ((shp kd nm sp x (bg 13 tr)).1 ^^^ sp, (shp kd nm sp x (bg 13 tr)).2)
def tlp (kd nm sp x z : Int32) (tr : List Int32) : Int32 × List Int32 × Int32 := if kd = 3 then ((tlq kd nm sp x (bg 40 tr)).1 + (bdp kd nm sp nm z (tlq kd nm sp x (bg 40 tr)).2).1, (bdp kd nm sp nm z (tlq kd nm sp x (bg 40 tr)).2).2) else if kd = 6 then ((tlq kd nm sp x (bg 71 tr)).1 ^^^ (shp kd nm sp nm (tlq kd nm sp x (bg 71 tr)).2).1, (shp kd nm sp nm (tlq kd nm sp x (bg 71 tr)).2).2, z) else ((tlq kd nm sp x tr).1, (tlq kd nm sp x tr).2, z)
def UC (ad : Nat → Nat) (S S' : PS) : Prop := Un ad (fun g n => n = 15 ∧ 65 ≤ g ∧ g ≤ 69) (fun n => n = 21) False S S'
def UM (ad : Nat → Nat) (S S' : PS) : Prop := Un ad (fun g n => n = 80 ∧ 812 ≤ g ∧ g ≤ 817) (fun n => n = 101) False S S'
def AC (S : PS) (ad : Nat → Nat) (kd nm sp : Int32) (tr : List Int32) (z : Int32) : Prop := Sh ad S ∧ S.I 68 (ad 15) = kd ∧ S.I 67 (ad 15) = nm ∧ S.I 69 (ad 15) = sp ∧ S.I 66 (ad 15) = z ∧ S.I 65 (ad 15) = nI tr.length ∧ tr.length ≤ 30 ∧ ∀ k, k < tr.length → S.A (ad 21) k = tr.getD k 0
def MDC (S : PS) (ad : Nat → Nat) (kd nm sp : Int32) (tr : List Int32) (z : Int32) : Prop := Sh ad S ∧ S.I 812 (ad 80) = kd ∧ S.I 813 (ad 80) = nm ∧ S.I 814 (ad 80) = sp ∧ S.I 817 (ad 80) = z ∧ S.I 816 (ad 80) = nI tr.length ∧ tr.length ≤ 30 ∧ ∀ k, k < tr.length → S.A (ad 101) k = tr.getD k 0
section
variable {N : Nat} {ad : Nat → Nat} {S : PS} {kd nm sp z b x : Int32} {tr : List Int32} {K : Int32 → PS → Prop}
theorem getD_snoc (tr : List Int32) (b : Int32) (k : Nat) (hk : k < (tr ++ [b]).length) : (tr ++ [b]).getD k 0 = if k = tr.length then b else tr.getD k 0 := by
  rw [List.length_append] at hk
  have hk' : k < tr.length + 1 := hk
  by_cases c : k = tr.length
  · rw [if_pos c, c]
    simp
  · rw [if_neg c]
    have : k < tr.length := by omega
    simp [List.getElem?_append_left this]
theorem c_began {K : PS → Prop} (a : AC S ad kd nm sp tr z) (hK : ∀ S', UC ad S S' → AC S' ad kd nm sp (bg b tr) z → K S') : wp_X0_began N S (ad 15) b K := by
  obtain ⟨h, a1, a2, a3, a4, a5, a6, a7⟩ := a
  unfold wp_X0_began
  unfold bg at hK
  rw [a5]
  refine ⟨h.k15, ?_⟩
  by_cases c : 30 ≤ tr.length
  · rw [if_pos c] at hK
    rw [if_pos (by exact nI_le (a := 30) c (by omega))]
    exact hK S Un.rf ⟨h, a1, a2, a3, a4, a5, a6, a7⟩
  · rw [if_neg c] at hK
    rw [if_neg (by exact nI_ge (b := 30) (by omega) (by decide)), nI_clamp (by omega)]
    refine ⟨ad 21, h.r64, h.k21, by rw [h.l21]; exact vp_in_nI (by omega) (by decide), fun S6 e6 S8 e8 => ?_⟩
    have i6 : S6.I 65 (ad 15) = nI tr.length := by rw [e6]; exact a5
    rw [i6, a1i] at e8
    have hU : UC ad S S8 := by
      rw [e8, e6]
      exact Un.tr (Un.setA rfl) (Un.setI ⟨rfl, by omega, by omega⟩)
    refine hK S8 hU ⟨hU.sh h, ?_, ?_, ?_, ?_, ?_, ?_, fun k hk => ?_⟩
    · rw [e8, e6]; simp only [setI_K, setI_ln, setI_R, setI_Q, setI_I, setI_J, setI_A, setI_B, setJ_K, setJ_ln, setJ_R, setJ_Q, setJ_I, setJ_J, setJ_A, setJ_B, setR_K, setR_ln, setR_R, setR_Q, setR_I, setR_J, setR_A, setR_B, setA_K, setA_ln, setA_R, setA_Q, setA_I, setA_J, setA_A, setA_B, setB_K, setB_ln, setB_R, setB_Q, setB_I, setB_J, setB_A, setB_B, setQ_K, setQ_ln, setQ_R, setQ_Q, setQ_I, setQ_J, setQ_A, setQ_B, u2_ap, Nat.reduceEqDiff, true_and, and_true, Option.some.injEq, exists_eq_left', exists_eq_left, forall_eq, forall_eq_apply_imp_iff, true_or, or_true, false_or, or_false, not_true_eq_false, not_false_eq_true, false_and, if_true, if_false, reduceIte]; exact a1
    · rw [e8, e6]; simp only [setI_K, setI_ln, setI_R, setI_Q, setI_I, setI_J, setI_A, setI_B, setJ_K, setJ_ln, setJ_R, setJ_Q, setJ_I, setJ_J, setJ_A, setJ_B, setR_K, setR_ln, setR_R, setR_Q, setR_I, setR_J, setR_A, setR_B, setA_K, setA_ln, setA_R, setA_Q, setA_I, setA_J, setA_A, setA_B, setB_K, setB_ln, setB_R, setB_Q, setB_I, setB_J, setB_A, setB_B, setQ_K, setQ_ln, setQ_R, setQ_Q, setQ_I, setQ_J, setQ_A, setQ_B, u2_ap, Nat.reduceEqDiff, true_and, and_true, Option.some.injEq, exists_eq_left', exists_eq_left, forall_eq, forall_eq_apply_imp_iff, true_or, or_true, false_or, or_false, not_true_eq_false, not_false_eq_true, false_and, if_true, if_false, reduceIte]; exact a2
    · rw [e8, e6]; simp only [setI_K, setI_ln, setI_R, setI_Q, setI_I, setI_J, setI_A, setI_B, setJ_K, setJ_ln, setJ_R, setJ_Q, setJ_I, setJ_J, setJ_A, setJ_B, setR_K, setR_ln, setR_R, setR_Q, setR_I, setR_J, setR_A, setR_B, setA_K, setA_ln, setA_R, setA_Q, setA_I, setA_J, setA_A, setA_B, setB_K, setB_ln, setB_R, setB_Q, setB_I, setB_J, setB_A, setB_B, setQ_K, setQ_ln, setQ_R, setQ_Q, setQ_I, setQ_J, setQ_A, setQ_B, u2_ap, Nat.reduceEqDiff, true_and, and_true, Option.some.injEq, exists_eq_left', exists_eq_left, forall_eq, forall_eq_apply_imp_iff, true_or, or_true, false_or, or_false, not_true_eq_false, not_false_eq_true, false_and, if_true, if_false, reduceIte]; exact a3
    · rw [e8, e6]; simp only [setI_K, setI_ln, setI_R, setI_Q, setI_I, setI_J, setI_A, setI_B, setJ_K, setJ_ln, setJ_R, setJ_Q, setJ_I, setJ_J, setJ_A, setJ_B, setR_K, setR_ln, setR_R, setR_Q, setR_I, setR_J, setR_A, setR_B, setA_K, setA_ln, setA_R, setA_Q, setA_I, setA_J, setA_A, setA_B, setB_K, setB_ln, setB_R, setB_Q, setB_I, setB_J, setB_A, setB_B, setQ_K, setQ_ln, setQ_R, setQ_Q, setQ_I, setQ_J, setQ_A, setQ_B, u2_ap, Nat.reduceEqDiff, true_and, and_true, Option.some.injEq, exists_eq_left', exists_eq_left, forall_eq, forall_eq_apply_imp_iff, true_or, or_true, false_or, or_false, not_true_eq_false, not_false_eq_true, false_and, if_true, if_false, reduceIte]; exact a4
    · rw [e8]; simp only [setI_K, setI_ln, setI_R, setI_Q, setI_I, setI_J, setI_A, setI_B, setJ_K, setJ_ln, setJ_R, setJ_Q, setJ_I, setJ_J, setJ_A, setJ_B, setR_K, setR_ln, setR_R, setR_Q, setR_I, setR_J, setR_A, setR_B, setA_K, setA_ln, setA_R, setA_Q, setA_I, setA_J, setA_A, setA_B, setB_K, setB_ln, setB_R, setB_Q, setB_I, setB_J, setB_A, setB_B, setQ_K, setQ_ln, setQ_R, setQ_Q, setQ_I, setQ_J, setQ_A, setQ_B, u2_ap, and_self, true_and, and_true, Option.some.injEq, exists_eq_left', exists_eq_left, forall_eq, forall_eq_apply_imp_iff, true_or, or_true, false_or, or_false, not_true_eq_false, not_false_eq_true, false_and, if_true, if_false, reduceIte]; rw [List.length_append]; rfl
    · rw [List.length_append]; show tr.length + 1 ≤ 30; omega
    · rw [getD_snoc tr b k hk, e8, e6]
      simp only [setI_K, setI_ln, setI_R, setI_Q, setI_I, setI_J, setI_A, setI_B, setJ_K, setJ_ln, setJ_R, setJ_Q, setJ_I, setJ_J, setJ_A, setJ_B, setR_K, setR_ln, setR_R, setR_Q, setR_I, setR_J, setR_A, setR_B, setA_K, setA_ln, setA_R, setA_Q, setA_I, setA_J, setA_A, setA_B, setB_K, setB_ln, setB_R, setB_Q, setB_I, setB_J, setB_A, setB_B, setQ_K, setQ_ln, setQ_R, setQ_Q, setQ_I, setQ_J, setQ_A, setQ_B, u2_ap, true_and]
      by_cases c2 : k = tr.length
      · rw [if_pos c2, if_pos c2]
      · rw [if_neg c2, if_neg c2]
        rw [List.length_append] at hk
        have hk' : k < tr.length + 1 := hk
        exact a7 k (by omega)
theorem m_began {K : PS → Prop} (a : MDC S ad kd nm sp tr z) (hK : ∀ S', UM ad S S' → MDC S' ad kd nm sp (bg b tr) z → K S') : wp_X11_body N S (ad 80) b K := by
  obtain ⟨h, a1, a2, a3, a4, a5, a6, a7⟩ := a
  unfold wp_X11_body
  unfold bg at hK
  rw [a5]
  refine ⟨h.k80, ?_⟩
  by_cases c : 30 ≤ tr.length
  · rw [if_pos c] at hK
    rw [if_pos (by exact nI_le (a := 30) c (by omega))]
    exact hK S Un.rf ⟨h, a1, a2, a3, a4, a5, a6, a7⟩
  · rw [if_neg c] at hK
    rw [if_neg (by exact nI_ge (b := 30) (by omega) (by decide)), nI_clamp (by omega)]
    refine ⟨ad 101, h.r815, h.k101, by rw [h.l101]; exact vp_in_nI (by omega) (by decide), fun S6 e6 S8 e8 => ?_⟩
    have i6 : S6.I 816 (ad 80) = nI tr.length := by rw [e6]; exact a5
    rw [i6, a1i] at e8
    have hU : UM ad S S8 := by
      rw [e8, e6]
      exact Un.tr (Un.setA rfl) (Un.setI ⟨rfl, by omega, by omega⟩)
    refine hK S8 hU ⟨hU.sh h, ?_, ?_, ?_, ?_, ?_, ?_, fun k hk => ?_⟩
    · rw [e8, e6]; simp only [setI_K, setI_ln, setI_R, setI_Q, setI_I, setI_J, setI_A, setI_B, setJ_K, setJ_ln, setJ_R, setJ_Q, setJ_I, setJ_J, setJ_A, setJ_B, setR_K, setR_ln, setR_R, setR_Q, setR_I, setR_J, setR_A, setR_B, setA_K, setA_ln, setA_R, setA_Q, setA_I, setA_J, setA_A, setA_B, setB_K, setB_ln, setB_R, setB_Q, setB_I, setB_J, setB_A, setB_B, setQ_K, setQ_ln, setQ_R, setQ_Q, setQ_I, setQ_J, setQ_A, setQ_B, u2_ap, Nat.reduceEqDiff, true_and, and_true, Option.some.injEq, exists_eq_left', exists_eq_left, forall_eq, forall_eq_apply_imp_iff, true_or, or_true, false_or, or_false, not_true_eq_false, not_false_eq_true, false_and, if_true, if_false, reduceIte]; exact a1
    · rw [e8, e6]; simp only [setI_K, setI_ln, setI_R, setI_Q, setI_I, setI_J, setI_A, setI_B, setJ_K, setJ_ln, setJ_R, setJ_Q, setJ_I, setJ_J, setJ_A, setJ_B, setR_K, setR_ln, setR_R, setR_Q, setR_I, setR_J, setR_A, setR_B, setA_K, setA_ln, setA_R, setA_Q, setA_I, setA_J, setA_A, setA_B, setB_K, setB_ln, setB_R, setB_Q, setB_I, setB_J, setB_A, setB_B, setQ_K, setQ_ln, setQ_R, setQ_Q, setQ_I, setQ_J, setQ_A, setQ_B, u2_ap, Nat.reduceEqDiff, true_and, and_true, Option.some.injEq, exists_eq_left', exists_eq_left, forall_eq, forall_eq_apply_imp_iff, true_or, or_true, false_or, or_false, not_true_eq_false, not_false_eq_true, false_and, if_true, if_false, reduceIte]; exact a2
    · rw [e8, e6]; simp only [setI_K, setI_ln, setI_R, setI_Q, setI_I, setI_J, setI_A, setI_B, setJ_K, setJ_ln, setJ_R, setJ_Q, setJ_I, setJ_J, setJ_A, setJ_B, setR_K, setR_ln, setR_R, setR_Q, setR_I, setR_J, setR_A, setR_B, setA_K, setA_ln, setA_R, setA_Q, setA_I, setA_J, setA_A, setA_B, setB_K, setB_ln, setB_R, setB_Q, setB_I, setB_J, setB_A, setB_B, setQ_K, setQ_ln, setQ_R, setQ_Q, setQ_I, setQ_J, setQ_A, setQ_B, u2_ap, Nat.reduceEqDiff, true_and, and_true, Option.some.injEq, exists_eq_left', exists_eq_left, forall_eq, forall_eq_apply_imp_iff, true_or, or_true, false_or, or_false, not_true_eq_false, not_false_eq_true, false_and, if_true, if_false, reduceIte]; exact a3
    · rw [e8, e6]; simp only [setI_K, setI_ln, setI_R, setI_Q, setI_I, setI_J, setI_A, setI_B, setJ_K, setJ_ln, setJ_R, setJ_Q, setJ_I, setJ_J, setJ_A, setJ_B, setR_K, setR_ln, setR_R, setR_Q, setR_I, setR_J, setR_A, setR_B, setA_K, setA_ln, setA_R, setA_Q, setA_I, setA_J, setA_A, setA_B, setB_K, setB_ln, setB_R, setB_Q, setB_I, setB_J, setB_A, setB_B, setQ_K, setQ_ln, setQ_R, setQ_Q, setQ_I, setQ_J, setQ_A, setQ_B, u2_ap, Nat.reduceEqDiff, true_and, and_true, Option.some.injEq, exists_eq_left', exists_eq_left, forall_eq, forall_eq_apply_imp_iff, true_or, or_true, false_or, or_false, not_true_eq_false, not_false_eq_true, false_and, if_true, if_false, reduceIte]; exact a4
    · rw [e8]; simp only [setI_K, setI_ln, setI_R, setI_Q, setI_I, setI_J, setI_A, setI_B, setJ_K, setJ_ln, setJ_R, setJ_Q, setJ_I, setJ_J, setJ_A, setJ_B, setR_K, setR_ln, setR_R, setR_Q, setR_I, setR_J, setR_A, setR_B, setA_K, setA_ln, setA_R, setA_Q, setA_I, setA_J, setA_A, setA_B, setB_K, setB_ln, setB_R, setB_Q, setB_I, setB_J, setB_A, setB_B, setQ_K, setQ_ln, setQ_R, setQ_Q, setQ_I, setQ_J, setQ_A, setQ_B, u2_ap, and_self, true_and, and_true, Option.some.injEq, exists_eq_left', exists_eq_left, forall_eq, forall_eq_apply_imp_iff, true_or, or_true, false_or, or_false, not_true_eq_false, not_false_eq_true, false_and, if_true, if_false, reduceIte]; rw [List.length_append]; rfl
    · rw [List.length_append]; show tr.length + 1 ≤ 30; omega
    · rw [getD_snoc tr b k hk, e8, e6]
      simp only [setI_K, setI_ln, setI_R, setI_Q, setI_I, setI_J, setI_A, setI_B, setJ_K, setJ_ln, setJ_R, setJ_Q, setJ_I, setJ_J, setJ_A, setJ_B, setR_K, setR_ln, setR_R, setR_Q, setR_I, setR_J, setR_A, setR_B, setA_K, setA_ln, setA_R, setA_Q, setA_I, setA_J, setA_A, setA_B, setB_K, setB_ln, setB_R, setB_Q, setB_I, setB_J, setB_A, setB_B, setQ_K, setQ_ln, setQ_R, setQ_Q, setQ_I, setQ_J, setQ_A, setQ_B, u2_ap, true_and]
      by_cases c2 : k = tr.length
      · rw [if_pos c2, if_pos c2]
      · rw [if_neg c2, if_neg c2]
        rw [List.length_append] at hk
        have hk' : k < tr.length + 1 := hk
        exact a7 k (by omega)
theorem c_takesOf (a : AC S ad kd nm sp tr z) (hK : ∀ S', UC ad S S' → AC S' ad kd nm sp (bg 10 tr) z → K (x + nm) S') : wp_X0_takesOfPart N S (ad 15) x K := by
  refine ⟨a.1.k15, c_began a (fun S' hU a' => ⟨a'.1.k15, ?_⟩)⟩
  rw [a'.2.2.1]
  exact hK S' hU a'
theorem c_takes (a : AC S ad kd nm sp tr z) (hK : ∀ S', UC ad S S' → AC S' ad kd nm sp (tkp kd nm x tr).2 z → K (tkp kd nm x tr).1 S') : wp_X0_takes N S (ad 15) x K := by
  unfold wp_X0_takes wq_X0_takes_54 wq_X0_takes_82
  refine ⟨a.1.k15, ?_⟩
  rw [a.2.1]
  unfold tkp at hK
  by_cases c2 : kd = 2
  · rw [if_pos c2] at hK ⊢
    exact c_began a (fun S' hU a' => ⟨a'.1.k15, c_takesOf a' (fun S2 hU2 a2 => hK S2 (Un.tr hU hU2) a2)⟩)
  rw [if_neg c2] at hK ⊢
  by_cases c3 : kd = 3
  · rw [if_neg (by rw [c3]; decide), if_neg (by rw [c3]; decide), if_neg (by rw [c3]; decide)] at hK
    rw [if_pos c3]
    exact ⟨a.1.k15, c_takesOf a hK⟩
  rw [if_neg c3]
  by_cases c4 : kd = 4
  · rw [if_pos c4] at hK ⊢
    exact ⟨a.1.k15, c_began a (fun S' hU a' => ⟨a'.1.k15, c_takesOf a' (fun S2 hU2 a2 => hK S2 (Un.tr hU hU2) a2)⟩)⟩
  rw [if_neg c4] at hK ⊢
  by_cases c5 : kd = 5
  · rw [if_pos c5] at hK ⊢
    exact ⟨a.1.k15, c_began a (fun S' hU a' => ⟨a'.1.k15, c_takesOf a' (fun S2 hU2 a2 => hK S2 (Un.tr hU hU2) a2)⟩)⟩
  rw [if_neg c5] at hK ⊢
  by_cases c6 : kd = 6
  · rw [if_pos c6] at hK ⊢
    exact c_began a (fun S' hU a' => ⟨a'.1.k15, c_takesOf a' (fun S2 hU2 a2 => hK S2 (Un.tr hU hU2) a2)⟩)
  rw [if_neg c6] at hK ⊢
  exact ⟨a.1.k15, c_takesOf a hK⟩
theorem m_t59 {q : Int32} (a : MDC S ad kd nm sp tr z) (hK : ∀ S', UM ad S S' → MDC S' ad kd nm sp (bg 10 tr) z → (if q = 30 then K ((x + nm) * 3) S' else if q = 51 then K (0 - (x + nm)) S' else if q = 70 then K (x + nm - 4) S' else K (x + nm) S')) : wq_X11_takesIt_59 N K S (ad 80) x q := by
  refine ⟨a.1.k80, m_began a (fun S' hU a' => ⟨a'.1.k80, fun v e => ?_⟩)⟩
  rw [e, a'.2.2.1]
  exact hK S' hU a'
theorem m_takes (a : MDC S ad kd nm sp tr z) (hK : ∀ S', UM ad S S' → MDC S' ad kd nm sp (tkp kd nm x tr).2 z → K (tkp kd nm x tr).1 S') : wp_X11_takesIt N S (ad 80) x K := by
  unfold wp_X11_takesIt wq_X11_takesIt_29 wq_X11_takesIt_49
  refine ⟨a.1.k80, ?_⟩
  rw [a.2.1]
  unfold tkp at hK
  by_cases c2 : kd = 2
  · rw [if_pos c2] at hK ⊢
    rw [if_neg (by decide)]
    refine ⟨a.1.k80, m_began a (fun S' hU a' => m_t59 a' (fun S2 hU2 a2 => ?_))⟩
    rw [if_pos rfl]
    exact hK S2 (Un.tr hU hU2) a2
  rw [if_neg c2] at hK ⊢
  by_cases c4 : kd = 4
  · rw [if_pos c4] at hK ⊢
    rw [if_neg (by decide)]
    refine ⟨a.1.k80, m_began a (fun S' hU a' => m_t59 a' (fun S2 hU2 a2 => ?_))⟩
    rw [if_neg (by decide), if_pos rfl]
    exact hK S2 (Un.tr hU hU2) a2
  rw [if_neg c4] at hK ⊢
  by_cases c5 : kd = 5
  · rw [if_pos c5] at hK ⊢
    rw [if_neg (by decide)]
    refine ⟨a.1.k80, m_began a (fun S' hU a' => m_t59 a' (fun S2 hU2 a2 => ?_))⟩
    rw [if_neg (by decide), if_pos rfl]
    exact hK S2 (Un.tr hU hU2) a2
  rw [if_neg c5] at hK ⊢
  by_cases c6 : kd = 6
  · rw [if_pos c6] at hK ⊢
    rw [if_neg (by decide)]
    refine ⟨a.1.k80, m_began a (fun S' hU a' => m_t59 a' (fun S2 hU2 a2 => ?_))⟩
    rw [if_neg (by decide), if_neg (by decide), if_pos rfl]
    exact hK S2 (Un.tr hU hU2) a2
  rw [if_neg c6] at hK ⊢
  rw [if_pos (by decide)]
  refine m_t59 a (fun S2 hU2 a2 => ?_)
  rw [if_neg (by decide), if_neg (by decide), if_neg (by decide)]
  exact hK S2 hU2 a2
theorem c_shq (a : AC S ad kd nm sp tr z) (hK : ∀ S', UC ad S S' → AC S' ad kd nm sp (shq kd nm x tr).2 z → K (shq kd nm x tr).1 S') : wp_X0_sharesOfPart N S (ad 15) x K := ⟨a.1.k15, c_began a (fun S' hU a' => ⟨a'.1.k15, c_takes a' (fun S2 hU2 a2 => hK S2 (Un.tr hU hU2) a2)⟩)⟩
theorem m_shq (a : MDC S ad kd nm sp tr z) (hK : ∀ S', UM ad S S' → MDC S' ad kd nm sp (shq kd nm x tr).2 z → K (shq kd nm x tr).1 S') : wp_X11_plainShares N S (ad 80) x K := ⟨a.1.k80, m_began a (fun S' hU a' => ⟨a'.1.k80, m_takes a' (fun S2 hU2 a2 => hK S2 (Un.tr hU hU2) a2)⟩)⟩
theorem c_sh40 (a : AC S ad kd nm sp tr z) (hK : ∀ S', UC ad S S' → AC S' ad kd nm sp (shq kd nm x (bg 20 tr)).2 z → K ((shq kd nm x (bg 20 tr)).1 - sp) S') : wq_X0_shares_40 N K S (ad 15) x := by
  refine ⟨a.1.k15, c_began a (fun S' hU a' => ⟨a'.1.k15, c_shq a' (fun S2 hU2 a2 => ⟨a2.1.k15, ?_⟩)⟩)⟩
  rw [a2.2.2.2.1]
  exact hK S2 (Un.tr hU hU2) a2
theorem m_sh17 (a : MDC S ad kd nm sp tr z) (hK : ∀ S', UM ad S S' → MDC S' ad kd nm sp (shq kd nm x (bg 20 tr)).2 z → K ((shq kd nm x (bg 20 tr)).1 - sp) S') : wq_X11_sharesIt_17 N K S (ad 80) x := by
  refine ⟨a.1.k80, m_began a (fun S' hU a' => ⟨a'.1.k80, m_shq a' (fun S2 hU2 a2 => ⟨a2.1.k80, ?_⟩)⟩)⟩
  rw [a2.2.2.2.1]
  exact hK S2 (Un.tr hU hU2) a2
theorem c_shares (a : AC S ad kd nm sp tr z) (hK : ∀ S', UC ad S S' → AC S' ad kd nm sp (shp kd nm sp x tr).2 z → K (shp kd nm sp x tr).1 S') : wp_X0_shares N S (ad 15) x K := by
  unfold wp_X0_shares
  refine ⟨a.1.k15, ?_⟩
  rw [a.2.1]
  unfold shp at hK
  by_cases c1 : kd = 1
  · rw [if_pos c1] at hK ⊢
    exact c_sh40 a hK
  rw [if_neg c1] at hK ⊢
  by_cases c5 : kd = 5
  · rw [if_neg (by rw [c5]; decide), if_pos c5] at hK
    rw [if_pos c5]
    refine c_began a (fun S' hU a' => ⟨a'.1.k15, c_shq a' (fun S2 hU2 a2 => ⟨a2.1.k15, ?_⟩)⟩)
    rw [a2.2.2.2.1]
    exact c_takes a2 (fun S3 hU3 a3 => hK S3 (Un.tr (Un.tr hU hU2) hU3) a3)
  rw [if_neg c5]
  by_cases c6 : kd = 6
  · rw [if_pos c6] at hK ⊢
    exact c_sh40 a hK
  rw [if_neg c6] at hK ⊢
  rw [if_neg c5] at hK
  exact c_shq a hK
theorem m_shares (a : MDC S ad kd nm sp tr z) (hK : ∀ S', UM ad S S' → MDC S' ad kd nm sp (shp kd nm sp x tr).2 z → K (shp kd nm sp x tr).1 S') : wp_X11_sharesIt N S (ad 80) x K := by
  unfold wp_X11_sharesIt
  refine ⟨a.1.k80, ?_⟩
  rw [a.2.1]
  unfold shp at hK
  by_cases c1 : kd = 1
  · rw [if_pos c1] at hK ⊢
    exact m_sh17 a hK
  rw [if_neg c1] at hK ⊢
  by_cases c6 : kd = 6
  · rw [if_pos c6] at hK ⊢
    exact m_sh17 a hK
  rw [if_neg c6] at hK ⊢
  by_cases c5 : kd = 5
  · rw [if_pos c5] at hK ⊢
    refine m_began a (fun S' hU a' => ⟨a'.1.k80, m_shq a' (fun S2 hU2 a2 => ⟨a2.1.k80, ?_⟩)⟩)
    rw [a2.2.2.2.1]
    exact m_takes a2 (fun S3 hU3 a3 => hK S3 (Un.tr (Un.tr hU hU2) hU3) a3)
  rw [if_neg c5] at hK ⊢
  exact m_shq a hK
theorem sub0 {p q : Int32} : p - q = 0 ↔ p = q := by
  constructor
  · intro e
    have := Int32.sub_add_cancel p q
    rw [e, Int32.zero_add] at this
    exact this.symm
  · intro e
    rw [e, Int32.sub_self]
theorem c_bdq (a : AC S ad kd nm sp tr z) (hK : ∀ S', UC ad S S' → AC S' ad kd nm sp (bg 12 tr) (bdq nm sp x z).2 → K (bdq nm sp x z).1 S') : wp_X0_boundsOfPart N S (ad 15) x K := by
  refine ⟨a.1.k15, c_began a (fun S' hU a' => ⟨a'.1.k15, fun v e => ?_⟩)⟩
  obtain ⟨h, a1, a2, a3, a4, a5, a6, a7⟩ := a'
  rw [a2, a3] at e
  unfold bdq at hK
  by_cases c : sp = nm
  · rw [if_pos c] at hK
    rw [if_pos (by rw [e]; exact sub0.mpr c)]
    intro S8 e8
    have hU8 : UC ad S' S8 := by rw [e8]; exact Un.setI ⟨rfl, by omega, by omega⟩
    refine hK S8 (Un.tr hU hU8) ⟨hU8.sh h, ?_, ?_, ?_, ?_, ?_, a6, ?_⟩
    · rw [e8]; simp only [setI_K, setI_ln, setI_R, setI_Q, setI_I, setI_J, setI_A, setI_B, setJ_K, setJ_ln, setJ_R, setJ_Q, setJ_I, setJ_J, setJ_A, setJ_B, setR_K, setR_ln, setR_R, setR_Q, setR_I, setR_J, setR_A, setR_B, setA_K, setA_ln, setA_R, setA_Q, setA_I, setA_J, setA_A, setA_B, setB_K, setB_ln, setB_R, setB_Q, setB_I, setB_J, setB_A, setB_B, setQ_K, setQ_ln, setQ_R, setQ_Q, setQ_I, setQ_J, setQ_A, setQ_B, u2_ap, Nat.reduceEqDiff, true_and, and_true, Option.some.injEq, exists_eq_left', exists_eq_left, forall_eq, forall_eq_apply_imp_iff, true_or, or_true, false_or, or_false, not_true_eq_false, not_false_eq_true, false_and, if_true, if_false, reduceIte]; exact a1
    · rw [e8]; simp only [setI_K, setI_ln, setI_R, setI_Q, setI_I, setI_J, setI_A, setI_B, setJ_K, setJ_ln, setJ_R, setJ_Q, setJ_I, setJ_J, setJ_A, setJ_B, setR_K, setR_ln, setR_R, setR_Q, setR_I, setR_J, setR_A, setR_B, setA_K, setA_ln, setA_R, setA_Q, setA_I, setA_J, setA_A, setA_B, setB_K, setB_ln, setB_R, setB_Q, setB_I, setB_J, setB_A, setB_B, setQ_K, setQ_ln, setQ_R, setQ_Q, setQ_I, setQ_J, setQ_A, setQ_B, u2_ap, Nat.reduceEqDiff, true_and, and_true, Option.some.injEq, exists_eq_left', exists_eq_left, forall_eq, forall_eq_apply_imp_iff, true_or, or_true, false_or, or_false, not_true_eq_false, not_false_eq_true, false_and, if_true, if_false, reduceIte]; exact a2
    · rw [e8]; simp only [setI_K, setI_ln, setI_R, setI_Q, setI_I, setI_J, setI_A, setI_B, setJ_K, setJ_ln, setJ_R, setJ_Q, setJ_I, setJ_J, setJ_A, setJ_B, setR_K, setR_ln, setR_R, setR_Q, setR_I, setR_J, setR_A, setR_B, setA_K, setA_ln, setA_R, setA_Q, setA_I, setA_J, setA_A, setA_B, setB_K, setB_ln, setB_R, setB_Q, setB_I, setB_J, setB_A, setB_B, setQ_K, setQ_ln, setQ_R, setQ_Q, setQ_I, setQ_J, setQ_A, setQ_B, u2_ap, Nat.reduceEqDiff, true_and, and_true, Option.some.injEq, exists_eq_left', exists_eq_left, forall_eq, forall_eq_apply_imp_iff, true_or, or_true, false_or, or_false, not_true_eq_false, not_false_eq_true, false_and, if_true, if_false, reduceIte]; exact a3
    · rw [e8]; simp only [setI_K, setI_ln, setI_R, setI_Q, setI_I, setI_J, setI_A, setI_B, setJ_K, setJ_ln, setJ_R, setJ_Q, setJ_I, setJ_J, setJ_A, setJ_B, setR_K, setR_ln, setR_R, setR_Q, setR_I, setR_J, setR_A, setR_B, setA_K, setA_ln, setA_R, setA_Q, setA_I, setA_J, setA_A, setA_B, setB_K, setB_ln, setB_R, setB_Q, setB_I, setB_J, setB_A, setB_B, setQ_K, setQ_ln, setQ_R, setQ_Q, setQ_I, setQ_J, setQ_A, setQ_B, u2_ap, and_self, true_and, and_true, Option.some.injEq, exists_eq_left', exists_eq_left, forall_eq, forall_eq_apply_imp_iff, true_or, or_true, false_or, or_false, not_true_eq_false, not_false_eq_true, false_and, if_true, if_false, reduceIte]
    · rw [e8]; simp only [setI_K, setI_ln, setI_R, setI_Q, setI_I, setI_J, setI_A, setI_B, setJ_K, setJ_ln, setJ_R, setJ_Q, setJ_I, setJ_J, setJ_A, setJ_B, setR_K, setR_ln, setR_R, setR_Q, setR_I, setR_J, setR_A, setR_B, setA_K, setA_ln, setA_R, setA_Q, setA_I, setA_J, setA_A, setA_B, setB_K, setB_ln, setB_R, setB_Q, setB_I, setB_J, setB_A, setB_B, setQ_K, setQ_ln, setQ_R, setQ_Q, setQ_I, setQ_J, setQ_A, setQ_B, u2_ap, Nat.reduceEqDiff, true_and, and_true, Option.some.injEq, exists_eq_left', exists_eq_left, forall_eq, forall_eq_apply_imp_iff, true_or, or_true, false_or, or_false, not_true_eq_false, not_false_eq_true, false_and, if_true, if_false, reduceIte]; exact a5
    · rw [e8]; exact a7
  · rw [if_neg c] at hK
    have hv : ¬ v = 0 := fun e' => c (sub0.mp (e.symm.trans e'))
    rw [if_neg hv, e]
    exact ⟨by rw [← e]; exact hv, hK S' hU ⟨h, a1, a2, a3, a4, a5, a6, a7⟩⟩
theorem m_bdq (a : MDC S ad kd nm sp tr z) (hK : ∀ S', UM ad S S' → MDC S' ad kd nm sp (bg 12 tr) (bdq nm sp x z).2 → K (bdq nm sp x z).1 S') : wp_X11_plainBounds N S (ad 80) x K := by
  refine ⟨a.1.k80, m_began a (fun S' hU a' => ⟨a'.1.k80, ?_⟩)⟩
  obtain ⟨h, a1, a2, a3, a4, a5, a6, a7⟩ := a'
  rw [a2, a3]
  unfold bdq at hK
  by_cases c : sp = nm
  · rw [if_pos c] at hK ⊢
    intro S8 e8
    have hU8 : UM ad S' S8 := by rw [e8]; exact Un.setI ⟨rfl, by omega, by omega⟩
    refine hK S8 (Un.tr hU hU8) ⟨hU8.sh h, ?_, ?_, ?_, ?_, ?_, a6, ?_⟩
    · rw [e8]; simp only [setI_K, setI_ln, setI_R, setI_Q, setI_I, setI_J, setI_A, setI_B, setJ_K, setJ_ln, setJ_R, setJ_Q, setJ_I, setJ_J, setJ_A, setJ_B, setR_K, setR_ln, setR_R, setR_Q, setR_I, setR_J, setR_A, setR_B, setA_K, setA_ln, setA_R, setA_Q, setA_I, setA_J, setA_A, setA_B, setB_K, setB_ln, setB_R, setB_Q, setB_I, setB_J, setB_A, setB_B, setQ_K, setQ_ln, setQ_R, setQ_Q, setQ_I, setQ_J, setQ_A, setQ_B, u2_ap, Nat.reduceEqDiff, true_and, and_true, Option.some.injEq, exists_eq_left', exists_eq_left, forall_eq, forall_eq_apply_imp_iff, true_or, or_true, false_or, or_false, not_true_eq_false, not_false_eq_true, false_and, if_true, if_false, reduceIte]; exact a1
    · rw [e8]; simp only [setI_K, setI_ln, setI_R, setI_Q, setI_I, setI_J, setI_A, setI_B, setJ_K, setJ_ln, setJ_R, setJ_Q, setJ_I, setJ_J, setJ_A, setJ_B, setR_K, setR_ln, setR_R, setR_Q, setR_I, setR_J, setR_A, setR_B, setA_K, setA_ln, setA_R, setA_Q, setA_I, setA_J, setA_A, setA_B, setB_K, setB_ln, setB_R, setB_Q, setB_I, setB_J, setB_A, setB_B, setQ_K, setQ_ln, setQ_R, setQ_Q, setQ_I, setQ_J, setQ_A, setQ_B, u2_ap, Nat.reduceEqDiff, true_and, and_true, Option.some.injEq, exists_eq_left', exists_eq_left, forall_eq, forall_eq_apply_imp_iff, true_or, or_true, false_or, or_false, not_true_eq_false, not_false_eq_true, false_and, if_true, if_false, reduceIte]; exact a2
    · rw [e8]; simp only [setI_K, setI_ln, setI_R, setI_Q, setI_I, setI_J, setI_A, setI_B, setJ_K, setJ_ln, setJ_R, setJ_Q, setJ_I, setJ_J, setJ_A, setJ_B, setR_K, setR_ln, setR_R, setR_Q, setR_I, setR_J, setR_A, setR_B, setA_K, setA_ln, setA_R, setA_Q, setA_I, setA_J, setA_A, setA_B, setB_K, setB_ln, setB_R, setB_Q, setB_I, setB_J, setB_A, setB_B, setQ_K, setQ_ln, setQ_R, setQ_Q, setQ_I, setQ_J, setQ_A, setQ_B, u2_ap, Nat.reduceEqDiff, true_and, and_true, Option.some.injEq, exists_eq_left', exists_eq_left, forall_eq, forall_eq_apply_imp_iff, true_or, or_true, false_or, or_false, not_true_eq_false, not_false_eq_true, false_and, if_true, if_false, reduceIte]; exact a3
    · rw [e8]; simp only [setI_K, setI_ln, setI_R, setI_Q, setI_I, setI_J, setI_A, setI_B, setJ_K, setJ_ln, setJ_R, setJ_Q, setJ_I, setJ_J, setJ_A, setJ_B, setR_K, setR_ln, setR_R, setR_Q, setR_I, setR_J, setR_A, setR_B, setA_K, setA_ln, setA_R, setA_Q, setA_I, setA_J, setA_A, setA_B, setB_K, setB_ln, setB_R, setB_Q, setB_I, setB_J, setB_A, setB_B, setQ_K, setQ_ln, setQ_R, setQ_Q, setQ_I, setQ_J, setQ_A, setQ_B, u2_ap, and_self, true_and, and_true, Option.some.injEq, exists_eq_left', exists_eq_left, forall_eq, forall_eq_apply_imp_iff, true_or, or_true, false_or, or_false, not_true_eq_false, not_false_eq_true, false_and, if_true, if_false, reduceIte]
    · rw [e8]; simp only [setI_K, setI_ln, setI_R, setI_Q, setI_I, setI_J, setI_A, setI_B, setJ_K, setJ_ln, setJ_R, setJ_Q, setJ_I, setJ_J, setJ_A, setJ_B, setR_K, setR_ln, setR_R, setR_Q, setR_I, setR_J, setR_A, setR_B, setA_K, setA_ln, setA_R, setA_Q, setA_I, setA_J, setA_A, setA_B, setB_K, setB_ln, setB_R, setB_Q, setB_I, setB_J, setB_A, setB_B, setQ_K, setQ_ln, setQ_R, setQ_Q, setQ_I, setQ_J, setQ_A, setQ_B, u2_ap, Nat.reduceEqDiff, true_and, and_true, Option.some.injEq, exists_eq_left', exists_eq_left, forall_eq, forall_eq_apply_imp_iff, true_or, or_true, false_or, or_false, not_true_eq_false, not_false_eq_true, false_and, if_true, if_false, reduceIte]; exact a5
    · rw [e8]; exact a7
  · rw [if_neg c] at hK ⊢
    exact ⟨fun e => c (sub0.mp e), hK S' hU ⟨h, a1, a2, a3, a4, a5, a6, a7⟩⟩
theorem c_bdl (a : AC S ad kd nm sp tr z) (hK : ∀ S', UC ad S S' → AC S' ad kd nm sp (bg 12 (bg 50 tr)) (bdq nm sp (x + 2) z).2 → K ((bdq nm sp (x + 2) z).1 ^^^ 1) S') : wp_X0_boundsOfLoose N S (ad 15) x K := ⟨a.1.k15, c_began a (fun S' hU a' => ⟨a'.1.k15, c_bdq a' (fun S2 hU2 a2 => hK S2 (Un.tr hU hU2) a2)⟩)⟩
theorem c_bounds (a : AC S ad kd nm sp tr z) (hK : ∀ S', UC ad S S' → AC S' ad kd nm sp (bdp kd nm sp x z tr).2.1 (bdp kd nm sp x z tr).2.2 → K (bdp kd nm sp x z tr).1 S') : wp_X0_bounds N S (ad 15) x K := by
  unfold wp_X0_bounds
  refine ⟨a.1.k15, ?_⟩
  rw [a.2.1]
  unfold bdp at hK
  by_cases c4 : kd = 4
  · rw [if_pos c4] at hK ⊢
    exact c_bdl a hK
  rw [if_neg c4] at hK ⊢
  by_cases c5 : kd = 5
  · rw [if_pos c5] at hK ⊢
    exact c_began a (fun S' hU a' => ⟨a'.1.k15, c_bdl a' (fun S2 hU2 a2 => hK S2 (Un.tr hU hU2) a2)⟩)
  rw [if_neg c5] at hK ⊢
  exact c_bdq a hK
theorem m_bdl (a : MDC S ad kd nm sp tr z) (hK : ∀ S', UM ad S S' → MDC S' ad kd nm sp (bg 12 (bg 50 tr)) (bdq nm sp (x + 2) z).2 → (if kd = 5 then K (((bdq nm sp (x + 2) z).1 ^^^ 1) * 2) S' else K ((bdq nm sp (x + 2) z).1 ^^^ 1) S')) : wq_X11_boundsIt_30 N K S (ad 80) x := by
  refine ⟨a.1.k80, m_began a (fun S' hU a' => ⟨a'.1.k80, m_bdq a' (fun S2 hU2 a2 v e => ⟨a2.1.k80, ?_⟩)⟩)⟩
  rw [a2.2.1, e]
  exact hK S2 (Un.tr hU hU2) a2
theorem m_bounds (a : MDC S ad kd nm sp tr z) (hK : ∀ S', UM ad S S' → MDC S' ad kd nm sp (bdp kd nm sp x z tr).2.1 (bdp kd nm sp x z tr).2.2 → K (bdp kd nm sp x z tr).1 S') : wp_X11_boundsIt N S (ad 80) x K := by
  unfold wp_X11_boundsIt
  refine ⟨a.1.k80, ?_⟩
  rw [a.2.1]
  unfold bdp at hK
  by_cases c4 : kd = 4
  · rw [if_pos c4] at hK
    rw [if_neg (by rw [c4]; decide)]
    refine ⟨a.1.k80, ?_⟩
    rw [a.2.1, if_pos c4]
    refine m_bdl a (fun S' hU a' => ?_)
    rw [if_neg (by rw [c4]; decide)]
    exact hK S' hU a'
  rw [if_neg c4] at hK
  by_cases c5 : kd = 5
  · rw [if_pos c5] at hK ⊢
    refine m_began a (fun S1 hU1 a1 => ⟨a1.1.k80, ?_⟩)
    rw [a1.2.1, if_neg c4, if_pos c5]
    refine m_bdl a1 (fun S' hU a' => ?_)
    rw [if_pos c5]
    exact hK S' (Un.tr hU1 hU) a'
  rw [if_neg c5] at hK ⊢
  refine ⟨a.1.k80, ?_⟩
  rw [a.2.1, if_neg c4, if_neg c5]
  exact m_bdq a hK
theorem c_tlq (a : AC S ad kd nm sp tr z) (hK : ∀ S', UC ad S S' → AC S' ad kd nm sp (tlq kd nm sp x tr).2 z → K (tlq kd nm sp x tr).1 S') : wp_X0_tellsOfPart N S (ad 15) x K := by
  refine ⟨a.1.k15, c_began a (fun S' hU a' => ⟨a'.1.k15, c_shares a' (fun S2 hU2 a2 => ⟨a2.1.k15, ?_⟩)⟩)⟩
  rw [a2.2.2.2.1]
  exact hK S2 (Un.tr hU hU2) a2
theorem m_tlq (a : MDC S ad kd nm sp tr z) (hK : ∀ S', UM ad S S' → MDC S' ad kd nm sp (tlq kd nm sp x tr).2 z → K (tlq kd nm sp x tr).1 S') : wp_X11_plainTells N S (ad 80) x K := by
  refine ⟨a.1.k80, m_began a (fun S' hU a' => ⟨a'.1.k80, m_shares a' (fun S2 hU2 a2 => ⟨a2.1.k80, ?_⟩)⟩)⟩
  rw [a2.2.2.2.1]
  exact hK S2 (Un.tr hU hU2) a2
theorem c_tells (a : AC S ad kd nm sp tr z) (hK : ∀ S', UC ad S S' → AC S' ad kd nm sp (tlp kd nm sp x z tr).2.1 (tlp kd nm sp x z tr).2.2 → K (tlp kd nm sp x z tr).1 S') : wp_X0_tells N S (ad 15) x K := by
  unfold wp_X0_tells
  refine ⟨a.1.k15, ?_⟩
  rw [a.2.1]
  unfold tlp at hK
  by_cases c3 : kd = 3
  · rw [if_pos c3] at hK ⊢
    refine c_began a (fun S' hU a' => ⟨a'.1.k15, c_tlq a' (fun S2 hU2 a2 => ⟨a2.1.k15, ?_⟩)⟩)
    rw [a2.2.2.1]
    exact c_bounds a2 (fun S3 hU3 a3 => hK S3 (Un.tr (Un.tr hU hU2) hU3) a3)
  rw [if_neg c3] at hK ⊢
  by_cases c6 : kd = 6
  · rw [if_pos c6] at hK ⊢
    refine c_began a (fun S' hU a' => ⟨a'.1.k15, c_tlq a' (fun S2 hU2 a2 => ⟨a2.1.k15, ?_⟩)⟩)
    rw [a2.2.2.1]
    exact c_shares a2 (fun S3 hU3 a3 => hK S3 (Un.tr (Un.tr hU hU2) hU3) a3)
  rw [if_neg c6] at hK ⊢
  exact c_tlq a hK
theorem m_tells (a : MDC S ad kd nm sp tr z) (hK : ∀ S', UM ad S S' → MDC S' ad kd nm sp (tlp kd nm sp x z tr).2.1 (tlp kd nm sp x z tr).2.2 → K (tlp kd nm sp x z tr).1 S') : wp_X11_tellsIt N S (ad 80) x K := by
  unfold wp_X11_tellsIt
  refine ⟨a.1.k80, ?_⟩
  rw [a.2.1]
  unfold tlp at hK
  by_cases c3 : kd = 3
  · rw [if_pos c3] at hK ⊢
    refine m_began a (fun S' hU a' => ⟨a'.1.k80, m_tlq a' (fun S2 hU2 a2 => ⟨a2.1.k80, ?_⟩)⟩)
    rw [a2.2.2.1]
    exact m_bounds a2 (fun S3 hU3 a3 => hK S3 (Un.tr (Un.tr hU hU2) hU3) a3)
  rw [if_neg c3] at hK ⊢
  by_cases c6 : kd = 6
  · rw [if_pos c6] at hK ⊢
    refine m_began a (fun S' hU a' => ⟨a'.1.k80, m_tlq a' (fun S2 hU2 a2 => ⟨a2.1.k80, ?_⟩)⟩)
    rw [a2.2.2.1]
    exact m_shares a2 (fun S3 hU3 a3 => hK S3 (Un.tr (Un.tr hU hU2) hU3) a3)
  rw [if_neg c6] at hK ⊢
  exact m_tlq a hK
end
