theorem stk_map {A f : Nat → Int32} : ∀ o : List Int32, stk A (o.map phi) → stk f o → ∀ k, k < o.length → A k = phi (f k) := by
  intro o
  induction o with
  | nil => intro _ _ k hk; exact absurd hk (by simp)
  | cons v o ih =>
    intro h1 h2 k hk
    by_cases c : k = o.length
    · have a := h1.1
      rw [List.length_map] at a
      rw [c, a, h2.1]
    · exact ih h1.2 h2.2 k (by rw [List.length_cons] at hk; omega)
section
variable {N : Nat} {ad : Nat → Nat} {S : PS} {o : List Int32}
theorem k_told3 {K : Nat → PS → Prop} (h : Sh ad S) (hk : KO S ad o) (hl : o.length ≤ 200) (hw : wl o [] [true]) (hK : ∀ a c S', Fr S S' → S'.K a = 3 → (∀ f, stk f o → HR S' ad a c (nI o.length) f) → K a S') : wp_X3_told N S (ad 7) K := by
  intro q1 S2 z1 e2
  have f2 : Fr S S2 := by rw [e2]; exact fr_newO z1
  have g2 := f2.sh h
  have i258 : S2.I 258 (ad 7) = nI o.length := (f2.I h).trans hk.1
  have cl := nI_clamp (show o.length < 2 ^ 31 by omega)
  have n1 : 1 ≤ o.length := by
    cases o with
    | nil => exact absurd (show ([] : List Bool) = [true] from hw) (by decide)
    | cons v r => rw [List.length_cons]; omega
  refine ⟨g2.k7, ad 20, g2.r257, ?_, ?_⟩
  · rw [i258, cl]; omega
  rw [i258]
  refine ⟨g2.k20, nI_pos (by omega), by rw [cl, g2.l20]; omega, by rw [g2.l20]; decide, ?_⟩
  rw [cl]
  intro q f S7 z7 hf e7
  have f7 : Fr S2 S7 := by rw [e7]; exact fr_cpA z7
  have K2 : S2.K q1 = 3 := by rw [e2]; show va_up S.K q1 3 q1 = 3; unfold va_up; rw [if_pos rfl]
  have K7 : S7.K q1 = 3 := ((f7 q1 (by rw [K2]; decide)).1).trans K2
  have Kq : S7.K q = 20 := by rw [e7]; show va_up S2.K q 20 q = 20; unfold va_up; rw [if_pos rfl]
  have lq : S7.ln q = o.length := by rw [e7]; show va_up S2.ln q _ q = _; unfold va_up; rw [if_pos rfl]
  have Aq : S7.A q = f := by rw [e7]; show va_up S2.A q f q = _; unfold va_up; rw [if_pos rfl]
  refine ⟨K7, fun S9 e9 => ?_⟩
  have F : Fr S S9 := by rw [e9]; exact (f2.tr f7).sR z1
  have K9 : S9.K = S7.K := by rw [e9]; rfl
  refine hK q1 q S9 F (by rw [K9]; exact K7) (fun v hv => ⟨by rw [K9]; exact K7, ?_, by rw [K9]; exact Kq, fun n hn z => ?_, o.length, n1, hl, rfl, by rw [e9]; exact lq, fun k hk' => ?_, wl_wrn o [true] hv hw⟩)
  · rw [e9]; simp only [setI_K, setI_ln, setI_R, setI_Q, setI_I, setI_J, setI_A, setI_B, setJ_K, setJ_ln, setJ_R, setJ_Q, setJ_I, setJ_J, setJ_A, setJ_B, setR_K, setR_ln, setR_R, setR_Q, setR_I, setR_J, setR_A, setR_B, setA_K, setA_ln, setA_R, setA_Q, setA_I, setA_J, setA_A, setA_B, setB_K, setB_ln, setB_R, setB_Q, setB_I, setB_J, setB_A, setB_B, setQ_K, setQ_ln, setQ_R, setQ_Q, setQ_I, setQ_J, setQ_A, setQ_B, u2_ap, and_self, true_and, and_true, Option.some.injEq, exists_eq_left', exists_eq_left, forall_eq, forall_eq_apply_imp_iff, true_or, or_true, false_or, or_false, not_true_eq_false, not_false_eq_true, false_and, if_true, if_false, reduceIte]
  · have := g2.kn hn
    rw [← z] at this
    exact this z7
  · rw [show S9.A = S7.A by rw [e9]; rfl, Aq, hf k hk', f2.A h]
    exact stk_map o hk.2 hv k hk'
end
