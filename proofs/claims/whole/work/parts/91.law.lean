/-- the reference at a state of the machine -/
def MR (S : PS) (ad : Nat → Nat) (T : Nat → Nat) (nt w : Nat) (o p : List Int32) (d : Nat) (x : Bool) (t : Nat) (g : Int32) : Prop := RG S ad T nt t g ∧ S.I 797 (ad 80) = nI o.length ∧ stk (S.A (ad 90)) o ∧ S.I 798 (ad 80) = nI p.length ∧ stk (S.A (ad 91)) p ∧ S.I 799 (ad 80) = nI d ∧ S.I 800 (ad 80) = nI w ∧ S.I 801 (ad 80) = if x then 1 else 0
/-- what the reference writes reading a rule -/
def UJ (ad : Nat → Nat) (S S' : PS) : Prop := Un ad (fun g n => n = 80 ∧ ((783 ≤ g ∧ g ≤ 788) ∨ (797 ≤ g ∧ g ≤ 801))) (fun n => n = 90 ∨ n = 91) False S S'
/-- how many of the pending are open -/
def opn : List Int32 → Nat
  | [] => 0
  | v :: p => if v = 40002 ∨ v = 40003 ∨ v = 40004 then opn p + 1 else opn p
section
variable {N nt w d t : Nat} {ad : Nat → Nat} {S : PS} {T : Nat → Nat} {o p : List Int32} {x : Bool} {g : Int32}
/-- one field of these five is set -/
theorem rg_far {S5 : PS} {f : Nat} {v : Int32} (hf : 797 ≤ f ∧ f ≤ 801) (h : RG S ad T nt t g) (e : S5 = S.setI f (ad 80) v) : RG S5 ad T nt t g := by
  obtain ⟨⟨hB1, hB2, hB3⟩, ⟨a1, a2, a3, a4, a5⟩, i⟩ := h
  have u2 : Un ad (fun g n => n = 80 ∧ g = f) (fun _ => False) False S S5 := by rw [e]; exact Un.setI ⟨rfl, rfl⟩
  exact ⟨⟨u2.sh hB1, (u2.I hB1 (by omega)).trans hB2, by rw [u2.A hB1 (by simp)]; exact hB3⟩, ⟨(u2.I hB1 (by omega)).trans a1, (u2.I hB1 (by omega)).trans a2, (u2.I hB1 (by omega)).trans a3, by rw [e]; exact a4, (u2.I hB1 (by omega)).trans a5⟩, (u2.I hB1 (by omega)).trans i⟩
theorem rg_arr {S5 : PS} {n i : Nat} {v : Int32} (hn : n = 90 ∨ n = 91) (h : RG S ad T nt t g) (e : S5 = S.setA (ad n) i v) : RG S5 ad T nt t g := by
  obtain ⟨⟨hB1, hB2, hB3⟩, ⟨a1, a2, a3, a4, a5⟩, i⟩ := h
  have u2 : Un ad (fun _ _ => False) (fun k => k = n) False S S5 := by rw [e]; exact Un.setA rfl (by unfold isN; omega)
  exact ⟨⟨u2.sh hB1, (u2.I hB1 (by simp)).trans hB2, by rw [u2.A hB1 (by omega)]; exact hB3⟩, ⟨(u2.I hB1 (by simp)).trans a1, (u2.I hB1 (by simp)).trans a2, (u2.I hB1 (by simp)).trans a3, by rw [e]; exact a4, (u2.I hB1 (by simp)).trans a5⟩, (u2.I hB1 (by simp)).trans i⟩
theorem j_binds {v : Int32} {K : Int32 → PS → Prop} : wp_X11_binds N S v K = K (nI (bnd v)) S := by
  unfold wp_X11_binds bnd
  by_cases c1 : v = 30042
  · rw [if_pos c1, if_pos c1]; rfl
  rw [if_neg c1, if_neg c1]
  by_cases c2 : v = 30043
  · rw [if_pos c2, if_pos c2]; rfl
  rw [if_neg c2, if_neg c2]
  by_cases c3 : v = 30045
  · rw [if_pos c3, if_pos c3]; rfl
  rw [if_neg c3, if_neg c3]
  by_cases c4 : v = 30060
  · rw [if_pos c4, if_pos c4]; rfl
  rw [if_neg c4, if_neg c4]
  by_cases c5 : v = 30061
  · rw [if_pos c5, if_pos c5]; rfl
  rw [if_neg c5, if_neg c5]
  by_cases c6 : v = 30062
  · rw [if_pos c6, if_pos c6]; rfl
  rw [if_neg c6, if_neg c6]
  by_cases c7 : v = 40000
  · rw [if_pos c7, if_pos c7]; rfl
  rw [if_neg c7, if_neg c7]
  by_cases c8 : v = 40001
  · rw [if_pos c8, if_pos c8]; rfl
  rw [if_neg c8, if_neg c8]; rfl
theorem bnd_le (v : Int32) : bnd v ≤ 5 := by
  unfold bnd
  repeat (first | omega | split)
theorem j_top {K : Int32 → PS → Prop} (h : MR S ad T nt w o p d x t g) (hl : p.length ≤ 200) : wp_X11_top N S (ad 80) K = K (p.headD 0) S := by
  obtain ⟨⟨⟨s, -⟩, -⟩, -, -, i, k, -⟩ := h
  unfold wp_X11_top
  cases p with
  | nil =>
    rw [i]
    simp only [s.k80, true_and, and_true, Option.some.injEq, exists_eq_left', exists_eq_left, forall_eq, forall_eq_apply_imp_iff, true_or, or_true, false_or, or_false, not_true_eq_false, not_false_eq_true, false_and, if_true, if_false, reduceIte]
    rfl
  | cons v p =>
    have hl' : p.length + 1 ≤ 200 := hl
    rw [i, if_neg (show ¬ nI (v :: p).length = 0 from nI_ne0 (by rw [List.length_cons]; omega) (by rw [List.length_cons]; omega)), show nI (v :: p).length - 1 = nI p.length from nI_pred _, nI_clamp (by omega)]
    have vi : vp_in (nI p.length) 200 := vp_in_nI (by omega) (by decide)
    simp only [s.k80, s.r796, s.k91, s.l91, vi, k.1, true_and, and_true, Option.some.injEq, exists_eq_left', exists_eq_left, forall_eq, forall_eq_apply_imp_iff, true_or, or_true, false_or, or_false, not_true_eq_false, not_false_eq_true, false_and, if_true, if_false, reduceIte]
    rfl
theorem j_emit {K : PS → Prop} {v : Int32} (h : MR S ad T nt w o p d x t g) (hl : o.length < 200) (hK : ∀ S', UJ ad S S' → MR S' ad T nt w (v :: o) p d x t g → K S') : wp_X11_emit N S (ad 80) v K := by
  obtain ⟨r, i1, k1, i2, k2, i3, i4, i5⟩ := h
  have s := r.1.1
  refine ⟨s.k80, ad 90, s.r795, s.k90, by rw [s.l90, i1]; exact vp_in_nI hl (by decide), fun S5 e5 S7 e7 => ?_⟩
  rw [i1, nI_clamp (by omega)] at e5
  rw [show S5.I 797 (ad 80) = nI o.length by rw [e5]; exact i1, a1i] at e7
  have u : UJ ad S S7 := by rw [e7, e5]; exact Un.tr (Un.setA (Or.inl rfl)) (Un.setI (by omega))
  have u2 : Un ad (fun g n => n = 80 ∧ g = 797) (fun n => n = 90) False S S7 := by rw [e7, e5]; exact Un.tr (Un.setA rfl) (Un.setI ⟨rfl, rfl⟩)
  refine hK S7 u ⟨rg_far (by omega) (rg_arr (Or.inl rfl) r e5) e7, ?_, ?_, (u2.I s (by omega)).trans i2, by rw [u2.A s (by omega)]; exact k2, (u2.I s (by omega)).trans i3, (u2.I s (by omega)).trans i4, (u2.I s (by omega)).trans i5⟩
  · rw [e7]; simp only [setI_K, setI_ln, setI_R, setI_Q, setI_I, setI_J, setI_A, setI_B, setJ_K, setJ_ln, setJ_R, setJ_Q, setJ_I, setJ_J, setJ_A, setJ_B, setR_K, setR_ln, setR_R, setR_Q, setR_I, setR_J, setR_A, setR_B, setA_K, setA_ln, setA_R, setA_Q, setA_I, setA_J, setA_A, setA_B, setB_K, setB_ln, setB_R, setB_Q, setB_I, setB_J, setB_A, setB_B, setQ_K, setQ_ln, setQ_R, setQ_Q, setQ_I, setQ_J, setQ_A, setQ_B, u2_ap, and_self, true_and, and_true, Option.some.injEq, exists_eq_left', exists_eq_left, forall_eq, forall_eq_apply_imp_iff, true_or, or_true, false_or, or_false, not_true_eq_false, not_false_eq_true, false_and, if_true, if_false, reduceIte]; rfl
  · rw [show S7.A = S5.A by rw [e7]; rfl]; exact stk_set e5 k1
theorem j_pend {K : PS → Prop} {v : Int32} (h : MR S ad T nt w o p d x t g) (hl : p.length < 200) (hK : ∀ S', UJ ad S S' → MR S' ad T nt w o (v :: p) d x t g → K S') : wp_X11_pend N S (ad 80) v K := by
  obtain ⟨r, i1, k1, i2, k2, i3, i4, i5⟩ := h
  have s := r.1.1
  refine ⟨s.k80, ad 91, s.r796, s.k91, by rw [s.l91, i2]; exact vp_in_nI hl (by decide), fun S5 e5 S7 e7 => ?_⟩
  rw [i2, nI_clamp (by omega)] at e5
  rw [show S5.I 798 (ad 80) = nI p.length by rw [e5]; exact i2, a1i] at e7
  have u : UJ ad S S7 := by rw [e7, e5]; exact Un.tr (Un.setA (Or.inr rfl)) (Un.setI (by omega))
  have u2 : Un ad (fun g n => n = 80 ∧ g = 798) (fun n => n = 91) False S S7 := by rw [e7, e5]; exact Un.tr (Un.setA rfl) (Un.setI ⟨rfl, rfl⟩)
  refine hK S7 u ⟨rg_far (by omega) (rg_arr (Or.inr rfl) r e5) e7, (u2.I s (by omega)).trans i1, by rw [u2.A s (by omega)]; exact k1, ?_, ?_, (u2.I s (by omega)).trans i3, (u2.I s (by omega)).trans i4, (u2.I s (by omega)).trans i5⟩
  · rw [e7]; simp only [setI_K, setI_ln, setI_R, setI_Q, setI_I, setI_J, setI_A, setI_B, setJ_K, setJ_ln, setJ_R, setJ_Q, setJ_I, setJ_J, setJ_A, setJ_B, setR_K, setR_ln, setR_R, setR_Q, setR_I, setR_J, setR_A, setR_B, setA_K, setA_ln, setA_R, setA_Q, setA_I, setA_J, setA_A, setA_B, setB_K, setB_ln, setB_R, setB_Q, setB_I, setB_J, setB_A, setB_B, setQ_K, setQ_ln, setQ_R, setQ_Q, setQ_I, setQ_J, setQ_A, setQ_B, u2_ap, and_self, true_and, and_true, Option.some.injEq, exists_eq_left', exists_eq_left, forall_eq, forall_eq_apply_imp_iff, true_or, or_true, false_or, or_false, not_true_eq_false, not_false_eq_true, false_and, if_true, if_false, reduceIte]; rfl
  · rw [show S7.A = S5.A by rw [e7]; rfl]; exact stk_set e5 k2
/-- the top goes -/
theorem mr_pop {S1 : PS} {v : Int32} (h : MR S ad T nt w o (v :: p) d x t g) (e : S1 = S.setI 798 (ad 80) (S.I 798 (ad 80) - 1)) : MR S1 ad T nt w o p d x t g ∧ UJ ad S S1 := by
  obtain ⟨r, i1, k1, i2, k2, i3, i4, i5⟩ := h
  have s := r.1.1
  rw [i2, show nI (v :: p).length - 1 = nI p.length from nI_pred _] at e
  have u2 : Un ad (fun g n => n = 80 ∧ g = 798) (fun _ => False) False S S1 := by rw [e]; exact Un.setI ⟨rfl, rfl⟩
  exact ⟨⟨rg_far (by omega) r e, (u2.I s (by omega)).trans i1, by rw [u2.A s (by simp)]; exact k1, by rw [e]; simp only [setI_K, setI_ln, setI_R, setI_Q, setI_I, setI_J, setI_A, setI_B, setJ_K, setJ_ln, setJ_R, setJ_Q, setJ_I, setJ_J, setJ_A, setJ_B, setR_K, setR_ln, setR_R, setR_Q, setR_I, setR_J, setR_A, setR_B, setA_K, setA_ln, setA_R, setA_Q, setA_I, setA_J, setA_A, setA_B, setB_K, setB_ln, setB_R, setB_Q, setB_I, setB_J, setB_A, setB_B, setQ_K, setQ_ln, setQ_R, setQ_Q, setQ_I, setQ_J, setQ_A, setQ_B, u2_ap, and_self, true_and, and_true, Option.some.injEq, exists_eq_left', exists_eq_left, forall_eq, forall_eq_apply_imp_iff, true_or, or_true, false_or, or_false, not_true_eq_false, not_false_eq_true, false_and, if_true, if_false, reduceIte], by rw [u2.A s (by simp)]; exact k2.2, (u2.I s (by omega)).trans i3, (u2.I s (by omega)).trans i4, (u2.I s (by omega)).trans i5⟩, u2.mono (fun _ _ e => by omega) (fun _ e => absurd e id) id⟩
/-- one open less -/
theorem mr_less {S1 : PS} (h : MR S ad T nt w o p (d + 1) x t g) (e : S1 = S.setI 799 (ad 80) (S.I 799 (ad 80) - 1)) : MR S1 ad T nt w o p d x t g ∧ UJ ad S S1 := by
  obtain ⟨r, i1, k1, i2, k2, i3, i4, i5⟩ := h
  have s := r.1.1
  rw [i3, show nI (d + 1) - 1 = nI d from nI_pred _] at e
  have u2 : Un ad (fun g n => n = 80 ∧ g = 799) (fun _ => False) False S S1 := by rw [e]; exact Un.setI ⟨rfl, rfl⟩
  exact ⟨⟨rg_far (by omega) r e, (u2.I s (by omega)).trans i1, by rw [u2.A s (by simp)]; exact k1, (u2.I s (by omega)).trans i2, by rw [u2.A s (by simp)]; exact k2, by rw [e]; simp only [setI_K, setI_ln, setI_R, setI_Q, setI_I, setI_J, setI_A, setI_B, setJ_K, setJ_ln, setJ_R, setJ_Q, setJ_I, setJ_J, setJ_A, setJ_B, setR_K, setR_ln, setR_R, setR_Q, setR_I, setR_J, setR_A, setR_B, setA_K, setA_ln, setA_R, setA_Q, setA_I, setA_J, setA_A, setA_B, setB_K, setB_ln, setB_R, setB_Q, setB_I, setB_J, setB_A, setB_B, setQ_K, setQ_ln, setQ_R, setQ_Q, setQ_I, setQ_J, setQ_A, setQ_B, u2_ap, and_self, true_and, and_true, Option.some.injEq, exists_eq_left', exists_eq_left, forall_eq, forall_eq_apply_imp_iff, true_or, or_true, false_or, or_false, not_true_eq_false, not_false_eq_true, false_and, if_true, if_false, reduceIte], (u2.I s (by omega)).trans i4, (u2.I s (by omega)).trans i5⟩, u2.mono (fun _ _ e => by omega) (fun _ e => absurd e id) id⟩
theorem j_settle {K : PS → Prop} {L : Nat} (hL : 1 ≤ L) (hL5 : L ≤ 5) : ∀ (p o : List Int32) (n : Nat) (S : PS), p.length < n → o.length + p.length ≤ 200 → MR S ad T nt w o p d x t g → (∀ S', UJ ad S S' → MR S' ad T nt w (stl L p o).2 (stl L p o).1 d x t g → K S') → wq_X11_settle_0 N K n S (ad 80) (nI L) := by
  intro p
  induction p with
  | nil =>
    intro o n S hn hl h hK
    obtain ⟨n, rfl⟩ : ∃ z, n = z + 1 := ⟨n - 1, by omega⟩
    rw [wq_X11_settle_0.eq_2]
    refine ⟨h.1.1.1.k80, ?_⟩
    rw [j_top h (by simp), j_binds, if_pos (show nI (bnd (([] : List Int32).headD 0)) < nI L from nI_lt (show bnd 0 < L from Nat.lt_of_lt_of_le (by decide) hL) (by omega))]
    exact hK S Un.rf h
  | cons v p ih =>
    intro o n S hn hl h hK
    obtain ⟨n, rfl⟩ : ∃ z, n = z + 1 := ⟨n - 1, by omega⟩
    rw [List.length_cons] at hn hl
    rw [wq_X11_settle_0.eq_2]
    refine ⟨h.1.1.1.k80, ?_⟩
    rw [j_top h (by rw [List.length_cons]; omega), j_binds]
    have bv := bnd_le v
    by_cases c : bnd v < L
    · rw [if_pos (show nI (bnd ((v :: p).headD 0)) < nI L from nI_lt c (by omega))]
      rw [stl, if_pos c] at hK
      exact hK S Un.rf h
    · rw [if_neg (show ¬ nI (bnd ((v :: p).headD 0)) < nI L from fun z => absurd (nI_le (a := L) (b := bnd v) (by omega) (by omega)) (Int32.not_le.mpr z))]
      rw [stl, if_neg c] at hK
      refine ⟨h.1.1.1.k80, ?_⟩
      rw [j_top h (by rw [List.length_cons]; omega)]
      refine ⟨h.1.1.1.k80, j_emit h (by omega) (fun S11 u11 h11 => ⟨h11.1.1.1.k80, fun S14 e14 => ?_⟩)⟩
      obtain ⟨h14, u14⟩ := mr_pop h11 e14
      exact ih (v :: o) n S14 (by omega) (by rw [List.length_cons]; omega) h14 (fun S' u' h' => hK S' (Un.tr u11 (Un.tr u14 u')) h')
theorem j_ends {K : PS → Prop} {v : Int32} (hv : v = 40002 ∨ v = 40003) : ∀ (p o : List Int32) (d n : Nat) (S : PS), p.length < n → o.length + p.length ≤ 200 → opn p ≤ d → MR S ad T nt w o p d x t g → (∀ S', UJ ad S S' → MR S' ad T nt w (ens v p o d).2.1 (ens v p o d).1 (ens v p o d).2.2 x t g → K S') → wq_X11_ends_0 N K n S (ad 80) v := by
  intro p
  induction p with
  | nil =>
    intro o d n S hn hl hd h hK
    obtain ⟨n, rfl⟩ : ∃ z, n = z + 1 := ⟨n - 1, by omega⟩
    rw [wq_X11_ends_0.eq_2]
    refine ⟨h.1.1.1.k80, ?_⟩
    rw [j_top h (by simp), if_neg (show ¬ ([] : List Int32).headD 0 = v by rcases hv with rfl | rfl <;> decide)]
    exact hK S Un.rf h
  | cons u p ih =>
    intro o d n S hn hl hd h hK
    obtain ⟨n, rfl⟩ : ∃ z, n = z + 1 := ⟨n - 1, by omega⟩
    rw [List.length_cons] at hn hl
    rw [wq_X11_ends_0.eq_2]
    refine ⟨h.1.1.1.k80, ?_⟩
    rw [j_top h (by rw [List.length_cons]; omega)]
    by_cases c : u = v
    · rw [if_pos (show (u :: p).headD 0 = v from c)]
      rw [ens, if_pos c] at hK
      subst c
      rw [opn, if_pos (by rcases hv with z | z; exact Or.inl z; exact Or.inr (Or.inl z))] at hd
      obtain ⟨d, rfl⟩ : ∃ z, d = z + 1 := ⟨d - 1, by omega⟩
      refine ⟨h.1.1.1.k80, j_emit h (by omega) (fun S6 u6 h6 => ⟨h6.1.1.1.k80, fun S9 e9 S11 e11 => ?_⟩)⟩
      obtain ⟨h9, u9⟩ := mr_pop h6 e9
      obtain ⟨h11, u11⟩ := mr_less h9 e11
      exact ih (u :: o) d n S11 (by omega) (by rw [List.length_cons]; omega) (by omega) h11 (fun S' u' h' => hK S' (Un.tr u6 (Un.tr u9 (Un.tr u11 u'))) h')
    · rw [if_neg (show ¬ (u :: p).headD 0 = v from c)]
      rw [ens, if_neg c] at hK
      exact hK S Un.rf h
end
