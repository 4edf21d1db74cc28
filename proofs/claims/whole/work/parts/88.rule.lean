/-- the class's words of a rule (the newest first) -/
def KO (S : PS) (ad : Nat → Nat) (o : List Int32) : Prop := S.I 258 (ad 7) = nI o.length ∧ stk (S.A (ad 20)) (o.map phi)
/-- what the class writes reading a rule -/
def UR (ad : Nat → Nat) (S S' : PS) : Prop := Un ad (fun g n => (g = 580 ∧ n = 5) ∨ (g = 258 ∧ n = 7)) (fun n => n = 20) False S S'
theorem phi_fact : ∀ i : Nat, i < 7 → (-1) - (nI (308 + i) - 308) = phi (nI (20000 + i)) := by decide
section
variable {N nt c t d : Nat} {ad : Nat → Nat} {S : PS} {T : Nat → Nat} {o p : List Int32}
theorem UR.tk {S' : PS} (u : Un ad (fun g n => g = 580 ∧ n = 5) (fun _ => False) False S S') : UR ad S S' := Un.mono u (fun _ _ e => Or.inl e) (fun _ e => absurd e id) id
theorem KO.tk {S' : PS} (u : Un ad (fun g n => g = 580 ∧ n = 5) (fun _ => False) False S S') (h : Sh ad S) (k : KO S ad o) : KO S' ad o := ⟨(u.I h (by omega)).trans k.1, by rw [u.A h (by simp)]; exact k.2⟩
theorem k_emit {K : PS → Prop} {y v : Int32} (h : CT S ad T nt c t) (ho : KO S ad o) (hl : o.length < 200) (hv : y = phi v) (hK : ∀ S', UR ad S S' → CT S' ad T nt c t → KO S' ad (v :: o) → K S') : wp_X3_emit N S (ad 7) y K := by
  have g := h.1
  refine ⟨g.k7, ad 20, g.r257, g.k20, ?_⟩
  rw [g.l20, ho.1, if_neg (show ¬ nI 200 ≤ nI o.length from nI_ge hl (by decide)), nI_clamp (by omega)]
  refine ⟨ad 20, g.r257, g.k20, by rw [g.l20]; exact vp_in_nI hl (by decide), fun S8 e8 S10 e10 => ?_⟩
  rw [show S8.I 258 (ad 7) = nI o.length by rw [e8]; exact ho.1, a1i] at e10
  have u : UR ad S S10 := by rw [e10, e8]; exact Un.tr (Un.setA rfl) (Un.setI (by omega))
  refine hK S10 u (h.un (show Un ad (fun g n => g = 258 ∧ n = 7) (fun n => n = 20) False S S10 by rw [e10, e8]; exact Un.tr (Un.setA rfl) (Un.setI ⟨rfl, rfl⟩)) (by omega) (by omega)) ⟨?_, ?_⟩
  · rw [e10]; simp only [setI_K, setI_ln, setI_R, setI_Q, setI_I, setI_J, setI_A, setI_B, setJ_K, setJ_ln, setJ_R, setJ_Q, setJ_I, setJ_J, setJ_A, setJ_B, setR_K, setR_ln, setR_R, setR_Q, setR_I, setR_J, setR_A, setR_B, setA_K, setA_ln, setA_R, setA_Q, setA_I, setA_J, setA_A, setA_B, setB_K, setB_ln, setB_R, setB_Q, setB_I, setB_J, setB_A, setB_B, setQ_K, setQ_ln, setQ_R, setQ_Q, setQ_I, setQ_J, setQ_A, setQ_B, u2_ap, and_self, true_and, and_true, Option.some.injEq, exists_eq_left', exists_eq_left, forall_eq, forall_eq_apply_imp_iff, true_or, or_true, false_or, or_false, not_true_eq_false, not_false_eq_true, false_and, if_true, if_false, reduceIte]; rfl
  · rw [show S10.A = S8.A by rw [e10]; rfl]
    refine stk_set (r := o.map phi) ?_ ho.2
    rw [List.length_map, ← hv]
    exact e8
theorem ct_end (h : CT S ad T nt c t) (h2 : 200 ≤ t) : Cc T nt t = 258 := by
  refine Classical.byContradiction (fun z => ?_)
  have := k_lt h z
  have := h.2.2.2.2.1
  omega
theorem k_at (hT : ∀ k, T k < 256) : ∀ (e : Nat) (S : PS) (o p : List Int32) (d t : Nat) (x : Bool) (Z : Rs → Prop) (K : Int32 → PS → Prop), d ≤ 4 → 5 ≤ e + d → CT S ad T nt c t → KO S ad o → o.length ≤ t → (∀ r, MU (Cc T nt) (Vc T nt) 1 o p d x t r → Z r) → (∀ S' t', UR ad S S' → CT S' ad T nt c t' → Z (badR t') → K 0 S') → (∀ S' t' code, UR ad S S' → CT S' ad T nt c t' → KO S' ad (code ++ o) → t + code.length ≤ t' → (∀ st, wl code st (false :: st)) → (∀ r, MU (Cc T nt) (Vc T nt) (if x then 3 else 2) (ens 40003 p (code ++ o) d).2.1 (ens 40003 p (code ++ o) d).1 (ens 40003 p (code ++ o) d).2.2 x t' r → Z r) → K 1 S') → wp_X3_at N e S (ad 7) (nI d) K := by
  intro e
  induction e with
  | zero => intro S o p d t x Z K hd he; omega
  | succ e ih =>
    intro S o p d t x Z K hd he h ho hl hz K0 K1
    have g := h.1
    have hc := h.2.2.2.2.1
    rw [wp_X3_at]
    refine ⟨g.k7, ad 5, g.r256, g.k5, ?_⟩
    rw [k_now h]
    by_cases m : Cc T nt t = 45
    · rw [if_pos m, if_neg (by decide)]
      by_cases d4 : 4 ≤ d
      · rw [if_pos (show (4 : Int32) ≤ nI d from nI_le (a := 4) d4 (by omega))]
        exact K0 S t Un.rf h (hz _ (MU.adeep m d4))
      rw [if_neg (show ¬ (4 : Int32) ≤ nI d from nI_ge (b := 4) (by omega) (by decide)), a1i]
      refine ⟨g.k7, ad 5, g.r256, g.k5, k_take h (by decide) ?_⟩
      rw [if_pos m]
      intro S38 u38 h38
      rw [if_neg (by decide)]
      refine ⟨h38.1.k7, ih S38 o (40003 :: p) (d + 1) (t + 1) x Z _ (by omega) (by omega) h38 (ho.tk u38 g) (by omega) (fun r hr => hz r (MU.amin m (by omega) hr)) (fun S' t' u' h' z' => ?_) (fun S' t' code u' h' o' l' w' z' => ?_)⟩
      · rw [if_pos rfl]
        exact K0 S' t' (Un.tr (UR.tk u38) u') h' z'
      · rw [if_neg (by decide)]
        have := h'.2.2.2.1
        refine ⟨h'.1.k7, k_emit (v := 40003) h' o' (by rw [List.length_append]; omega) (by decide) (fun S2 u2 h2 o2 => K1 S2 t' (40003 :: code) (Un.tr (UR.tk u38) (Un.tr u' u2)) h2 o2 (by rw [List.length_cons]; omega) (fun st => ⟨false :: st, w' st, Or.inr (Or.inl ⟨rfl, st, rfl, rfl⟩)⟩) (fun r hr => z' r ?_))⟩
        rw [ens_cons]
        exact hr
    · rw [if_neg m, if_pos rfl]
      refine ⟨g.k7, ad 5, g.r256, g.k5, ?_⟩
      rw [k_code h]
      have val : ∀ (v y : Int32), y = phi v → ((Cc T nt t = 256 ∧ v = Vc T nt t) ∨ ∃ i : Nat, i ≤ 6 ∧ Cc T nt t = nI (308 + i) ∧ v = nI (20000 + i)) → ((∃ n : Nat, n ≤ 9999 ∧ v = nI n) ∨ (∃ n : Nat, n ≤ 6 ∧ v = nI (20000 + n))) → Cc T nt t ≠ 258 → wp_X3_emit N S (ad 7) y (fun S32 => wq_X3_at_108 N (fun S a0 x1 K => wp_X3_at N e S a0 x1 K) K S32 (ad 7) (Cc T nt t)) := by
        intro v y hy hv hw ne
        have := k_lt h ne
        refine k_emit (v := v) h ho (by omega) hy (fun S32 u32 h32 o32 => ?_)
        refine ⟨h32.1.k7, ad 5, h32.1.r256, h32.1.k5, k_take h32 ne ?_⟩
        rw [if_pos rfl]
        intro S7 u7 h7
        refine ⟨Or.inr rfl, K1 S7 (t + 1) [v] (Un.tr u32 (UR.tk u7)) h7 (o32.tk u7 h32.1) (Nat.le_refl _) (fun st => ⟨st, rfl, Or.inr (Or.inr (Or.inr (Or.inr (Or.inr ⟨hw, rfl⟩))))⟩) (fun r hr => hz r (MU.aval hv hr))⟩
      by_cases q : Cc T nt t = 256
      · rw [if_pos q]
        refine ⟨g.k7, ad 5, g.r256, g.k5, ?_⟩
        rw [k_value h]
        obtain ⟨-, v, v1, v2⟩ := t_val hT q
        refine ⟨g.k7, val (Vc T nt t) (Vc T nt t) ?_ (Or.inl ⟨q, rfl⟩) (Or.inl ⟨v, v1, v2⟩) (by rw [q]; decide)⟩
        rw [show Vc T nt t = nI v from v2]
        exact (phi_num v1).symm
      rw [if_neg q]
      by_cases f : ∃ i : Nat, i ≤ 6 ∧ Cc T nt t = nI (308 + i)
      · obtain ⟨i, hi, f⟩ := f
        have ne : Cc T nt t ≠ 258 := by rw [f]; exact ii_ne (b := 258) (by omega) (by decide) (by omega)
        rw [if_neg (show ¬ Cc T nt t < 308 by rw [f]; exact fun z => absurd (nI_le (a := 308) (b := 308 + i) (by omega) (by omega)) (Int32.not_le.mpr z)), if_neg (show ¬ 314 < Cc T nt t by rw [f]; exact fun z => absurd (nI_le (a := 308 + i) (b := 314) (by omega) (by decide)) (Int32.not_le.mpr z))]
        refine ⟨g.k7, val (nI (20000 + i)) _ ?_ (Or.inr ⟨i, hi, f, rfl⟩) (Or.inr ⟨i, hi, rfl⟩) ne⟩
        rw [show cdp T nt (pos T nt t) = nI (308 + i) from f]
        exact phi_fact i (by omega)
      · have bad : K 0 S := K0 S t Un.rf h (hz _ (MU.abad m q (fun i hi z => f ⟨i, hi, z⟩)))
        by_cases a : Cc T nt t < 308
        · rw [if_pos a]; exact bad
        rw [if_neg a]
        by_cases b : 314 < Cc T nt t
        · rw [if_pos b]; exact bad
        refine absurd ?_ f
        obtain ⟨k, hk, e'⟩ := nI_of2 (x := Cc T nt t) (M := 314) (n := 314) (by decide) (fun z => a (Int32.lt_trans z (by decide))) (Int32.not_lt.mp b)
        have : 308 ≤ k := Classical.byContradiction (fun z => a (by rw [e']; exact nI_lt (b := 308) (by omega) (by decide)))
        exact ⟨k - 308, by omega, by rw [e', show 308 + (k - 308) = k by omega]⟩
end
