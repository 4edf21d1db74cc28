theorem l_move1 {N p b cn L : Nat} {ad : Nat → Nat} {K : PS → Prop} (hp : p ≠ 102) (hkl : ∀ T, Sh ad T → T.K (ad p) = 20 ∧ T.ln (ad p) = L) (hL : cn ≤ L) (hL2 : L < 5000) (hb : b + cn ≤ 2000) : ∀ (m n k : Nat) (S1 : PS), Sh ad S1 → S1.I 820 (ad 80) = nI (b + k) → k + m = cn → m < n → (∀ S', Un ad (fun g n => g = 820 ∧ n = 80) (fun n => n = 102) False S1 S' → S'.I 820 (ad 80) = nI (b + cn) → (∀ i, S'.A (ad 102) i = if b + k ≤ i ∧ i < b + cn then S1.A (ad p) (i - b) else S1.A (ad 102) i) → K S') → wq_X11_move_3 N K n S1 (ad 80) (ad p) (nI cn) 1 (nI k) := by
  intro m
  induction m with
  | zero =>
    intro n k S1 g e1 hk hn hK
    obtain ⟨n, rfl⟩ : ∃ z, n = z + 1 := ⟨n - 1, by omega⟩
    obtain rfl : k = cn := by omega
    rw [wq_X11_move_3.eq_2, if_pos (nI_le (by omega) (by omega))]
    exact hK S1 Un.rf e1 (fun i => by rw [if_neg (by omega)])
  | succ m ih =>
    intro n k S1 g e1 hk hn hK
    obtain ⟨n, rfl⟩ : ∃ z, n = z + 1 := ⟨n - 1, by omega⟩
    rw [wq_X11_move_3.eq_2, if_neg (nI_ge (by omega) (by omega)), if_neg (by decide), e1, nI_clamp (by omega), nI_clamp (by omega)]
    refine ⟨g.k80, ad 102, g.r819, (hkl S1 g).1, by rw [(hkl S1 g).2]; exact vp_in_nI (by omega) (by omega), g.k102, by rw [g.l102]; exact vp_in_nI (by omega) (by decide), fun S18 e18 => ?_⟩
    have g18 : Sh ad S18 := by rw [e18]; exact g
    refine ⟨g18.k80, fun S11 e11 => ?_⟩
    have i18 : S18.I 820 (ad 80) = nI (b + k) := by rw [e18]; exact e1
    rw [i18, a1i] at e11
    have hU : Un ad (fun g n => g = 820 ∧ n = 80) (fun n => n = 102) False S1 S11 := by rw [e11, e18]; exact Un.tr (Un.setA rfl) (Un.setI ⟨rfl, rfl⟩)
    rw [a1i]
    refine ih n (k + 1) S11 (hU.sh g) (by rw [e11]; simp only [setI_K, setI_ln, setI_R, setI_Q, setI_I, setI_J, setI_A, setI_B, setJ_K, setJ_ln, setJ_R, setJ_Q, setJ_I, setJ_J, setJ_A, setJ_B, setR_K, setR_ln, setR_R, setR_Q, setR_I, setR_J, setR_A, setR_B, setA_K, setA_ln, setA_R, setA_Q, setA_I, setA_J, setA_A, setA_B, setB_K, setB_ln, setB_R, setB_Q, setB_I, setB_J, setB_A, setB_B, setQ_K, setQ_ln, setQ_R, setQ_Q, setQ_I, setQ_J, setQ_A, setQ_B, u2_ap, and_self, true_and, and_true, Option.some.injEq, exists_eq_left', exists_eq_left, forall_eq, forall_eq_apply_imp_iff, true_or, or_true, false_or, or_false, not_true_eq_false, not_false_eq_true, false_and, if_true, if_false, reduceIte]; rfl) (by omega) (by omega) (fun S' hU' e' a' => hK S' (Un.tr hU hU') e' (fun i => ?_))
    rw [a' i, hU.A g (n := p) (by omega), e11, e18]
    simp only [setI_K, setI_ln, setI_R, setI_Q, setI_I, setI_J, setI_A, setI_B, setJ_K, setJ_ln, setJ_R, setJ_Q, setJ_I, setJ_J, setJ_A, setJ_B, setR_K, setR_ln, setR_R, setR_Q, setR_I, setR_J, setR_A, setR_B, setA_K, setA_ln, setA_R, setA_Q, setA_I, setA_J, setA_A, setA_B, setB_K, setB_ln, setB_R, setB_Q, setB_I, setB_J, setB_A, setB_B, setQ_K, setQ_ln, setQ_R, setQ_Q, setQ_I, setQ_J, setQ_A, setQ_B, u2_ap, true_and]
    by_cases c1 : i = b + k
    · rw [if_neg (by omega), if_pos c1, if_pos (by omega), show i - b = k by omega]
    · by_cases c2 : b + (k + 1) ≤ i ∧ i < b + cn
      · rw [if_pos c2, if_pos (by omega)]
      · rw [if_neg c2, if_neg c1, if_neg (by omega)]
theorem l_move0 {N p b cn L : Nat} {ad : Nat → Nat} {K : PS → Prop} (hp : p ≠ 102) (hp2 : isN p) (hkl : ∀ T, Sh ad T → T.K (ad p) = 20 ∧ T.ln (ad p) = L) (hL : cn ≤ L) (hL2 : L < 5000) (hb : b + cn ≤ 2000) : ∀ (m n k : Nat) (S1 : PS), Sh ad S1 → S1.I 820 (ad 80) = nI (b + k) → k + m = cn → m < n → (∀ S', Un ad (fun g n => g = 820 ∧ n = 80) (fun n => n = p) False S1 S' → S'.I 820 (ad 80) = nI (b + cn) → (∀ i, S'.A (ad p) i = if k ≤ i ∧ i < cn then S1.A (ad 102) (b + i) else S1.A (ad p) i) → K S') → wq_X11_move_3 N K n S1 (ad 80) (ad p) (nI cn) 0 (nI k) := by
  intro m
  induction m with
  | zero =>
    intro n k S1 g e1 hk hn hK
    obtain ⟨n, rfl⟩ : ∃ z, n = z + 1 := ⟨n - 1, by omega⟩
    obtain rfl : k = cn := by omega
    rw [wq_X11_move_3.eq_2, if_pos (nI_le (by omega) (by omega))]
    exact hK S1 Un.rf e1 (fun i => by rw [if_neg (by omega)])
  | succ m ih =>
    intro n k S1 g e1 hk hn hK
    obtain ⟨n, rfl⟩ : ∃ z, n = z + 1 := ⟨n - 1, by omega⟩
    rw [wq_X11_move_3.eq_2, if_neg (nI_ge (by omega) (by omega)), if_pos rfl, e1, nI_clamp (by omega), nI_clamp (by omega)]
    refine ⟨g.k80, ad 102, g.r819, g.k102, by rw [g.l102]; exact vp_in_nI (by omega) (by decide), (hkl S1 g).1, by rw [(hkl S1 g).2]; exact vp_in_nI (by omega) (by omega), fun S18 e18 => ?_⟩
    have g18 : Sh ad S18 := by rw [e18]; exact g
    refine ⟨g18.k80, fun S11 e11 => ?_⟩
    have i18 : S18.I 820 (ad 80) = nI (b + k) := by rw [e18]; exact e1
    rw [i18, a1i] at e11
    have hU : Un ad (fun g n => g = 820 ∧ n = 80) (fun n => n = p) False S1 S11 := by rw [e11, e18]; exact Un.tr (Un.setA rfl) (Un.setI ⟨rfl, rfl⟩)
    rw [a1i]
    refine ih n (k + 1) S11 (hU.sh g) (by rw [e11]; simp only [setI_K, setI_ln, setI_R, setI_Q, setI_I, setI_J, setI_A, setI_B, setJ_K, setJ_ln, setJ_R, setJ_Q, setJ_I, setJ_J, setJ_A, setJ_B, setR_K, setR_ln, setR_R, setR_Q, setR_I, setR_J, setR_A, setR_B, setA_K, setA_ln, setA_R, setA_Q, setA_I, setA_J, setA_A, setA_B, setB_K, setB_ln, setB_R, setB_Q, setB_I, setB_J, setB_A, setB_B, setQ_K, setQ_ln, setQ_R, setQ_Q, setQ_I, setQ_J, setQ_A, setQ_B, u2_ap, and_self, true_and, and_true, Option.some.injEq, exists_eq_left', exists_eq_left, forall_eq, forall_eq_apply_imp_iff, true_or, or_true, false_or, or_false, not_true_eq_false, not_false_eq_true, false_and, if_true, if_false, reduceIte]; rfl) (by omega) (by omega) (fun S' hU' e' a' => hK S' (Un.tr hU hU') e' (fun i => ?_))
    rw [a' i, hU.A g (n := 102) (by omega), e11, e18]
    simp only [setI_K, setI_ln, setI_R, setI_Q, setI_I, setI_J, setI_A, setI_B, setJ_K, setJ_ln, setJ_R, setJ_Q, setJ_I, setJ_J, setJ_A, setJ_B, setR_K, setR_ln, setR_R, setR_Q, setR_I, setR_J, setR_A, setR_B, setA_K, setA_ln, setA_R, setA_Q, setA_I, setA_J, setA_A, setA_B, setB_K, setB_ln, setB_R, setB_Q, setB_I, setB_J, setB_A, setB_B, setQ_K, setQ_ln, setQ_R, setQ_Q, setQ_I, setQ_J, setQ_A, setQ_B, u2_ap, true_and]
    by_cases c1 : i = k
    · rw [if_neg (by omega), if_pos c1, if_pos (by omega), c1]
    · by_cases c2 : k + 1 ≤ i ∧ i < cn
      · rw [if_pos c2, if_pos (by omega)]
      · rw [if_neg c2, if_neg c1, if_neg (by omega)]
/-- the eight single numbers laid out, then the rows one by one -/
theorem w_single {N : Nat} {ad : Nat → Nat} {S : PS} {x : Int32} {K : PS → Prop} (h : Sh ad S) (hK : ∀ S42, Un ad (fun g n => g = 820 ∧ n = 80) (fun n => n = 103) False S S42 → S42.I 820 (ad 80) = nI 0 → (∀ i, i < 8 → S42.A (ad 103) i = sgN S ad i) → wp_X11_move N S42 (ad 80) (ad 103) 8 x (fun S45 => S45.K (ad 80) = 12 ∧ ∃ p48 : Nat, S45.R 773 (ad 80) = some p48 ∧ wp_X11_move N S45 (ad 80) p48 90 x (fun S49 => S49.K (ad 80) = 12 ∧ ∃ p52 : Nat, S49.R 775 (ad 80) = some p52 ∧ wp_X11_move N S49 (ad 80) p52 120 x (fun S53 => S53.K (ad 80) = 12 ∧ ∃ p56 : Nat, S53.R 777 (ad 80) = some p56 ∧ wp_X11_move N S53 (ad 80) p56 128 x (fun S57 => S57.K (ad 80) = 12 ∧ ∃ p60 : Nat, S57.R 779 (ad 80) = some p60 ∧ wp_X11_move N S57 (ad 80) p60 8 x (fun S61 => S61.K (ad 80) = 12 ∧ ∃ p64 : Nat, S61.R 780 (ad 80) = some p64 ∧ wp_X11_move N S61 (ad 80) p64 1600 x (fun S65 => K S65))))))) : wp_X11_moveAll N S (ad 80) x K := by
  have vi : ∀ (T : PS) (i : Nat), Sh ad T → i < 8 → vp_in (nI i) (T.ln (ad 103)) := fun T i g hi => by rw [g.l103]; exact vp_in_nI hi (by decide)
  have sg : ∀ (T T' : PS) (i : Nat) (v : Int32), T' = T.setA (ad 103) i v → Sh ad T → Sh ad T' := fun T T' i v e g => by rw [e]; exact g
  refine ⟨h.k80, fun S2 e2 => ?_⟩
  have g2 : Sh ad S2 := by rw [e2]; exact h
  have fi : ∀ g, g < 800 → S2.I g (ad 80) = S.I g (ad 80) := by
    intro g hg
    rw [e2]
    exact u2_ne (fun e => by omega)
  refine ⟨ad 103, g2.r821, g2.k103, vi S2 0 g2 (by decide), fun S7 e7 => ?_⟩
  rw [fi 768 (by decide)] at e7
  have g7 := sg _ _ _ _ e7 g2
  refine ⟨ad 103, g7.r821, g7.k103, vi S7 1 g7 (by decide), fun S12 e12 => ?_⟩
  rw [show S7.I 769 (ad 80) = S.I 769 (ad 80) by rw [e7]; exact fi 769 (by decide)] at e12
  have g12 := sg _ _ _ _ e12 g7
  refine ⟨ad 103, g12.r821, g12.k103, vi S12 2 g12 (by decide), fun S17 e17 => ?_⟩
  rw [show S12.I 770 (ad 80) = S.I 770 (ad 80) by rw [e12, e7]; exact fi 770 (by decide)] at e17
  have g17 := sg _ _ _ _ e17 g12
  refine ⟨ad 103, g17.r821, g17.k103, vi S17 3 g17 (by decide), fun S22 e22 => ?_⟩
  rw [show S17.I 771 (ad 80) = S.I 771 (ad 80) by rw [e17, e12, e7]; exact fi 771 (by decide)] at e22
  have g22 := sg _ _ _ _ e22 g17
  refine ⟨ad 103, g22.r821, g22.k103, vi S22 4 g22 (by decide), fun S27 e27 => ?_⟩
  rw [show S22.I 772 (ad 80) = S.I 772 (ad 80) by rw [e22, e17, e12, e7]; exact fi 772 (by decide)] at e27
  have g27 := sg _ _ _ _ e27 g22
  refine ⟨ad 103, g27.r821, g27.k103, vi S27 5 g27 (by decide), fun S32 e32 => ?_⟩
  rw [show S27.I 774 (ad 80) = S.I 774 (ad 80) by rw [e27, e22, e17, e12, e7]; exact fi 774 (by decide)] at e32
  have g32 := sg _ _ _ _ e32 g27
  refine ⟨ad 103, g32.r821, g32.k103, vi S32 6 g32 (by decide), fun S37 e37 => ?_⟩
  rw [show S32.I 776 (ad 80) = S.I 776 (ad 80) by rw [e32, e27, e22, e17, e12, e7]; exact fi 776 (by decide)] at e37
  have g37 := sg _ _ _ _ e37 g32
  refine ⟨ad 103, g37.r821, g37.k103, vi S37 7 g37 (by decide), fun S42 e42 => ?_⟩
  rw [show S37.I 778 (ad 80) = S.I 778 (ad 80) by rw [e37, e32, e27, e22, e17, e12, e7]; exact fi 778 (by decide)] at e42
  have g42 := sg _ _ _ _ e42 g37
  refine ⟨ad 103, g42.r821, hK S42 ?_ ?_ (fun i hi => ?_)⟩
  · rw [e42, e37, e32, e27, e22, e17, e12, e7, e2]
    exact Un.tr (Un.tr (Un.tr (Un.tr (Un.tr (Un.tr (Un.tr (Un.tr (Un.setI ⟨rfl, rfl⟩) (Un.setA rfl)) (Un.setA rfl)) (Un.setA rfl)) (Un.setA rfl)) (Un.setA rfl)) (Un.setA rfl)) (Un.setA rfl)) (Un.setA rfl)
  · rw [e42, e37, e32, e27, e22, e17, e12, e7, e2]
    simp only [setI_K, setI_ln, setI_R, setI_Q, setI_I, setI_J, setI_A, setI_B, setJ_K, setJ_ln, setJ_R, setJ_Q, setJ_I, setJ_J, setJ_A, setJ_B, setR_K, setR_ln, setR_R, setR_Q, setR_I, setR_J, setR_A, setR_B, setA_K, setA_ln, setA_R, setA_Q, setA_I, setA_J, setA_A, setA_B, setB_K, setB_ln, setB_R, setB_Q, setB_I, setB_J, setB_A, setB_B, setQ_K, setQ_ln, setQ_R, setQ_Q, setQ_I, setQ_J, setQ_A, setQ_B, u2_ap, and_self, true_and, and_true, Option.some.injEq, exists_eq_left', exists_eq_left, forall_eq, forall_eq_apply_imp_iff, true_or, or_true, false_or, or_false, not_true_eq_false, not_false_eq_true, false_and, if_true, if_false, reduceIte]
    rfl
  · rw [e42, e37, e32, e27, e22, e17, e12, e7]
    simp only [show (0 : Int32).toNatClampNeg = 0 from rfl, show (1 : Int32).toNatClampNeg = 1 from rfl, show (2 : Int32).toNatClampNeg = 2 from rfl, show (3 : Int32).toNatClampNeg = 3 from rfl, show (4 : Int32).toNatClampNeg = 4 from rfl, show (5 : Int32).toNatClampNeg = 5 from rfl, show (6 : Int32).toNatClampNeg = 6 from rfl, show (7 : Int32).toNatClampNeg = 7 from rfl]
    obtain rfl | rfl | rfl | rfl | rfl | rfl | rfl | rfl : i = 0 ∨ i = 1 ∨ i = 2 ∨ i = 3 ∨ i = 4 ∨ i = 5 ∨ i = 6 ∨ i = 7 := by omega
    all_goals simp only [setA_A, u2_ap, Nat.reduceEqDiff, and_self, true_and, and_true, Option.some.injEq, exists_eq_left', exists_eq_left, forall_eq, forall_eq_apply_imp_iff, true_or, or_true, false_or, or_false, not_true_eq_false, not_false_eq_true, false_and, if_true, if_false, reduceIte, sgN]
theorem w_moveAll1 {N : Nat} {ad : Nat → Nat} {S : PS} {K : PS → Prop} (hN5 : 5000 ≤ N) (h : Sh ad S) (hK : ∀ S', Un ad (fun g n => g = 820 ∧ n = 80) (fun n => n = 102 ∨ n = 103) False S S' → (∀ i, i < 8 → S'.A (ad 102) i = sgN S ad i) → (∀ i, i < 90 → S'.A (ad 102) (8 + i) = S.A (ad 81) i) → (∀ i, i < 120 → S'.A (ad 102) (98 + i) = S.A (ad 82) i) → (∀ i, i < 128 → S'.A (ad 102) (218 + i) = S.A (ad 83) i) → (∀ i, i < 8 → S'.A (ad 102) (346 + i) = S.A (ad 84) i) → (∀ i, i < 1600 → S'.A (ad 102) (354 + i) = S.A (ad 85) i) → K S') : wp_X11_moveAll N S (ad 80) 1 K := by
  refine w_single h (fun S42 u42 i42 s42 => ?_)
  have g42 := u42.sh h
  refine l_move1 (p := 103) (b := 0) (cn := 8) (L := 8) (by decide) (fun T g => ⟨g.k103, g.l103⟩) (by decide) (by decide) (by decide) 8 N 0 S42 g42 i42 (by omega) (by omega) (fun Sa ua ia aa => ?_)
  have ga := ua.sh g42
  refine ⟨ga.k80, ad 81, ga.r773, l_move1 (p := 81) (b := 8) (cn := 90) (L := 90) (by decide) (fun T g => ⟨g.k81, g.l81⟩) (by decide) (by decide) (by decide) 90 N 0 Sa ga ia (by omega) (by omega) (fun Sb ub ib ab => ?_)⟩
  have gb := ub.sh ga
  refine ⟨gb.k80, ad 82, gb.r775, l_move1 (p := 82) (b := 98) (cn := 120) (L := 120) (by decide) (fun T g => ⟨g.k82, g.l82⟩) (by decide) (by decide) (by decide) 120 N 0 Sb gb ib (by omega) (by omega) (fun Sc uc ic ac => ?_)⟩
  have gc := uc.sh gb
  refine ⟨gc.k80, ad 83, gc.r777, l_move1 (p := 83) (b := 218) (cn := 128) (L := 128) (by decide) (fun T g => ⟨g.k83, g.l83⟩) (by decide) (by decide) (by decide) 128 N 0 Sc gc ic (by omega) (by omega) (fun Sd ud id' ad' => ?_)⟩
  have gd := ud.sh gc
  refine ⟨gd.k80, ad 84, gd.r779, l_move1 (p := 84) (b := 346) (cn := 8) (L := 8) (by decide) (fun T g => ⟨g.k84, g.l84⟩) (by decide) (by decide) (by decide) 8 N 0 Sd gd id' (by omega) (by omega) (fun Se ue ie ae => ?_)⟩
  have ge := ue.sh gd
  refine ⟨ge.k80, ad 85, ge.r780, l_move1 (p := 85) (b := 354) (cn := 1600) (L := 1600) (by decide) (fun T g => ⟨g.k85, g.l85⟩) (by decide) (by decide) (by decide) 1600 N 0 Se ge ie (by omega) (by omega) (fun Sf uf if' af => ?_)⟩
  have src : ∀ (p : Nat), 81 ≤ p → p ≤ 85 → Sa.A (ad p) = S.A (ad p) ∧ Sb.A (ad p) = S.A (ad p) ∧ Sc.A (ad p) = S.A (ad p) ∧ Sd.A (ad p) = S.A (ad p) ∧ Se.A (ad p) = S.A (ad p) := by
    intro p p1 p2
    have z0 : S42.A (ad p) = S.A (ad p) := u42.A h (by omega)
    have z1 : Sa.A (ad p) = S.A (ad p) := (ua.A g42 (by omega)).trans z0
    have z2 : Sb.A (ad p) = S.A (ad p) := (ub.A ga (by omega)).trans z1
    have z3 : Sc.A (ad p) = S.A (ad p) := (uc.A gb (by omega)).trans z2
    have z4 : Sd.A (ad p) = S.A (ad p) := (ud.A gc (by omega)).trans z3
    exact ⟨z1, z2, z3, z4, (ue.A gd (by omega)).trans z4⟩
  have m1 : ∀ T T', Un ad (fun g n => g = 820 ∧ n = 80) (fun n => n = 102) False T T' → Un ad (fun g n => g = 820 ∧ n = 80) (fun n => n = 102 ∨ n = 103) False T T' := fun T T' z => z.mono (fun _ _ e => e) (fun _ e => Or.inl e) id
  refine hK Sf (Un.tr (Un.tr (Un.tr (Un.tr (Un.tr (Un.tr (u42.mono (fun _ _ e => e) (fun _ e => Or.inr e) id) (m1 _ _ ua)) (m1 _ _ ub)) (m1 _ _ uc)) (m1 _ _ ud)) (m1 _ _ ue)) (m1 _ _ uf)) (fun i hi => ?_) (fun i hi => ?_) (fun i hi => ?_) (fun i hi => ?_) (fun i hi => ?_) (fun i hi => ?_)
  · rw [af, if_neg (by omega), ae, if_neg (by omega), ad', if_neg (by omega), ac, if_neg (by omega), ab, if_neg (by omega), aa, if_pos (by omega)]
    exact s42 i hi
  · rw [af, if_neg (by omega), ae, if_neg (by omega), ad', if_neg (by omega), ac, if_neg (by omega), ab, if_pos (by omega), Nat.add_sub_cancel_left, (src 81 (by omega) (by omega)).1]
  · rw [af, if_neg (by omega), ae, if_neg (by omega), ad', if_neg (by omega), ac, if_pos (by omega), Nat.add_sub_cancel_left, (src 82 (by omega) (by omega)).2.1]
  · rw [af, if_neg (by omega), ae, if_neg (by omega), ad', if_pos (by omega), Nat.add_sub_cancel_left, (src 83 (by omega) (by omega)).2.2.1]
  · rw [af, if_neg (by omega), ae, if_pos (by omega), Nat.add_sub_cancel_left, (src 84 (by omega) (by omega)).2.2.2.1]
  · rw [af, if_pos (by omega), Nat.add_sub_cancel_left, (src 85 (by omega) (by omega)).2.2.2.2]
theorem w_moveAll0 {N : Nat} {ad : Nat → Nat} {S : PS} {K : PS → Prop} (hN5 : 5000 ≤ N) (h : Sh ad S) (hK : ∀ S', Un ad (fun g n => g = 820 ∧ n = 80) (fun n => n = 103 ∨ (81 ≤ n ∧ n ≤ 85)) False S S' → (∀ i, i < 8 → S'.A (ad 103) i = S.A (ad 102) i) → (∀ i, i < 90 → S'.A (ad 81) i = S.A (ad 102) (8 + i)) → (∀ i, i < 120 → S'.A (ad 82) i = S.A (ad 102) (98 + i)) → (∀ i, i < 128 → S'.A (ad 83) i = S.A (ad 102) (218 + i)) → (∀ i, i < 8 → S'.A (ad 84) i = S.A (ad 102) (346 + i)) → (∀ i, i < 1600 → S'.A (ad 85) i = S.A (ad 102) (354 + i)) → K S') : wp_X11_moveAll N S (ad 80) 0 K := by
  refine w_single h (fun S42 u42 i42 s42 => ?_)
  have g42 := u42.sh h
  refine l_move0 (p := 103) (b := 0) (cn := 8) (L := 8) (by decide) (by unfold isN; omega) (fun T g => ⟨g.k103, g.l103⟩) (by decide) (by decide) (by decide) 8 N 0 S42 g42 i42 (by omega) (by omega) (fun Sa ua ia aa => ?_)
  have ga := ua.sh g42
  refine ⟨ga.k80, ad 81, ga.r773, l_move0 (p := 81) (b := 8) (cn := 90) (L := 90) (by decide) (by unfold isN; omega) (fun T g => ⟨g.k81, g.l81⟩) (by decide) (by decide) (by decide) 90 N 0 Sa ga ia (by omega) (by omega) (fun Sb ub ib ab => ?_)⟩
  have gb := ub.sh ga
  refine ⟨gb.k80, ad 82, gb.r775, l_move0 (p := 82) (b := 98) (cn := 120) (L := 120) (by decide) (by unfold isN; omega) (fun T g => ⟨g.k82, g.l82⟩) (by decide) (by decide) (by decide) 120 N 0 Sb gb ib (by omega) (by omega) (fun Sc uc ic ac => ?_)⟩
  have gc := uc.sh gb
  refine ⟨gc.k80, ad 83, gc.r777, l_move0 (p := 83) (b := 218) (cn := 128) (L := 128) (by decide) (by unfold isN; omega) (fun T g => ⟨g.k83, g.l83⟩) (by decide) (by decide) (by decide) 128 N 0 Sc gc ic (by omega) (by omega) (fun Sd ud id' ad' => ?_)⟩
  have gd := ud.sh gc
  refine ⟨gd.k80, ad 84, gd.r779, l_move0 (p := 84) (b := 346) (cn := 8) (L := 8) (by decide) (by unfold isN; omega) (fun T g => ⟨g.k84, g.l84⟩) (by decide) (by decide) (by decide) 8 N 0 Sd gd id' (by omega) (by omega) (fun Se ue ie ae => ?_)⟩
  have ge := ue.sh gd
  refine ⟨ge.k80, ad 85, ge.r780, l_move0 (p := 85) (b := 354) (cn := 1600) (L := 1600) (by decide) (by unfold isN; omega) (fun T g => ⟨g.k85, g.l85⟩) (by decide) (by decide) (by decide) 1600 N 0 Se ge ie (by omega) (by omega) (fun Sf uf if' af => ?_)⟩
  have z0 : S42.A (ad 102) = S.A (ad 102) := u42.A h (by omega)
  have z1 : Sa.A (ad 102) = S.A (ad 102) := (ua.A g42 (by omega)).trans z0
  have z2 : Sb.A (ad 102) = S.A (ad 102) := (ub.A ga (by omega)).trans z1
  have z3 : Sc.A (ad 102) = S.A (ad 102) := (uc.A gb (by omega)).trans z2
  have z4 : Sd.A (ad 102) = S.A (ad 102) := (ud.A gc (by omega)).trans z3
  have z5 : Se.A (ad 102) = S.A (ad 102) := (ue.A gd (by omega)).trans z4
  refine hK Sf (Un.tr (Un.tr (Un.tr (Un.tr (Un.tr (Un.tr (u42.mono (fun _ _ e => e) (fun _ e => by omega) id) (ua.mono (fun _ _ e => e) (fun _ e => by omega) id)) (ub.mono (fun _ _ e => e) (fun _ e => by omega) id)) (uc.mono (fun _ _ e => e) (fun _ e => by omega) id)) (ud.mono (fun _ _ e => e) (fun _ e => by omega) id)) (ue.mono (fun _ _ e => e) (fun _ e => by omega) id)) (uf.mono (fun _ _ e => e) (fun _ e => by omega) id)) (fun i hi => ?_) (fun i hi => ?_) (fun i hi => ?_) (fun i hi => ?_) (fun i hi => ?_) (fun i hi => ?_)
  · rw [uf.A ge (n := 103) (by omega), ue.A gd (n := 103) (by omega), ud.A gc (n := 103) (by omega), uc.A gb (n := 103) (by omega), ub.A ga (n := 103) (by omega), aa, if_pos (by omega), z0, Nat.zero_add]
  · rw [uf.A ge (n := 81) (by omega), ue.A gd (n := 81) (by omega), ud.A gc (n := 81) (by omega), uc.A gb (n := 81) (by omega), ab, if_pos (by omega), z1]
  · rw [uf.A ge (n := 82) (by omega), ue.A gd (n := 82) (by omega), ud.A gc (n := 82) (by omega), ac, if_pos (by omega), z2]
  · rw [uf.A ge (n := 83) (by omega), ue.A gd (n := 83) (by omega), ad', if_pos (by omega), z3]
  · rw [uf.A ge (n := 84) (by omega), ae, if_pos (by omega), z4]
  · rw [af, if_pos (by omega), z5]
