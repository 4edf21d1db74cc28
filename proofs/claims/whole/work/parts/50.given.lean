/-- what one clause of a story gives, out of the parts' table and the story's numbers -/
def gv (P : Nat → Int32) (np : Nat) (f : Nat → Int32) (w d : Int32) (c : Nat) : Int32 := if f (2 + 3 * c) < 0 then 0 else if nI np ≤ f (2 + 3 * c) then 0 else if isw (fun q => P (9 * (f (2 + 3 * c)).toNatClampNeg + q)) w = 0 then 0 else if d < f (4 + 3 * c) then 0 else f (3 + 3 * c)
/-- what a story gives -/
def gvs (P : Nat → Int32) (np : Nat) (f : Nat → Int32) (w d : Int32) : Int32 := if f 1 = -1 then f 2 else sm (gv P np f w d) 0 (f 1).toNatClampNeg
/-- what one clause finds -/
def fd (f : Nat → Int32) (i d : Int32) (c : Nat) : Int32 := if f (2 + 3 * c) = i then (if d < f (4 + 3 * c) then 0 else f (3 + 3 * c)) else 0
/-- what a story finds -/
def fds (f : Nat → Int32) (i d : Int32) : Int32 := sm (fd f i d) 0 (f 1).toNatClampNeg
theorem d3 {n : Nat} (h : n ≤ 100) : nI (3 * n) / 3 = nI n := by
  rw [show (3 : Int32) = nI 3 from rfl, pk_div (by omega) (by decide) (by decide), Nat.mul_div_cancel_left _ (by decide)]
theorem m3c (k : Nat) : nI k * 3 = nI (3 * k) := by rw [show (3 : Int32) = nI 3 from rfl, pk_mul, Nat.mul_comm]
theorem m3d (k : Nat) : 3 * nI k = nI (3 * k) := by rw [show (3 : Int32) = nI 3 from rfl, pk_mul]
theorem m16 (k : Nat) : 16 * nI k = nI (16 * k) := by rw [show (16 : Int32) = nI 16 from rfl, pk_mul]
theorem a1i (k : Nat) : nI k + 1 = nI (k + 1) := nI_add k 1
theorem a2i (k : Nat) : nI k + 2 = nI (k + 2) := nI_add k 2
section
variable {N np nc a c s : Nat} {ad : Nat → Nat} {S : PS} {w d i : Int32} {K : Int32 → PS → Prop} {P f : Nat → Int32}
theorem l_given10 (h : Sh ad S) (e1 : S.I 644 (ad 2) = nI np) (hn : np ≤ 10) (hp : ∀ i, i < np → ∀ q, q < 9 → S.I (128 + q) (ad (60 + i)) = P (9 * i + q)) (g1 : S.K a = 7) (g2 : S.R 451 a = some c) (g3 : S.K c = 20) (hc : nc ≤ 4) (g4 : S.ln c = 3 * nc) (g5 : ∀ k, k < 3 * nc → S.A c k = f (2 + k)) : ∀ (m n k : Nat) (acc : Int32), k + m = nc → m < n → K (acc + sm (gv P np f w d) k m) S → wq_X9_given_29 N K n S (ad 2) w d a acc (nI k) := by
  intro m
  induction m with
  | zero =>
    intro n k acc hk hn2 hK
    obtain ⟨n, rfl⟩ : ∃ z, n = z + 1 := ⟨n - 1, by omega⟩
    rw [sm, Int32.add_zero] at hK
    rw [wq_X9_given_29.eq_2]
    simp only [wp_X6_clauseCount, g1, g2, g3, g4, d3 (show nc ≤ 100 by omega), true_and, and_true, Option.some.injEq, exists_eq_left', exists_eq_left, forall_eq, forall_eq_apply_imp_iff, true_or, or_true, false_or, or_false, not_true_eq_false, not_false_eq_true, false_and, if_true, if_false, reduceIte]
    rw [if_pos (nI_le (by omega) (by omega))]
    exact hK
  | succ m ih =>
    intro n k acc hk hn2 hK
    obtain ⟨n, rfl⟩ : ∃ z, n = z + 1 := ⟨n - 1, by omega⟩
    rw [sm, ← Int32.add_assoc] at hK
    have a0 : S.A c (3 * k) = f (2 + 3 * k) := g5 _ (by omega)
    have a1 : S.A c (3 * k + 1) = f (3 + 3 * k) := by rw [g5 _ (by omega)]; congr 1; omega
    have a2 : S.A c (3 * k + 2) = f (4 + 3 * k) := by rw [g5 _ (by omega)]; congr 1; omega
    have v0 : vp_in (nI (3 * k)) (3 * nc) := vp_in_nI (by omega) (by omega)
    have v1 : vp_in (nI (3 * k + 1)) (3 * nc) := vp_in_nI (by omega) (by omega)
    have v2 : vp_in (nI (3 * k + 2)) (3 * nc) := vp_in_nI (by omega) (by omega)
    have ihz := ih n (k + 1) acc (by omega) (by omega)
    rw [wq_X9_given_29.eq_2]
    simp only [wp_X6_clauseCount, wp_X6_partOf, wp_X6_amountOn, wp_X9_hasPart, g1, g2, g3, g4, d3 (show nc ≤ 100 by omega), m3c, a1i, a2i, v0, v1, v2, nI_clamp (show 3 * k < 2 ^ 31 by omega), nI_clamp (show 3 * k + 1 < 2 ^ 31 by omega), nI_clamp (show 3 * k + 2 < 2 ^ 31 by omega), a0, a1, a2, h.k2, e1, true_and, and_true, Option.some.injEq, exists_eq_left', exists_eq_left, forall_eq, forall_eq_apply_imp_iff, true_or, or_true, false_or, or_false, not_true_eq_false, not_false_eq_true, false_and, if_true, if_false, reduceIte]
    rw [if_neg (nI_ge (by omega) (by omega))]
    by_cases c1 : f (2 + 3 * k) < 0
    · rw [show gv P np f w d k = 0 by unfold gv; rw [if_pos c1], Int32.add_zero] at hK
      simp only [c1, true_and, and_true, Option.some.injEq, exists_eq_left', exists_eq_left, forall_eq, forall_eq_apply_imp_iff, true_or, or_true, false_or, or_false, not_true_eq_false, not_false_eq_true, false_and, if_true, if_false, reduceIte]
      exact ihz hK
    by_cases c2 : nI np ≤ f (2 + 3 * k)
    · rw [show gv P np f w d k = 0 by unfold gv; rw [if_neg c1, if_pos c2], Int32.add_zero] at hK
      simp only [c1, c2, true_and, and_true, Option.some.injEq, exists_eq_left', exists_eq_left, forall_eq, forall_eq_apply_imp_iff, true_or, or_true, false_or, or_false, not_true_eq_false, not_false_eq_true, false_and, if_true, if_false, reduceIte]
      exact ihz hK
    obtain ⟨j, hj, ej⟩ := nl_lt c2 c1 (by omega)
    have hj10 : j < 10 := by omega
    have hv : vp_in (nI j) 10 := vp_in_nI hj10 (by decide)
    have gw : isw (fun q => S.I (128 + q) (ad (60 + j))) w = isw (fun q => P (9 * j + q)) w := isw_congr (fun q hq => hp j hj q hq) w
    unfold gv at hK
    rw [if_neg c1, if_neg c2, ej, nI_clamp (by omega)] at hK
    rw [ej] at c1 c2
    simp only [ej, c1, c2, i10, true_and, and_true, Option.some.injEq, exists_eq_left', exists_eq_left, forall_eq, forall_eq_apply_imp_iff, true_or, or_true, false_or, or_false, not_true_eq_false, not_false_eq_true, false_and, if_true, if_false, reduceIte, h.r648_2, h.k40, h.l40, hv, nI_clamp (show j < 2 ^ 31 by omega), h.q40 hj10, h.kp hj10, w_isIn (h.kp hj10), gw, g1, g2, g3, g4, v0, v1, v2, a0, a1, a2]
    by_cases c3 : isw (fun q => P (9 * j + q)) w = 0
    · rw [if_pos c3, Int32.add_zero] at hK
      rw [if_pos c3]
      exact ihz hK
    rw [if_neg c3] at hK ⊢
    by_cases c4 : d < f (4 + 3 * k)
    · rw [if_pos c4] at hK ⊢
      exact ih n (k + 1) _ (by omega) (by omega) hK
    · rw [if_neg c4] at hK ⊢
      exact ih n (k + 1) _ (by omega) (by omega) hK
theorem l_given11 (h : Sh ad S) (e1 : S.I 772 (ad 80) = nI np) (hn : np ≤ 10) (hs : s < 8) (hc : nc ≤ 4) : ∀ (m n k : Nat) (acc : Int32), k + m = nc → m < n → K (acc + sm (gv (S.A (ad 81)) np (fun q => S.A (ad 83) (16 * s + q)) w d) k m) S → wq_X11_givesBy_36 N K n S (ad 80) (nI s) w d (nI nc) acc (nI k) := by
  intro m
  induction m with
  | zero =>
    intro n k acc hk hn2 hK
    obtain ⟨n, rfl⟩ : ∃ z, n = z + 1 := ⟨n - 1, by omega⟩
    rw [sm, Int32.add_zero] at hK
    rw [wq_X11_givesBy_36.eq_2, if_pos (nI_le (by omega) (by omega))]
    exact hK
  | succ m ih =>
    intro n k acc hk hn2 hK
    obtain ⟨n, rfl⟩ : ∃ z, n = z + 1 := ⟨n - 1, by omega⟩
    rw [sm, ← Int32.add_assoc] at hK
    have v0 : vp_in (nI (16 * s + 2 + 3 * k)) 128 := vp_in_nI (by omega) (by omega)
    have v1 : vp_in (nI (16 * s + 2 + 3 * k + 1)) 128 := vp_in_nI (by omega) (by omega)
    have v2 : vp_in (nI (16 * s + 2 + 3 * k + 2)) 128 := vp_in_nI (by omega) (by omega)
    obtain ⟨f, hf⟩ : ∃ f : Nat → Int32, f = fun q => S.A (ad 83) (16 * s + q) := ⟨_, rfl⟩
    have a0 : S.A (ad 83) (16 * s + 2 + 3 * k) = f (2 + 3 * k) := by rw [hf, Nat.add_assoc]
    have a1 : S.A (ad 83) (16 * s + 2 + 3 * k + 1) = f (3 + 3 * k) := by rw [hf]; congr 1; omega
    have a2 : S.A (ad 83) (16 * s + 2 + 3 * k + 2) = f (4 + 3 * k) := by rw [hf]; congr 1; omega
    rw [← hf] at hK ih
    have ihz := ih n (k + 1) (acc + gv (S.A (ad 81)) np f w d k) (by omega) (by omega) hK
    rw [wq_X11_givesBy_36.eq_2, if_neg (nI_ge (by omega) (by omega))]
    simp only [wq_X11_givesBy_96, wq_X11_givesBy_120, wq_X11_givesBy_121, wq_X11_givesBy_143, w_isPart h e1 hn, m16, m3d, a1i, a2i, nI_add, v0, v1, v2, nI_clamp (show 16 * s + 2 + 3 * k < 2 ^ 31 by omega), nI_clamp (show 16 * s + 2 + 3 * k + 1 < 2 ^ 31 by omega), nI_clamp (show 16 * s + 2 + 3 * k + 2 < 2 ^ 31 by omega), a0, a1, a2, h.k80, h.r777, h.k83, h.l83, i10, true_and, and_true, Option.some.injEq, exists_eq_left', exists_eq_left, forall_eq, forall_eq_apply_imp_iff, true_or, or_true, false_or, or_false, not_true_eq_false, not_false_eq_true, false_and, if_true, if_false, reduceIte]
    by_cases c1 : f (2 + 3 * k) < 0
    · rw [show gv (S.A (ad 81)) np f w d k = 0 by unfold gv; rw [if_pos c1]] at ihz
      simp only [c1, true_and, and_true, Option.some.injEq, exists_eq_left', exists_eq_left, forall_eq, forall_eq_apply_imp_iff, true_or, or_true, false_or, or_false, not_true_eq_false, not_false_eq_true, false_and, if_true, if_false, reduceIte]
      exact ihz
    by_cases c2 : nI np ≤ f (2 + 3 * k)
    · rw [show gv (S.A (ad 81)) np f w d k = 0 by unfold gv; rw [if_neg c1, if_pos c2]] at ihz
      simp only [c1, c2, true_and, and_true, Option.some.injEq, exists_eq_left', exists_eq_left, forall_eq, forall_eq_apply_imp_iff, true_or, or_true, false_or, or_false, not_true_eq_false, not_false_eq_true, false_and, if_true, if_false, reduceIte]
      exact ihz
    obtain ⟨j, hj, ej⟩ := nl_lt c2 c1 (by omega)
    have hj10 : j < 10 := by omega
    have gw : isw (fun q => S.A (ad 81) (9 * (f (2 + 3 * k)).toNatClampNeg + q)) w = isw (fun q => S.A (ad 81) (9 * j + q)) w := by rw [ej, nI_clamp (by omega)]
    unfold gv at ihz
    rw [if_neg c1, if_neg c2, gw] at ihz
    rw [ej] at c1 c2
    simp only [ej, c1, c2, i10, true_and, and_true, Option.some.injEq, exists_eq_left', exists_eq_left, forall_eq, forall_eq_apply_imp_iff, true_or, or_true, false_or, or_false, not_true_eq_false, not_false_eq_true, false_and, if_true, if_false, reduceIte, w_isOn h hj10, v0, v1, v2, a0, a1, a2, h.k80, h.r777, h.k83, h.l83]
    by_cases c3 : isw (fun q => S.A (ad 81) (9 * j + q)) w = 0
    · rw [if_pos c3] at ihz
      simp only [c3, true_and, and_true, Option.some.injEq, exists_eq_left', exists_eq_left, forall_eq, forall_eq_apply_imp_iff, true_or, or_true, false_or, or_false, not_true_eq_false, not_false_eq_true, false_and, if_true, if_false, reduceIte]
      exact ihz
    rw [if_neg c3] at ihz
    by_cases c4 : d < f (4 + 3 * k)
    · rw [if_pos c4] at ihz
      simp only [c3, c4, true_and, and_true, Option.some.injEq, exists_eq_left', exists_eq_left, forall_eq, forall_eq_apply_imp_iff, true_or, or_true, false_or, or_false, not_true_eq_false, not_false_eq_true, false_and, if_true, if_false, reduceIte]
      exact ihz
    · rw [if_neg c4] at ihz
      simp only [c3, c4, true_and, and_true, Option.some.injEq, exists_eq_left', exists_eq_left, forall_eq, forall_eq_apply_imp_iff, true_or, or_true, false_or, or_false, not_true_eq_false, not_false_eq_true, false_and, if_true, if_false, reduceIte]
      exact ihz
theorem l_found10 (g1 : S.K a = 7) (g2 : S.R 451 a = some c) (g3 : S.K c = 20) (hc : nc ≤ 4) (g4 : S.ln c = 3 * nc) (g5 : ∀ k, k < 3 * nc → S.A c k = f (2 + k)) : ∀ (m n k : Nat) (acc : Int32), k + m = nc → m < n → K (acc + sm (fd f i d) k m) S → wq_X6_foundAt_5 N K n S a i d acc (nI k) := by
  intro m
  induction m with
  | zero =>
    intro n k acc hk hn2 hK
    obtain ⟨n, rfl⟩ : ∃ z, n = z + 1 := ⟨n - 1, by omega⟩
    rw [sm, Int32.add_zero] at hK
    rw [wq_X6_foundAt_5.eq_2]
    simp only [wp_X6_clauseCount, g1, g2, g3, g4, d3 (show nc ≤ 100 by omega), true_and, and_true, Option.some.injEq, exists_eq_left', exists_eq_left, forall_eq, forall_eq_apply_imp_iff, true_or, or_true, false_or, or_false, not_true_eq_false, not_false_eq_true, false_and, if_true, if_false, reduceIte]
    rw [if_pos (nI_le (by omega) (by omega))]
    exact hK
  | succ m ih =>
    intro n k acc hk hn2 hK
    obtain ⟨n, rfl⟩ : ∃ z, n = z + 1 := ⟨n - 1, by omega⟩
    rw [sm, ← Int32.add_assoc] at hK
    have a0 : S.A c (3 * k) = f (2 + 3 * k) := g5 _ (by omega)
    have a1 : S.A c (3 * k + 1) = f (3 + 3 * k) := by rw [g5 _ (by omega)]; congr 1; omega
    have a2 : S.A c (3 * k + 2) = f (4 + 3 * k) := by rw [g5 _ (by omega)]; congr 1; omega
    have v0 : vp_in (nI (3 * k)) (3 * nc) := vp_in_nI (by omega) (by omega)
    have v1 : vp_in (nI (3 * k + 1)) (3 * nc) := vp_in_nI (by omega) (by omega)
    have v2 : vp_in (nI (3 * k + 2)) (3 * nc) := vp_in_nI (by omega) (by omega)
    have ihz := ih n (k + 1) (acc + fd f i d k) (by omega) (by omega) hK
    rw [wq_X6_foundAt_5.eq_2]
    simp only [wp_X6_clauseCount, wp_X6_partOf, wp_X6_amountOn, g1, g2, g3, g4, d3 (show nc ≤ 100 by omega), m3c, a1i, a2i, v0, v1, v2, nI_clamp (show 3 * k < 2 ^ 31 by omega), nI_clamp (show 3 * k + 1 < 2 ^ 31 by omega), nI_clamp (show 3 * k + 2 < 2 ^ 31 by omega), a0, a1, a2, true_and, and_true, Option.some.injEq, exists_eq_left', exists_eq_left, forall_eq, forall_eq_apply_imp_iff, true_or, or_true, false_or, or_false, not_true_eq_false, not_false_eq_true, false_and, if_true, if_false, reduceIte]
    rw [if_neg (nI_ge (by omega) (by omega))]
    unfold fd at ihz
    by_cases c1 : f (2 + 3 * k) = i
    · rw [if_pos c1] at ihz ⊢
      by_cases c2 : d < f (4 + 3 * k)
      · rw [if_pos c2] at ihz ⊢
        exact ihz
      · rw [if_neg c2] at ihz ⊢
        exact ihz
    · rw [if_neg c1, Int32.add_zero] at ihz
      rw [if_neg c1]
      exact ihz
theorem l_finds11 (h : Sh ad S) (hs : s < 8) (hc : nc ≤ 4) (e1 : S.A (ad 83) (16 * s + 1) = nI nc ∨ S.A (ad 83) (16 * s + 1) = -1 ∧ nc = 0) (e2 : S.I 768 (ad 80) = d) : ∀ (m n k : Nat) (acc : Int32), k + m = nc → m < n → K (acc + sm (fd (fun q => S.A (ad 83) (16 * s + q)) i d) k m) S → wq_X11_findsBy_5 N K n S (ad 80) (nI s) i acc (nI k) := by
  have v9 : vp_in (nI (16 * s + 1)) 128 := vp_in_nI (by omega) (by omega)
  intro m
  induction m with
  | zero =>
    intro n k acc hk hn2 hK
    obtain ⟨n, rfl⟩ : ∃ z, n = z + 1 := ⟨n - 1, by omega⟩
    rw [sm, Int32.add_zero] at hK
    rw [wq_X11_findsBy_5.eq_2]
    simp only [m16, a1i, v9, nI_clamp (show 16 * s + 1 < 2 ^ 31 by omega), h.k80, h.r777, h.k83, h.l83, true_and, and_true, Option.some.injEq, exists_eq_left', exists_eq_left, forall_eq, forall_eq_apply_imp_iff, true_or, or_true, false_or, or_false, not_true_eq_false, not_false_eq_true, false_and, if_true, if_false, reduceIte]
    rw [if_pos]
    · exact hK
    · rcases e1 with e | ⟨e, e'⟩
      · rw [e]; exact nI_le (by omega) (by omega)
      · rw [e]; exact Int32.le_trans (show (-1 : Int32) ≤ 0 by decide) (nI_pos' (by omega))
  | succ m ih =>
    intro n k acc hk hn2 hK
    obtain ⟨n, rfl⟩ : ∃ z, n = z + 1 := ⟨n - 1, by omega⟩
    rw [sm, ← Int32.add_assoc] at hK
    have e3 : S.A (ad 83) (16 * s + 1) = nI nc := e1.resolve_right (fun e => by omega)
    have v0 : vp_in (nI (16 * s + 2 + 3 * k)) 128 := vp_in_nI (by omega) (by omega)
    have v1 : vp_in (nI (16 * s + 2 + 3 * k + 1)) 128 := vp_in_nI (by omega) (by omega)
    have v2 : vp_in (nI (16 * s + 2 + 3 * k + 2)) 128 := vp_in_nI (by omega) (by omega)
    obtain ⟨f, hf⟩ : ∃ f : Nat → Int32, f = fun q => S.A (ad 83) (16 * s + q) := ⟨_, rfl⟩
    have a0 : S.A (ad 83) (16 * s + 2 + 3 * k) = f (2 + 3 * k) := by rw [hf, Nat.add_assoc]
    have a1 : S.A (ad 83) (16 * s + 2 + 3 * k + 1) = f (3 + 3 * k) := by rw [hf]; congr 1; omega
    have a2 : S.A (ad 83) (16 * s + 2 + 3 * k + 2) = f (4 + 3 * k) := by rw [hf]; congr 1; omega
    rw [← hf] at hK ih
    have ihz := ih n (k + 1) (acc + fd f i d k) (by omega) (by omega) hK
    rw [wq_X11_findsBy_5.eq_2]
    simp only [wq_X11_findsBy_74, wq_X11_findsBy_75, m16, m3d, a1i, a2i, nI_add, v9, v0, v1, v2, e3, e2, nI_clamp (show 16 * s + 1 < 2 ^ 31 by omega), nI_clamp (show 16 * s + 2 + 3 * k < 2 ^ 31 by omega), nI_clamp (show 16 * s + 2 + 3 * k + 1 < 2 ^ 31 by omega), nI_clamp (show 16 * s + 2 + 3 * k + 2 < 2 ^ 31 by omega), a0, a1, a2, h.k80, h.r777, h.k83, h.l83, true_and, and_true, Option.some.injEq, exists_eq_left', exists_eq_left, forall_eq, forall_eq_apply_imp_iff, true_or, or_true, false_or, or_false, not_true_eq_false, not_false_eq_true, false_and, if_true, if_false, reduceIte]
    rw [if_neg (nI_ge (by omega) (by omega))]
    unfold fd at ihz
    by_cases c1 : f (2 + 3 * k) = i
    · rw [if_pos c1] at ihz ⊢
      by_cases c2 : d < f (4 + 3 * k)
      · rw [if_pos c2] at ihz ⊢
        exact ihz
      · rw [if_neg c2] at ihz ⊢
        exact ihz
    · rw [if_neg c1] at ihz ⊢
      exact ihz
end
