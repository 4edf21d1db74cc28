section
variable {N nt : Nat} {ad : Nat → Nat} {S : PS} {T : Nat → Nat} {K : Int32 → PS → Prop}
theorem l_eor {lo hi : Nat} (h : Sh ad S) (h4 : ∀ k, k < nt → S.A (ad 4) k = nI (T k)) (hT : ∀ k, T k < 256) (hn : nt ≤ 200) (hlo : lo < 256) (hhi : hi < 256) : ∀ (m n p : Nat), p + m = nt → m < n → K (nI (rnE T lo hi m p)) S → wq_X8_endOfRun_3 N K n S (ad 4) (nI nt) (nI lo) (nI hi) (nI p) := by
  intro m
  induction m with
  | zero =>
    intro n p hp hn2 hK
    obtain ⟨n, rfl⟩ : ∃ z, n = z + 1 := ⟨n - 1, by omega⟩
    rw [wq_X8_endOfRun_3.eq_2, if_pos (nI_le (by omega) (by omega))]
    exact hK
  | succ m ih =>
    intro n p hp hn2 hK
    obtain ⟨n, rfl⟩ : ∃ z, n = z + 1 := ⟨n - 1, by omega⟩
    have v : vp_in (nI p) 200 := vp_in_nI (by omega) (by decide)
    have ht := hT p
    rw [rnE] at hK
    rw [wq_X8_endOfRun_3.eq_2, if_neg (nI_ge (by omega) (by omega)), nI_clamp (by omega), h4 p (by omega), a1i]
    refine ⟨h.k4, by rw [h.l4]; exact v, ?_⟩
    by_cases c1 : T p < lo
    · rw [if_neg (show ¬ (lo ≤ T p ∧ T p ≤ hi) by omega)] at hK
      rw [if_pos (nI_lt c1 (by omega))]
      exact hK
    rw [if_neg (nI_nlt (by omega) (by omega))]
    refine ⟨by rw [h.l4]; exact v, ?_⟩
    by_cases c2 : hi < T p
    · rw [if_neg (show ¬ (lo ≤ T p ∧ T p ≤ hi) by omega)] at hK
      rw [if_pos (nI_lt c2 (by omega))]
      exact hK
    rw [if_pos (show lo ≤ T p ∧ T p ≤ hi by omega)] at hK
    rw [if_neg (nI_nlt (by omega) (by omega))]
    exact ih n (p + 1) (by omega) (by omega) hK
theorem l_num10 {p l : Nat} (h : Sh ad S) (h4 : ∀ k, k < nt → S.A (ad 4) k = nI (T k)) (hT : ∀ k, T k < 256) (hn : nt ≤ 200) (hpl : p + l ≤ nt) (hd : ∀ k, k < l → 48 ≤ T (p + k)) : ∀ (m n k : Nat), k + m = l → m < n → K (nI (nmb T p l)) S → wq_X8_number_5 N K n S (ad 4) (nI (p + l)) (nI (nmb T p k)) (nI (p + k)) := by
  intro m
  induction m with
  | zero =>
    intro n k hk hn2 hK
    obtain ⟨n, rfl⟩ : ∃ z, n = z + 1 := ⟨n - 1, by omega⟩
    obtain rfl : k = l := by omega
    rw [wq_X8_number_5.eq_2, if_pos (nI_le (by omega) (by omega))]
    exact hK
  | succ m ih =>
    intro n k hk hn2 hK
    obtain ⟨n, rfl⟩ : ∃ z, n = z + 1 := ⟨n - 1, by omega⟩
    have v : vp_in (nI (p + k)) 200 := vp_in_nI (by omega) (by decide)
    rw [wq_X8_number_5.eq_2, if_neg (nI_ge (by omega) (by omega)), nI_clamp (by omega), h4 (p + k) (by omega), a1i]
    refine ⟨h.k4, by rw [h.l4]; exact v, fun v4 e4 => ?_⟩
    have : v4 = nI (nmb T p (k + 1)) := by
      rw [e4, show (10 : Int32) = nI 10 from rfl, show (48 : Int32) = nI 48 from rfl, pk_mul, pk_sub (hd k (by omega)), nI_add, nmb, Nat.mul_comm]
    rw [this]
    exact ih n (k + 1) (by omega) (by omega) hK
theorem l_spell {p i : Nat} (h : Sh ad S) (h4 : ∀ k, k < nt → S.A (ad 4) k = nI (T k)) (hn : nt ≤ 200) (hi : i < 15) (hpl : p + STl.getD i 0 ≤ nt) : ∀ (m n k : Nat), k + m = STl.getD i 0 → m < n → K (if spA T p i m k = true then 1 else 0) S → wq_X8_isSpelled_15 N K n S i (ad 4) (nI p) (nI k) := by
  have hle := STl_le i hi
  intro m
  induction m with
  | zero =>
    intro n k hk hn2 hK
    obtain ⟨n, rfl⟩ : ∃ z, n = z + 1 := ⟨n - 1, by omega⟩
    rw [wq_X8_isSpelled_15.eq_2]
    refine ⟨by omega, ?_⟩
    show (if nI (STl.getD i 0) ≤ nI k then _ else _)
    rw [if_pos (nI_le (by omega) (by omega))]
    exact hK
  | succ m ih =>
    intro n k hk hn2 hK
    obtain ⟨n, rfl⟩ : ∃ z, n = z + 1 := ⟨n - 1, by omega⟩
    have v : vp_in (nI (p + k)) 200 := vp_in_nI (by omega) (by decide)
    rw [spA] at hK
    rw [wq_X8_isSpelled_15.eq_2]
    refine ⟨by omega, ?_⟩
    show (if nI (STl.getD i 0) ≤ nI k then _ else _)
    rw [if_neg (nI_ge (by omega) (by omega)), nI_add, a1i, nI_clamp (show p + k < 2 ^ 31 by omega)]
    refine ⟨by omega, vp_in_nI (by omega) (by omega), h.k4, by rw [h.l4]; exact v, ?_⟩
    rw [nI_clamp (by omega), h4 (p + k) (by omega)]
    by_cases c : (STb.getD i []).getD k 0 &&& 255 = nI (T (p + k))
    · rw [if_pos c]
      rw [decide_eq_true c, Bool.true_and] at hK
      exact ih n (k + 1) (by omega) (by omega) hK
    · rw [if_neg c]
      rw [decide_eq_false c, Bool.false_and, if_neg (by decide)] at hK
      exact hK
theorem sp_no : ∀ i, i < 15 → ∀ (N : Nat) (S : PS) (K : Nat → PS → Prop), wp_X8_spelling N S (nI (300 + i)) K = K i S := by
  intro i hi N S K
  unfold wp_X8_spelling
  obtain rfl | rfl | rfl | rfl | rfl | rfl | rfl | rfl | rfl | rfl | rfl | rfl | rfl | rfl | rfl : i = 0 ∨ i = 1 ∨ i = 2 ∨ i = 3 ∨ i = 4 ∨ i = 5 ∨ i = 6 ∨ i = 7 ∨ i = 8 ∨ i = 9 ∨ i = 10 ∨ i = 11 ∨ i = 12 ∨ i = 13 ∨ i = 14 := by omega
  all_goals simp (decide := true) only [if_true, if_false, reduceIte]
theorem l_wc {p l : Nat} (h : Sh ad S) (h4 : ∀ k, k < nt → S.A (ad 4) k = nI (T k)) (hn : nt ≤ 200) (hpl : p + l ≤ nt) (hN5 : 5000 ≤ N) : ∀ (m n i : Nat), i + m = 15 → m < n → K (wcf T p l m i) S → wq_X8_wordCode_4 N K n S (ad 4) (nI p) (nI (p + l)) (nI (300 + i)) := by
  intro m
  induction m with
  | zero =>
    intro n i hi hn2 hK
    obtain ⟨n, rfl⟩ : ∃ z, n = z + 1 := ⟨n - 1, by omega⟩
    rw [wq_X8_wordCode_4.eq_2, if_pos (show 314 < nI (300 + i) from nI_lt (a := 314) (by omega) (by omega))]
    exact hK
  | succ m ih =>
    intro n i hi hn2 hK
    obtain ⟨n, rfl⟩ : ∃ z, n = z + 1 := ⟨n - 1, by omega⟩
    have hle := STl_le i (by omega)
    rw [wcf] at hK
    rw [wq_X8_wordCode_4.eq_2, if_neg (show ¬ 314 < nI (300 + i) from nI_nlt (a := 314) (by omega) (by decide)), sp_no i (by omega), a1i]
    unfold wp_X8_isSpelled
    refine ⟨by omega, ?_⟩
    rw [pk_sub (by omega), Nat.add_sub_cancel_left]
    show (if nI (STl.getD i 0) = nI l then _ else _)
    by_cases c : STl.getD i 0 = l
    · rw [if_pos (by rw [c])]
      refine l_spell h h4 hn (by omega) (by omega) (STl.getD i 0) N 0 (by omega) (by omega) ?_
      have es : spb T p l i = spA T p i (STl.getD i 0) 0 := by unfold spb; rw [decide_eq_true c, Bool.true_and, c]
      rw [es] at hK
      by_cases d : spA T p i (STl.getD i 0) 0 = true
      · rw [if_pos d] at hK ⊢
        rw [if_neg (by decide)]
        exact hK
      · rw [if_neg d] at hK ⊢
        rw [if_pos rfl]
        exact ih n (i + 1) (by omega) (by omega) hK
    · have es : spb T p l i = false := by unfold spb; rw [decide_eq_false c, Bool.false_and]
      rw [es, if_neg (by decide)] at hK
      rw [if_neg (ii_ne (by omega) (by omega) c)]
      show (if (0 : Int32) = 0 then _ else _)
      rw [if_pos rfl]
      exact ih n (i + 1) (by omega) (by omega) hK
end
/-- c tokens lie in the class's rows -/
def TK (S : PS) (ad : Nat → Nat) (T : Nat → Nat) (nt c : Nat) : Prop := S.I 579 (ad 5) = nI c ∧ ∀ k, k < c → S.A (ad 16) k = cdp T nt (pos T nt k) ∧ S.A (ad 17) k = vlp T nt (pos T nt k) ∧ S.A (ad 18) k = nI (pos T nt k)
section
variable {N nt : Nat} {ad : Nat → Nat} {S : PS} {T : Nat → Nat} {K : PS → Prop}
theorem w_add {c : Nat} {a b d : Int32} (h : Sh ad S) (hk : TK S ad T nt c) (hc : c < 201) (ea : a = cdp T nt (pos T nt c)) (eb : b = vlp T nt (pos T nt c)) (ed : d = nI (pos T nt c)) (hK : ∀ S', Un ad (fun g n => n = 5 ∧ g = 579) (fun n => 16 ≤ n ∧ n ≤ 18) False S S' → TK S' ad T nt (c + 1) → K S') : wp_X8_add N S (ad 5) a b d K := by
  obtain ⟨k1, k2⟩ := hk
  have v : vp_in (nI c) 201 := vp_in_nI hc (by decide)
  unfold wp_X8_add
  refine ⟨h.k5, ad 16, h.r576, h.k16, ?_⟩
  rw [h.l16, k1, if_neg (nI_ge hc (by decide)), nI_clamp (by omega)]
  refine ⟨ad 16, h.r576, h.k16, by rw [h.l16]; exact v, fun S8 e8 => ?_⟩
  have i8 : S8.I 579 (ad 5) = nI c := by rw [e8]; exact k1
  have g8 : Sh ad S8 := by rw [e8]; exact h
  rw [i8, nI_clamp (by omega)]
  refine ⟨ad 17, g8.r577, g8.k17, by rw [g8.l17]; exact v, fun S13 e13 => ?_⟩
  have i13 : S13.I 579 (ad 5) = nI c := by rw [e13]; exact i8
  have g13 : Sh ad S13 := by rw [e13]; exact g8
  rw [i13, nI_clamp (by omega)]
  refine ⟨ad 18, g13.r578, g13.k18, by rw [g13.l18]; exact v, fun S18 e18 S20 e20 => ?_⟩
  have i18 : S18.I 579 (ad 5) = nI c := by rw [e18]; exact i13
  rw [i18, a1i] at e20
  refine hK S20 ?_ ⟨by rw [e20]; simp only [setI_K, setI_ln, setI_R, setI_Q, setI_I, setI_J, setI_A, setI_B, setJ_K, setJ_ln, setJ_R, setJ_Q, setJ_I, setJ_J, setJ_A, setJ_B, setR_K, setR_ln, setR_R, setR_Q, setR_I, setR_J, setR_A, setR_B, setA_K, setA_ln, setA_R, setA_Q, setA_I, setA_J, setA_A, setA_B, setB_K, setB_ln, setB_R, setB_Q, setB_I, setB_J, setB_A, setB_B, setQ_K, setQ_ln, setQ_R, setQ_Q, setQ_I, setQ_J, setQ_A, setQ_B, u2_ap, and_self, true_and, and_true, Option.some.injEq, exists_eq_left', exists_eq_left, forall_eq, forall_eq_apply_imp_iff, true_or, or_true, false_or, or_false, not_true_eq_false, not_false_eq_true, false_and, if_true, if_false, reduceIte], fun k hk => ?_⟩
  · rw [e20, e18, e13, e8]
    exact Un.tr (Un.tr (Un.tr (Un.setA (by omega)) (Un.setA (by omega))) (Un.setA (by omega))) (Un.setI ⟨rfl, rfl⟩)
  · rw [e20, e18, e13, e8]
    simp only [setI_K, setI_ln, setI_R, setI_Q, setI_I, setI_J, setI_A, setI_B, setJ_K, setJ_ln, setJ_R, setJ_Q, setJ_I, setJ_J, setJ_A, setJ_B, setR_K, setR_ln, setR_R, setR_Q, setR_I, setR_J, setR_A, setR_B, setA_K, setA_ln, setA_R, setA_Q, setA_I, setA_J, setA_A, setA_B, setB_K, setB_ln, setB_R, setB_Q, setB_I, setB_J, setB_A, setB_B, setQ_K, setQ_ln, setQ_R, setQ_Q, setQ_I, setQ_J, setQ_A, setQ_B, u2_ap, h.adj, Nat.reduceEqDiff, true_and, and_true, Option.some.injEq, exists_eq_left', exists_eq_left, forall_eq, forall_eq_apply_imp_iff, true_or, or_true, false_or, or_false, not_true_eq_false, not_false_eq_true, false_and, if_true, if_false, reduceIte]
    by_cases e : k = c
    · rw [if_pos e, if_pos e, if_pos e, e]
      exact ⟨ea, eb, ed⟩
    · rw [if_neg e, if_neg e, if_neg e]
      exact k2 k (by omega)
theorem l_ra (hT : ∀ k, T k < 256) (hn : nt ≤ 200) (hN5 : 5000 ≤ N) (hK : ∀ S' c, Un ad (fun g n => n = 5 ∧ g = 579) (fun n => 16 ≤ n ∧ n ≤ 18) False S S' → c ≤ 200 → pos T nt c = nt → (∀ j, j < c → pos T nt j < nt) → TK S' ad T nt (c + 1) → K S') (h : Sh ad S) (h4 : ∀ k, k < nt → S.A (ad 4) k = nI (T k)) : ∀ (m n p tu c : Nat) (S1 : PS), nt - p = m → p ≤ nt → tu ≤ p → c ≤ p → m < n → sks T nt p = pos T nt c → (∀ j, j < c → pos T nt j < nt) → Un ad (fun g n => n = 5 ∧ g = 579) (fun n => 16 ≤ n ∧ n ≤ 18) False S S1 → TK S1 ad T nt c → wq_X8_readAll_15 N K n S1 (ad 5) (ad 4) (nI nt) (nI p) (nI tu) := by
  intro m
  induction m using Nat.strongRecOn with
  | ind m ih =>
    intro n p tu c S1 hm hp htu hc hn2 hsk hps hU hk
    obtain ⟨n, rfl⟩ : ∃ z, n = z + 1 := ⟨n - 1, by omega⟩
    have g1 := hU.sh h
    have h41 : ∀ k, k < nt → S1.A (ad 4) k = nI (T k) := by rw [hU.A h (by omega)]; exact h4
    rw [wq_X8_readAll_15.eq_2]
    by_cases c0 : p = nt
    · have fin : wq_X8_readAll_171 N K S1 (ad 5) (nI nt) := by
        have ep : pos T nt c = nt := by rw [← hsk, sks_ne T nt p (Or.inr (by omega))]; exact c0
        refine ⟨g1.k5, w_add g1 hk (by omega) (by rw [ep]; unfold cdp; rw [if_pos (Nat.le_refl _)]) (by rw [ep]; unfold vlp; rw [if_pos (Nat.le_refl _)]) (by rw [ep]) (fun S' hU' hk' => hK S' c (Un.tr hU hU') (by omega) ep hps hk')⟩
      by_cases c1 : (200 : Int32) ≤ nI tu
      · rw [if_pos c1]; exact fin
      · rw [if_neg c1, if_pos (nI_le (by omega) (by omega))]; exact fin
    have v : vp_in (nI p) 200 := vp_in_nI (by omega) (by decide)
    have ht := hT p
    rw [if_neg (show ¬ (200 : Int32) ≤ nI tu from nI_ge (b := 200) (by omega) (by decide)), if_neg (nI_ge (by omega) (by omega)), nI_clamp (by omega), h41 p (by omega), a1i]
    refine ⟨g1.k4, by rw [g1.l4]; exact v, fun v12 e12 v13 e13 => ?_⟩
    rw [e12, e13]
    have td := tnd_bd T nt p (by omega)
    -- a token more
    have more : T p ≠ 32 → ∀ S2, Un ad (fun g n => n = 5 ∧ g = 579) (fun n => 16 ≤ n ∧ n ≤ 18) False S S2 → TK S2 ad T nt (c + 1) → wq_X8_readAll_15 N K n S2 (ad 5) (ad 4) (nI nt) (nI (tnd T nt p)) (nI tu + 1) := by
      intro hne S2 hU2 hk2
      have ep : pos T nt c = p := by rw [← hsk, sks_ne T nt p (Or.inl hne)]
      rw [a1i]
      refine ih (nt - tnd T nt p) (by omega) n (tnd T nt p) (tu + 1) (c + 1) S2 rfl td.2 (by omega) (by omega) (by omega) (by rw [pos, ep]) (fun j hj => ?_) hU2 hk2
      by_cases e : j = c
      · rw [e, ep]; omega
      · exact hps j (by omega)
    have ep : T p ≠ 32 → pos T nt c = p := fun hne => by rw [← hsk, sks_ne T nt p (Or.inl hne)]
    by_cases c1 : 97 ≤ T p ∧ T p ≤ 122
    · unfold wp_X8_isLetter
      rw [if_neg (show ¬ nI (T p) < 97 from nI_nlt (b := 97) (by omega) (by omega)), if_neg (show ¬ 122 < nI (T p) from nI_nlt (a := 122) (by omega) (by decide))]
      show (if (1 : Int32) = 0 then _ else _)
      rw [if_neg (show ¬ (1 : Int32) = 0 by decide)]
      have ee : tnd T nt p = rnE T 97 122 (nt - p) p := by unfold tnd; rw [if_neg (by omega), if_pos c1]
      refine l_eor (lo := 97) (hi := 122) g1 h41 hT hn (by decide) (by decide) (nt - p) N p (by omega) (by omega) ?_
      rw [← ee]
      have ewl : nI (tnd T nt p) = nI (p + (tnd T nt p - p)) := by congr 1; omega
      rw [ewl]
      refine l_wc g1 h41 hn (by omega) hN5 15 N 0 (by omega) (by omega) ⟨g1.k5, w_add g1 hk (by omega) ?_ ?_ ?_ (fun S2 hU2 hk2 => ?_)⟩
      · rw [ep (by omega)]; unfold cdp; rw [if_neg (by omega), if_pos c1]
      · rw [ep (by omega)]; unfold vlp; rw [if_neg (by omega), if_pos c1]
      · rw [ep (by omega)]
      · rw [← ewl]
        exact more (by omega) S2 (Un.tr hU hU2) hk2
    have nolet : ∀ K' : Int32 → PS → Prop, K' 0 S1 → wp_X8_isLetter N S1 (nI (T p)) K' := by
      intro K' hK'
      unfold wp_X8_isLetter
      by_cases d : T p < 97
      · rw [if_pos (show nI (T p) < 97 from nI_lt (b := 97) d (by decide))]; exact hK'
      · rw [if_neg (show ¬ nI (T p) < 97 from nI_nlt (b := 97) (by omega) (by omega)), if_pos (show 122 < nI (T p) from nI_lt (a := 122) (by omega) (by omega))]; exact hK'
    refine nolet _ ?_
    rw [if_pos rfl]
    by_cases c2 : 48 ≤ T p ∧ T p ≤ 57
    · unfold wp_X8_isDigit
      rw [if_neg (show ¬ nI (T p) < 48 from nI_nlt (b := 48) (by omega) (by omega)), if_neg (show ¬ 57 < nI (T p) from nI_nlt (a := 57) (by omega) (by decide))]
      show (if (1 : Int32) = 0 then _ else _)
      rw [if_neg (show ¬ (1 : Int32) = 0 by decide)]
      have ee : tnd T nt p = rnE T 48 57 (nt - p) p := by unfold tnd; rw [if_neg (by omega), if_neg c1, if_pos c2]
      have hdig := (rnE_bd T 48 57 (nt - p) p).2.2
      rw [← ee] at hdig
      refine l_eor (lo := 48) (hi := 57) g1 h41 hT hn (by decide) (by decide) (nt - p) N p (by omega) (by omega) ?_
      rw [← ee, pk_sub (by omega)]
      by_cases c3 : tnd T nt p - p ≤ 4
      · rw [if_neg (show ¬ 4 < nI (tnd T nt p - p) from nI_nlt (a := 4) (by omega) (by decide))]
        unfold wq_X8_readAll_107 wq_X8_readAll_124
        rw [if_neg (by decide), if_neg (by decide)]
        have ewl : nI (tnd T nt p) = nI (p + (tnd T nt p - p)) := by congr 1; omega
        rw [ewl]
        refine l_num10 (l := tnd T nt p - p) g1 h41 hT hn (by omega) (fun k hk' => (hdig (p + k) (by omega) (by omega)).1) (tnd T nt p - p) N 0 (by omega) (by omega) ⟨g1.k5, w_add g1 hk (by omega) ?_ ?_ ?_ (fun S2 hU2 hk2 => ?_)⟩
        · rw [ep (by omega)]; unfold cdp; rw [if_neg (by omega), if_neg c1, if_pos c2, if_pos c3]
        · rw [ep (by omega)]; unfold vlp; rw [if_neg (by omega), if_neg c1, if_pos c2, if_pos c3]
        · rw [ep (by omega)]
        · rw [← ewl]
          exact more (by omega) S2 (Un.tr hU hU2) hk2
      · rw [if_pos (show 4 < nI (tnd T nt p - p) from nI_lt (a := 4) (by omega) (by omega))]
        unfold wq_X8_readAll_107 wq_X8_readAll_124
        rw [if_pos rfl, if_pos rfl]
        refine ⟨g1.k5, w_add g1 hk (by omega) ?_ ?_ ?_ (fun S2 hU2 hk2 => ?_)⟩
        · rw [ep (by omega)]; unfold cdp; rw [if_neg (by omega), if_neg c1, if_pos c2, if_neg c3]
        · rw [ep (by omega)]; unfold vlp; rw [if_neg (by omega), if_neg c1, if_pos c2, if_neg c3]
        · rw [ep (by omega)]
        · exact more (by omega) S2 (Un.tr hU hU2) hk2
    have nodig : ∀ K' : Int32 → PS → Prop, K' 0 S1 → wp_X8_isDigit N S1 (nI (T p)) K' := by
      intro K' hK'
      unfold wp_X8_isDigit
      by_cases d : T p < 48
      · rw [if_pos (show nI (T p) < 48 from nI_lt (b := 48) d (by decide))]; exact hK'
      · rw [if_neg (show ¬ nI (T p) < 48 from nI_nlt (b := 48) (by omega) (by omega)), if_pos (show 57 < nI (T p) from nI_lt (a := 57) (by omega) (by omega))]; exact hK'
    refine nodig _ ?_
    rw [if_pos rfl]
    have ee : tnd T nt p = p + 1 := by unfold tnd; rw [if_neg (by omega), if_neg c1, if_neg c2]
    by_cases c3 : T p = 32
    · rw [if_pos (show nI (T p) = 32 by rw [c3]; rfl)]
      unfold wq_X8_readAll_162
      rw [a1i]
      exact ih (nt - (p + 1)) (by omega) n (p + 1) (tu + 1) c S1 rfl (by omega) (by omega) (by omega) (by omega) (by rw [← sks_32 T nt p (by omega) c3]; exact hsk) hps hU hk
    · rw [if_neg (show ¬ nI (T p) = 32 from ii_ne (b := 32) (by omega) (by decide) c3)]
      refine ⟨g1.k5, w_add g1 hk (by omega) ?_ ?_ ?_ (fun S2 hU2 hk2 => ?_)⟩
      · rw [ep c3]; unfold cdp; rw [if_neg (by omega), if_neg c1, if_neg c2]
      · rw [ep c3]; unfold vlp; rw [if_neg (by omega), if_neg c1, if_neg c2]
      · rw [ep c3]
      · have := more c3 S2 (Un.tr hU hU2) hk2
        rw [ee] at this
        exact this
/-- the class's reading of the tape -/
theorem w_read (hT : ∀ k, T k < 256) (hn : nt ≤ 200) (hN5 : 5000 ≤ N) (h : Sh ad S) (e : S.I 708 (ad 1) = nI nt) (h4 : ∀ k, k < nt → S.A (ad 4) k = nI (T k)) (hK : ∀ S' c, Un ad (fun g n => (n = 5 ∧ (g = 579 ∨ g = 580)) ∨ (n = 1 ∧ g = 708)) (fun n => 16 ≤ n ∧ n ≤ 18) False S S' → c ≤ 200 → pos T nt c = nt → (∀ j, j < c → pos T nt j < nt) → TK S' ad T nt (c + 1) → S'.I 580 (ad 5) = nI 0 → S'.I 708 (ad 1) = 0 → K S') : wp_X10_useTape N S (ad 1) K := by
  refine ⟨h.k1, ad 5, h.r709, ad 4, h.r707, h.k5, ⟨h.k5, fun S2 e2 S4 e4 => ?_⟩⟩
  have u4 : Un ad (fun g n => n = 5 ∧ (g = 579 ∨ g = 580)) (fun _ => False) False S S4 := by rw [e4, e2]; exact Un.tr (Un.setI (by omega)) (Un.setI (by omega))
  have g4 := u4.sh h
  have z0 : sks T nt 0 = pos T nt 0 := rfl
  have t0 : TK S4 ad T nt 0 := ⟨by rw [e4, e2]; simp only [setI_K, setI_ln, setI_R, setI_Q, setI_I, setI_J, setI_A, setI_B, setJ_K, setJ_ln, setJ_R, setJ_Q, setJ_I, setJ_J, setJ_A, setJ_B, setR_K, setR_ln, setR_R, setR_Q, setR_I, setR_J, setR_A, setR_B, setA_K, setA_ln, setA_R, setA_Q, setA_I, setA_J, setA_A, setA_B, setB_K, setB_ln, setB_R, setB_Q, setB_I, setB_J, setB_A, setB_B, setQ_K, setQ_ln, setQ_R, setQ_Q, setQ_I, setQ_J, setQ_A, setQ_B, u2_ap, Nat.reduceEqDiff, and_self, true_and, and_true, Option.some.injEq, exists_eq_left', exists_eq_left, forall_eq, forall_eq_apply_imp_iff, true_or, or_true, false_or, or_false, not_true_eq_false, not_false_eq_true, false_and, if_true, if_false, reduceIte]; rfl, fun k hk => absurd hk (by omega)⟩
  have i580 : S4.I 580 (ad 5) = nI 0 := by rw [e4]; simp only [setI_K, setI_ln, setI_R, setI_Q, setI_I, setI_J, setI_A, setI_B, setJ_K, setJ_ln, setJ_R, setJ_Q, setJ_I, setJ_J, setJ_A, setJ_B, setR_K, setR_ln, setR_R, setR_Q, setR_I, setR_J, setR_A, setR_B, setA_K, setA_ln, setA_R, setA_Q, setA_I, setA_J, setA_A, setA_B, setB_K, setB_ln, setB_R, setB_Q, setB_I, setB_J, setB_A, setB_B, setQ_K, setQ_ln, setQ_R, setQ_Q, setQ_I, setQ_J, setQ_A, setQ_B, u2_ap, and_self, true_and, and_true, Option.some.injEq, exists_eq_left', exists_eq_left, forall_eq, forall_eq_apply_imp_iff, true_or, or_true, false_or, or_false, not_true_eq_false, not_false_eq_true, false_and, if_true, if_false, reduceIte]; rfl
  rw [e]
  refine l_ra (S := S4) hT hn hN5 (fun S5 c u5 c1 c2 c3 k5 => ?_) g4 (by rw [u4.A h (by simp)]; exact h4) nt N 0 0 0 S4 (by omega) (by omega) (by omega) (by omega) (by omega) z0 (fun j hj => absurd hj (by omega)) Un.rf t0
  have g5 := u5.sh g4
  refine ⟨g5.k1, fun S8 e8 => hK S8 c ?_ c1 c2 c3 ?_ ?_ ?_⟩
  · refine Un.tr (u4.mono (fun _ _ e => by omega) (fun _ e => absurd e id) id) (Un.tr (u5.mono (fun _ _ e => by omega) (fun _ e => e) id) ?_)
    rw [e8]; exact Un.setI (by omega)
  · obtain ⟨k1, k2⟩ := k5
    refine ⟨?_, by rw [e8]; exact k2⟩
    rw [e8]; simp only [setI_K, setI_ln, setI_R, setI_Q, setI_I, setI_J, setI_A, setI_B, setJ_K, setJ_ln, setJ_R, setJ_Q, setJ_I, setJ_J, setJ_A, setJ_B, setR_K, setR_ln, setR_R, setR_Q, setR_I, setR_J, setR_A, setR_B, setA_K, setA_ln, setA_R, setA_Q, setA_I, setA_J, setA_A, setA_B, setB_K, setB_ln, setB_R, setB_Q, setB_I, setB_J, setB_A, setB_B, setQ_K, setQ_ln, setQ_R, setQ_Q, setQ_I, setQ_J, setQ_A, setQ_B, u2_ap, Nat.reduceEqDiff, true_and, and_true, Option.some.injEq, exists_eq_left', exists_eq_left, forall_eq, forall_eq_apply_imp_iff, true_or, or_true, false_or, or_false, not_true_eq_false, not_false_eq_true, false_and, if_true, if_false, reduceIte]; exact k1
  · rw [e8]; simp only [setI_K, setI_ln, setI_R, setI_Q, setI_I, setI_J, setI_A, setI_B, setJ_K, setJ_ln, setJ_R, setJ_Q, setJ_I, setJ_J, setJ_A, setJ_B, setR_K, setR_ln, setR_R, setR_Q, setR_I, setR_J, setR_A, setR_B, setA_K, setA_ln, setA_R, setA_Q, setA_I, setA_J, setA_A, setA_B, setB_K, setB_ln, setB_R, setB_Q, setB_I, setB_J, setB_A, setB_B, setQ_K, setQ_ln, setQ_R, setQ_Q, setQ_I, setQ_J, setQ_A, setQ_B, u2_ap, Nat.reduceEqDiff, true_and, and_true, Option.some.injEq, exists_eq_left', exists_eq_left, forall_eq, forall_eq_apply_imp_iff, true_or, or_true, false_or, or_false, not_true_eq_false, not_false_eq_true, false_and, if_true, if_false, reduceIte]
    rw [u5.I g4 (by omega)]; exact i580
  · rw [e8]; simp only [setI_K, setI_ln, setI_R, setI_Q, setI_I, setI_J, setI_A, setI_B, setJ_K, setJ_ln, setJ_R, setJ_Q, setJ_I, setJ_J, setJ_A, setJ_B, setR_K, setR_ln, setR_R, setR_Q, setR_I, setR_J, setR_A, setR_B, setA_K, setA_ln, setA_R, setA_Q, setA_I, setA_J, setA_A, setA_B, setB_K, setB_ln, setB_R, setB_Q, setB_I, setB_J, setB_A, setB_B, setQ_K, setQ_ln, setQ_R, setQ_Q, setQ_I, setQ_J, setQ_A, setQ_B, u2_ap, and_self, true_and, and_true, Option.some.injEq, exists_eq_left', exists_eq_left, forall_eq, forall_eq_apply_imp_iff, true_or, or_true, false_or, or_false, not_true_eq_false, not_false_eq_true, false_and, if_true, if_false, reduceIte]
end
