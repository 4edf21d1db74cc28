theorem gR_len (D W : Nat → Nat) (n : Nat) : ∀ t u, t ≤ u → (gR D W n t).length ≤ (gR D W n u).length := by
  intro t u
  induction u with
  | zero => intro h; obtain rfl : t = 0 := by omega
            exact Nat.le_refl _
  | succ u ih =>
    intro h
    by_cases c : t = u + 1
    · rw [c]; exact Nat.le_refl _
    · rw [gR, List.length_append]
      have := ih (by omega)
      omega
section
variable {N np nr ns nh dy no : Nat} {ad : Nat → Nat} {S : PS} {w : Int32}
/-- the runs of a way in their order, the last first -/
def ordL (S : PS) (ad : Nat → Nat) (w : Int32) (nr : Nat) : List Nat := oR (rdy (S.A (ad 82))) (rwy (S.A (ad 82)) w) nr
theorem ord_g (hN : RN S ad np nr ns nh dy no) : ordL S ad w nr = gR (rdy (S.A (ad 82))) (rwy (S.A (ad 82)) w) nr (dy + 1) := oR_gR _ _ (dy + 1) nr (fun r hr => by have := rd_at hN hr; omega)
theorem ord_len (hN : RN S ad np nr ns nh dy no) : (ordL S ad w nr).length ≤ 40 := by
  have h1 : (ordL S ad w nr).length ≤ nr := oR_len _ _ nr
  have hb := hN.1
  omega
theorem w_order10 {K : Int32 → PS → Prop} (h : Sh ad S) (hN : RN S ad np nr ns nh dy no) (hN5 : 5000 ≤ N) (hK : ∀ S', Un ad PIz (fun n => n = 11) False S S' → stn (S'.A (ad 11)) 0 (ordL S ad w nr) → K (nI (ordL S ad w nr).length) S') : wp_X9_orderRuns N S (ad 2) w (ad 11) K := by
  have hb := hN.1
  exact l_ord5 h hN hN5 hK nr N 0 S (by omega) (by omega) Un.rf trivial
theorem l_srt4 {K : Int32 → PS → Prop} (h : Sh ad S) (hN : RN S ad np nr ns nh dy no) (hN5 : 5000 ≤ N) (hK : ∀ S', Un ad PIz (fun n => n = 89) False S S' → stn (S'.A (ad 89)) 0 (ordL S ad w nr) → K (nI (ordL S ad w nr).length) S') : ∀ (m n d : Nat) (S1 : PS), d + m = dy + 1 → m < n → Un ad PIz (fun n => n = 89) False S S1 → stn (S1.A (ad 89)) 0 (gR (rdy (S.A (ad 82))) (rwy (S.A (ad 82)) w) nr d) → wq_X11_sortRuns_4 N K n S1 (ad 80) w (nI (gR (rdy (S.A (ad 82))) (rwy (S.A (ad 82)) w) nr d).length) (nI d) := by
  have hb := hN.1
  have hol := ord_len (w := w) hN
  rw [ord_g hN] at hK hol
  intro m
  induction m with
  | zero =>
    intro n d S1 hd hn hU hs
    obtain ⟨n, rfl⟩ : ∃ z, n = z + 1 := ⟨n - 1, by omega⟩
    obtain rfl : d = dy + 1 := by omega
    have g1 := hU.sh h
    have e1 : S1.I 768 (ad 80) = nI dy := (hU.I h (by unfold PIz; omega)).trans hN.2.2.1.1
    rw [wq_X11_sortRuns_4.eq_2, e1, if_pos (nI_lt (by omega) (by omega))]
    exact ⟨g1.k80, hK S1 hU hs⟩
  | succ m ih =>
    intro n d S1 hd hn hU hs
    obtain ⟨n, rfl⟩ : ∃ z, n = z + 1 := ⟨n - 1, by omega⟩
    have g1 := hU.sh h
    have e1 : S1.I 768 (ad 80) = nI dy := (hU.I h (by unfold PIz; omega)).trans hN.2.2.1.1
    have hl := gR_len (rdy (S.A (ad 82))) (rwy (S.A (ad 82)) w) nr (d + 1) (dy + 1) (by omega)
    have hl0 := gR_len (rdy (S.A (ad 82))) (rwy (S.A (ad 82)) w) nr d (dy + 1) (by omega)
    rw [wq_X11_sortRuns_4.eq_2, e1, if_neg (nI_nlt (by omega) (by omega))]
    refine ⟨g1.k80, ?_⟩
    have := l_srt15 (N := N) (K := K) (S := S) (w := w) (d := d) (k4 := fun S a0 x1 x2 x3 => wq_X11_sortRuns_4 N K n S a0 x1 x2 x3) h hN (by omega) (by omega) (fun S' hU' hs' => ih n (d + 1) S' (by omega) (by omega) hU' hs') nr N 0 S1 (by omega) (by omega) hU hs (by show 0 + nr + _ ≤ 1000; omega)
    exact this
theorem w_sort11 {K : Int32 → PS → Prop} (h : Sh ad S) (hN : RN S ad np nr ns nh dy no) (hN5 : 5000 ≤ N) (hK : ∀ S', Un ad PIz (fun n => n = 89) False S S' → stn (S'.A (ad 89)) 0 (ordL S ad w nr) → K (nI (ordL S ad w nr).length) S') : wp_X11_sortRuns N S (ad 80) w K := by
  have hb := hN.1
  exact l_srt4 h hN hN5 hK (dy + 1) N 0 S (by omega) (by omega) Un.rf trivial
end
/-- a number's size -/
def ab64 (a : Int64) : Int64 := if 0 < a then a else -a
theorem ab64_l (a : Int64) : (if 0 ≤ lg_cmp a 0 then a else -a) = ab64 a := by
  unfold ab64
  by_cases c : 0 < a
  · rw [if_pos c, if_pos ((lg_cmp_ge _ _).mpr (Int64.le_of_lt c))]
  · rw [if_neg c]
    by_cases c2 : 0 ≤ lg_cmp a 0
    · have c3 := (lg_cmp_ge _ _).mp c2
      have hz : (0 : Int64).toInt = 0 := rfl
      rw [Int64.lt_iff_toInt_lt, hz] at c
      rw [Int64.le_iff_toInt_le, hz] at c3
      have ha0 : a = 0 := Int64.toInt_inj.mp (by rw [hz]; omega)
      rw [if_pos c2, ha0]
      rfl
    · rw [if_neg c2]
/-- a fraction in lowest terms, in the reference's two fields -/
theorem w_frac2 {N : Nat} {ad : Nat → Nat} {S : PS} {a : Int64} {y : Nat} (hN5 : 5000 ≤ N) (h : -(2 ^ 63) < a.toInt) (hy0 : 0 < y) (hy : y < 2 ^ 63) : ∃ g : Int64, (∀ (pt : Int32) (K : Int64 → PS → Prop), K ((if pt = 0 then a else lN y) / g) S → wp_X10_fraction N S a (lN y) pt K) ∧ ∀ (S1 : PS) (K1 : PS → Prop), Sh ad S1 → (∀ S2, Un ad PIz (fun _ => False) False S1 S2 → S2.J 790 (ad 80) = a / g → S2.J 791 (ad 80) = lN y / g → K1 S2) → wp_X11_lowest N S1 (ad 80) a (lN y) K1 := by
  obtain ⟨x, hx, e1, e2⟩ := abs64 h
  have hg : 0 < Nat.gcd x y := Nat.gcd_pos_of_pos_right _ hy0
  have hgle : Nat.gcd x y ≤ y := Nat.gcd_le_right _ hy0
  have hgn := lN_ne hg (by omega)
  refine ⟨lN (Nat.gcd x y), fun pt K hK => ?_, fun S1 K1 g hK => ?_⟩
  · unfold wp_X10_fraction wp_X10_commonDivisor
    have hgt : 0 < lg_cmp (lN (Nat.gcd x y)) 0 := (lg_cmp_gt _ _).mpr ((pk_lLT (a := 0) (by decide) (by omega)).mpr hg)
    rw [e1]
    refine l_gcd10 63 x y N 0 hx hy hy (by omega) (by omega) ?_
    rw [if_pos hgt]
    by_cases c : pt = 0
    · rw [if_pos c] at hK ⊢
      exact ⟨hgn, hK⟩
    · rw [if_neg c] at hK ⊢
      exact ⟨hgn, hK⟩
  · have hw : wq_X11_lowest_17 N K1 N S1 (ad 80) a (lN y) (lN x) (lN y) := by
      refine l_gcd11 g.k80 63 x y N hx hy hy (by omega) hg (fun S' eS => hK S' ?_ ?_ ?_)
      · rw [eS]; exact Un.tr Un.setJ Un.setJ
      · rw [eS]; simp only [setI_K, setI_ln, setI_R, setI_Q, setI_I, setI_J, setI_A, setI_B, setJ_K, setJ_ln, setJ_R, setJ_Q, setJ_I, setJ_J, setJ_A, setJ_B, setR_K, setR_ln, setR_R, setR_Q, setR_I, setR_J, setR_A, setR_B, setA_K, setA_ln, setA_R, setA_Q, setA_I, setA_J, setA_A, setA_B, setB_K, setB_ln, setB_R, setB_Q, setB_I, setB_J, setB_A, setB_B, setQ_K, setQ_ln, setQ_R, setQ_Q, setQ_I, setQ_J, setQ_A, setQ_B, u2_ap, Nat.reduceEqDiff, and_self, true_and, and_true, Option.some.injEq, exists_eq_left', exists_eq_left, forall_eq, forall_eq_apply_imp_iff, true_or, or_true, false_or, or_false, not_true_eq_false, not_false_eq_true, false_and, if_true, if_false, reduceIte]
      · rw [eS]; simp only [setI_K, setI_ln, setI_R, setI_Q, setI_I, setI_J, setI_A, setI_B, setJ_K, setJ_ln, setJ_R, setJ_Q, setJ_I, setJ_J, setJ_A, setJ_B, setR_K, setR_ln, setR_R, setR_Q, setR_I, setR_J, setR_A, setR_B, setA_K, setA_ln, setA_R, setA_Q, setA_I, setA_J, setA_A, setA_B, setB_K, setB_ln, setB_R, setB_Q, setB_I, setB_J, setB_A, setB_B, setQ_K, setQ_ln, setQ_R, setQ_Q, setQ_I, setQ_J, setQ_A, setQ_B, u2_ap, Nat.reduceEqDiff, and_self, true_and, and_true, Option.some.injEq, exists_eq_left', exists_eq_left, forall_eq, forall_eq_apply_imp_iff, true_or, or_true, false_or, or_false, not_true_eq_false, not_false_eq_true, false_and, if_true, if_false, reduceIte]
    unfold wp_X11_lowest wq_X11_lowest_12
    by_cases c : 0 ≤ lg_cmp a 0
    · rw [if_pos c] at e2 ⊢
      rw [← e2] at hw
      exact hw
    · rw [if_neg c] at e2 ⊢
      rw [← e2] at hw
      exact hw
/-- the cuts: so the runs' numbers, all their sum, c how many; m cuts from k on -/
def jm (so : Nat → Int64) (all : Int64) (c : Nat) : Nat → Nat → Int64 → Int64 → Int64 → Nat → Int64 × Int64 × Nat
  | 0, _, _, up, dn, b => (up, dn, b)
  | m + 1, k, ah, up, dn, b => if b = 0 then jm so all c m (k + 1) (ah + so (k - 1)) (lN k * all - lN c * (ah + so (k - 1))) (lN k * lN (c - k)) k else if lg_cmp (ab64 (lN k * all - lN c * (ah + so (k - 1))) * dn) (ab64 up * (lN k * lN (c - k))) ≤ 0 then jm so all c m (k + 1) (ah + so (k - 1)) up dn b else jm so all c m (k + 1) (ah + so (k - 1)) (lN k * all - lN c * (ah + so (k - 1))) (lN k * lN (c - k)) k
def z64 (a : Int) : Int64 := Int64.ofInt a
theorem z64_add (a b : Int) : z64 a + z64 b = z64 (a + b) := (Int64.ofInt_add a b).symm
theorem z64_sub (a b : Int) : z64 a - z64 b = z64 (a - b) := (Int64.ofInt_sub a b).symm
theorem z64_mul (a b : Int) : z64 a * z64 b = z64 (a * b) := (Int64.ofInt_mul a b).symm
theorem z64_toInt {a : Int} (h1 : -2 ^ 63 ≤ a) (h2 : a < 2 ^ 63) : (z64 a).toInt = a := Int64.toInt_ofInt_of_le h1 h2
theorem z64_of (x : Int64) : x = z64 x.toInt := (Int64.ofInt_toInt x).symm
theorem z64_lN (n : Nat) : lN n = z64 n := (Int64.ofInt_eq_ofNat).symm
theorem jm_ring (a h : Int64) (k c : Nat) (hk : k ≤ c) : (a - h) * lN k - h * lN (c - k) = lN k * a - lN c * h := by
  rw [z64_of a, z64_of h, z64_lN, z64_lN, z64_lN, z64_sub, z64_mul, z64_mul, z64_mul, z64_mul, z64_sub, z64_sub]
  congr 1
  rw [Int.sub_mul, Int.mul_comm a.toInt, Int.ofNat_sub hk, Int.mul_sub, Int.mul_comm (c : Int), Int.mul_comm h.toInt k]
  omega
/-- what stays in bounds -/
theorem jm_ok (so : Nat → Int64) (s : Nat → Int) (all : Int) (c : Nat) (hc : c ≤ 40) (hall : -2 ^ 31 ≤ all ∧ all ≤ 2 ^ 31) (hs : ∀ i, so i = z64 (s i) ∧ -2 ^ 31 ≤ s i ∧ s i ≤ 2 ^ 31) : ∀ (m k : Nat) (h : Int) (up dn : Int64) (b : Nat), k + m = c → 1 ≤ k → (-(k : Int) * 2 ^ 31 ≤ h ∧ h ≤ k * 2 ^ 31) → (∃ u : Int, up = z64 u ∧ -2 ^ 50 ≤ u ∧ u ≤ 2 ^ 50) → (∃ y : Nat, dn = lN y ∧ 0 < y ∧ y ≤ 1600) → (b < k) → (∃ u : Int, (jm so (z64 all) c m k (z64 h) up dn b).1 = z64 u ∧ -2 ^ 50 ≤ u ∧ u ≤ 2 ^ 50) ∧ (∃ y : Nat, (jm so (z64 all) c m k (z64 h) up dn b).2.1 = lN y ∧ 0 < y ∧ y ≤ 1600) ∧ (jm so (z64 all) c m k (z64 h) up dn b).2.2 < c ∧ (b ≠ 0 ∨ 0 < m → (jm so (z64 all) c m k (z64 h) up dn b).2.2 ≠ 0) := by
  intro m
  induction m with
  | zero => intro k h up dn b hk h1 hh hu hd hb; exact ⟨hu, hd, by show b < c; omega, fun e => by show b ≠ 0; omega⟩
  | succ m ih =>
    intro k h up dn b hk h1 hh hu hd hb
    obtain ⟨e1, s1, s2⟩ := hs (k - 1)
    have hu2 : ∃ u : Int, lN k * z64 all - lN c * (z64 h + so (k - 1)) = z64 u ∧ -2 ^ 50 ≤ u ∧ u ≤ 2 ^ 50 := by
      refine ⟨k * all - c * (h + s (k - 1)), by rw [e1, z64_add, z64_lN, z64_lN, z64_mul, z64_mul, z64_sub], ?_⟩
      have b1 : -(40 * 2 ^ 31) ≤ (k : Int) * all ∧ (k : Int) * all ≤ 40 * 2 ^ 31 := by
        have p1 : (k : Int) * all ≤ 40 * 2 ^ 31 := by
          rcases Int.le_total 0 all with z | z
          · exact Int.le_trans (Int.mul_le_mul_of_nonneg_right (show (k : Int) ≤ 40 by omega) z) (by omega)
          · have : (k : Int) * all ≤ 0 := Int.mul_nonpos_of_nonneg_of_nonpos (by omega) z
            omega
        have p2 : (k : Int) * (-all) ≤ 40 * 2 ^ 31 := by
          rcases Int.le_total 0 (-all) with z | z
          · exact Int.le_trans (Int.mul_le_mul_of_nonneg_right (show (k : Int) ≤ 40 by omega) z) (by omega)
          · have : (k : Int) * (-all) ≤ 0 := Int.mul_nonpos_of_nonneg_of_nonpos (by omega) z
            omega
        rw [Int.mul_neg] at p2
        omega
      have hb2 : -(41 * 2 ^ 31) ≤ h + s (k - 1) ∧ h + s (k - 1) ≤ 41 * 2 ^ 31 := by omega
      have b2 : -(40 * (41 * 2 ^ 31)) ≤ (c : Int) * (h + s (k - 1)) ∧ (c : Int) * (h + s (k - 1)) ≤ 40 * (41 * 2 ^ 31) := by
        obtain ⟨t, ht⟩ : ∃ t : Int, t = h + s (k - 1) := ⟨_, rfl⟩
        rw [← ht] at hb2 ⊢
        have p1 : (c : Int) * t ≤ 40 * (41 * 2 ^ 31) := by
          rcases Int.le_total 0 t with z | z
          · exact Int.le_trans (Int.mul_le_mul_of_nonneg_right (show (c : Int) ≤ 40 by omega) z) (by omega)
          · have : (c : Int) * t ≤ 0 := Int.mul_nonpos_of_nonneg_of_nonpos (by omega) z
            omega
        have p2 : (c : Int) * (-t) ≤ 40 * (41 * 2 ^ 31) := by
          rcases Int.le_total 0 (-t) with z | z
          · exact Int.le_trans (Int.mul_le_mul_of_nonneg_right (show (c : Int) ≤ 40 by omega) z) (by omega)
          · have : (c : Int) * (-t) ≤ 0 := Int.mul_nonpos_of_nonneg_of_nonpos (by omega) z
            omega
        rw [Int.mul_neg] at p2
        omega
      omega
    have hd2 : ∃ y : Nat, lN k * lN (c - k) = lN y ∧ 0 < y ∧ y ≤ 1600 := by
      refine ⟨k * (c - k), lN_mul _ _, Nat.mul_pos (by omega) (by omega), ?_⟩
      have : k * (c - k) ≤ 40 * 40 := Nat.mul_le_mul (by omega) (by omega)
      omega
    have hh2 : -((k + 1 : Nat) : Int) * 2 ^ 31 ≤ h + s (k - 1) ∧ h + s (k - 1) ≤ ((k + 1 : Nat) : Int) * 2 ^ 31 := by omega
    have es : z64 h + so (k - 1) = z64 (h + s (k - 1)) := by rw [e1, z64_add]
    rw [jm]
    by_cases c1 : b = 0
    · rw [if_pos c1]
      have := ih (k + 1) (h + s (k - 1)) _ _ k (by omega) (by omega) hh2 hu2 hd2 (by omega)
      rw [← es] at this
      exact ⟨this.1, this.2.1, this.2.2.1, fun _ => this.2.2.2 (Or.inl (by omega))⟩
    · rw [if_neg c1]
      split
      · have := ih (k + 1) (h + s (k - 1)) _ _ b (by omega) (by omega) hh2 hu hd (by omega)
        rw [← es] at this
        exact ⟨this.1, this.2.1, this.2.2.1, fun _ => this.2.2.2 (Or.inl c1)⟩
      · have := ih (k + 1) (h + s (k - 1)) _ _ k (by omega) (by omega) hh2 hu2 hd2 (by omega)
        rw [← es] at this
        exact ⟨this.1, this.2.1, this.2.2.1, fun _ => this.2.2.2 (Or.inl (by omega))⟩
