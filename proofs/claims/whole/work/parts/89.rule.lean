section
variable {N nt c d : Nat} {ad : Nat → Nat} {T : Nat → Nat} {p : List Int32} {x : Bool} {Z : Rs → Prop} {K : Int32 → PS → Prop}
theorem k_t12 (hT : ∀ k, T k < 256) (hd : d ≤ 4) (hp : bnd (p.headD 0) < 5) {w : Nat} (hw : w = if x then 3 else 2) : ∀ (m n : Nat) (S : PS) (o : List Int32) (t i : Nat), c - t ≤ m → m < n → i ≤ t → CT S ad T nt c t → KO S ad o → o.length ≤ t → (∀ r, MU (Cc T nt) (Vc T nt) w o p d x t r → Z r) → (∀ S' t', UR ad S S' → CT S' ad T nt c t' → Z (badR t') → K 0 S') → (∀ S' t' code, UR ad S S' → CT S' ad T nt c t' → KO S' ad (code ++ o) → t + code.length ≤ t' → (∀ st, wl code (false :: st) (false :: st)) → Cc T nt t' ≠ 42 → (∀ r, MU (Cc T nt) (Vc T nt) w (code ++ o) p d x t' r → Z r) → K 1 S') → wq_X3_term_12 N K n S (ad 7) (nI d) (nI i) := by
  have w23 : w = 2 ∨ w = 3 := by rw [hw]; cases x; exact Or.inl rfl; exact Or.inr rfl
  intro m
  induction m with
  | zero =>
    intro n S o t i hm hn hi h ho hl hz K0 K1
    obtain ⟨n, rfl⟩ : ∃ z, n = z + 1 := ⟨n - 1, by omega⟩
    have g := h.1
    have ht := h.2.2.2.1
    have hc := h.2.2.2.2.1
    have no : Cc T nt t ≠ 42 := fun z => by have := k_lt h (show Cc T nt t ≠ 258 by rw [z]; decide); omega
    have fin : K 1 S := K1 S t [] Un.rf h ho (Nat.le_refl _) (fun st => rfl) no hz
    rw [wq_X3_term_12.eq_2]
    by_cases a : 200 ≤ i
    · rw [if_pos (show (200 : Int32) ≤ nI i from nI_le (a := 200) a (by omega))]; exact fin
    rw [if_neg (show ¬ (200 : Int32) ≤ nI i from nI_ge (b := 200) (by omega) (by decide))]
    refine ⟨g.k7, ad 5, g.r256, g.k5, k_take h (by decide) ?_⟩
    rw [if_neg no, if_pos rfl]
    exact fin
  | succ m ih =>
    intro n S o t i hm hn hi h ho hl hz K0 K1
    obtain ⟨n, rfl⟩ : ∃ z, n = z + 1 := ⟨n - 1, by omega⟩
    have g := h.1
    have ht := h.2.2.2.1
    have hc := h.2.2.2.2.1
    have fin : Cc T nt t ≠ 42 → K 1 S := fun no => K1 S t [] Un.rf h ho (Nat.le_refl _) (fun st => rfl) no hz
    rw [wq_X3_term_12.eq_2]
    by_cases a : 200 ≤ i
    · rw [if_pos (show (200 : Int32) ≤ nI i from nI_le (a := 200) a (by omega))]; exact fin (by rw [ct_end h (by omega)]; decide)
    rw [if_neg (show ¬ (200 : Int32) ≤ nI i from nI_ge (b := 200) (by omega) (by decide)), a1i]
    refine ⟨g.k7, ad 5, g.r256, g.k5, k_take h (by decide) ?_⟩
    by_cases q : Cc T nt t = 42
    case neg => rw [if_neg q, if_pos rfl]; exact fin q
    rw [if_pos q]
    intro S10 u10 h10
    rw [if_neg (by decide)]
    have e42 : (30000 + 42 : Int32) = 30042 := by decide
    refine ⟨h10.1.k7, k_at hT 6 S10 o (30042 :: p) d (t + 1) x Z _ hd (by omega) h10 (ho.tk u10 g) (by omega) (fun r hr => hz r (MU.gop w23 (Or.inl ⟨rfl, rfl⟩) q (by rw [stl_id hp, e42]; exact hr))) (fun S' t' u' h' z' => ?_) (fun S' t' code u' h' o' l' w' z' => ?_)⟩
    · rw [if_pos rfl]
      exact K0 S' t' (Un.tr (UR.tk u10) u') h' z'
    rw [if_neg (by decide)]
    have t'c := h'.2.2.2.1
    refine ⟨h'.1.k7, k_emit (v := 30042) h' o' (by rw [List.length_append]; omega) (by decide) (fun S2 u2 h2 o2 => ?_)⟩
    have U2 : UR ad S S2 := Un.tr (UR.tk u10) (Un.tr u' u2)
    refine ih n S2 (30042 :: (code ++ o)) t' (i + 1) (by omega) (by omega) (by omega) h2 o2 (by rw [List.length_cons, List.length_append]; omega) (fun r hr => z' r ?_) (fun S3 t3 u3 h3 z3 => K0 S3 t3 (Un.tr U2 u3) h3 z3) (fun S3 t3 code3 u3 h3 o3 l3 w3 n3 z3 => ?_)
    · rw [ens_id (show (30042 :: p).headD 0 ≠ 40003 from show (30042 : Int32) ≠ 40003 by decide), ← hw]
      exact lag_at w23 (L := 5) (by decide) (by decide) (Or.inl rfl) hr
    have ea : code3 ++ 30042 :: (code ++ o) = (code3 ++ 30042 :: code) ++ o := by simp
    rw [ea] at o3 z3
    exact K1 S3 t3 (code3 ++ 30042 :: code) (Un.tr U2 u3) h3 o3 (by rw [List.length_append, List.length_cons]; omega) (fun st => wl_app (b := 30042 :: code) (st := false :: st) (s1 := false :: st) ⟨false :: false :: st, w' (false :: st), Or.inr (Or.inr (Or.inr (Or.inl ⟨Or.inl rfl, st, rfl, rfl⟩)))⟩ (w3 st)) n3 z3
theorem k_term (hT : ∀ k, T k < 256) (hN5 : 5000 ≤ N) (hd : d ≤ 4) (hp : bnd (p.headD 0) < 5) (hp3 : p.headD 0 ≠ 40003) {S : PS} {o : List Int32} {t : Nat} (h : CT S ad T nt c t) (ho : KO S ad o) (hl : o.length ≤ t) (hz : ∀ r, MU (Cc T nt) (Vc T nt) 1 o p d x t r → Z r) (K0 : ∀ S' t', UR ad S S' → CT S' ad T nt c t' → Z (badR t') → K 0 S') (K1 : ∀ S' t' code, UR ad S S' → CT S' ad T nt c t' → KO S' ad (code ++ o) → t + code.length ≤ t' → (∀ st, wl code st (false :: st)) → Cc T nt t' ≠ 42 → (∀ r, MU (Cc T nt) (Vc T nt) (if x then 3 else 2) (code ++ o) p d x t' r → Z r) → K 1 S') : wp_X3_term N S (ad 7) (nI d) K := by
  refine ⟨h.1.k7, k_at hT 6 S o p d t x Z _ hd (by omega) h ho hl hz (fun S' t' u' h' z' => ?_) (fun S' t' code u' h' o' l' w' z' => ?_)⟩
  · rw [if_pos rfl]
    exact K0 S' t' u' h' z'
  rw [if_neg (by decide)]
  rw [ens_id hp3] at z'
  have := h'.2.2.2.2.1
  refine k_t12 hT hd hp rfl 200 N S' (code ++ o) t' 0 (by omega) (by omega) (by omega) h' o' (by rw [List.length_append]; omega) z' (fun S3 t3 u3 h3 z3 => K0 S3 t3 (Un.tr u' u3) h3 z3) (fun S3 t3 code3 u3 h3 o3 l3 w3 n3 z3 => ?_)
  rw [← List.append_assoc] at o3 z3
  exact K1 S3 t3 (code3 ++ code) (Un.tr u' u3) h3 o3 (by rw [List.length_append]; omega) (fun st => wl_app (w' st) (w3 st)) n3 z3
theorem k_s54 (hT : ∀ k, T k < 256) (hN5 : 5000 ≤ N) (hd : d ≤ 4) (hp : bnd (p.headD 0) < 4) {w : Nat} (hw : w = if x then 3 else 2) {S : PS} {o : List Int32} {t i : Nat} {s v : Int32} {kk : PS → Nat → Int32 → Int32 → Prop} (hs : (s = 43 ∧ v = 30043) ∨ (s = 45 ∧ v = 30045)) (q : Cc T nt t = s) (h : CT S ad T nt c (t + 1)) (ho : KO S ad o) (hl : o.length ≤ t) (hz : ∀ r, MU (Cc T nt) (Vc T nt) w o p d x t r → Z r) (K0 : ∀ S' t', UR ad S S' → CT S' ad T nt c t' → Z (badR t') → K 0 S') (K1 : ∀ S' t' code, UR ad S S' → CT S' ad T nt c t' → KO S' ad (v :: (code ++ o)) → t + 1 + code.length ≤ t' → (∀ st, wl code st (false :: st)) → Cc T nt t' ≠ 42 → (∀ r, MU (Cc T nt) (Vc T nt) w (v :: (code ++ o)) p d x t' r → Z r) → kk S' (ad 7) (nI d) (nI (i + 1))) : wq_X3_sum_54 N K kk S (ad 7) (nI d) (nI i) s := by
  have w23 : w = 2 ∨ w = 3 := by rw [hw]; cases x; exact Or.inl rfl; exact Or.inr rfl
  have b4 : bnd v = 4 := by rcases hs with ⟨_, rfl⟩ | ⟨_, rfl⟩ <;> decide
  have n3 : v ≠ 40003 := by rcases hs with ⟨_, rfl⟩ | ⟨_, rfl⟩ <;> decide
  refine ⟨h.1.k7, k_term (p := v :: p) (x := x) (Z := Z) hT hN5 hd (show bnd v < 5 by omega) n3 h ho (by omega) (fun r hr => hz r ?_) (fun S' t' u' h' z' => ?_) (fun S' t' code u' h' o' l' w' n' z' => ?_)⟩
  · rcases hs with ⟨rfl, rfl⟩ | ⟨rfl, rfl⟩
    · exact MU.gop w23 (Or.inr (Or.inl ⟨rfl, rfl⟩)) q (by rw [stl_id hp, show (30000 + 43 : Int32) = 30043 by decide]; exact hr)
    · exact MU.gop w23 (Or.inr (Or.inr ⟨rfl, rfl⟩)) q (by rw [stl_id hp, show (30000 + 45 : Int32) = 30045 by decide]; exact hr)
  · rw [if_pos rfl]
    exact K0 S' t' u' h' z'
  rw [if_neg (by decide)]
  have t'c := h'.2.2.2.1
  have cc := h'.2.2.2.2.1
  have fin : ∀ y : Int32, y = phi v → wq_X3_sum_78 N K kk S' (ad 7) (nI d) (nI i) (ad 7) y := by
    intro y hy
    unfold wq_X3_sum_78
    rw [a1i]
    refine ⟨h'.1.k7, k_emit (v := v) h' o' (by rw [List.length_append]; omega) hy (fun S2 u2 h2 o2 => K1 S2 t' code (Un.tr u' u2) h2 o2 l' w' n' (fun r hr => z' r ?_))⟩
    rw [← hw]
    exact lag_at w23 (L := 4) (by omega) (by decide) (Or.inr n') hr
  rcases hs with ⟨rfl, rfl⟩ | ⟨rfl, rfl⟩
  · rw [if_pos rfl]; exact fin _ (by decide)
  · rw [if_neg (by decide)]; exact fin _ (by decide)
theorem k_s12 (hT : ∀ k, T k < 256) (hN5 : 5000 ≤ N) (hd : d ≤ 4) (hp : bnd (p.headD 0) < 4) {w : Nat} (hw : w = if x then 3 else 2) : ∀ (m n : Nat) (S : PS) (o : List Int32) (t i : Nat), c - t ≤ m → m < n → i ≤ t → CT S ad T nt c t → KO S ad o → o.length ≤ t → Cc T nt t ≠ 42 → (∀ r, MU (Cc T nt) (Vc T nt) w o p d x t r → Z r) → (∀ S' t', UR ad S S' → CT S' ad T nt c t' → Z (badR t') → K 0 S') → (∀ S' t' code, UR ad S S' → CT S' ad T nt c t' → KO S' ad (code ++ o) → t + code.length ≤ t' → (∀ st, wl code (false :: st) (false :: st)) → Cc T nt t' ≠ 42 → Cc T nt t' ≠ 43 → Cc T nt t' ≠ 45 → (∀ r, MU (Cc T nt) (Vc T nt) w (code ++ o) p d x t' r → Z r) → K 1 S') → wq_X3_sum_12 N K n S (ad 7) (nI d) (nI i) := by
  intro m
  induction m with
  | zero =>
    intro n S o t i hm hn hi h ho hl h42 hz K0 K1
    obtain ⟨n, rfl⟩ : ∃ z, n = z + 1 := ⟨n - 1, by omega⟩
    have g := h.1
    have hc := h.2.2.2.2.1
    have ht := h.2.2.2.1
    have e : Cc T nt t = 258 := Classical.byContradiction (fun z => by have := k_lt h z; omega)
    have n3 : Cc T nt t ≠ 43 := by rw [e]; decide
    have n5 : Cc T nt t ≠ 45 := by rw [e]; decide
    have fin : K 1 S := K1 S t [] Un.rf h ho (Nat.le_refl _) (fun st => rfl) h42 n3 n5 hz
    rw [wq_X3_sum_12.eq_2]
    by_cases a : 200 ≤ i
    · rw [if_pos (show (200 : Int32) ≤ nI i from nI_le (a := 200) a (by omega))]; exact fin
    rw [if_neg (show ¬ (200 : Int32) ≤ nI i from nI_ge (b := 200) (by omega) (by decide))]
    refine ⟨g.k7, ad 5, g.r256, g.k5, ?_⟩
    rw [k_code h]
    refine ⟨g.k7, ad 5, g.r256, g.k5, k_take h (by decide) ?_⟩
    rw [if_neg n3, if_pos rfl]
    refine ⟨g.k7, ad 5, g.r256, g.k5, k_take h (by decide) ?_⟩
    rw [if_neg n5, if_pos rfl]
    exact fin
  | succ m ih =>
    intro n S o t i hm hn hi h ho hl h42 hz K0 K1
    obtain ⟨n, rfl⟩ : ∃ z, n = z + 1 := ⟨n - 1, by omega⟩
    have g := h.1
    have ht := h.2.2.2.1
    have hc := h.2.2.2.2.1
    have fin : Cc T nt t ≠ 43 → Cc T nt t ≠ 45 → K 1 S := fun n3 n5 => K1 S t [] Un.rf h ho (Nat.le_refl _) (fun st => rfl) h42 n3 n5 hz
    have more : ∀ (S1 : PS) (s v : Int32), ((s = 43 ∧ v = 30043) ∨ (s = 45 ∧ v = 30045)) → Cc T nt t = s → UR ad S S1 → CT S1 ad T nt c (t + 1) → KO S1 ad o → wq_X3_sum_54 N K (fun S a0 x1 x2 => wq_X3_sum_12 N K n S a0 x1 x2) S1 (ad 7) (nI d) (nI i) s := by
      intro S1 s v hs q u1 h1 o1
      have wv : ∀ st, wst v (false :: false :: st) (false :: st) := fun st => Or.inr (Or.inr (Or.inr (Or.inl ⟨by rcases hs with ⟨_, rfl⟩ | ⟨_, rfl⟩; exact Or.inr (Or.inl rfl); exact Or.inr (Or.inr rfl), st, rfl, rfl⟩)))
      refine k_s54 hT hN5 hd hp hw hs q h1 o1 hl hz (fun S' t' u' h' z' => K0 S' t' (Un.tr u1 u') h' z') (fun S' t' code u' h' o' l' w' n' z' => ?_)
      refine ih n S' (v :: (code ++ o)) t' (i + 1) (by omega) (by omega) (by omega) h' o' (by rw [List.length_cons, List.length_append]; omega) n' z' (fun S3 t3 u3 h3 z3 => K0 S3 t3 (Un.tr u1 (Un.tr u' u3)) h3 z3) (fun S3 t3 code3 u3 h3 o3 l3 w3 m2 m3 m5 z3 => ?_)
      have ea : code3 ++ v :: (code ++ o) = (code3 ++ v :: code) ++ o := by simp
      rw [ea] at o3 z3
      exact K1 S3 t3 (code3 ++ v :: code) (Un.tr u1 (Un.tr u' u3)) h3 o3 (by rw [List.length_append, List.length_cons]; omega) (fun st => wl_app (b := v :: code) (st := false :: st) (s1 := false :: st) ⟨false :: false :: st, w' (false :: st), wv st⟩ (w3 st)) m2 m3 m5 z3
    rw [wq_X3_sum_12.eq_2]
    by_cases a : 200 ≤ i
    · have e := ct_end h (by omega)
      rw [if_pos (show (200 : Int32) ≤ nI i from nI_le (a := 200) a (by omega))]
      exact fin (by rw [e]; decide) (by rw [e]; decide)
    rw [if_neg (show ¬ (200 : Int32) ≤ nI i from nI_ge (b := 200) (by omega) (by decide))]
    refine ⟨g.k7, ad 5, g.r256, g.k5, ?_⟩
    rw [k_code h]
    refine ⟨g.k7, ad 5, g.r256, g.k5, k_take h (by decide) ?_⟩
    by_cases q3 : Cc T nt t = 43
    · rw [if_pos q3]
      intro S1 u1 h1
      rw [if_neg (by decide), show cdp T nt (pos T nt t) = 43 from q3]
      exact more S1 43 30043 (Or.inl ⟨rfl, rfl⟩) q3 (UR.tk u1) h1 (ho.tk u1 g)
    rw [if_neg q3, if_pos rfl]
    refine ⟨g.k7, ad 5, g.r256, g.k5, k_take h (by decide) ?_⟩
    by_cases q5 : Cc T nt t = 45
    · rw [if_pos q5]
      intro S1 u1 h1
      rw [if_neg (by decide), show cdp T nt (pos T nt t) = 45 from q5]
      exact more S1 45 30045 (Or.inr ⟨rfl, rfl⟩) q5 (UR.tk u1) h1 (ho.tk u1 g)
    rw [if_neg q5, if_pos rfl]
    exact fin q3 q5
theorem k_sum (hT : ∀ k, T k < 256) (hN5 : 5000 ≤ N) (hd : d ≤ 4) (hp : bnd (p.headD 0) < 4) (hp3 : p.headD 0 ≠ 40003) {S : PS} {o : List Int32} {t : Nat} (h : CT S ad T nt c t) (ho : KO S ad o) (hl : o.length ≤ t) (hz : ∀ r, MU (Cc T nt) (Vc T nt) 1 o p d x t r → Z r) (K0 : ∀ S' t', UR ad S S' → CT S' ad T nt c t' → Z (badR t') → K 0 S') (K1 : ∀ S' t' code, UR ad S S' → CT S' ad T nt c t' → KO S' ad (code ++ o) → t + code.length ≤ t' → (∀ st, wl code st (false :: st)) → Cc T nt t' ≠ 42 → Cc T nt t' ≠ 43 → Cc T nt t' ≠ 45 → (∀ r, MU (Cc T nt) (Vc T nt) (if x then 3 else 2) (code ++ o) p d x t' r → Z r) → K 1 S') : wp_X3_sum N S (ad 7) (nI d) K := by
  refine ⟨h.1.k7, k_term (p := p) (x := x) (Z := Z) hT hN5 hd (by omega) hp3 h ho hl hz (fun S' t' u' h' z' => ?_) (fun S' t' code u' h' o' l' w' n' z' => ?_)⟩
  · rw [if_pos rfl]
    exact K0 S' t' u' h' z'
  rw [if_neg (by decide)]
  have := h'.2.2.2.2.1
  refine k_s12 hT hN5 hd hp rfl 200 N S' (code ++ o) t' 0 (by omega) (by omega) (by omega) h' o' (by rw [List.length_append]; omega) n' z' (fun S3 t3 u3 h3 z3 => K0 S3 t3 (Un.tr u' u3) h3 z3) (fun S3 t3 code3 u3 h3 o3 l3 w3 m2 m3 m5 z3 => ?_)
  rw [← List.append_assoc] at o3 z3
  exact K1 S3 t3 (code3 ++ code) (Un.tr u' u3) h3 o3 (by rw [List.length_append]; omega) (fun st => wl_app (w' st) (w3 st)) m2 m3 m5 z3
end
