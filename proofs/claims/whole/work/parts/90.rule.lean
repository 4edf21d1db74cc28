/-- a reader of one, against the machine -/
def OneS (nt c : Nat) (ad : Nat → Nat) (T : Nat → Nat) (oo : PS → Nat → Int32 → (Int32 → PS → Prop) → Prop) (e : Nat) : Prop := ∀ (S : PS) (o p : List Int32) (d t : Nat) (x : Bool) (Z : Rs → Prop) (K : Int32 → PS → Prop), d ≤ 4 → 5 ≤ e + d → CT S ad T nt c t → KO S ad o → o.length ≤ t → bnd (p.headD 0) < 3 → p.headD 0 ≠ 40003 → (∀ r, MU (Cc T nt) (Vc T nt) 0 o p d x t r → Z r) → (∀ S' t', UR ad S S' → CT S' ad T nt c t' → Z (badR t') → K 0 S') → (∀ S' t' code x', UR ad S S' → CT S' ad T nt c t' → KO S' ad (code ++ o) → t + code.length ≤ t' → (∀ st, wl code st (true :: st)) → (∀ r, MU (Cc T nt) (Vc T nt) 4 (ens 40002 p (code ++ o) d).2.1 (ens 40002 p (code ++ o) d).1 (ens 40002 p (code ++ o) d).2.2 x' t' r → Z r) → K 1 S') → oo S (ad 7) (nI d) K
theorem mu_one {C V : Nat → Int32} {o p : List Int32} {d t : Nat} {x : Bool} {r : Rs} (a : C t ≠ 307) (b : C t ≠ 40) (h : MU C V 1 o p d false t r) : MU C V 0 o p d x t r := by
  by_cases e : C t = 258
  · rcases h.inv with ⟨z, k⟩ | ⟨z, k⟩ | ⟨z, k⟩ | ⟨z, k⟩
    · exact absurd z (by decide)
    · rcases k with ⟨k, _⟩ | ⟨k, _⟩ | ⟨v, k, _⟩ | ⟨_, _, _, k⟩
      · rw [e] at k; exact absurd k (by decide)
      · rw [e] at k; exact absurd k (by decide)
      · rcases k with ⟨k, _⟩ | ⟨i, hi, k, _⟩
        · rw [e] at k; exact absurd k (by decide)
        · rw [e] at k; exact absurd k.symm (ii_ne (b := 258) (by omega) (by decide) (by omega))
      · rw [k]; exact MU.oend e
    · omega
    · exact absurd z (by decide)
  · exact MU.oat a b e h
section
variable {N nt c d e : Nat} {ad : Nat → Nat} {T : Nat → Nat} {p : List Int32} {Z : Rs → Prop} {K : Int32 → PS → Prop} {oo : PS → Nat → Int32 → (Int32 → PS → Prop) → Prop}
theorem k_b12 (hO : OneS nt c ad T oo e) (hd : d ≤ 4) (he : 5 ≤ e + d) (hp : bnd (p.headD 0) < 2) : ∀ (m n : Nat) (S : PS) (o : List Int32) (t i : Nat) (x : Bool), c - t ≤ m → m < n → i ≤ t → CT S ad T nt c t → KO S ad o → o.length ≤ t → (∀ r, MU (Cc T nt) (Vc T nt) 4 o p d x t r → Z r) → (∀ S' t', UR ad S S' → CT S' ad T nt c t' → Z (badR t') → K 0 S') → (∀ S' t' code x', UR ad S S' → CT S' ad T nt c t' → KO S' ad (code ++ o) → t + code.length ≤ t' → (∀ st, wl code (true :: st) (true :: st)) → Cc T nt t' ≠ 305 → (∀ r, MU (Cc T nt) (Vc T nt) 4 (code ++ o) p d x' t' r → Z r) → K 1 S') → wq_X3_both_12 N oo K n S (ad 7) (nI d) (nI i) := by
  intro m
  induction m with
  | zero =>
    intro n S o t i x hm hn hi h ho hl hz K0 K1
    obtain ⟨n, rfl⟩ : ∃ z, n = z + 1 := ⟨n - 1, by omega⟩
    have g := h.1
    have ht := h.2.2.2.1
    have hc := h.2.2.2.2.1
    have no : Cc T nt t ≠ 305 := fun z => by have := k_lt h (show Cc T nt t ≠ 258 by rw [z]; decide); omega
    have fin : K 1 S := K1 S t [] x Un.rf h ho (Nat.le_refl _) (fun st => rfl) no hz
    rw [wq_X3_both_12.eq_2]
    by_cases a : 200 ≤ i
    · rw [if_pos (show (200 : Int32) ≤ nI i from nI_le (a := 200) a (by omega))]; exact fin
    rw [if_neg (show ¬ (200 : Int32) ≤ nI i from nI_ge (b := 200) (by omega) (by decide))]
    refine ⟨g.k7, ad 5, g.r256, g.k5, k_take h (by decide) ?_⟩
    rw [if_neg no, if_pos rfl]
    exact fin
  | succ m ih =>
    intro n S o t i x hm hn hi h ho hl hz K0 K1
    obtain ⟨n, rfl⟩ : ∃ z, n = z + 1 := ⟨n - 1, by omega⟩
    have g := h.1
    have ht := h.2.2.2.1
    have hc := h.2.2.2.2.1
    have fin : Cc T nt t ≠ 305 → K 1 S := fun no => K1 S t [] x Un.rf h ho (Nat.le_refl _) (fun st => rfl) no hz
    rw [wq_X3_both_12.eq_2]
    by_cases a : 200 ≤ i
    · rw [if_pos (show (200 : Int32) ≤ nI i from nI_le (a := 200) a (by omega))]; exact fin (by rw [ct_end h (by omega)]; decide)
    rw [if_neg (show ¬ (200 : Int32) ≤ nI i from nI_ge (b := 200) (by omega) (by decide)), a1i]
    refine ⟨g.k7, ad 5, g.r256, g.k5, k_take h (by decide) ?_⟩
    by_cases q : Cc T nt t = 305
    case neg => rw [if_neg q, if_pos rfl]; exact fin q
    rw [if_pos q]
    intro S10 u10 h10
    rw [if_neg (by decide)]
    refine ⟨h10.1.k7, hO S10 o (40000 :: p) d (t + 1) x Z _ hd he h10 (ho.tk u10 g) (by omega) (show bnd 40000 < 3 by decide) (show (40000 : Int32) ≠ 40003 by decide) (fun r hr => hz r (MU.eand q (by rw [stl_id hp]; exact hr))) (fun S' t' u' h' z' => ?_) (fun S' t' code x' u' h' o' l' w' z' => ?_)⟩
    · rw [if_pos rfl]
      exact K0 S' t' (Un.tr (UR.tk u10) u') h' z'
    rw [if_neg (by decide)]
    have t'c := h'.2.2.2.1
    refine ⟨h'.1.k7, k_emit (v := 40000) h' o' (by rw [List.length_append]; omega) (by decide) (fun S2 u2 h2 o2 => ?_)⟩
    have U2 : UR ad S S2 := Un.tr (UR.tk u10) (Un.tr u' u2)
    refine ih n S2 (40000 :: (code ++ o)) t' (i + 1) x' (by omega) (by omega) (by omega) h2 o2 (by rw [List.length_cons, List.length_append]; omega) (fun r hr => z' r ?_) (fun S3 t3 u3 h3 z3 => K0 S3 t3 (Un.tr U2 u3) h3 z3) (fun S3 t3 code3 x3 u3 h3 o3 l3 w3 n3 z3 => ?_)
    · rw [ens_id (show (40000 :: p).headD 0 ≠ 40002 from show (40000 : Int32) ≠ 40002 by decide)]
      exact lag_end (L := 2) (by decide) (by decide) (Or.inl rfl) hr
    have ea : code3 ++ 40000 :: (code ++ o) = (code3 ++ 40000 :: code) ++ o := by simp
    rw [ea] at o3 z3
    exact K1 S3 t3 (code3 ++ 40000 :: code) x3 (Un.tr U2 u3) h3 o3 (by rw [List.length_append, List.length_cons]; omega) (fun st => wl_app (b := 40000 :: code) (st := true :: st) (s1 := true :: st) ⟨true :: true :: st, w' (true :: st), Or.inr (Or.inr (Or.inl ⟨Or.inl rfl, st, rfl, rfl⟩))⟩ (w3 st)) n3 z3
theorem k_both (hN5 : 5000 ≤ N) (hO : OneS nt c ad T oo e) (hd : d ≤ 4) (he : 5 ≤ e + d) (hp : bnd (p.headD 0) < 2) (hp3 : p.headD 0 ≠ 40003) (hp2 : p.headD 0 ≠ 40002) {S : PS} {o : List Int32} {t : Nat} {x : Bool} (h : CT S ad T nt c t) (ho : KO S ad o) (hl : o.length ≤ t) (hz : ∀ r, MU (Cc T nt) (Vc T nt) 0 o p d x t r → Z r) (K0 : ∀ S' t', UR ad S S' → CT S' ad T nt c t' → Z (badR t') → K 0 S') (K1 : ∀ S' t' code x', UR ad S S' → CT S' ad T nt c t' → KO S' ad (code ++ o) → t + code.length ≤ t' → (∀ st, wl code st (true :: st)) → Cc T nt t' ≠ 305 → (∀ r, MU (Cc T nt) (Vc T nt) 4 (code ++ o) p d x' t' r → Z r) → K 1 S') : wp_X3_both N oo S (ad 7) (nI d) K := by
  refine ⟨h.1.k7, hO S o p d t x Z _ hd he h ho hl (by omega) hp3 hz (fun S' t' u' h' z' => ?_) (fun S' t' code x' u' h' o' l' w' z' => ?_)⟩
  · rw [if_pos rfl]
    exact K0 S' t' u' h' z'
  rw [if_neg (by decide)]
  rw [ens_id hp2] at z'
  have := h'.2.2.2.2.1
  refine k_b12 hO hd he hp 200 N S' (code ++ o) t' 0 x' (by omega) (by omega) (by omega) h' o' (by rw [List.length_append]; omega) z' (fun S3 t3 u3 h3 z3 => K0 S3 t3 (Un.tr u' u3) h3 z3) (fun S3 t3 code3 x3 u3 h3 o3 l3 w3 n3 z3 => ?_)
  rw [← List.append_assoc] at o3 z3
  exact K1 S3 t3 (code3 ++ code) x3 (Un.tr u' u3) h3 o3 (by rw [List.length_append]; omega) (fun st => wl_app (w' st) (w3 st)) n3 z3
theorem k_e12 (hN5 : 5000 ≤ N) (hO : OneS nt c ad T oo e) (hd : d ≤ 4) (he : 5 ≤ e + d) (hp : bnd (p.headD 0) < 1) : ∀ (m n : Nat) (S : PS) (o : List Int32) (t i : Nat) (x : Bool), c - t ≤ m → m < n → i ≤ t → CT S ad T nt c t → KO S ad o → o.length ≤ t → Cc T nt t ≠ 305 → (∀ r, MU (Cc T nt) (Vc T nt) 4 o p d x t r → Z r) → (∀ S' t', UR ad S S' → CT S' ad T nt c t' → Z (badR t') → K 0 S') → (∀ S' t' code x', UR ad S S' → CT S' ad T nt c t' → KO S' ad (code ++ o) → t + code.length ≤ t' → (∀ st, wl code (true :: st) (true :: st)) → Cc T nt t' ≠ 305 → Cc T nt t' ≠ 306 → (∀ r, MU (Cc T nt) (Vc T nt) 4 (code ++ o) p d x' t' r → Z r) → K 1 S') → wq_X3_either_12 N oo K n S (ad 7) (nI d) (nI i) := by
  intro m
  induction m with
  | zero =>
    intro n S o t i x hm hn hi h ho hl h5 hz K0 K1
    obtain ⟨n, rfl⟩ : ∃ z, n = z + 1 := ⟨n - 1, by omega⟩
    have g := h.1
    have ht := h.2.2.2.1
    have hc := h.2.2.2.2.1
    have no : Cc T nt t ≠ 306 := fun z => by have := k_lt h (show Cc T nt t ≠ 258 by rw [z]; decide); omega
    have fin : K 1 S := K1 S t [] x Un.rf h ho (Nat.le_refl _) (fun st => rfl) h5 no hz
    rw [wq_X3_either_12.eq_2]
    by_cases a : 200 ≤ i
    · rw [if_pos (show (200 : Int32) ≤ nI i from nI_le (a := 200) a (by omega))]; exact fin
    rw [if_neg (show ¬ (200 : Int32) ≤ nI i from nI_ge (b := 200) (by omega) (by decide))]
    refine ⟨g.k7, ad 5, g.r256, g.k5, k_take h (by decide) ?_⟩
    rw [if_neg no, if_pos rfl]
    exact fin
  | succ m ih =>
    intro n S o t i x hm hn hi h ho hl h5 hz K0 K1
    obtain ⟨n, rfl⟩ : ∃ z, n = z + 1 := ⟨n - 1, by omega⟩
    have g := h.1
    have ht := h.2.2.2.1
    have hc := h.2.2.2.2.1
    have fin : Cc T nt t ≠ 306 → K 1 S := fun no => K1 S t [] x Un.rf h ho (Nat.le_refl _) (fun st => rfl) h5 no hz
    rw [wq_X3_either_12.eq_2]
    by_cases a : 200 ≤ i
    · rw [if_pos (show (200 : Int32) ≤ nI i from nI_le (a := 200) a (by omega))]; exact fin (by rw [ct_end h (by omega)]; decide)
    rw [if_neg (show ¬ (200 : Int32) ≤ nI i from nI_ge (b := 200) (by omega) (by decide)), a1i]
    refine ⟨g.k7, ad 5, g.r256, g.k5, k_take h (by decide) ?_⟩
    by_cases q : Cc T nt t = 306
    case neg => rw [if_neg q, if_pos rfl]; exact fin q
    rw [if_pos q]
    intro S10 u10 h10
    rw [if_neg (by decide)]
    refine ⟨h10.1.k7, k_both (p := 40001 :: p) (Z := Z) (x := x) hN5 hO hd he (show bnd 40001 < 2 by decide) (show (40001 : Int32) ≠ 40003 by decide) (show (40001 : Int32) ≠ 40002 by decide) h10 (ho.tk u10 g) (by omega) (fun r hr => hz r (MU.eor q (by rw [stl_id hp]; exact hr))) (fun S' t' u' h' z' => ?_) (fun S' t' code x' u' h' o' l' w' n' z' => ?_)⟩
    · rw [if_pos rfl]
      exact K0 S' t' (Un.tr (UR.tk u10) u') h' z'
    rw [if_neg (by decide)]
    have t'c := h'.2.2.2.1
    refine ⟨h'.1.k7, k_emit (v := 40001) h' o' (by rw [List.length_append]; omega) (by decide) (fun S2 u2 h2 o2 => ?_)⟩
    have U2 : UR ad S S2 := Un.tr (UR.tk u10) (Un.tr u' u2)
    refine ih n S2 (40001 :: (code ++ o)) t' (i + 1) x' (by omega) (by omega) (by omega) h2 o2 (by rw [List.length_cons, List.length_append]; omega) n' (fun r hr => z' r (lag_end (L := 1) (by decide) (by decide) (Or.inr n') hr)) (fun S3 t3 u3 h3 z3 => K0 S3 t3 (Un.tr U2 u3) h3 z3) (fun S3 t3 code3 x3 u3 h3 o3 l3 w3 m5 m6 z3 => ?_)
    have ea : code3 ++ 40001 :: (code ++ o) = (code3 ++ 40001 :: code) ++ o := by simp
    rw [ea] at o3 z3
    exact K1 S3 t3 (code3 ++ 40001 :: code) x3 (Un.tr U2 u3) h3 o3 (by rw [List.length_append, List.length_cons]; omega) (fun st => wl_app (b := 40001 :: code) (st := true :: st) (s1 := true :: st) ⟨true :: true :: st, w' (true :: st), Or.inr (Or.inr (Or.inl ⟨Or.inr rfl, st, rfl, rfl⟩))⟩ (w3 st)) m5 m6 z3
theorem k_either (hN5 : 5000 ≤ N) (hO : OneS nt c ad T oo e) (hd : d ≤ 4) (he : 5 ≤ e + d) (hp : bnd (p.headD 0) < 1) (hp3 : p.headD 0 ≠ 40003) (hp2 : p.headD 0 ≠ 40002) {S : PS} {o : List Int32} {t : Nat} {x : Bool} (h : CT S ad T nt c t) (ho : KO S ad o) (hl : o.length ≤ t) (hz : ∀ r, MU (Cc T nt) (Vc T nt) 0 o p d x t r → Z r) (K0 : ∀ S' t', UR ad S S' → CT S' ad T nt c t' → Z (badR t') → K 0 S') (K1 : ∀ S' t' code x', UR ad S S' → CT S' ad T nt c t' → KO S' ad (code ++ o) → t + code.length ≤ t' → (∀ st, wl code st (true :: st)) → Cc T nt t' ≠ 305 → Cc T nt t' ≠ 306 → (∀ r, MU (Cc T nt) (Vc T nt) 4 (code ++ o) p d x' t' r → Z r) → K 1 S') : wp_X3_either N oo S (ad 7) (nI d) K := by
  refine ⟨h.1.k7, k_both (p := p) (Z := Z) (x := x) hN5 hO hd he (by omega) hp3 hp2 h ho hl hz (fun S' t' u' h' z' => ?_) (fun S' t' code x' u' h' o' l' w' n' z' => ?_)⟩
  · rw [if_pos rfl]
    exact K0 S' t' u' h' z'
  rw [if_neg (by decide)]
  have := h'.2.2.2.2.1
  refine k_e12 hN5 hO hd he hp 200 N S' (code ++ o) t' 0 x' (by omega) (by omega) (by omega) h' o' (by rw [List.length_append]; omega) n' z' (fun S3 t3 u3 h3 z3 => K0 S3 t3 (Un.tr u' u3) h3 z3) (fun S3 t3 code3 x3 u3 h3 o3 l3 w3 m5 m6 z3 => ?_)
  rw [← List.append_assoc] at o3 z3
  exact K1 S3 t3 (code3 ++ code) x3 (Un.tr u' u3) h3 o3 (by rw [List.length_append]; omega) (fun st => wl_app (w' st) (w3 st)) m5 m6 z3
/-- the right side of a comparison -/
theorem k_cmp2 (hT : ∀ k, T k < 256) (hN5 : 5000 ≤ N) (hd : d ≤ 4) (hp : bnd (p.headD 0) < 3) {S : PS} {o : List Int32} {t : Nat} {s v y : Int32} (hs : (s = 60 ∧ v = 30060) ∨ (s = 61 ∧ v = 30061) ∨ (s = 62 ∧ v = 30062)) (q : Cc T nt t = s) (h : CT S ad T nt c (t + 1)) (ho : KO S ad o) (hl : o.length ≤ t) (hz : ∀ r, MU (Cc T nt) (Vc T nt) 2 o p d false t r → Z r) (K0 : ∀ S' t', UR ad S S' → CT S' ad T nt c t' → Z (badR t') → K 0 S') (K1 : ∀ S' t' code, UR ad S S' → CT S' ad T nt c t' → KO S' ad (v :: (code ++ o)) → t + 1 + code.length ≤ t' → (∀ st, wl code st (false :: st)) → (∀ r, MU (Cc T nt) (Vc T nt) 4 (ens 40002 p (v :: (code ++ o)) d).2.1 (ens 40002 p (v :: (code ++ o)) d).1 (ens 40002 p (v :: (code ++ o)) d).2.2 true t' r → Z r) → K 1 S') : wq_X3_one_159 N oo K S (ad 7) (nI d) s := by
  have b3 : bnd v = 3 := by rcases hs with ⟨_, rfl⟩ | ⟨_, rfl⟩ | ⟨_, rfl⟩ <;> decide
  have n3 : v ≠ 40003 := by rcases hs with ⟨_, rfl⟩ | ⟨_, rfl⟩ | ⟨_, rfl⟩ <;> decide
  have e3 : 30000 + s = v := by rcases hs with ⟨rfl, rfl⟩ | ⟨rfl, rfl⟩ | ⟨rfl, rfl⟩ <;> decide
  have s3 : s = 60 ∨ s = 61 ∨ s = 62 := by rcases hs with ⟨z, _⟩ | ⟨z, _⟩ | ⟨z, _⟩; exact Or.inl z; exact Or.inr (Or.inl z); exact Or.inr (Or.inr z)
  unfold wq_X3_one_159 wq_X3_one_164
  rw [if_neg (by decide)]
  refine ⟨h.1.k7, k_sum (p := v :: p) (x := true) (Z := Z) hT hN5 hd (show bnd v < 4 by omega) n3 h ho (by omega) (fun r hr => hz r (MU.gcmp s3 q (by rw [stl_id (by omega), e3]; exact hr))) (fun S' t' u' h' z' => ?_) (fun S' t' code u' h' o' l' w' m2 m3 m5 z' => ?_)⟩
  · rw [if_pos rfl]
    exact K0 S' t' u' h' z'
  rw [if_neg (by decide)]
  have t'c := h'.2.2.2.1
  have cc := h'.2.2.2.2.1
  have fin : ∀ y : Int32, y = phi v → wq_X3_one_204 N oo K S' (ad 7) y := by
    intro y hy
    refine ⟨h'.1.k7, k_emit (v := v) h' o' (by rw [List.length_append]; omega) hy (fun S2 u2 h2 o2 => K1 S2 t' code (Un.tr u' u2) h2 o2 l' w' (fun r hr => z' r (MU.gend m2 m3 m5 ?_)))⟩
    rw [stl_cons (by omega), stl_id hp]
    exact hr
  rcases hs with ⟨rfl, rfl⟩ | ⟨rfl, rfl⟩ | ⟨rfl, rfl⟩
  · rw [if_pos rfl]; exact fin _ (by decide)
  · rw [if_neg (by decide), if_pos rfl]; exact fin _ (by decide)
  · rw [if_neg (by decide), if_neg (by decide)]; exact fin _ (by decide)
theorem k_one (hT : ∀ k, T k < 256) (hN5 : 5000 ≤ N) : ∀ e : Nat, OneS nt c ad T (fun S a0 x1 K => wp_X3_one N e S a0 x1 K) e := by
  intro e
  induction e with
  | zero => intro S o p d t x Z K hd he; omega
  | succ e ih =>
    intro S o p d t x Z K hd he h ho hl hp hp3 hz K0 K1
    have g := h.1
    have hc := h.2.2.2.2.1
    show wp_X3_oneB N (fun S a0 x1 K => wp_X3_one N e S a0 x1 K) S (ad 7) (nI d) K
    have deep : (Cc T nt t = 307 ∨ Cc T nt t = 40) → wq_X3_one_25 N (fun S a0 x1 K => wp_X3_one N e S a0 x1 K) K S (ad 7) (nI d) := by
      intro hh
      unfold wq_X3_one_25
      by_cases d4 : d < 4
      case neg =>
        rw [if_neg (show ¬ nI d < 4 from fun z => absurd (nI_le (a := 4) (b := d) (by omega) (by omega)) (Int32.not_le.mpr z))]
        exact K0 S t Un.rf h (hz _ (MU.odeep hh (by omega)))
      rw [if_pos (show nI d < 4 from nI_lt (b := 4) d4 (by decide)), a1i]
      refine ⟨g.k7, ad 5, g.r256, g.k5, k_take h (by decide) ?_⟩
      by_cases q40 : Cc T nt t = 40
      · rw [if_pos q40]
        intro S12 u12 h12
        rw [if_neg (by decide)]
        refine ⟨h12.1.k7, k_either (p := 40004 :: p) (d := d + 1) (x := false) (Z := Z) hN5 ih (by omega) (by omega) (show bnd 40004 < 1 by decide) (show (40004 : Int32) ≠ 40003 by decide) (show (40004 : Int32) ≠ 40002 by decide) h12 (ho.tk u12 g) (by omega) (fun r hr => hz r (MU.opar q40 d4 hr)) (fun S' t' u' h' z' => ?_) (fun S' t' code x' u' h' o' l' w' m5 m6 z' => ?_)⟩
        · rw [if_pos rfl]
          exact K0 S' t' (Un.tr (UR.tk u12) u') h' z'
        rw [if_neg (by decide)]
        have s4 : stl 1 (40004 :: p) (code ++ o) = (40004 :: p, code ++ o) := stl_id (show bnd 40004 < 1 by decide)
        refine ⟨h'.1.k7, ad 5, h'.1.r256, h'.1.k5, k_take h' (by decide) ?_⟩
        by_cases q41 : Cc T nt t' = 41
        · rw [if_pos q41]
          intro S39 u39 h39
          rw [if_neg (by decide)]
          exact K1 S39 (t' + 1) code x' (Un.tr (UR.tk u12) (Un.tr u' (UR.tk u39))) h39 (o'.tk u39 h'.1) (by omega) w' (fun r hr => z' r (MU.eclo q41 s4 hr))
        · rw [if_neg q41, if_pos rfl]
          exact K0 S' t' (Un.tr (UR.tk u12) u') h' (z' _ (MU.ebad m5 m6 (fun z => absurd z q41) (fun _ => by rw [s4]; simp)))
      · have q7 := hh.resolve_right q40
        rw [if_neg q40, if_pos rfl]
        refine ⟨g.k7, ad 5, g.r256, g.k5, k_take h (by decide) ?_⟩
        rw [if_pos q7]
        intro S19 u19 h19
        rw [if_neg (by decide)]
        refine ⟨h19.1.k7, ih S19 o (40002 :: p) (d + 1) (t + 1) false Z _ (by omega) (by omega) h19 (ho.tk u19 g) (by omega) (show bnd 40002 < 3 by decide) (show (40002 : Int32) ≠ 40003 by decide) (fun r hr => hz r (MU.onot q7 d4 hr)) (fun S' t' u' h' z' => ?_) (fun S' t' code x' u' h' o' l' w' z' => ?_)⟩
        · rw [if_pos rfl]
          exact K0 S' t' (Un.tr (UR.tk u19) u') h' z'
        rw [if_neg (by decide)]
        have t'c := h'.2.2.2.1
        refine ⟨h'.1.k7, k_emit (v := 40002) h' o' (by rw [List.length_append]; omega) (by decide) (fun S2 u2 h2 o2 => K1 S2 t' (40002 :: code) x' (Un.tr (UR.tk u19) (Un.tr u' u2)) h2 o2 (by rw [List.length_cons]; omega) (fun st => ⟨true :: st, w' st, Or.inl ⟨rfl, st, rfl, rfl⟩⟩) (fun r hr => z' r ?_))⟩
        rw [ens_cons]
        exact hr
    refine ⟨g.k7, ad 5, g.r256, g.k5, ?_⟩
    rw [k_now h]
    by_cases q7 : Cc T nt t = 307
    · rw [if_pos q7, if_neg (by decide)]
      exact deep (Or.inl q7)
    rw [if_neg q7, if_pos rfl]
    refine ⟨g.k7, ad 5, g.r256, g.k5, ?_⟩
    rw [k_now h]
    by_cases q40 : Cc T nt t = 40
    · rw [if_pos q40, if_neg (by decide)]
      exact deep (Or.inr q40)
    rw [if_neg q40, if_pos rfl]
    refine ⟨g.k7, k_sum (p := p) (x := false) (Z := Z) hT hN5 hd (by omega) hp3 h ho hl (fun r hr => hz r (mu_one q7 q40 hr)) (fun S' t' u' h' z' => ?_) (fun S' t' code u' h' o' l' w' m2 m3 m5 z' => ?_)⟩
    · rw [if_pos rfl]
      exact K0 S' t' u' h' z'
    rw [if_neg (by decide)]
    have g' := h'.1
    have second : ∀ (S1 : PS) (s v : Int32), ((s = 60 ∧ v = 30060) ∨ (s = 61 ∧ v = 30061) ∨ (s = 62 ∧ v = 30062)) → Cc T nt t' = s → Un ad (fun g n => g = 580 ∧ n = 5) (fun _ => False) False S' S1 → CT S1 ad T nt c (t' + 1) → wq_X3_one_159 N (fun S a0 x1 K => wp_X3_one N e S a0 x1 K) K S1 (ad 7) (nI d) s := by
      intro S1 s v hs q u1 h1
      have wv : ∀ st, wst v (false :: false :: st) (true :: st) := fun st => Or.inr (Or.inr (Or.inr (Or.inr (Or.inl ⟨by rcases hs with ⟨_, z⟩ | ⟨_, z⟩ | ⟨_, z⟩; exact Or.inl z; exact Or.inr (Or.inl z); exact Or.inr (Or.inr z), st, rfl, rfl⟩))))
      have U1 : UR ad S S1 := Un.tr u' (UR.tk u1)
      refine k_cmp2 (y := 0) hT hN5 hd hp hs q h1 (o'.tk u1 g') (by rw [List.length_append]; omega) z' (fun S3 t3 u3 h3 z3 => K0 S3 t3 (Un.tr U1 u3) h3 z3) (fun S3 t3 code3 u3 h3 o3 l3 w3 z3 => ?_)
      have ea : v :: (code3 ++ (code ++ o)) = (v :: (code3 ++ code)) ++ o := by simp
      rw [ea] at o3 z3
      exact K1 S3 t3 (v :: (code3 ++ code)) true (Un.tr U1 u3) h3 o3 (by rw [List.length_cons, List.length_append]; omega) (fun st => wl_two (w' st) (w3 (false :: st)) (wv st)) z3
    refine ⟨g'.k7, ad 5, g'.r256, g'.k5, ?_⟩
    rw [k_code h']
    refine ⟨g'.k7, ad 5, g'.r256, g'.k5, k_take h' (by decide) ?_⟩
    by_cases a0 : Cc T nt t' = 60
    · rw [if_pos a0]
      intro S1 u1 h1
      rw [if_neg (by decide), show cdp T nt (pos T nt t') = 60 from a0]
      exact second S1 60 30060 (Or.inl ⟨rfl, rfl⟩) a0 u1 h1
    rw [if_neg a0, if_pos rfl]
    refine ⟨g'.k7, ad 5, g'.r256, g'.k5, k_take h' (by decide) ?_⟩
    by_cases a1 : Cc T nt t' = 61
    · rw [if_pos a1]
      intro S1 u1 h1
      rw [if_neg (by decide), show cdp T nt (pos T nt t') = 61 from a1]
      exact second S1 61 30061 (Or.inr (Or.inl ⟨rfl, rfl⟩)) a1 u1 h1
    rw [if_neg a1, if_pos rfl]
    refine ⟨g'.k7, ad 5, g'.r256, g'.k5, k_take h' (by decide) ?_⟩
    by_cases a2 : Cc T nt t' = 62
    · rw [if_pos a2]
      intro S1 u1 h1
      rw [if_neg (by decide), show cdp T nt (pos T nt t') = 62 from a2]
      exact second S1 62 30062 (Or.inr (Or.inr ⟨rfl, rfl⟩)) a2 u1 h1
    rw [if_neg a2, if_pos rfl]
    unfold wq_X3_one_164
    rw [if_pos rfl]
    exact K0 S' t' u' h' (z' _ (MU.gbad m2 m3 m5 a0 a1 a2))
end
