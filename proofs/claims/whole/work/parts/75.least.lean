theorem stk_at {A : Nat → Int32} {v : Int32} {Z : List Int32} : ∀ Y : List Int32, stk A (Y ++ v :: Z) → A Z.length = v := by
  intro Y
  induction Y with
  | nil => intro h; exact h.1
  | cons y ys ih => intro h; exact ih h.2
/-- a set that parts all twos, on the class's side -/
def gdL (L : List Int32) (t : Nat) : Bool := L.all (fun v => decide (v = 0) || !decide (v &&& nI t = 0))
/-- and on the reference's -/
def gdR (L : List Int32) (t : Nat) : Bool := L.all (fun v => !decide (nI t &&& v = 0))
def orL : List Int32 → Int32
  | [] => 0
  | v :: r => orL r ||| v
theorem orL_bt (i : Nat) : ∀ L : List Int32, bt (orL L) i = L.any (fun v => bt v i) := by
  intro L
  induction L with
  | nil => rw [orL, b_0]; rfl
  | cons v r ih => rw [orL, b_or, ih, List.any_cons, Bool.or_comm]
theorem orL_and (L : List Int32) (v : Int32) (hv : v ∈ L) : v &&& orL L = v := by
  apply b_ext
  intro i _
  rw [b_and, orL_bt]
  by_cases c : bt v i = true
  · have : L.any (fun v => bt v i) = true := List.any_eq_true.mpr ⟨v, hv, c⟩
    rw [c, this]
    rfl
  · have : bt v i = false := by simpa using c
    rw [this]
    rfl
theorem gdL_mem (L : List Int32) (t : Nat) : gdL L t = true ↔ ∀ v ∈ L, v ≠ 0 → v &&& nI t ≠ 0 := by
  unfold gdL
  rw [List.all_eq_true]
  constructor
  · intro h v hv h0 e
    have := h v hv
    simp [h0, e] at this
  · intro h v hv
    by_cases c : v = 0
    · simp [c]
    · have := h v hv c
      simp [c, this]
theorem gdR_mem (L : List Int32) (t : Nat) : gdR L t = true ↔ ∀ v ∈ L, nI t &&& v ≠ 0 := by
  unfold gdR
  rw [List.all_eq_true]
  constructor
  · intro h v hv e
    have := h v hv
    simp [e] at this
  · intro h v hv
    have := h v hv
    simp [this]
/-- the reference's twos: for a, those b from a + 1 on, m of them -/
def rinn (M : Nat → Nat → Int32) (X : Int32) (a : Nat) : Nat → List Int32 → List Int32
  | 0, L => L
  | m + 1, L => if bt X a = true ∧ bt X (a + 1 + m) = true ∧ ¬ M a (a + 1 + m) = 0 then M a (a + 1 + m) :: rinn M X a m L else rinn M X a m L
def rot (M : Nat → Nat → Int32) (X : Int32) (ns : Nat) : Nat → List Int32
  | 0 => []
  | a + 1 => rinn M X a (ns - 1 - a) (rot M X ns a)
theorem cin_mem (M : Nat → Nat → Int32) (X : Int32) (b : Nat) (L : List Int32) (v : Int32) : ∀ k, v ∈ cin M X b k L ↔ v ∈ L ∨ ∃ a, a < k ∧ bt X a = true ∧ bt X b = true ∧ v = M a b := by
  intro k
  induction k with
  | zero => rw [cin]; exact ⟨Or.inl, fun h => h.elim id (fun ⟨a, ha, _⟩ => absurd ha (by omega))⟩
  | succ k ih =>
    rw [cin]
    by_cases c : bt X k = true ∧ bt X b = true
    · rw [if_pos c, List.mem_cons, ih]
      constructor
      · rintro (e | e | ⟨a, ha, h1, h2, h3⟩)
        · exact Or.inr ⟨k, by omega, c.1, c.2, e⟩
        · exact Or.inl e
        · exact Or.inr ⟨a, by omega, h1, h2, h3⟩
      · rintro (e | ⟨a, ha, h1, h2, h3⟩)
        · exact Or.inr (Or.inl e)
        · by_cases d : a = k
          · rw [d] at h3; exact Or.inl h3
          · exact Or.inr (Or.inr ⟨a, by omega, h1, h2, h3⟩)
    · rw [if_neg c, ih]
      constructor
      · rintro (e | ⟨a, ha, h1, h2, h3⟩)
        · exact Or.inl e
        · exact Or.inr ⟨a, by omega, h1, h2, h3⟩
      · rintro (e | ⟨a, ha, h1, h2, h3⟩)
        · exact Or.inl e
        · by_cases d : a = k
          · rw [d] at h1; exact absurd ⟨h1, h2⟩ c
          · exact Or.inr ⟨a, by omega, h1, h2, h3⟩
theorem cot_mem (M : Nat → Nat → Int32) (X : Int32) (v : Int32) : ∀ n, v ∈ cot M X n ↔ ∃ a b, a < b ∧ b < n ∧ bt X a = true ∧ bt X b = true ∧ v = M a b := by
  intro n
  induction n with
  | zero => rw [cot]; exact ⟨fun h => absurd h (by simp), fun ⟨a, b, _, h, _⟩ => absurd h (by omega)⟩
  | succ n ih =>
    rw [cot, cin_mem, ih]
    constructor
    · rintro (⟨a, b, h1, h2, h3⟩ | ⟨a, h1, h2, h3, h4⟩)
      · exact ⟨a, b, h1, by omega, h3⟩
      · exact ⟨a, n, h1, by omega, h2, h3, h4⟩
    · rintro ⟨a, b, h1, h2, h3, h4, h5⟩
      by_cases d : b = n
      · subst d; exact Or.inr ⟨a, h1, h3, h4, h5⟩
      · exact Or.inl ⟨a, b, h1, by omega, h3, h4, h5⟩
theorem rinn_mem (M : Nat → Nat → Int32) (X : Int32) (a : Nat) (L : List Int32) (v : Int32) : ∀ m, v ∈ rinn M X a m L ↔ v ∈ L ∨ ∃ b, a < b ∧ b < a + 1 + m ∧ bt X a = true ∧ bt X b = true ∧ v = M a b ∧ ¬ v = 0 := by
  intro m
  induction m with
  | zero => rw [rinn]; exact ⟨Or.inl, fun h => h.elim id (fun ⟨b, h1, h2, _⟩ => absurd h1 (by omega))⟩
  | succ m ih =>
    rw [rinn]
    by_cases c : bt X a = true ∧ bt X (a + 1 + m) = true ∧ ¬ M a (a + 1 + m) = 0
    · rw [if_pos c, List.mem_cons, ih]
      constructor
      · rintro (e | e | ⟨b, h0, ha, h1, h2, h3, h4⟩)
        · exact Or.inr ⟨a + 1 + m, by omega, by omega, c.1, c.2.1, e, by rw [e]; exact c.2.2⟩
        · exact Or.inl e
        · exact Or.inr ⟨b, h0, by omega, h1, h2, h3, h4⟩
      · rintro (e | ⟨b, h0, ha, h1, h2, h3, h4⟩)
        · exact Or.inr (Or.inl e)
        · by_cases d : b = a + 1 + m
          · rw [d] at h3; exact Or.inl h3
          · exact Or.inr (Or.inr ⟨b, h0, by omega, h1, h2, h3, h4⟩)
    · rw [if_neg c, ih]
      constructor
      · rintro (e | ⟨b, h0, ha, h1, h2, h3, h4⟩)
        · exact Or.inl e
        · exact Or.inr ⟨b, h0, by omega, h1, h2, h3, h4⟩
      · rintro (e | ⟨b, h0, ha, h1, h2, h3, h4⟩)
        · exact Or.inl e
        · by_cases d : b = a + 1 + m
          · rw [d] at h2 h3; exact absurd ⟨h1, h2, fun z => h4 (by rw [h3]; exact z)⟩ c
          · exact Or.inr ⟨b, h0, by omega, h1, h2, h3, h4⟩
theorem rot_mem (M : Nat → Nat → Int32) (X : Int32) (ns : Nat) (v : Int32) : ∀ n, n ≤ ns → (v ∈ rot M X ns n ↔ ∃ a b, a < n ∧ a < b ∧ b < ns ∧ bt X a = true ∧ bt X b = true ∧ v = M a b ∧ ¬ v = 0) := by
  intro n
  induction n with
  | zero => intro _; rw [rot]; exact ⟨fun h => absurd h (by simp), fun ⟨a, b, h, _⟩ => absurd h (by omega)⟩
  | succ n ih =>
    intro hn
    rw [rot, rinn_mem, ih (by omega)]
    constructor
    · rintro (⟨a, b, h1, h2⟩ | ⟨b, h1, h2, h3⟩)
      · exact ⟨a, b, by omega, h2⟩
      · exact ⟨n, b, by omega, h1, by omega, h3⟩
    · rintro ⟨a, b, h1, h2, h3, h4⟩
      by_cases d : a = n
      · subst d; exact Or.inr ⟨b, h2, by omega, h4⟩
      · exact Or.inl ⟨a, b, by omega, h2, h3, h4⟩
theorem gd_eq (M : Nat → Nat → Int32) (X : Int32) (ns t : Nat) : gdR (rot M X ns ns) t = gdL (cot M X ns) t := by
  have h : gdR (rot M X ns ns) t = true ↔ gdL (cot M X ns) t = true := by
    rw [gdR_mem, gdL_mem]
    constructor
    · intro h v hv h0
      obtain ⟨a, b, h1, h2, h3, h4, h5⟩ := (cot_mem M X v ns).mp hv
      rw [Int32.and_comm]
      exact h v ((rot_mem M X ns v ns (Nat.le_refl _)).mpr ⟨a, b, by omega, h1, h2, h3, h4, h5, h0⟩)
    · intro h v hv
      obtain ⟨a, b, h0, h1, h2, h3, h4, h5, h6⟩ := (rot_mem M X ns v ns (Nat.le_refl _)).mp hv
      rw [Int32.and_comm]
      exact h v ((cot_mem M X v ns).mpr ⟨a, b, h1, h2, h3, h4, h5⟩) h6
  cases h1 : gdR (rot M X ns ns) t
  · cases h2 : gdL (cot M X ns) t
    · rfl
    · rw [h.mpr h2] at h1; exact absurd h1 (by decide)
  · rw [h.mp h1]
def qa (ns : Nat) : Nat → Nat
  | 0 => 0
  | a + 1 => qa ns a + (ns - 1 - a)
theorem qa_le : ∀ ns, ns ≤ 8 → ∀ a, a < ns → qa ns a + (ns - 1 - a) ≤ 28 := by decide
theorem rinn_len (M : Nat → Nat → Int32) (X : Int32) (a : Nat) (L : List Int32) : ∀ m, (rinn M X a m L).length ≤ L.length + m := by
  intro m
  induction m with
  | zero => exact Nat.le_refl _
  | succ m ih =>
    rw [rinn]
    split
    · show _ + 1 ≤ _; omega
    · omega
theorem rot_len (M : Nat → Nat → Int32) (X : Int32) (ns : Nat) : ∀ a, (rot M X ns a).length ≤ qa ns a := by
  intro a
  induction a with
  | zero => exact Nat.le_refl _
  | succ a ih =>
    rw [rot, qa]
    have := rinn_len M X a (rot M X ns a) (ns - 1 - a)
    omega
/-- a number's bits as a natural one -/
def uN32 (v : Int32) : Nat := v.toBitVec.toNat
theorem uN_nI (v : Int32) : nI (uN32 v) = v := by
  obtain ⟨n, hn, rfl⟩ := wb_of32 v
  unfold uN32
  rw [pk_tn hn]
theorem uN_lt (v : Int32) (np : Nat) (h : ∀ i, i < 32 → np ≤ i → bt v i = false) : uN32 v < 2 ^ np := by
  apply Nat.lt_pow_two_of_testBit
  intro i hi
  by_cases c : i < 32
  · have := h i c hi
    rw [← uN_nI v, bt_nI _ _ c] at this
    exact this
  · unfold uN32
    exact Nat.testBit_lt_two_pow (Nat.lt_of_lt_of_le v.toBitVec.isLt (Nat.pow_le_pow_right (by decide) (by omega)))
section
variable {N np nr ns nh dy no : Nat} {ad : Nat → Nat} {S : PS} {X x2 : Int32} {K : Int32 → PS → Prop}
/-- a part's hours -/
def hrN (P : Nat → Int32) (i : Nat) : Nat := (P (9 * i + 4)).toNatClampNeg
theorem hr_at (hN : RN S ad np nr ns nh dy no) {i : Nat} (hi : i < np) : 1 ≤ hrN (S.A (ad 81)) i ∧ hrN (S.A (ad 81)) i ≤ 60 ∧ S.A (ad 81) (9 * i + 4) = nI (hrN (S.A (ad 81)) i) := by
  obtain ⟨v, hv0, hv, ev⟩ := (hN.2.2.2.1 i hi).2.2.2.2.2.1
  have ev' : S.A (ad 81) (9 * i + 4) = nI v := ev
  unfold hrN
  rw [ev', nI_clamp (by omega)]
  exact ⟨hv0, hv, rfl⟩
theorem l_hours10 {t : Nat} (h : Sh ad S) (hN : RN S ad np nr ns nh dy no) : ∀ (m n k : Nat), k + m = np → m < n → K (nI (hr (hrN (S.A (ad 81))) t np)) S → wq_X9_hoursOf_4 N K n S (ad 2) (nI t) (nI (hr (hrN (S.A (ad 81))) t k)) (nI k) := by
  have hb := hN.1
  have e1 : S.I 644 (ad 2) = nI np := hN.2.1.2.2.2.2.1
  have hp := hN.2.2.2.1
  intro m
  induction m with
  | zero =>
    intro n k hk hn hK
    obtain ⟨n, rfl⟩ : ∃ z, n = z + 1 := ⟨n - 1, by omega⟩
    obtain rfl : k = np := by omega
    rw [wq_X9_hoursOf_4.eq_2, e1, if_pos (nI_le (by omega) (by omega))]
    exact ⟨h.k2, hK⟩
  | succ m ih =>
    intro n k hk hn hK
    obtain ⟨n, rfl⟩ : ∃ z, n = z + 1 := ⟨n - 1, by omega⟩
    have hk10 : k < 10 := by omega
    have hh := hr_at hN (show k < np by omega)
    have e4 : S.I 132 (ad (60 + k)) = nI (hrN (S.A (ad 81)) k) := ((hp k (by omega)).1 4 (by decide)).trans hh.2.2
    have ihz := ih n (k + 1) (by omega) (by omega) hK
    rw [hr] at ihz
    rw [wq_X9_hoursOf_4.eq_2, e1, if_neg (nI_ge (by omega) (by omega)), a1i, nI_clamp (by omega)]
    refine ⟨h.k2, ?_⟩
    by_cases c : t.testBit k = true
    · rw [if_pos c] at ihz
      rw [if_pos ((bit_1' (nI t) k (by omega)).mpr (by rw [bt_nI _ _ (by omega)]; exact c))]
      refine ⟨ad 40, h.r648_2, h.k40, by rw [h.l40]; exact vp_in_nI hk10 (by decide), ad (60 + k), h.q40 hk10, h.kp hk10, fun v e => ?_⟩
      rw [e, e4, nI_add]
      exact ihz
    · rw [if_neg c, Nat.add_zero] at ihz
      rw [if_neg (fun e => c (by have := (bit_1' (nI t) k (by omega)).mp e; rw [bt_nI _ _ (by omega)] at this; exact this))]
      exact ihz
theorem w_hours10 {t : Nat} (h : Sh ad S) (hN : RN S ad np nr ns nh dy no) (hN5 : 5000 ≤ N) (hK : K (nI (hr (hrN (S.A (ad 81))) t np)) S) : wp_X9_hoursOf N S (ad 2) (nI t) K := by
  have hb := hN.1
  exact l_hours10 h hN np N 0 (by omega) (by omega) hK
theorem l_pa {t : Nat} {L : List Int32} (h : Sh ad S) (hL : stk (S.A (ad 10)) L) (hl : L.length ≤ 28) : ∀ (m n : Nat) (Y Z : List Int32), L = Y ++ Z → Y.length = m → m < n → K (if gdL Y t = true then 1 else 0) S → wq_X10_partsAll_2 N K n S (ad 1) (nI L.length) (nI t) (nI Z.length) := by
  intro m
  induction m with
  | zero =>
    intro n Y Z e1 e2 hn hK
    obtain ⟨n, rfl⟩ : ∃ z, n = z + 1 := ⟨n - 1, by omega⟩
    obtain rfl : Y = [] := List.length_eq_zero_iff.mp e2
    obtain rfl : L = Z := e1
    rw [wq_X10_partsAll_2.eq_2, if_pos (nI_le (Nat.le_refl _) (by omega))]
    exact hK
  | succ m ih =>
    intro n Y Z e1 e2 hn hK
    obtain ⟨n, rfl⟩ : ∃ z, n = z + 1 := ⟨n - 1, by omega⟩
    have hlen : L.length = m + 1 + Z.length := by rw [e1, List.length_append, e2]
    obtain ⟨Y', v, eY⟩ : ∃ Y' v, Y = Y' ++ [v] := ⟨Y.dropLast, Y.getLast (by intro z; rw [z] at e2; exact absurd e2 (by simp)), (List.dropLast_concat_getLast _).symm⟩
    have hv : S.A (ad 10) Z.length = v := by
      refine stk_at Y' ?_
      rw [e1, eY, List.append_assoc] at hL
      exact hL
    have hY' : Y'.length = m := by rw [eY, List.length_append] at e2; have : Y'.length + 1 = m + 1 := e2; omega
    have ihz := ih n Y' (v :: Z) (by rw [e1, eY, List.append_assoc]; rfl) hY' (by omega)
    have eg : gdL Y t = (gdL Y' t && (decide (v = 0) || !decide (v &&& nI t = 0))) := by
      rw [eY]
      unfold gdL
      rw [List.all_append]
      simp
    rw [eg] at hK
    rw [wq_X10_partsAll_2.eq_2, if_neg (nI_ge (by omega) (by omega)), a1i, nI_clamp (by omega)]
    refine ⟨h.k1, ad 10, h.r714, h.k10, by rw [h.l10]; exact vp_in_nI (by omega) (by decide), ?_⟩
    rw [hv]
    by_cases c : v = 0
    · rw [if_pos c]
      exact ihz (by simpa [c] using hK)
    · rw [if_neg c]
      refine ⟨ad 10, h.r714, h.k10, by rw [h.l10]; exact vp_in_nI (by omega) (by decide), ?_⟩
      rw [hv]
      by_cases d : v &&& nI t = 0
      · rw [if_pos d]
        simpa [c, d] using hK
      · rw [if_neg d]
        exact ihz (by simpa [c, d] using hK)
theorem l_use {L : List Int32} (h : Sh ad S) (hL : stk (S.A (ad 10)) L) (hl : L.length ≤ 28) (hK : S.K (ad 1) = 11 ∧ ∃ p17 : Nat, S.R 704 (ad 1) = some p17 ∧ S.K p17 = 10 ∧ wp_X9_hoursOf N S p17 (orL L) (fun r20 S19 => wq_X10_least_77 N K N S19 (ad 1) x2 (nI L.length) (orL L) (orL L) r20 (orL L))) : ∀ (m n : Nat) (Y Z : List Int32), L = Y ++ Z → Y.length = m → m < n → wq_X10_least_34 N K n S (ad 1) x2 (nI L.length) (orL Z) (nI Z.length) := by
  intro m
  induction m with
  | zero =>
    intro n Y Z e1 e2 hn
    obtain ⟨n, rfl⟩ : ∃ z, n = z + 1 := ⟨n - 1, by omega⟩
    obtain rfl : Y = [] := List.length_eq_zero_iff.mp e2
    obtain rfl : L = Z := e1
    rw [wq_X10_least_34.eq_2, if_pos (nI_le (Nat.le_refl _) (by omega))]
    exact hK
  | succ m ih =>
    intro n Y Z e1 e2 hn
    obtain ⟨n, rfl⟩ : ∃ z, n = z + 1 := ⟨n - 1, by omega⟩
    have hlen : L.length = m + 1 + Z.length := by rw [e1, List.length_append, e2]
    obtain ⟨Y', v, eY⟩ : ∃ Y' v, Y = Y' ++ [v] := ⟨Y.dropLast, Y.getLast (by intro z; rw [z] at e2; exact absurd e2 (by simp)), (List.dropLast_concat_getLast _).symm⟩
    have hv : S.A (ad 10) Z.length = v := by
      refine stk_at Y' ?_
      rw [e1, eY, List.append_assoc] at hL
      exact hL
    have hY' : Y'.length = m := by rw [eY, List.length_append] at e2; have : Y'.length + 1 = m + 1 := e2; omega
    have ihz := ih n Y' (v :: Z) (by rw [e1, eY, List.append_assoc]; rfl) hY' (by omega)
    rw [wq_X10_least_34.eq_2, if_neg (nI_ge (by omega) (by omega)), a1i, nI_clamp (by omega)]
    refine ⟨h.k1, ad 10, h.r714, h.k10, by rw [h.l10]; exact vp_in_nI (by omega) (by decide), fun w e => ?_⟩
    rw [e, hv]
    exact ihz
theorem l_least77 {L : List Int32} {U : Nat} (h : Sh ad S) (hN : RN S ad np nr ns nh dy no) (hL : stk (S.A (ad 10)) L) (hl : L.length ≤ 28) (hN5 : 5000 ≤ N) (hU : U < 1024) (hK : ∀ b, bst (hrN (S.A (ad 81))) np (gdL L) (fun t => t &&& U = t) b → if x2 = 0 then K (nI b) S else K (nI (hr (hrN (S.A (ad 81))) b np)) S) : ∀ (s n b : Nat), s < n → s &&& U = s → bst (hrN (S.A (ad 81))) np (gdL L) (fun t => t &&& U = t ∧ s ≤ t) b → wq_X10_least_77 N K n S (ad 1) x2 (nI L.length) (nI U) (nI b) (nI (hr (hrN (S.A (ad 81))) b np)) (nI s) := by
  have hb := hN.1
  have hh : ∀ t, hr (hrN (S.A (ad 81))) t np ≤ 600 := fun t => by
    have := hr_bd (hrN (S.A (ad 81))) t 60 np (fun i hi => (hr_at hN hi).2.1)
    have h2 : np * 60 ≤ 10 * 60 := Nat.mul_le_mul hb.1 (Nat.le_refl _)
    omega
  intro s
  induction s using Nat.strongRecOn with
  | ind s ih =>
    intro n b hn hs hbst
    obtain ⟨n, rfl⟩ : ∃ z, n = z + 1 := ⟨n - 1, by omega⟩
    have hs2 : s < 1024 := by have : s ≤ U := by rw [← hs]; exact Nat.and_le_right
                              omega
    rw [wq_X10_least_77.eq_2]
    by_cases c0 : s = 0
    · rw [if_pos (by rw [c0]; exact Int32.le_refl 0)]
      refine hK b ⟨hbst.1.1, hbst.2.1, fun t ht gt => hbst.2.2 t ⟨ht, by omega⟩ gt⟩
    rw [if_neg (by exact nI_ge (a := 0) (by omega) (by omega))]
    intro v23 e23
    rw [show nI s - 1 = nI (s - 1) from pk_sub (b := 1) (by omega), nx_and] at e23
    rw [e23]
    have hsub := sub_and (s - 1) U
    have hle : (s - 1) &&& U ≤ s - 1 := Nat.and_le_left
    obtain ⟨s', es'⟩ : ∃ s', s' = (s - 1) &&& U := ⟨_, rfl⟩
    rw [← es'] at hsub hle ⊢
    have hnext : ∀ t, t &&& U = t → s' ≤ t → t = s' ∨ s ≤ t := fun t ht ht2 => by
      by_cases c : s ≤ t
      · exact Or.inr c
      · have := sub_next s U t (by omega) hs ht (by omega)
        rw [← es'] at this
        exact Or.inl (by omega)
    have keep : (gdL L s' = true → hr (hrN (S.A (ad 81))) b np < hr (hrN (S.A (ad 81))) s' np) → wq_X10_least_77 N K n S (ad 1) x2 (nI L.length) (nI U) (nI b) (nI (hr (hrN (S.A (ad 81))) b np)) (nI s') := by
      intro hz
      refine ih s' (by omega) n b (by omega) hsub ⟨⟨hbst.1.1, by have := hbst.1.2; omega⟩, hbst.2.1, fun t ht gt => ?_⟩
      rcases hnext t ht.1 ht.2 with e | e
      · rw [e] at gt ⊢
        have := hz gt
        exact ⟨by omega, fun _ => by omega⟩
      · exact hbst.2.2 t ⟨ht.1, e⟩ gt
    refine ⟨h.k1, ad 2, h.r704, h.k2, w_hours10 h hN hN5 ?_⟩
    have hb6 := hh b
    have hs6 := hh s'
    by_cases c1 : hr (hrN (S.A (ad 81))) b np < hr (hrN (S.A (ad 81))) s' np
    · rw [if_pos (nI_lt c1 (by omega))]
      exact keep (fun _ => c1)
    · rw [if_neg (nI_nlt (by omega) (by omega))]
      refine ⟨h.k1, l_pa h hL hl L.length N L [] (by simp) rfl (by omega) ?_⟩
      by_cases c2 : gdL L s' = true
      · rw [if_pos c2, if_neg (by decide)]
        refine ih s' (by omega) n s' (by omega) hsub ⟨⟨hsub, Nat.le_refl _⟩, c2, fun t ht gt => ?_⟩
        rcases hnext t ht.1 ht.2 with e | e
        · rw [e]; exact ⟨Nat.le_refl _, fun _ => Nat.le_refl _⟩
        · have := hbst.2.2 t ⟨ht.1, e⟩ gt
          exact ⟨by omega, fun _ => by omega⟩
      · rw [if_neg c2, if_pos rfl]
        exact keep (fun e => absurd e c2)
end
