theorem b_1 : ∀ i, i < 32 → bt 1 i = decide (i = 0) := by decide +kernel
theorem bit_1 (X : Int32) (k : Nat) (hk : k < 32) : (X >>> (nI k &&& 31)) &&& 1 = if bt X k = true then 1 else 0 := by
  apply b_ext
  intro i hi
  rw [b_and, b_1 i hi]
  by_cases c : i = 0
  · subst c
    rw [b_sshr k hk X hi, if_pos (by omega), Nat.add_zero]
    cases bt X k
    · simp [b_0]
    · simp [b_1]
  · by_cases d : bt X k = true
    · rw [if_pos d, b_1 i hi]
      simp [c]
    · rw [if_neg d, b_0]
      simp [c]
theorem bit_1' (X : Int32) (k : Nat) (hk : k < 32) : ((X >>> (nI k &&& 31)) &&& 1 = 1) ↔ bt X k = true := by
  rw [bit_1 X k hk]
  by_cases d : bt X k = true
  · rw [if_pos d]; exact ⟨fun _ => d, fun _ => rfl⟩
  · rw [if_neg d]; exact ⟨fun e => absurd e (by decide), fun e => absurd e d⟩
theorem bit_2 (X : Int32) (a b : Nat) (ha : a < 32) (hb : b < 32) : (((X >>> (nI a &&& 31)) &&& (X >>> (nI b &&& 31))) &&& 1 = 1) ↔ (bt X a = true ∧ bt X b = true) := by
  have e : ((X >>> (nI a &&& 31)) &&& (X >>> (nI b &&& 31))) &&& 1 = if bt X a = true ∧ bt X b = true then 1 else 0 := by
    apply b_ext
    intro i hi
    rw [b_and, b_and, b_1 i hi]
    by_cases c : i = 0
    · subst c
      rw [b_sshr a ha X hi, b_sshr b hb X hi, if_pos (by omega), if_pos (by omega), Nat.add_zero, Nat.add_zero]
      cases bt X a
      · simp [b_0]
      · cases bt X b
        · simp [b_0]
        · simp [b_1]
    · have : bt (if bt X a = true ∧ bt X b = true then 1 else 0) i = false := by
        split
        · rw [b_1 i hi]; simp [c]
        · rw [b_0]
      rw [this]
      simp [c]
  rw [e]
  by_cases d : bt X a = true ∧ bt X b = true
  · rw [if_pos d]; exact ⟨fun _ => d, fun _ => rfl⟩
  · rw [if_neg d]; exact ⟨fun e => absurd e (by decide), fun e => absurd e d⟩
/-- the bit of a part that parts two stories -/
def pbt (T : Nat → Int32) (dy a b : Nat) (i : Nat) : Int32 := if fds (stf T a) (nI i) (nI dy) = fds (stf T b) (nI i) (nI dy) then 0 else (1 : Int32) <<< (nI i &&& 31)
/-- the parts that part two stories -/
def msk (T : Nat → Int32) (dy np a b : Nat) : Int32 := orf (pbt T dy a b) np 0 0
theorem orf_bt (T : Nat → Int32) (dy a b : Nat) (i : Nat) (hi : i < 32) : ∀ (m k : Nat) (acc : Int32), k + m ≤ 32 → bt (orf (pbt T dy a b) m k acc) i = (bt acc i || (decide (k ≤ i ∧ i < k + m) && !decide (fds (stf T a) (nI i) (nI dy) = fds (stf T b) (nI i) (nI dy)))) := by
  intro m
  induction m with
  | zero =>
    intro k acc _
    rw [orf, show decide (k ≤ i ∧ i < k + 0) = false from decide_eq_false (by omega)]
    simp
  | succ m ih =>
    intro k acc h
    rw [orf, ih (k + 1) _ (by omega), b_or]
    unfold pbt
    by_cases c : i = k
    · subst c
      rw [show decide (i + 1 ≤ i ∧ i < i + 1 + m) = false from decide_eq_false (by omega), show decide (i ≤ i ∧ i < i + (m + 1)) = true from decide_eq_true (by omega)]
      by_cases d : fds (stf T a) (nI i) (nI dy) = fds (stf T b) (nI i) (nI dy)
      · rw [if_pos d, b_0]; simp [d]
      · rw [if_neg d, b_one i hi i hi]; simp [d]
    · have e1 : decide (k + 1 ≤ i ∧ i < k + 1 + m) = decide (k ≤ i ∧ i < k + (m + 1)) := by
        by_cases z : k ≤ i ∧ i < k + (m + 1)
        · rw [decide_eq_true z, decide_eq_true (by omega)]
        · rw [decide_eq_false z, decide_eq_false (by omega)]
      rw [e1]
      have e2 : bt (if fds (stf T a) (nI k) (nI dy) = fds (stf T b) (nI k) (nI dy) then 0 else (1 : Int32) <<< (nI k &&& 31)) i = false := by
        split
        · rw [b_0]
        · rw [b_one k (by omega) i hi]; simp [c]
      rw [e2]
      simp
theorem msk_bt (T : Nat → Int32) (dy np a b : Nat) (hn : np ≤ 10) (i : Nat) (hi : i < 32) : bt (msk T dy np a b) i = (decide (i < np) && !decide (fds (stf T a) (nI i) (nI dy) = fds (stf T b) (nI i) (nI dy))) := by
  unfold msk
  rw [orf_bt T dy a b i hi np 0 0 (by omega), b_0]
  simp
section
variable {N np nr ns nh dy no : Nat} {ad : Nat → Nat} {S : PS} {K : Int32 → PS → Prop}
theorem l_pb10 {a b : Nat} (h : Sh ad S) (hN : RN S ad np nr ns nh dy no) (ha : a < ns) (hb : b < ns) (hN5 : 5000 ≤ N) : ∀ (m n k : Nat) (acc : Int32), k + m = np → m < n → K (orf (pbt (S.A (ad 83)) dy a b) m k acc) S → wq_X9_partsBetween_5 N K n S (ad 2) (nI a) (nI b) acc (nI k) := by
  have hbb := hN.1
  have e1 : S.I 644 (ad 2) = nI np := hN.2.1.2.2.2.2.1
  have e2 : S.I 640 (ad 2) = nI dy := hN.2.1.1
  obtain ⟨p, c, q, sr⟩ := st_at hN ha
  obtain ⟨p', c', q', sr'⟩ := st_at hN hb
  intro m
  induction m with
  | zero =>
    intro n k acc hk hn hK
    obtain ⟨n, rfl⟩ : ∃ z, n = z + 1 := ⟨n - 1, by omega⟩
    rw [wq_X9_partsBetween_5.eq_2, e1, if_pos (nI_le (by omega) (by omega))]
    exact ⟨h.k2, hK⟩
  | succ m ih =>
    intro n k acc hk hn hK
    obtain ⟨n, rfl⟩ : ∃ z, n = z + 1 := ⟨n - 1, by omega⟩
    rw [orf] at hK
    have ihz := ih n (k + 1) _ (by omega) (by omega) hK
    rw [wq_X9_partsBetween_5.eq_2, e1, if_neg (nI_ge (by omega) (by omega)), e2, nI_clamp (show a < 2 ^ 31 by omega), nI_clamp (show b < 2 ^ 31 by omega), a1i]
    refine ⟨h.k2, ad 44, h.r652_2, h.k44, by rw [h.l44]; exact vp_in_nI (by omega) (by decide), p, q, sr.1, w_found10 sr (by omega) ⟨h.k2, ad 44, h.r652_2, h.k44, by rw [h.l44]; exact vp_in_nI (by omega) (by decide), p', q', sr'.1, ?_⟩⟩
    rw [e2]
    refine w_found10 sr' (by omega) ?_
    unfold pbt at ihz
    by_cases c : fds (stf (S.A (ad 83)) a) (nI k) (nI dy) = fds (stf (S.A (ad 83)) b) (nI k) (nI dy)
    · rw [if_pos c, Int32.or_zero] at ihz
      rw [if_pos c]
      exact ihz
    · rw [if_neg c] at ihz ⊢
      exact fun v e => by rw [e]; exact ihz
theorem l_pb11 {a b : Nat} (h : Sh ad S) (hN : RN S ad np nr ns nh dy no) (ha : a < ns) (hb : b < ns) (hN5 : 5000 ≤ N) : ∀ (m n k : Nat) (acc : Int32), k + m = np → m < n → K (orf (pbt (S.A (ad 83)) dy a b) m k acc) S → wq_X11_parting_5 N K n S (ad 80) (nI a) (nI b) acc (nI k) := by
  have hbb := hN.1
  have e1 : S.I 772 (ad 80) = nI np := hN.2.2.1.2.2.1
  intro m
  induction m with
  | zero =>
    intro n k acc hk hn hK
    obtain ⟨n, rfl⟩ : ∃ z, n = z + 1 := ⟨n - 1, by omega⟩
    rw [wq_X11_parting_5.eq_2, e1, if_pos (nI_le (by omega) (by omega))]
    exact ⟨h.k80, hK⟩
  | succ m ih =>
    intro n k acc hk hn hK
    obtain ⟨n, rfl⟩ : ∃ z, n = z + 1 := ⟨n - 1, by omega⟩
    rw [orf] at hK
    have ihz := ih n (k + 1) _ (by omega) (by omega) hK
    rw [wq_X11_parting_5.eq_2, e1, if_neg (nI_ge (by omega) (by omega))]
    refine ⟨h.k80, w_finds11 h hN ha (by omega) ⟨h.k80, w_finds11 h hN hb (by omega) ?_⟩⟩
    unfold wq_X11_parting_40
    rw [a1i]
    unfold pbt at ihz
    by_cases c : fds (stf (S.A (ad 83)) a) (nI k) (nI dy) = fds (stf (S.A (ad 83)) b) (nI k) (nI dy)
    · rw [if_pos c] at ihz ⊢
      exact fun v e => by rw [e]; exact ihz
    · rw [if_neg c] at ihz ⊢
      exact fun v e => by rw [e]; exact ihz
end
/-- the twos that the class gathers: for b, those a below k, the last first -/
def cin (M : Nat → Nat → Int32) (X : Int32) (b : Nat) : Nat → List Int32 → List Int32
  | 0, L => L
  | k + 1, L => if bt X k = true ∧ bt X b = true then M k b :: cin M X b k L else cin M X b k L
def cot (M : Nat → Nat → Int32) (X : Int32) : Nat → List Int32
  | 0 => []
  | b + 1 => cin M X b b (cot M X b)
def tri : Nat → Nat
  | 0 => 0
  | b + 1 => tri b + b
theorem tri_le : ∀ b, b ≤ 8 → tri b ≤ 28 := by decide
theorem tri_mono : ∀ b c, b ≤ c → tri b ≤ tri c := by
  intro b c
  induction c with
  | zero => intro h; obtain rfl : b = 0 := by omega
            exact Nat.le_refl _
  | succ c ih =>
    intro h
    by_cases e : b = c + 1
    · rw [e]; exact Nat.le_refl _
    · have := ih (by omega); rw [tri]; omega
theorem cin_len (M : Nat → Nat → Int32) (X : Int32) (b : Nat) (L : List Int32) : ∀ k, (cin M X b k L).length ≤ L.length + k := by
  intro k
  induction k with
  | zero => exact Nat.le_refl _
  | succ k ih =>
    rw [cin]
    split
    · show _ + 1 ≤ _; omega
    · omega
theorem cot_len (M : Nat → Nat → Int32) (X : Int32) : ∀ b, (cot M X b).length ≤ tri b := by
  intro b
  induction b with
  | zero => exact Nat.le_refl _
  | succ b ih =>
    rw [cot, tri]
    have := cin_len M X b (cot M X b) b
    omega
section
variable {N np nr ns nh dy no : Nat} {ad : Nat → Nat} {S : PS} {X : Int32} {K : Int32 → PS → Prop}
theorem l_gt18 {b : Nat} {k4 : PS → Nat → Int32 → Int32 → Int32 → Prop} (h : Sh ad S) (hN : RN S ad np nr ns nh dy no) (hb : b < ns) (hN5 : 5000 ≤ N) (hK : ∀ S', Un ad PIz (fun n => n = 10) False S S' → stk (S'.A (ad 10)) (cot (msk (S.A (ad 83)) dy np) X (b + 1)) → k4 S' (ad 1) X (nI (cot (msk (S.A (ad 83)) dy np) X (b + 1)).length) (nI (b + 1))) : ∀ (m n k : Nat) (S1 : PS), k + m = b → m < n → Un ad PIz (fun n => n = 10) False S S1 → stk (S1.A (ad 10)) (cin (msk (S.A (ad 83)) dy np) X b k (cot (msk (S.A (ad 83)) dy np) X b)) → wq_X10_gatherTwos_18 N K k4 n S1 (ad 1) X (nI (cin (msk (S.A (ad 83)) dy np) X b k (cot (msk (S.A (ad 83)) dy np) X b)).length) (nI b) (nI k) := by
  have hbb := hN.1
  intro m
  induction m with
  | zero =>
    intro n k S1 hk hn hU hs
    obtain ⟨n, rfl⟩ : ∃ z, n = z + 1 := ⟨n - 1, by omega⟩
    obtain rfl : k = b := by omega
    rw [wq_X10_gatherTwos_18.eq_2, if_pos (nI_le (by omega) (by omega)), a1i]
    exact hK S1 hU hs
  | succ m ih =>
    intro n k S1 hk hn hU hs
    obtain ⟨n, rfl⟩ : ∃ z, n = z + 1 := ⟨n - 1, by omega⟩
    have g1 := hU.sh h
    have hUz : Un ad PIz PAz False S S1 := hU.mono (fun _ _ e => e) (fun _ e => by unfold PAz; omega) id
    have hl : (cin (msk (S.A (ad 83)) dy np) X b k (cot (msk (S.A (ad 83)) dy np) X b)).length < 28 := by
      have l1 := cin_len (msk (S.A (ad 83)) dy np) X b (cot (msk (S.A (ad 83)) dy np) X b) k
      have l2 := cot_len (msk (S.A (ad 83)) dy np) X b
      have l3 := tri_mono (b + 1) 8 (by omega)
      have l4 := tri_le 8 (by omega)
      rw [tri] at l3
      omega
    rw [wq_X10_gatherTwos_18.eq_2, if_neg (nI_ge (by omega) (by omega))]
    unfold wq_X10_gatherTwos_43
    rw [a1i k]
    by_cases c : bt X k = true ∧ bt X b = true
    · rw [if_pos ((bit_2 X k b (by omega) (by omega)).mpr c), if_neg (by decide), if_neg (show ¬ 28 ≤ nI _ from nI_ge (b := 28) hl (by decide))]
      refine ⟨g1.k1, ad 10, g1.r714, ad 2, g1.r704, g1.k2, l_pb10 g1 (hN.uz hUz h) (show k < ns by omega) hb hN5 np N 0 0 (by omega) (by omega) ⟨g1.k10, by rw [g1.l10]; exact vp_in_nI hl (by decide), fun S17 e17 => ?_⟩⟩
      rw [hUz.z83 h, nI_clamp (by omega)] at e17
      have e17' : S17 = S1.setA (ad 10) (cin (msk (S.A (ad 83)) dy np) X b k (cot (msk (S.A (ad 83)) dy np) X b)).length (msk (S.A (ad 83)) dy np k b) := e17
      have := ih n (k + 1) S17 (by omega) (by omega) (Un.tr hU (by rw [e17']; exact Un.setA rfl)) (by rw [cin, if_pos c]; exact stk_set e17' hs)
      rw [cin, if_pos c] at this
      rw [a1i]
      exact this
    · rw [if_neg (fun e => c ((bit_2 X k b (by omega) (by omega)).mp e)), if_pos rfl]
      have := ih n (k + 1) S1 (by omega) (by omega) hU (by rw [cin, if_neg c]; exact hs)
      rw [cin, if_neg c] at this
      exact this
theorem l_gt4 (h : Sh ad S) (hN : RN S ad np nr ns nh dy no) (hN5 : 5000 ≤ N) (hK : ∀ S', Un ad PIz (fun n => n = 10) False S S' → stk (S'.A (ad 10)) (cot (msk (S.A (ad 83)) dy np) X ns) → K (nI (cot (msk (S.A (ad 83)) dy np) X ns).length) S') : ∀ (m n b : Nat) (S1 : PS), 1 ≤ b → b + m = ns → m < n → Un ad PIz (fun n => n = 10) False S S1 → stk (S1.A (ad 10)) (cot (msk (S.A (ad 83)) dy np) X b) → wq_X10_gatherTwos_4 N K n S1 (ad 1) X (nI (cot (msk (S.A (ad 83)) dy np) X b).length) (nI b) := by
  have hbb := hN.1
  intro m
  induction m with
  | zero =>
    intro n b S1 h1 hk hn hU hs
    obtain ⟨n, rfl⟩ : ∃ z, n = z + 1 := ⟨n - 1, by omega⟩
    obtain rfl : b = ns := by omega
    have g1 := hU.sh h
    have e1 : S1.I 646 (ad 2) = nI b := (hU.I h (by unfold PIz; omega)).trans hN.2.1.2.2.2.2.2.2.1
    rw [wq_X10_gatherTwos_4.eq_2]
    refine ⟨g1.k1, ad 2, g1.r704, g1.k2, ?_⟩
    rw [e1, if_pos (nI_le (by omega) (by omega))]
    exact hK S1 hU hs
  | succ m ih =>
    intro n b S1 h1 hk hn hU hs
    obtain ⟨n, rfl⟩ : ∃ z, n = z + 1 := ⟨n - 1, by omega⟩
    have g1 := hU.sh h
    have e1 : S1.I 646 (ad 2) = nI ns := (hU.I h (by unfold PIz; omega)).trans hN.2.1.2.2.2.2.2.2.1
    rw [wq_X10_gatherTwos_4.eq_2]
    refine ⟨g1.k1, ad 2, g1.r704, g1.k2, ?_⟩
    rw [e1, if_neg (nI_ge (by omega) (by omega))]
    exact l_gt18 h hN (by omega) hN5 (fun S' hU' hs' => ih n (b + 1) S' (by omega) (by omega) (by omega) hU' hs') b N 0 S1 (by omega) (by omega) hU hs
theorem w_gather (h : Sh ad S) (hN : RN S ad np nr ns nh dy no) (hN5 : 5000 ≤ N) (hK : ∀ S', Un ad PIz (fun n => n = 10) False S S' → stk (S'.A (ad 10)) (cot (msk (S.A (ad 83)) dy np) X ns) → K (nI (cot (msk (S.A (ad 83)) dy np) X ns).length) S') : wp_X10_gatherTwos N S (ad 1) X K := by
  have hbb := hN.1
  unfold wp_X10_gatherTwos
  by_cases c : ns = 0
  · obtain ⟨n, rfl⟩ : ∃ z, N = z + 1 := ⟨N - 1, by omega⟩
    have e1 : S.I 646 (ad 2) = nI ns := hN.2.1.2.2.2.2.2.2.1
    rw [wq_X10_gatherTwos_4.eq_2]
    refine ⟨h.k1, ad 2, h.r704, h.k2, ?_⟩
    rw [e1, if_pos (show nI ns ≤ 1 from nI_le (b := 1) (by omega) (by decide))]
    rw [c] at hK
    exact hK S Un.rf trivial
  · exact l_gt4 h hN hN5 hK (ns - 1) N 1 S (by omega) (by omega) (by omega) Un.rf trivial
/-- is it a set of stories -/
theorem set_10 (hs : ns ≤ 8) : ((X.toUInt32 >>> ((nI ns).toUInt32 &&& Int32.toUInt32 31)).toInt32 = 0) ↔ ∃ v : Nat, v < 2 ^ ns ∧ X = nI v := by
  obtain ⟨n, hn, rfl⟩ := wb_of32 X
  rw [pk_ushrN hn (nI ns) ns (s_u ns (by omega))]
  have hp : 0 < 2 ^ ns := Nat.pow_pos (by decide)
  have hp2 : 2 ^ ns ≤ 2 ^ 8 := Nat.pow_le_pow_right (by decide) hs
  have hd : n / 2 ^ ns < 2 ^ 32 := Nat.lt_of_le_of_lt (Nat.div_le_self _ _) hn
  have key : (nI (n / 2 ^ ns) = 0) ↔ n / 2 ^ ns = 0 := by
    constructor
    · intro e
      have this : (nI (n / 2 ^ ns)).toBitVec.toNat = (0 : Int32).toBitVec.toNat := by rw [e]
      rw [pk_tn hd] at this
      exact this
    · intro e
      rw [e]
      rfl
  rw [key, Nat.div_eq_zero_iff]
  constructor
  · intro e
    exact ⟨n, e.resolve_left (by omega), rfl⟩
  · intro ⟨v, hv, e⟩
    have this : (nI n).toBitVec.toNat = (nI v).toBitVec.toNat := by rw [e]
    rw [pk_tn hn, pk_tn (by omega)] at this
    exact Or.inr (by omega)
theorem set_11 (hs : ns ≤ 8) : (¬ X < 0 ∧ ¬ ((1 : Int32) <<< (nI ns &&& 31)) - 1 < X) ↔ ∃ v : Nat, v < 2 ^ ns ∧ X = nI v := by
  have hp : 0 < 2 ^ ns := Nat.pow_pos (by decide)
  have hp2 : 2 ^ ns ≤ 2 ^ 8 := Nat.pow_le_pow_right (by decide) hs
  have e1 : ((1 : Int32) <<< (nI ns &&& 31)) - 1 = nI (2 ^ ns - 1) := by
    rw [show (1 : Int32) = nI 1 from rfl, pk_shlN (nI ns &&& 31) ns (s_l ns (by omega)) (by omega), Nat.one_mul, pk_sub (by omega)]
  rw [e1]
  constructor
  · intro ⟨a, b⟩
    obtain ⟨j, hj, e⟩ := in_lit (n := 2 ^ ns - 1) (nI_toInt (by omega)) a b
    exact ⟨j, by omega, e⟩
  · intro ⟨v, hv, e⟩
    rw [e]
    exact ⟨nI_pos (by omega), nI_nlt (by omega) (by omega)⟩
end
