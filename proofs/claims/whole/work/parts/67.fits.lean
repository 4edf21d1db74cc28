def zI (a : Int) : Int32 := Int32.ofInt a
theorem zI_toInt {a : Int} (h1 : -2 ^ 31 ≤ a) (h2 : a < 2 ^ 31) : (zI a).toInt = a := Int32.toInt_ofInt_of_le h1 h2
theorem zI_nI (n : Nat) : nI n = zI n := (Int32.ofInt_eq_ofNat).symm
theorem zI_lt {a b : Int} (h1 : -2 ^ 31 ≤ a) (h2 : a < 2 ^ 31) (h3 : -2 ^ 31 ≤ b) (h4 : b < 2 ^ 31) : zI a < zI b ↔ a < b := by
  rw [Int32.lt_iff_toInt_lt, zI_toInt h1 h2, zI_toInt h3 h4]
theorem zI_le {a b : Int} (h1 : -2 ^ 31 ≤ a) (h2 : a < 2 ^ 31) (h3 : -2 ^ 31 ≤ b) (h4 : b < 2 ^ 31) : zI a ≤ zI b ↔ a ≤ b := by
  rw [Int32.le_iff_toInt_le, zI_toInt h1 h2, zI_toInt h3 h4]
theorem zI_eq {a b : Int} (h1 : -2 ^ 31 ≤ a) (h2 : a < 2 ^ 31) (h3 : -2 ^ 31 ≤ b) (h4 : b < 2 ^ 31) : zI a = zI b ↔ a = b := by
  rw [← Int32.toInt_inj, zI_toInt h1 h2, zI_toInt h3 h4]
theorem zI_add (a b : Int) : zI a + zI b = zI (a + b) := (Int32.ofInt_add a b).symm
theorem zI_sub (a b : Int) : zI a - zI b = zI (a - b) := (Int32.ofInt_sub a b).symm
theorem zI_neg (a : Int) : -zI a = zI (-a) := Int32.neg_ofInt
theorem zI_of {x : Int32} : x = zI x.toInt := (Int32.ofInt_toInt x).symm
/-- how many a and b, neither 0, are x together: closed -/
def fI (sa sb x : Int) : Int := if (if -sa < x - sb then x - sb else -sa) ≤ (if x + sb < sa then x + sb else sa) then (if x + sb < sa then x + sb else sa) - (if -sa < x - sb then x - sb else -sa) + 1 - (if (if -sa < x - sb then x - sb else -sa) ≤ 0 ∧ 0 ≤ (if x + sb < sa then x + sb else sa) then 1 else 0) - (if x ≠ 0 ∧ (if -sa < x - sb then x - sb else -sa) ≤ x ∧ x ≤ (if x + sb < sa then x + sb else sa) then 1 else 0) else 0
/-- one by one -/
def cn (sb x : Int) : Nat → Int → Int
  | 0, _ => 0
  | m + 1, e => (if e = 0 then 0 else if x = e then 0 else if sb < (if 0 ≤ x - e then x - e else -(x - e)) then 0 else 1) + cn sb x m (e + 1)
/-- what is still to come from e on -/
def rI (sa sb x e : Int) : Int := if (if e < (if -sa < x - sb then x - sb else -sa) then (if -sa < x - sb then x - sb else -sa) else e) ≤ (if x + sb < sa then x + sb else sa) then (if x + sb < sa then x + sb else sa) - (if e < (if -sa < x - sb then x - sb else -sa) then (if -sa < x - sb then x - sb else -sa) else e) + 1 - (if (if e < (if -sa < x - sb then x - sb else -sa) then (if -sa < x - sb then x - sb else -sa) else e) ≤ 0 ∧ 0 ≤ (if x + sb < sa then x + sb else sa) then 1 else 0) - (if x ≠ 0 ∧ (if e < (if -sa < x - sb then x - sb else -sa) then (if -sa < x - sb then x - sb else -sa) else e) ≤ x ∧ x ≤ (if x + sb < sa then x + sb else sa) then 1 else 0) else 0
theorem rI_st (sa sb x e : Int) (h0 : 0 ≤ sb) (h1 : -sa ≤ e) (h2 : e ≤ sa) : rI sa sb x e = (if e = 0 then 0 else if x = e then 0 else if sb < (if 0 ≤ x - e then x - e else -(x - e)) then 0 else 1) + rI sa sb x (e + 1) := by
  obtain ⟨lo, hlo⟩ : ∃ z, z = (if -sa < x - sb then x - sb else -sa) := ⟨_, rfl⟩
  obtain ⟨hi, hhi⟩ : ∃ z, z = (if x + sb < sa then x + sb else sa) := ⟨_, rfl⟩
  unfold rI
  rw [← hlo, ← hhi]
  have l1 : lo = x - sb ∨ lo = -sa := by rw [hlo]; split <;> simp
  have l2 : -sa ≤ lo ∧ x - sb ≤ lo := by rw [hlo]; split <;> omega
  have k1 : hi = x + sb ∨ hi = sa := by rw [hhi]; split <;> simp
  have k2 : hi ≤ sa ∧ hi ≤ x + sb := by rw [hhi]; split <;> omega
  by_cases a1 : e < lo
  · by_cases a2 : e + 1 < lo
    · rw [if_pos a1, if_pos a2]
      split <;> (repeat' split) <;> omega
    · obtain rfl : e + 1 = lo := by omega
      rw [if_pos a1, if_neg a2]
      split <;> (repeat' split) <;> omega
  · rw [if_neg a1, if_neg (show ¬ e + 1 < lo by omega)]
    split <;> (repeat' split) <;> omega
theorem cn_eq (sa sb x : Int) (h0 : 0 ≤ sb) : ∀ (m : Nat) (e : Int), -sa ≤ e → e + m = sa + 1 → cn sb x m e = rI sa sb x e := by
  intro m
  induction m with
  | zero =>
    intro e h1 h2
    have : (if x + sb < sa then x + sb else sa) ≤ sa := by split <;> omega
    rw [cn]
    unfold rI
    rw [if_neg]
    have : e ≤ (if e < (if -sa < x - sb then x - sb else -sa) then (if -sa < x - sb then x - sb else -sa) else e) := by split <;> omega
    omega
  | succ m ih =>
    intro e h1 h2
    rw [cn, ih (e + 1) (by omega) (by omega), ← rI_st sa sb x e h0 h1 (by omega)]
theorem rI_0 (sa sb x : Int) : rI sa sb x (-sa) = fI sa sb x := by
  unfold rI fI
  have : (if -sa < (if -sa < x - sb then x - sb else -sa) then (if -sa < x - sb then x - sb else -sa) else -sa) = (if -sa < x - sb then x - sb else -sa) := by
    split
    · rfl
    · split <;> omega
  rw [this]
theorem w_two10 {N sa sb : Nat} {S : PS} {x : Int} {K : Int32 → PS → Prop} (ha : sa ≤ 99) (hb : sb ≤ 99) (hx : -9999 ≤ x ∧ x ≤ 9999) (hK : K (zI (fI sa sb x)) S) : wp_X10_fitsOfTwo N S (nI sa) (nI sb) (zI x) K := by
  intro v1 e1 v2 e2
  rw [zI_nI, zI_nI, zI_neg, zI_sub] at e1
  rw [zI_nI, zI_nI, zI_add] at e2
  unfold fI at hK
  obtain ⟨lo, hlo⟩ : ∃ z : Int, z = (if -(sa : Int) < x - sb then x - sb else -(sa : Int)) := ⟨_, rfl⟩
  obtain ⟨hi, hhi⟩ : ∃ z : Int, z = (if x + (sb : Int) < sa then x + (sb : Int) else (sa : Int)) := ⟨_, rfl⟩
  rw [← hlo, ← hhi] at hK
  have hlo2 : -20000 ≤ lo ∧ lo ≤ 20000 := by rw [hlo]; split <;> omega
  have hhi2 : -20000 ≤ hi ∧ hi ≤ 20000 := by rw [hhi]; split <;> omega
  have e1' : v1 = zI lo := by
    rw [e1, hlo]
    by_cases c : -(sa : Int) < x - sb
    · rw [if_pos c, if_pos ((zI_lt (by omega) (by omega) (by omega) (by omega)).mpr c)]
    · rw [if_neg c, if_neg (fun e => c ((zI_lt (by omega) (by omega) (by omega) (by omega)).mp e))]
  have e2' : v2 = zI hi := by
    rw [e2, hhi]
    by_cases c : x + (sb : Int) < sa
    · rw [if_pos c, if_pos ((zI_lt (by omega) (by omega) (by omega) (by omega)).mpr c)]
    · rw [if_neg c, if_neg (fun e => c ((zI_lt (by omega) (by omega) (by omega) (by omega)).mp e))]
  rw [e1', e2']
  by_cases c : lo ≤ hi
  · rw [if_pos c] at hK
    rw [if_pos ((zI_le (by omega) (by omega) (by omega) (by omega)).mpr c)]
    intro v4 e4
    rw [zI_sub, show (1 : Int32) = zI 1 from rfl, zI_add] at e4
    have tail : ∀ q : Int, -50000 ≤ q → q ≤ 50000 → (K (zI (q - (if x ≠ 0 ∧ lo ≤ x ∧ x ≤ hi then 1 else 0))) S) → wq_X10_fitsOfTwo_47 N K S (zI x) (zI lo) (zI hi) (zI q) := by
      intro q q1 q2 hq
      unfold wq_X10_fitsOfTwo_47 wp_X10_within
      by_cases x0 : x = 0
      · rw [if_neg (fun e => e.1 x0), Int.sub_zero] at hq
        rw [if_pos (by rw [x0]; rfl)]
        exact hq
      rw [if_neg (show ¬ zI x = 0 from fun e => x0 ((zI_eq (b := 0) (by omega) (by omega) (by omega) (by omega)).mp e))]
      by_cases d1 : x < lo
      · rw [if_neg (fun e => by omega), Int.sub_zero] at hq
        rw [if_pos ((zI_lt (by omega) (by omega) (by omega) (by omega)).mpr d1)]
        show (if (0 : Int32) = 0 then _ else _)
        rw [if_pos rfl]
        exact hq
      rw [if_neg (fun e => d1 ((zI_lt (by omega) (by omega) (by omega) (by omega)).mp e))]
      by_cases d2 : hi < x
      · rw [if_neg (fun e => by omega), Int.sub_zero] at hq
        rw [if_pos ((zI_lt (by omega) (by omega) (by omega) (by omega)).mpr d2)]
        show (if (0 : Int32) = 0 then _ else _)
        rw [if_pos rfl]
        exact hq
      rw [if_neg (fun e => d2 ((zI_lt (by omega) (by omega) (by omega) (by omega)).mp e))]
      show (if (1 : Int32) = 0 then _ else _)
      rw [if_neg (show ¬ (1 : Int32) = 0 by decide)]
      rw [if_pos ⟨x0, by omega, by omega⟩] at hq
      rw [show (-1 : Int32) = zI (-1) from rfl, zI_add]
      exact hq
    unfold wp_X10_within
    rw [e4]
    have z0 : (0 : Int32) = zI 0 := rfl
    by_cases d1 : 0 < lo
    · rw [if_pos (by rw [z0]; exact (zI_lt (by omega) (by omega) (by omega) (by omega)).mpr d1)]
      show (if (0 : Int32) = 0 then _ else _)
      rw [if_pos rfl]
      rw [if_neg (show ¬ (lo ≤ 0 ∧ 0 ≤ hi) by omega), Int.sub_zero] at hK
      exact tail _ (by omega) (by omega) hK
    rw [if_neg (by rw [z0]; exact fun e => d1 ((zI_lt (by omega) (by omega) (by omega) (by omega)).mp e))]
    by_cases d2 : hi < 0
    · rw [if_pos (by rw [z0]; exact (zI_lt (by omega) (by omega) (by omega) (by omega)).mpr d2)]
      show (if (0 : Int32) = 0 then _ else _)
      rw [if_pos rfl]
      rw [if_neg (show ¬ (lo ≤ 0 ∧ 0 ≤ hi) by omega), Int.sub_zero] at hK
      exact tail _ (by omega) (by omega) hK
    rw [if_neg (by rw [z0]; exact fun e => d2 ((zI_lt (by omega) (by omega) (by omega) (by omega)).mp e))]
    show (if (1 : Int32) = 0 then _ else _)
    rw [if_neg (show ¬ (1 : Int32) = 0 by decide)]
    rw [if_pos (show lo ≤ 0 ∧ 0 ≤ hi by omega)] at hK
    rw [show (-1 : Int32) = zI (-1) from rfl, zI_add]
    exact tail _ (by omega) (by omega) hK
  · rw [if_neg c] at hK
    rw [if_neg (fun e => c ((zI_le (by omega) (by omega) (by omega) (by omega)).mp e))]
    exact hK
theorem sm_snoc (t : Nat → Int32) : ∀ (m k : Nat), sm t k (m + 1) = sm t k m + t (k + m) := by
  intro m
  induction m with
  | zero => intro k; rw [sm, sm, sm, Int32.add_zero, Int32.zero_add]; rfl
  | succ m ih =>
    intro k
    rw [sm, ih (k + 1), sm, Int32.add_assoc, show k + 1 + m = k + (m + 1) by omega]
theorem sm_cong {t u : Nat → Int32} : ∀ (m k : Nat), (∀ i, k ≤ i → i < k + m → t i = u i) → sm t k m = sm u k m := by
  intro m
  induction m with
  | zero => intro k _; rfl
  | succ m ih =>
    intro k h
    rw [sm, sm, h k (by omega) (by omega), ih (k + 1) (fun i hi hi2 => h i (by omega) (by omega))]
theorem sm_add (t u : Nat → Int32) : ∀ (m k : Nat), sm (fun i => t i + u i) k m = sm t k m + sm u k m := by
  intro m
  induction m with
  | zero => intro k; rw [sm, sm, sm, Int32.add_zero]
  | succ m ih =>
    intro k
    rw [sm, sm, sm, ih (k + 1), Int32.add_assoc, Int32.add_assoc, ← Int32.add_assoc (u k), Int32.add_comm (u k), Int32.add_assoc]
/-- sums over pairs, by rows and by columns -/
theorem sm_pair (g : Nat → Nat → Int32) : ∀ n, sm (fun j => sm (fun i => g i j) 0 j) 0 n = sm (fun i => sm (g i) (i + 1) (n - (i + 1))) 0 n := by
  intro n
  induction n with
  | zero => rfl
  | succ n ih =>
    rw [sm_snoc, sm_snoc, ih, Nat.zero_add, show n + 1 - (n + 1) = 0 by omega, sm, Int32.add_zero, ← sm_add]
    apply sm_cong
    intro i _ hi
    rw [show n + 1 - (i + 1) = (n - (i + 1)) + 1 by omega, sm_snoc, show i + 1 + (n - (i + 1)) = n by omega]
