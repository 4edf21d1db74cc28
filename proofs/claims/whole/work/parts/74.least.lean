theorem nx_and (a b : Nat) : nI a &&& nI b = nI (a &&& b) := by
  apply Int32.toBitVec_inj.1
  show BitVec.ofNat 32 a &&& BitVec.ofNat 32 b = BitVec.ofNat 32 (a &&& b)
  apply BitVec.eq_of_getLsbD_eq
  intro i hi
  simp [hi]
theorem bt_nI (t i : Nat) (hi : i < 32) : bt (nI t) i = t.testBit i := by
  unfold bt
  show (BitVec.ofNat 32 t).getLsbD i = _
  rw [BitVec.getLsbD_ofNat]
  simp [hi]
/-- the hours of a set of parts -/
def hr (H : Nat → Nat) (t : Nat) : Nat → Nat
  | 0 => 0
  | m + 1 => hr H t m + (if t.testBit m = true then H m else 0)
theorem hr_bd (H : Nat → Nat) (t B : Nat) : ∀ m, (∀ i, i < m → H i ≤ B) → hr H t m ≤ m * B := by
  intro m
  induction m with
  | zero => intro _; rw [hr]; omega
  | succ m ih =>
    intro h
    have h1 := ih (fun i hi => h i (by omega))
    have h2 := h m (by omega)
    rw [hr, Nat.succ_mul]
    split <;> omega
theorem hr_and (H : Nat → Nat) (t U : Nat) : ∀ m, hr H (t &&& U) m ≤ hr H t m := by
  intro m
  induction m with
  | zero => exact Nat.le_refl _
  | succ m ih =>
    rw [hr, hr, Nat.testBit_and]
    cases t.testBit m
    · simpa using ih
    · cases U.testBit m
      · simp; omega
      · simp; omega
theorem hr_lt (H : Nat → Nat) (t U np : Nat) (hH : ∀ i, i < np → 1 ≤ H i) (ht : t < 2 ^ np) (hne : t &&& U ≠ t) : hr H (t &&& U) np < hr H t np := by
  have key : ∀ m, m ≤ np → (∃ i, i < m ∧ t.testBit i = true ∧ U.testBit i = false) → hr H (t &&& U) m < hr H t m := by
    intro m
    induction m with
    | zero => intro _ ⟨i, hi, _⟩; exact absurd hi (by omega)
    | succ m ih =>
      intro hm ⟨i, hi, h1, h2⟩
      rw [hr, hr, Nat.testBit_and]
      by_cases c : i = m
      · subst c
        rw [h1, h2]
        have := hr_and H t U i
        have := hH i (by omega)
        simp
        omega
      · have := ih (by omega) ⟨i, by omega, h1, h2⟩
        cases t.testBit m
        · simpa using this
        · cases U.testBit m
          · simp; omega
          · simp; omega
  refine key np (Nat.le_refl _) (Classical.byContradiction (fun hno => hne ?_))
  apply Nat.eq_of_testBit_eq
  intro i
  rw [Nat.testBit_and]
  by_cases c : t.testBit i = true
  · have hi : i < np := Classical.byContradiction (fun h => by
      have : t.testBit i = false := Nat.testBit_lt_two_pow (Nat.lt_of_lt_of_le ht (Nat.pow_le_pow_right (by decide) (by omega)))
      rw [this] at c
      exact absurd c (by decide))
    have : U.testBit i = true := by
      cases hU : U.testBit i
      · exact absurd ⟨i, hi, c, hU⟩ hno
      · rfl
    rw [c, this]
    rfl
  · have : t.testBit i = false := by simpa using c
    rw [this]
    rfl
theorem and_d2 (a b : Nat) : (a &&& b) = 2 * (a / 2 &&& b / 2) + (a % 2 &&& b % 2) := by
  have h1 : (a &&& b) / 2 = a / 2 &&& b / 2 := Nat.and_div_two
  have h2 : (a &&& b) % 2 ^ 1 = (a % 2 ^ 1) &&& (b % 2 ^ 1) := Nat.and_mod_two_pow
  rw [← h1]
  have := Nat.div_add_mod (a &&& b) 2
  rw [show (2 : Nat) ^ 1 = 2 from rfl] at h2
  omega
theorem and_m2 (b : Nat) (hb : b < 2) : (1 : Nat) &&& b = b := by
  obtain rfl | rfl : b = 0 ∨ b = 1 := by omega
  · rfl
  · rfl
/-- the next smaller set within U -/
theorem sub_next : ∀ (s U t : Nat), 0 < s → s &&& U = s → t &&& U = t → t < s → t ≤ (s - 1) &&& U := by
  intro s
  induction s using Nat.strongRecOn with
  | ind s ih =>
    intro U t h0 hs ht hlt
    have es := and_d2 s U
    have et := and_d2 t U
    have ts : s / 2 &&& U / 2 = s / 2 := by
      have : (s &&& U) / 2 = s / 2 := by rw [hs]
      rw [Nat.and_div_two] at this
      exact this
    have tt : t / 2 &&& U / 2 = t / 2 := by
      have : (t &&& U) / 2 = t / 2 := by rw [ht]
      rw [Nat.and_div_two] at this
      exact this
    have e1 := and_d2 (s - 1) U
    by_cases c : s % 2 = 1
    · have h1 : (s - 1) / 2 = s / 2 := by omega
      have h2 : (s - 1) % 2 = 0 := by omega
      rw [h1, h2, ts, Nat.zero_and] at e1
      omega
    · have h1 : (s - 1) / 2 = s / 2 - 1 := by omega
      have h2 : (s - 1) % 2 = 1 := by omega
      rw [h1, h2, and_m2 _ (by omega)] at e1
      have t0 : t % 2 ≤ U % 2 := by
        have := Nat.and_le_right (n := t % 2) (m := U % 2)
        rw [ht, tt] at et
        omega
      have := ih (s / 2) (by omega) (U / 2) (t / 2) (by omega) ts tt (by omega)
      omega
theorem sub_and (s U : Nat) : (s &&& U) &&& U = s &&& U := by
  apply Nat.eq_of_testBit_eq
  intro i
  rw [Nat.testBit_and, Nat.testBit_and]
  cases s.testBit i
  · rfl
  · cases U.testBit i
    · rfl
    · rfl
/-- b is the best of those t for which P holds: fewest hours, then least -/
def bst (H : Nat → Nat) (np : Nat) (G : Nat → Bool) (P : Nat → Prop) (b : Nat) : Prop := P b ∧ G b = true ∧ ∀ t, P t → G t = true → hr H b np ≤ hr H t np ∧ (hr H t np = hr H b np → b ≤ t)
theorem bst_eq (H : Nat → Nat) (np U : Nat) (G : Nat → Bool) (hH : ∀ i, i < np → 1 ≤ H i) (hU : U < 2 ^ np) (hG : ∀ t, G t = true → G (t &&& U) = true) (b b' : Nat) (h1 : bst H np G (fun t => t &&& U = t) b) (h2 : bst H np G (fun t => t < 2 ^ np) b') : b = b' := by
  obtain ⟨p1, p2, p3⟩ := h1
  obtain ⟨q1, q2, q3⟩ := h2
  have hb : b < 2 ^ np := by
    have : b ≤ U := by rw [← p1]; exact Nat.and_le_right
    omega
  have r1 := q3 b hb p2
  have r2 := p3 (b' &&& U) (sub_and b' U) (hG b' q2)
  have r3 := hr_and H b' U np
  have e : b' &&& U = b' := Classical.byContradiction (fun hne => by
    have := hr_lt H b' U np hH q1 hne
    omega)
  have r4 := p3 b' e q2
  have := r4.2 (by omega)
  have := r1.2 (by omega)
  omega
/-- the reference's way: one by one upwards -/
def rfs (H : Nat → Nat) (np : Nat) (G : Nat → Bool) : Nat → Option Nat
  | 0 => none
  | k + 1 => if G k = true then (match rfs H np G k with | none => some k | some b => if hr H b np ≤ hr H k np then some b else some k) else rfs H np G k
theorem rfs_ok (H : Nat → Nat) (np : Nat) (G : Nat → Bool) : ∀ k, (rfs H np G k = none → ∀ t, t < k → G t = false) ∧ ∀ b, rfs H np G k = some b → bst H np G (fun t => t < k) b := by
  intro k
  induction k with
  | zero => exact ⟨fun _ t ht => absurd ht (by omega), fun b e => absurd e (by simp [rfs])⟩
  | succ k ih =>
    obtain ⟨i1, i2⟩ := ih
    by_cases c : G k = true
    · cases hk : rfs H np G k with
      | none =>
        have e : rfs H np G (k + 1) = some k := by simp only [rfs, c, if_true, hk]
        refine ⟨fun z => absurd (e.symm.trans z) (by simp), fun b z => ?_⟩
        obtain rfl : k = b := by simpa using e.symm.trans z
        refine ⟨by omega, c, fun t ht gt => ?_⟩
        by_cases d : t = k
        · rw [d]; exact ⟨Nat.le_refl _, fun _ => Nat.le_refl _⟩
        · have := i1 hk t (by omega)
          rw [this] at gt
          exact absurd gt (by decide)
      | some b0 =>
        obtain ⟨q1, q2, q3⟩ := i2 b0 hk
        by_cases d : hr H b0 np ≤ hr H k np
        · have e : rfs H np G (k + 1) = some b0 := by simp only [rfs, c, if_true, hk, d]
          refine ⟨fun z => absurd (e.symm.trans z) (by simp), fun b z => ?_⟩
          obtain rfl : b0 = b := by simpa using e.symm.trans z
          refine ⟨by omega, q2, fun t ht gt => ?_⟩
          by_cases dd : t = k
          · rw [dd]; exact ⟨d, fun _ => by omega⟩
          · exact q3 t (by omega) gt
        · have e : rfs H np G (k + 1) = some k := by simp only [rfs, c, if_true, hk, d, if_false]
          refine ⟨fun z => absurd (e.symm.trans z) (by simp), fun b z => ?_⟩
          obtain rfl : k = b := by simpa using e.symm.trans z
          refine ⟨by omega, c, fun t ht gt => ?_⟩
          by_cases dd : t = k
          · rw [dd]; exact ⟨Nat.le_refl _, fun _ => Nat.le_refl _⟩
          · have := q3 t (by omega) gt
            exact ⟨by omega, fun _ => by omega⟩
    · have e : rfs H np G (k + 1) = rfs H np G k := by simp only [rfs, c, if_false]; rfl
      rw [e]
      refine ⟨fun z t ht => ?_, fun b z => ?_⟩
      · by_cases d : t = k
        · rw [d]; simpa using c
        · exact i1 z t (by omega)
      · obtain ⟨q1, q2, q3⟩ := i2 b z
        refine ⟨by omega, q2, fun t ht gt => ?_⟩
        by_cases d : t = k
        · rw [d] at gt; exact absurd gt c
        · exact q3 t (by omega) gt
