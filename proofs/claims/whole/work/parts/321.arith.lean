theorem lt_pred {n : Nat} (hn : n < 2 ^ 30) {x : Int32} : (nI n - 1 < x) = (nI n ≤ x) := by
  have e : (nI n - 1).toInt = (n : Int) - 1 := by
    have := pk_sub_toInt (a := n) (b := 1) hn (by decide)
    exact this
  rw [Int32.lt_iff_toInt_lt, Int32.le_iff_toInt_le, e, nI_toInt (by omega)]
  exact propext ⟨fun h => by omega, fun h => by omega⟩
theorem nl_lt {x : Int32} {n : Nat} (h : ¬ nI n ≤ x) (h0 : ¬ x < 0) (hn : n < 2 ^ 31) : ∃ j : Nat, j < n ∧ x = nI j := by
  rcases pk_ix x hn with h1 | h1 | h1
  · exact absurd h1 h0
  · exact absurd h1 h
  · exact h1
theorem in_lit {x M : Int32} {n : Nat} (hM : M.toInt = n) (h0 : ¬ x < 0) (h1 : ¬ M < x) : ∃ j : Nat, j ≤ n ∧ x = nI j := nI_of2 hM h0 (Int32.not_lt.mp h1)
theorem m3a (i w : Nat) : nI i * 3 + nI w = nI (3 * i + w) := by
  rw [show (3 : Int32) = nI 3 from rfl, pk_mul, nI_add, Nat.mul_comm]
theorem m3b (i w : Nat) : 3 * nI i + nI w = nI (3 * i + w) := by
  rw [show (3 : Int32) = nI 3 from rfl, pk_mul, nI_add]
theorem m9b (i w : Nat) : 9 * nI i + nI w = nI (9 * i + w) := by
  rw [show (9 : Int32) = nI 9 from rfl, pk_mul, nI_add]
theorem m16b (i w : Nat) : 16 * nI i + nI w = nI (16 * i + w) := by
  rw [show (16 : Int32) = nI 16 from rfl, pk_mul, nI_add]
theorem m40b (i w : Nat) : 40 * nI i + nI w = nI (40 * i + w) := by
  rw [show (40 : Int32) = nI 40 from rfl, pk_mul, nI_add]
theorem ii_ne {a b : Nat} (ha : a < 2 ^ 31) (hb : b < 2 ^ 31) (h : a ≠ b) : nI a ≠ nI b := fun e => h ((nI_eq ha hb).mp e)
