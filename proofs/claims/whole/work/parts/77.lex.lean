-- ===== the tape's bytes T, nt of them =====
def isL (b : Nat) : Prop := 97 ≤ b ∧ b ≤ 122
def isD (b : Nat) : Prop := 48 ≤ b ∧ b ≤ 57
/-- the end of a run of bytes from lo to hi -/
def rnE (T : Nat → Nat) (lo hi : Nat) : Nat → Nat → Nat
  | 0, p => p
  | m + 1, p => if lo ≤ T p ∧ T p ≤ hi then rnE T lo hi m (p + 1) else p
/-- behind the blanks -/
def skB (T : Nat → Nat) : Nat → Nat → Nat
  | 0, p => p
  | m + 1, p => if T p = 32 then skB T m (p + 1) else p
def sks (T : Nat → Nat) (nt p : Nat) : Nat := skB T (nt - p) p
/-- the end of the token at p -/
def tnd (T : Nat → Nat) (nt p : Nat) : Nat := if nt ≤ p then p else if 97 ≤ T p ∧ T p ≤ 122 then rnE T 97 122 (nt - p) p else if 48 ≤ T p ∧ T p ≤ 57 then rnE T 48 57 (nt - p) p else p + 1
/-- where token k stands -/
def pos (T : Nat → Nat) (nt : Nat) : Nat → Nat
  | 0 => sks T nt 0
  | k + 1 => sks T nt (tnd T nt (pos T nt k))
theorem rnE_bd (T : Nat → Nat) (lo hi : Nat) : ∀ m p, p ≤ rnE T lo hi m p ∧ rnE T lo hi m p ≤ p + m ∧ ∀ k, p ≤ k → k < rnE T lo hi m p → lo ≤ T k ∧ T k ≤ hi := by
  intro m
  induction m with
  | zero => intro p; exact ⟨Nat.le_refl _, Nat.le_refl _, fun k h1 h2 => absurd h2 (by rw [rnE]; omega)⟩
  | succ m ih =>
    intro p
    rw [rnE]
    by_cases c : lo ≤ T p ∧ T p ≤ hi
    · rw [if_pos c]
      obtain ⟨a, b, d⟩ := ih (p + 1)
      refine ⟨by omega, by omega, fun k h1 h2 => ?_⟩
      by_cases e : k = p
      · rw [e]; exact c
      · exact d k (by omega) h2
    · rw [if_neg c]
      exact ⟨Nat.le_refl _, by omega, fun k h1 h2 => absurd h2 (by omega)⟩
theorem rnE_st (T : Nat → Nat) (lo hi m p : Nat) (h : lo ≤ T p ∧ T p ≤ hi) : p + 1 ≤ rnE T lo hi (m + 1) p := by
  rw [rnE, if_pos h]
  exact (rnE_bd T lo hi m (p + 1)).1
theorem skB_bd (T : Nat → Nat) : ∀ m p, p ≤ skB T m p ∧ skB T m p ≤ p + m ∧ (skB T m p < p + m → T (skB T m p) ≠ 32) := by
  intro m
  induction m with
  | zero => intro p; exact ⟨Nat.le_refl _, Nat.le_refl _, fun h => absurd h (by rw [skB]; omega)⟩
  | succ m ih =>
    intro p
    rw [skB]
    by_cases c : T p = 32
    · rw [if_pos c]
      obtain ⟨a, b, d⟩ := ih (p + 1)
      exact ⟨by omega, by omega, fun h => d (by omega)⟩
    · rw [if_neg c]
      exact ⟨Nat.le_refl _, by omega, fun _ => c⟩
theorem sks_bd (T : Nat → Nat) (nt p : Nat) (hp : p ≤ nt) : p ≤ sks T nt p ∧ sks T nt p ≤ nt ∧ (sks T nt p < nt → T (sks T nt p) ≠ 32) := by
  obtain ⟨a, b, d⟩ := skB_bd T (nt - p) p
  unfold sks
  exact ⟨a, by omega, fun h => d (by omega)⟩
theorem sks_32 (T : Nat → Nat) (nt p : Nat) (hp : p < nt) (h : T p = 32) : sks T nt p = sks T nt (p + 1) := by
  unfold sks
  obtain ⟨m, hm⟩ : ∃ m, nt - p = m + 1 := ⟨nt - p - 1, by omega⟩
  rw [hm, skB, if_pos h, show nt - (p + 1) = m by omega]
theorem sks_ne (T : Nat → Nat) (nt p : Nat) (h : T p ≠ 32 ∨ nt ≤ p) : sks T nt p = p := by
  unfold sks
  by_cases c : nt ≤ p
  · rw [show nt - p = 0 by omega]; rfl
  · obtain ⟨m, hm⟩ : ∃ m, nt - p = m + 1 := ⟨nt - p - 1, by omega⟩
    rw [hm, skB, if_neg (h.resolve_right c)]
theorem tnd_bd (T : Nat → Nat) (nt p : Nat) (hp : p < nt) : p + 1 ≤ tnd T nt p ∧ tnd T nt p ≤ nt := by
  unfold tnd
  rw [if_neg (by omega)]
  obtain ⟨m, hm⟩ : ∃ m, nt - p = m + 1 := ⟨nt - p - 1, by omega⟩
  by_cases c1 : 97 ≤ T p ∧ T p ≤ 122
  · rw [if_pos c1, hm]
    have := rnE_bd T 97 122 (m + 1) p
    exact ⟨rnE_st T 97 122 m p c1, by omega⟩
  · rw [if_neg c1]
    by_cases c2 : 48 ≤ T p ∧ T p ≤ 57
    · rw [if_pos c2, hm]
      have := rnE_bd T 48 57 (m + 1) p
      exact ⟨rnE_st T 48 57 m p c2, by omega⟩
    · rw [if_neg c2]
      omega
theorem pos_bd (T : Nat → Nat) (nt : Nat) : ∀ k, pos T nt k ≤ nt ∧ (pos T nt k < nt → T (pos T nt k) ≠ 32) := by
  intro k
  induction k with
  | zero => exact ⟨(sks_bd T nt 0 (by omega)).2.1, (sks_bd T nt 0 (by omega)).2.2⟩
  | succ k ih =>
    rw [pos]
    have h : tnd T nt (pos T nt k) ≤ nt := by
      by_cases c : nt ≤ pos T nt k
      · unfold tnd; rw [if_pos c]; exact ih.1
      · exact (tnd_bd T nt _ (by omega)).2
    exact ⟨(sks_bd T nt _ h).2.1, (sks_bd T nt _ h).2.2⟩
theorem pos_end (T : Nat → Nat) (nt k : Nat) (h : nt ≤ pos T nt k) : pos T nt (k + 1) = pos T nt k := by
  rw [pos]
  unfold tnd
  rw [if_pos h, sks_ne T nt _ (Or.inr h)]
theorem pos_lt (T : Nat → Nat) (nt k : Nat) (h : pos T nt k < nt) : pos T nt k < pos T nt (k + 1) := by
  rw [pos]
  have := tnd_bd T nt _ h
  have := sks_bd T nt _ this.2
  omega
theorem pos_ge (T : Nat → Nat) (nt : Nat) : ∀ k, (∀ j, j < k → pos T nt j < nt) → k ≤ pos T nt k := by
  intro k
  induction k with
  | zero => intro _; omega
  | succ k ih =>
    intro h
    have := ih (fun j hj => h j (by omega))
    have := pos_lt T nt k (h k (by omega))
    omega
-- ===== numbers and words =====
def nmb (T : Nat → Nat) (p : Nat) : Nat → Nat
  | 0 => 0
  | m + 1 => 10 * nmb T p m + (T (p + m) - 48)
theorem nmb_bd (T : Nat → Nat) (p : Nat) : ∀ m, (∀ k, k < m → T (p + k) ≤ 57) → nmb T p m < 10 ^ m := by
  intro m
  induction m with
  | zero => intro _; rw [nmb]; decide
  | succ m ih =>
    intro h
    have h1 := ih (fun k hk => h k (by omega))
    have h2 := h m (by omega)
    rw [nmb, Nat.pow_succ]
    omega
def hsh (T : Nat → Nat) (p : Nat) : Nat → Nat
  | 0 => 0
  | m + 1 => 27 * hsh T p m + (T (p + m) - 96)
theorem hsh_bd (T : Nat → Nat) (p : Nat) : ∀ m, (∀ k, k < m → T (p + k) ≤ 122) → hsh T p m < 27 ^ m := by
  intro m
  induction m with
  | zero => intro _; rw [hsh]; decide
  | succ m ih =>
    intro h
    have h1 := ih (fun k hk => h k (by omega))
    have h2 := h m (by omega)
    rw [hsh, Nat.pow_succ]
    omega
theorem hsh_inj (T U : Nat → Nat) (p q : Nat) : ∀ m l, (∀ k, k < m → 97 ≤ T (p + k) ∧ T (p + k) ≤ 122) → (∀ k, k < l → 97 ≤ U (q + k) ∧ U (q + k) ≤ 122) → hsh T p m = hsh U q l → m = l ∧ ∀ k, k < m → T (p + k) = U (q + k) := by
  intro m
  induction m with
  | zero =>
    intro l h1 h2 e
    cases l with
    | zero => exact ⟨rfl, fun k hk => absurd hk (by omega)⟩
    | succ l =>
      have := h2 l (by omega)
      rw [hsh, hsh] at e
      omega
  | succ m ih =>
    intro l h1 h2 e
    cases l with
    | zero =>
      have := h1 m (by omega)
      rw [hsh, hsh] at e
      omega
    | succ l =>
      have a1 := h1 m (by omega)
      have a2 := h2 l (by omega)
      rw [hsh, hsh] at e
      obtain ⟨b1, b2⟩ := ih l (fun k hk => h1 k (by omega)) (fun k hk => h2 k (by omega)) (by omega)
      subst b1
      refine ⟨rfl, fun k hk => ?_⟩
      by_cases c : k = m
      · rw [c]; omega
      · exact b2 k (by omega)
/-- do m letters from k on agree with word i -/
def spA (T : Nat → Nat) (p i : Nat) : Nat → Nat → Bool
  | 0, _ => true
  | m + 1, k => decide ((STb.getD i []).getD k 0 &&& 255 = nI (T (p + k))) && spA T p i m (k + 1)
def spb (T : Nat → Nat) (p l i : Nat) : Bool := decide (STl.getD i 0 = l) && spA T p i l 0
/-- the code of a word, m words from i on -/
def wcf (T : Nat → Nat) (p l : Nat) : Nat → Nat → Int32
  | 0, _ => 257
  | m + 1, i => if spb T p l i = true then nI (300 + i) else wcf T p l m (i + 1)
/-- the words' letters and their numbers -/
def swd (i k : Nat) : Nat := ((STb.getD i []).getD k 0).toNatClampNeg
def Wn : List Nat := [5649913681, 6559778, 79, 316163, 131638, 1111, 423, 10631, 2968, 370000, 385331, 10989814, 10416350, 262972, 277560328]
theorem swd_ok : ∀ i, i < 15 → ∀ k, k < STl.getD i 0 → (STb.getD i []).getD k 0 &&& 255 = nI (swd i k) ∧ 97 ≤ swd i k ∧ swd i k ≤ 122 := by decide
theorem Wn_ok : ∀ i, i < 15 → hsh (swd i) 0 (STl.getD i 0) = Wn.getD i 0 := by decide
theorem Wn_inj : ∀ i, i < 15 → ∀ j, j < 15 → Wn.getD i 0 = Wn.getD j 0 → i = j := by decide
theorem STl_le : ∀ i, i < 15 → STl.getD i 0 ≤ 7 := by decide
theorem spA_iff (T : Nat → Nat) (p i : Nat) (hT : ∀ k, T k < 256) (hi : i < 15) : ∀ m k, k + m ≤ STl.getD i 0 → (spA T p i m k = true ↔ ∀ j, k ≤ j → j < k + m → T (p + j) = swd i j) := by
  intro m
  induction m with
  | zero => intro k _; exact ⟨fun _ j h1 h2 => absurd h2 (by omega), fun _ => rfl⟩
  | succ m ih =>
    intro k hk
    rw [spA, Bool.and_eq_true, ih (k + 1) (by omega), decide_eq_true_iff, (swd_ok i hi k (by omega)).1]
    have hs := swd_ok i hi k (by omega)
    have ht := hT (p + k)
    constructor
    · intro ⟨e1, e2⟩ j h1 h2
      by_cases c : j = k
      · rw [c]; exact ((nI_eq (by omega) (by omega)).mp e1).symm
      · exact e2 j (by omega) (by omega)
    · intro h
      exact ⟨by rw [h k (by omega) (by omega)], fun j h1 h2 => h j (by omega) (by omega)⟩
theorem spb_iff (T : Nat → Nat) (p l i : Nat) (hT : ∀ k, T k < 256) (hi : i < 15) (hl : ∀ k, k < l → 97 ≤ T (p + k) ∧ T (p + k) ≤ 122) : spb T p l i = true ↔ hsh T p l = Wn.getD i 0 := by
  unfold spb
  rw [Bool.and_eq_true, decide_eq_true_iff, ← Wn_ok i hi]
  constructor
  · intro ⟨e1, e2⟩
    subst e1
    rw [spA_iff T p i hT hi _ 0 (by omega)] at e2
    have : ∀ m, m ≤ STl.getD i 0 → hsh T p m = hsh (swd i) 0 m := by
      intro m
      induction m with
      | zero => intro _; rfl
      | succ m ih => intro h; rw [hsh, hsh, ih (by omega), e2 m (by omega) (by omega), Nat.zero_add]
    exact this _ (Nat.le_refl _)
  · intro e
    obtain ⟨h1, h2⟩ := hsh_inj T (swd i) p 0 l (STl.getD i 0) hl (fun k hk => by rw [Nat.zero_add]; exact (swd_ok i hi k hk).2) e
    refine ⟨h1.symm, ?_⟩
    rw [spA_iff T p i hT hi l 0 (by omega)]
    intro j _ h3
    have := h2 j (by omega)
    rw [Nat.zero_add] at this
    exact this
theorem wcf_cases (T : Nat → Nat) (p l : Nat) : ∀ m i, (wcf T p l m i = 257 ∧ ∀ j, i ≤ j → j < i + m → spb T p l j = false) ∨ ∃ j, i ≤ j ∧ j < i + m ∧ spb T p l j = true ∧ wcf T p l m i = nI (300 + j) := by
  intro m
  induction m with
  | zero => intro i; exact Or.inl ⟨rfl, fun j h1 h2 => absurd h2 (by omega)⟩
  | succ m ih =>
    intro i
    rw [wcf]
    by_cases c : spb T p l i = true
    · rw [if_pos c]
      exact Or.inr ⟨i, by omega, by omega, c, rfl⟩
    · rw [if_neg c]
      rcases ih (i + 1) with ⟨h1, h2⟩ | ⟨j, h1, h2, h3, h4⟩
      · refine Or.inl ⟨h1, fun j h3 h4 => ?_⟩
        by_cases e : j = i
        · rw [e]; simpa using c
        · exact h2 j (by omega) (by omega)
      · exact Or.inr ⟨j, by omega, by omega, h3, h4⟩
/-- the reference's number of a word -/
def wrd (T : Nat → Nat) (p l : Nat) : Int64 := if l ≤ 8 then lN (hsh T p l) else -1
theorem Wn_lt : ∀ i, i < 15 → Wn.getD i 0 < 2 ^ 63 := by decide
theorem wrd_iff (T : Nat → Nat) (p l i : Nat) (hT : ∀ k, T k < 256) (hi : i < 15) (hl : ∀ k, k < l → 97 ≤ T (p + k) ∧ T (p + k) ≤ 122) : wrd T p l = lN (Wn.getD i 0) ↔ spb T p l i = true := by
  unfold wrd
  by_cases c : l ≤ 8
  · rw [if_pos c, spb_iff T p l i hT hi hl]
    have h1 := hsh_bd T p l (fun k hk => (hl k hk).2)
    have h2 : 27 ^ l ≤ 27 ^ 8 := Nat.pow_le_pow_right (by decide) c
    exact pk_lEQ (by omega) (Wn_lt i hi)
  · rw [if_neg c]
    constructor
    · intro e
      have h1 : (-1 : Int64).toInt = -1 := by decide
      have h2 := pk_lT (Wn_lt i hi)
      rw [← e, h1] at h2
      omega
    · intro e
      unfold spb at e
      rw [Bool.and_eq_true, decide_eq_true_iff] at e
      have := STl_le i hi
      omega
theorem wcf_iff (T : Nat → Nat) (p l i : Nat) (hT : ∀ k, T k < 256) (hi : i < 15) (hl : ∀ k, k < l → 97 ≤ T (p + k) ∧ T (p + k) ≤ 122) : wcf T p l 15 0 = nI (300 + i) ↔ spb T p l i = true := by
  rcases wcf_cases T p l 15 0 with ⟨h1, h2⟩ | ⟨j, h1, h2, h3, h4⟩
  · constructor
    · intro e
      rw [h1] at e
      exact absurd ((nI_eq (a := 257) (by decide) (by omega)).mp e) (by omega)
    · intro e
      rw [h2 i (by omega) (by omega)] at e
      exact absurd e (by decide)
  · rw [h4]
    constructor
    · intro e
      have : j = i := by have := (nI_eq (by omega) (by omega)).mp e; omega
      rw [← this]; exact h3
    · intro e
      have e1 := (spb_iff T p l j hT (by omega) hl).mp h3
      have e2 := (spb_iff T p l i hT hi hl).mp e
      rw [Wn_inj j (by omega) i hi (by rw [← e1, ← e2])]
theorem wcf_le (T : Nat → Nat) (p l : Nat) : wcf T p l 15 0 = 257 ∨ ∃ j, j < 15 ∧ wcf T p l 15 0 = nI (300 + j) := by
  rcases wcf_cases T p l 15 0 with ⟨h1, -⟩ | ⟨j, -, h2, -, h4⟩
  · exact Or.inl h1
  · exact Or.inr ⟨j, by omega, h4⟩
/-- the class's code and value of the token at p -/
def cdp (T : Nat → Nat) (nt p : Nat) : Int32 := if nt ≤ p then 258 else if 97 ≤ T p ∧ T p ≤ 122 then wcf T p (tnd T nt p - p) 15 0 else if 48 ≤ T p ∧ T p ≤ 57 then (if tnd T nt p - p ≤ 4 then 256 else 257) else nI (T p)
def vlp (T : Nat → Nat) (nt p : Nat) : Int32 := if nt ≤ p then 0 else if 97 ≤ T p ∧ T p ≤ 122 then 0 else if 48 ≤ T p ∧ T p ≤ 57 then (if tnd T nt p - p ≤ 4 then nI (nmb T p (tnd T nt p - p)) else 0) else 0
/-- the reference's fields at p -/
def srp (T : Nat → Nat) (nt p : Nat) : Int32 := if nt ≤ p then 0 else if 97 ≤ T p ∧ T p ≤ 122 then 1 else if 48 ≤ T p ∧ T p ≤ 57 then 2 else 3
def wdp (T : Nat → Nat) (nt p : Nat) : Int64 := if nt ≤ p then 0 else if 97 ≤ T p ∧ T p ≤ 122 then wrd T p (tnd T nt p - p) else 0
def vap (T : Nat → Nat) (nt p : Nat) : Int32 := if nt ≤ p then -1 else if 97 ≤ T p ∧ T p ≤ 122 then nI (T p) else if 48 ≤ T p ∧ T p ≤ 57 then (if tnd T nt p - p ≤ 4 then nI (nmb T p (tnd T nt p - p)) else -1) else nI (T p)
