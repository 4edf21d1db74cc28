/-- what a sign makes of two numbers -/
def jn (v x y : Int32) : Int32 := if v = 30042 then x * y else if v = 30043 then x + y else if v = 30045 then x - y else if v = 30060 then (if y ≤ x then 0 else 1) else if v = 30061 then (if x = y then 1 else 0) else if v = 40000 then (if x = 0 then 0 else if y = 0 then 0 else 1) else if v = 40001 then (if x = 0 then (if y = 0 then 0 else 1) else 1) else if x ≤ y then 0 else 1
/-- one word of a rule on a pile of numbers -/
def ev1 (F : Nat → Int32) (v : Int32) (st : List Int32) : List Int32 := if v = 40002 then (match st with | x :: r => (1 - x) :: r | [] => []) else if v = 40003 then (match st with | x :: r => (0 - x) :: r | [] => []) else if v < 30000 then (if v < 20000 then v else F (v - 20000).toNatClampNeg) :: st else (match st with | y :: x :: r => jn v x y :: r | _ => [])
/-- m words from k on -/
def evs (F f : Nat → Int32) : Nat → Nat → List Int32 → List Int32
  | 0, _, st => st
  | m + 1, k, st => evs F f m (k + 1) (ev1 F (f k) st)
/-- numbers of such kinds -/
def okv : List Bool → List Int32 → Prop
  | [], [] => True
  | b :: t, v :: r => (b = true → v = 0 ∨ v = 1) ∧ okv t r
  | _, _ => False
theorem okv_len : ∀ (t : List Bool) (r : List Int32), okv t r → r.length = t.length := by
  intro t
  induction t with
  | nil => intro r h; cases r with
    | nil => rfl
    | cons a b => exact absurd h id
  | cons b t ih => intro r h; cases r with
    | nil => exact absurd h id
    | cons v r => show r.length + 1 = t.length + 1; rw [ih r h.2]
theorem okv1 {b : Bool} {t : List Bool} {vs : List Int32} (h : okv (b :: t) vs) : ∃ x r, vs = x :: r ∧ (b = true → x = 0 ∨ x = 1) ∧ okv t r := by
  cases vs with
  | nil => exact absurd h id
  | cons v r => exact ⟨v, r, rfl, h.1, h.2⟩
/-- the pile lies in an array, the last one at the list's head -/
def stk (A : Nat → Int32) : List Int32 → Prop
  | [] => True
  | v :: r => A r.length = v ∧ stk A r
theorem stk_up {A B : Nat → Int32} : ∀ (r : List Int32), (∀ i, i < r.length → B i = A i) → stk A r → stk B r := by
  intro r
  induction r with
  | nil => intro _ _; exact trivial
  | cons v r ih => intro h k; exact ⟨(h r.length (Nat.lt_succ_self _)).trans k.1, ih (fun i hi => h i (Nat.lt_succ_of_lt hi)) k.2⟩
theorem jn_cmp (v x y : Int32) (h : v = 30060 ∨ v = 30061 ∨ v = 30062) : jn v x y = 0 ∨ jn v x y = 1 := by
  unfold jn
  rcases h with rfl | rfl | rfl
  · by_cases c : y ≤ x
    · simp (decide := true) only [c, if_true, if_false, reduceIte, true_or]
    · simp (decide := true) only [c, if_true, if_false, reduceIte, or_true]
  · by_cases c : x = y
    · simp (decide := true) only [c, if_true, if_false, reduceIte, or_true]
    · simp (decide := true) only [c, if_true, if_false, reduceIte, true_or]
  · by_cases c : x ≤ y
    · simp (decide := true) only [c, if_true, if_false, reduceIte, true_or]
    · simp (decide := true) only [c, if_true, if_false, reduceIte, or_true]
theorem jn_log (v x y : Int32) (h : v = 40000 ∨ v = 40001) : jn v x y = 0 ∨ jn v x y = 1 := by
  unfold jn
  rcases h with rfl | rfl
  · by_cases c : x = 0
    · simp (decide := true) only [c, if_true, if_false, reduceIte, true_or]
    · by_cases d : y = 0
      · simp (decide := true) only [c, d, if_true, if_false, reduceIte, true_or]
      · simp (decide := true) only [c, d, if_true, if_false, reduceIte, or_true]
  · by_cases c : x = 0
    · by_cases d : y = 0
      · simp (decide := true) only [c, d, if_true, if_false, reduceIte, true_or]
      · simp (decide := true) only [c, d, if_true, if_false, reduceIte, or_true]
    · simp (decide := true) only [c, if_true, if_false, reduceIte, or_true]
theorem ev_num (F : Nat → Int32) {n : Nat} (hn : n ≤ 9999) (st : List Int32) : ev1 F (nI n) st = nI n :: st := by
  unfold ev1
  rw [if_neg (show ¬ nI n = 40002 from ii_ne (b := 40002) (by omega) (by decide) (by omega)), if_neg (show ¬ nI n = 40003 from ii_ne (b := 40003) (by omega) (by decide) (by omega)), if_pos (show nI n < 30000 from nI_lt (b := 30000) (by omega) (by decide)), if_pos (show nI n < 20000 from nI_lt (b := 20000) (by omega) (by decide))]
theorem ev_fact (F : Nat → Int32) {n : Nat} (hn : n ≤ 6) (st : List Int32) : ev1 F (nI (20000 + n)) st = F n :: st := by
  unfold ev1
  rw [if_neg (show ¬ nI (20000 + n) = 40002 from ii_ne (b := 40002) (by omega) (by decide) (by omega)), if_neg (show ¬ nI (20000 + n) = 40003 from ii_ne (b := 40003) (by omega) (by decide) (by omega)), if_pos (show nI (20000 + n) < 30000 from nI_lt (b := 30000) (by omega) (by decide)), if_neg (show ¬ nI (20000 + n) < 20000 from nI_nlt (b := 20000) (by omega) (by omega)), show (20000 : Int32) = nI 20000 from rfl, pk_sub (by omega), Nat.add_sub_cancel_left, nI_clamp (by omega)]
theorem ev_bin (F : Nat → Int32) {v : Int32} (h : v = 40000 ∨ v = 40001 ∨ v = 30042 ∨ v = 30043 ∨ v = 30045 ∨ v = 30060 ∨ v = 30061 ∨ v = 30062) (y x : Int32) (r : List Int32) : ev1 F v (y :: x :: r) = jn v x y :: r := by
  unfold ev1
  rcases h with rfl | rfl | rfl | rfl | rfl | rfl | rfl | rfl <;> simp (decide := true) only [if_true, if_false, reduceIte]
theorem ev_ok (F : Nat → Int32) {v : Int32} {t t' : List Bool} {vs : List Int32} (h : wst v t t') (k : okv t vs) : okv t' (ev1 F v vs) := by
  rcases h with ⟨rfl, r, rfl, rfl⟩ | ⟨rfl, r, rfl, rfl⟩ | ⟨hv, r, rfl, rfl⟩ | ⟨hv, r, rfl, rfl⟩ | ⟨hv, r, rfl, rfl⟩ | ⟨hv, rfl⟩
  · obtain ⟨x, q, rfl, k1, k2⟩ := okv1 k
    refine ⟨fun _ => ?_, k2⟩
    rcases k1 rfl with rfl | rfl
    · exact Or.inr (by decide)
    · exact Or.inl (by decide)
  · obtain ⟨x, q, rfl, k1, k2⟩ := okv1 k
    exact ⟨fun e => absurd e (by decide), k2⟩
  · obtain ⟨y, q, rfl, -, k2⟩ := okv1 k
    obtain ⟨x, q, rfl, -, k3⟩ := okv1 k2
    rw [ev_bin F (by rcases hv with e | e <;> simp [e])]
    exact ⟨fun _ => jn_log v x y hv, k3⟩
  · obtain ⟨y, q, rfl, -, k2⟩ := okv1 k
    obtain ⟨x, q, rfl, -, k3⟩ := okv1 k2
    rw [ev_bin F (by rcases hv with e | e | e <;> simp [e])]
    exact ⟨fun e => absurd e (by decide), k3⟩
  · obtain ⟨y, q, rfl, -, k2⟩ := okv1 k
    obtain ⟨x, q, rfl, -, k3⟩ := okv1 k2
    rw [ev_bin F (by rcases hv with e | e | e <;> simp [e])]
    exact ⟨fun _ => jn_cmp v x y hv, k3⟩
  · rcases hv with ⟨n, hn, rfl⟩ | ⟨n, hn, rfl⟩
    · rw [ev_num F hn]
      exact ⟨fun e => absurd e (by decide), k⟩
    · rw [ev_fact F hn]
      exact ⟨fun e => absurd e (by decide), k⟩
/-- what a rule comes to -/
theorem ev_end (F f : Nat → Int32) : ∀ (m k : Nat) (t : List Bool) (vs : List Int32), wrn f m k t [true] → okv t vs → ∃ b : Int32, (b = 0 ∨ b = 1) ∧ evs F f m k vs = [b] := by
  intro m
  induction m with
  | zero =>
    intro k t vs h k2
    have h' : t = [true] := h
    subst h'
    obtain ⟨x, r, rfl, k3, k4⟩ := okv1 k2
    have := okv_len _ _ k4
    cases r with
    | nil => exact ⟨x, k3 rfl, rfl⟩
    | cons a b => exact absurd this (by simp)
  | succ m ih =>
    intro k t vs h k2
    obtain ⟨s1, h1, h2⟩ := h
    exact ih (k + 1) s1 _ h2 (ev_ok F h1 k2)
theorem w_joined11 {N : Nat} {S : PS} {v x y : Int32} {K : Int32 → PS → Prop} : wp_X11_joined N S v x y K = K (jn v x y) S := by
  unfold wp_X11_joined jn
  repeat' split
  all_goals first | rfl | contradiction
theorem phi_num {n : Nat} (hn : n ≤ 9999) : phi (nI n) = nI n := by
  unfold phi
  rw [if_neg (show ¬ nI n = 40000 from ii_ne (b := 40000) (by omega) (by decide) (by omega)), if_neg (show ¬ nI n = 40001 from ii_ne (b := 40001) (by omega) (by decide) (by omega)), if_neg (show ¬ nI n = 40002 from ii_ne (b := 40002) (by omega) (by decide) (by omega)), if_neg (show ¬ nI n = 40003 from ii_ne (b := 40003) (by omega) (by decide) (by omega)), if_neg (show ¬ nI n = 30042 from ii_ne (b := 30042) (by omega) (by decide) (by omega)), if_neg (show ¬ nI n = 30043 from ii_ne (b := 30043) (by omega) (by decide) (by omega)), if_neg (show ¬ nI n = 30045 from ii_ne (b := 30045) (by omega) (by decide) (by omega)), if_neg (show ¬ nI n = 30060 from ii_ne (b := 30060) (by omega) (by decide) (by omega)), if_neg (show ¬ nI n = 30061 from ii_ne (b := 30061) (by omega) (by decide) (by omega)), if_neg (show ¬ nI n = 30062 from ii_ne (b := 30062) (by omega) (by decide) (by omega)), if_neg (show ¬ 20000 ≤ nI n from nI_ge (b := 20000) (by omega) (by decide))]
theorem and01 {x y : Int32} (hx : x = 0 ∨ x = 1) (hy : y = 0 ∨ y = 1) : x &&& y = jn 40000 x y ∧ x ||| y = jn 40001 x y := by
  rcases hx with rfl | rfl <;> rcases hy with rfl | rfl <;> decide
theorem w_joined10 {N : Nat} {S : PS} {v x y : Int32} {K : Int32 → PS → Prop} (h : v = 40000 ∨ v = 40001 ∨ v = 30042 ∨ v = 30043 ∨ v = 30045 ∨ v = 30060 ∨ v = 30061 ∨ v = 30062) (h2 : v = 40000 ∨ v = 40001 → (x = 0 ∨ x = 1) ∧ (y = 0 ∨ y = 1)) : wp_X2_joined N S (phi v) x y K = K (jn v x y) S := by
  rcases h with rfl | rfl | rfl | rfl | rfl | rfl | rfl | rfl
  · rw [← (and01 (h2 (Or.inl rfl)).1 (h2 (Or.inl rfl)).2).1, show phi 40000 = -16 by decide]
    unfold wp_X2_joined
    simp (decide := true) only [if_true, if_false, reduceIte]
  · rw [← (and01 (h2 (Or.inr rfl)).1 (h2 (Or.inr rfl)).2).2, show phi 40001 = -17 by decide]
    unfold wp_X2_joined
    simp (decide := true) only [if_true, if_false, reduceIte]
  · rw [show phi 30042 = -10 by decide]
    unfold wp_X2_joined jn
    simp (decide := true) only [if_true, if_false, reduceIte]
  · rw [show phi 30043 = -11 by decide]
    unfold wp_X2_joined jn
    simp (decide := true) only [if_true, if_false, reduceIte]
  · rw [show phi 30045 = -12 by decide]
    unfold wp_X2_joined jn
    simp (decide := true) only [if_true, if_false, reduceIte]
  · rw [show phi 30060 = -13 by decide]
    unfold wp_X2_joined jn
    by_cases c : y ≤ x
    · simp (decide := true) only [c, if_true, if_false, reduceIte]
    · simp (decide := true) only [c, if_true, if_false, reduceIte]
  · rw [show phi 30061 = -14 by decide]
    unfold wp_X2_joined jn
    by_cases c : x = y
    · simp (decide := true) only [c, if_true, if_false, reduceIte]
    · simp (decide := true) only [c, if_true, if_false, reduceIte]
  · rw [show phi 30062 = -15 by decide]
    unfold wp_X2_joined jn
    by_cases c : x ≤ y
    · simp (decide := true) only [c, if_true, if_false, reduceIte]
    · simp (decide := true) only [c, if_true, if_false, reduceIte]
