/-- insertion, from the end: the list's head is the last one -/
def insR (D : Nat → Nat) (r : Nat) : List Nat → List Nat
  | [] => [r]
  | y :: ys => if D y ≤ D r then r :: y :: ys else y :: insR D r ys
/-- the class's order of the first n runs (those with W) -/
def oR (D W : Nat → Nat) : Nat → List Nat
  | 0 => []
  | n + 1 => if W n = 1 then insR D n (oR D W n) else oR D W n
/-- the runs of one day -/
def rbk (D W : Nat → Nat) (d : Nat) : Nat → List Nat
  | 0 => []
  | n + 1 => if W n = 1 then (if D n = d then n :: rbk D W d n else rbk D W d n) else rbk D W d n
/-- day by day -/
def gR (D W : Nat → Nat) (n : Nat) : Nat → List Nat
  | 0 => []
  | t + 1 => rbk D W t n ++ gR D W n t
theorem insR_app (D : Nat → Nat) (r : Nat) (X : List Nat) : ∀ A : List Nat, (∀ a ∈ A, D r < D a) → insR D r (A ++ X) = A ++ insR D r X := by
  intro A
  induction A with
  | nil => intro _; rfl
  | cons y ys ih =>
    intro h
    show insR D r (y :: (ys ++ X)) = _
    rw [insR, if_neg (by have := h y (by simp); omega), ih (fun a ha => h a (by simp [ha]))]
    rfl
theorem insR_le (D : Nat → Nat) (r : Nat) (X : List Nat) (h : ∀ x ∈ X, D x ≤ D r) : insR D r X = r :: X := by
  cases X with
  | nil => rfl
  | cons y ys => rw [insR, if_pos (h y (by simp))]
theorem rbk_mem (D W : Nat → Nat) (d : Nat) : ∀ n, ∀ x ∈ rbk D W d n, D x = d ∧ x < n := by
  intro n
  induction n with
  | zero => intro x h; exact absurd h (by simp [rbk])
  | succ n ih =>
    intro x h
    rw [rbk] at h
    by_cases c1 : W n = 1
    · rw [if_pos c1] at h
      by_cases c2 : D n = d
      · rw [if_pos c2] at h
        rcases List.mem_cons.mp h with e | e
        · rw [e]; exact ⟨c2, by omega⟩
        · have := ih x e; exact ⟨this.1, by omega⟩
      · rw [if_neg c2] at h
        have := ih x h; exact ⟨this.1, by omega⟩
    · rw [if_neg c1] at h
      have := ih x h; exact ⟨this.1, by omega⟩
theorem gR_mem (D W : Nat → Nat) (n : Nat) : ∀ t, ∀ x ∈ gR D W n t, D x < t ∧ x < n := by
  intro t
  induction t with
  | zero => intro x h; exact absurd h (by simp [gR])
  | succ t ih =>
    intro x h
    rw [gR] at h
    rcases List.mem_append.mp h with e | e
    · have := rbk_mem D W t n x e; exact ⟨by omega, this.2⟩
    · have := ih x e; exact ⟨by omega, this.2⟩
theorem gR_old (D W : Nat → Nat) (n : Nat) : ∀ t, (W n = 1 → t ≤ D n) → gR D W (n + 1) t = gR D W n t := by
  intro t
  induction t with
  | zero => intro _; rfl
  | succ t ih =>
    intro h
    rw [gR, gR, ih (fun e => by have := h e; omega), rbk]
    by_cases c1 : W n = 1
    · rw [if_pos c1, if_neg (by have := h c1; omega)]
    · rw [if_neg c1]
theorem gR_new (D W : Nat → Nat) (n : Nat) (hw : W n = 1) : ∀ t, D n < t → gR D W (n + 1) t = insR D n (gR D W n t) := by
  intro t
  induction t with
  | zero => intro h; exact absurd h (by omega)
  | succ t ih =>
    intro h
    rw [gR, gR, rbk, if_pos hw]
    by_cases c : D n = t
    · rw [if_pos c, gR_old D W n t (fun _ => by omega)]
      rw [insR_le]
      · rfl
      · intro x hx
        rcases List.mem_append.mp hx with e | e
        · have := rbk_mem D W t n x e; omega
        · have := gR_mem D W n t x e; omega
    · rw [if_neg c, ih (by omega), insR_app]
      intro a ha
      have := rbk_mem D W t n a ha
      omega
theorem gR_nil (D W : Nat → Nat) : ∀ t, gR D W 0 t = [] := by
  intro t
  induction t with
  | zero => rfl
  | succ t ih => rw [gR, ih]; rfl
theorem oR_gR (D W : Nat → Nat) (t : Nat) : ∀ n, (∀ r, r < n → D r < t) → oR D W n = gR D W n t := by
  intro n
  induction n with
  | zero =>
    intro _
    rw [oR, gR_nil]
  | succ n ih =>
    intro h
    rw [oR, ih (fun r hr => h r (by omega))]
    by_cases c : W n = 1
    · rw [if_pos c, gR_new D W n c t (h n (by omega))]
    · rw [if_neg c, gR_old D W n t (fun e => absurd e c)]
theorem insR_len (D : Nat → Nat) (r : Nat) : ∀ X, (insR D r X).length = X.length + 1 := by
  intro X
  induction X with
  | nil => rfl
  | cons y ys ih =>
    rw [insR]
    by_cases c : D y ≤ D r
    · rw [if_pos c]; rfl
    · rw [if_neg c]; show (insR D r ys).length + 1 = ys.length + 1 + 1; rw [ih]
theorem oR_len (D W : Nat → Nat) : ∀ n, (oR D W n).length ≤ n := by
  intro n
  induction n with
  | zero => exact Nat.le_refl _
  | succ n ih =>
    rw [oR]
    by_cases c : W n = 1
    · rw [if_pos c, insR_len]; omega
    · rw [if_neg c]; omega
theorem rbk_len (D W : Nat → Nat) (d : Nat) : ∀ n, (rbk D W d n).length ≤ n := by
  intro n
  induction n with
  | zero => exact Nat.le_refl _
  | succ n ih =>
    rw [rbk]
    by_cases c : W n = 1
    · rw [if_pos c]
      by_cases c2 : D n = d
      · rw [if_pos c2]; show _ + 1 ≤ _; omega
      · rw [if_neg c2]; omega
    · rw [if_neg c]; omega
theorem insR_mem (D : Nat → Nat) (r : Nat) : ∀ X, ∀ x ∈ insR D r X, x = r ∨ x ∈ X := by
  intro X
  induction X with
  | nil => intro x h; exact Or.inl (by simpa [insR] using h)
  | cons y ys ih =>
    intro x h
    rw [insR] at h
    by_cases c : D y ≤ D r
    · rw [if_pos c] at h
      exact List.mem_cons.mp h
    · rw [if_neg c] at h
      rcases List.mem_cons.mp h with e | e
      · exact Or.inr (by simp [e])
      · rcases ih x e with z | z
        · exact Or.inl z
        · exact Or.inr (by simp [z])
theorem oR_mem (D W : Nat → Nat) : ∀ n, ∀ x ∈ oR D W n, x < n := by
  intro n
  induction n with
  | zero => intro x h; exact absurd h (by simp [oR])
  | succ n ih =>
    intro x h
    rw [oR] at h
    by_cases c : W n = 1
    · rw [if_pos c] at h
      rcases insR_mem D n _ x h with e | e
      · omega
      · have := ih x e; omega
    · rw [if_neg c] at h
      have := ih x h; omega
/-- a list lies in an array from off on, its head last -/
def stn (A : Nat → Int32) (off : Nat) : List Nat → Prop
  | [] => True
  | v :: r => A (off + r.length) = nI v ∧ stn A off r
theorem stn_up {A B : Nat → Int32} {off : Nat} : ∀ (r : List Nat), (∀ i, off ≤ i → i < off + r.length → B i = A i) → stn A off r → stn B off r := by
  intro r
  induction r with
  | nil => intro _ _; exact trivial
  | cons v r ih => intro h k; exact ⟨(h _ (by omega) (by show _ < off + (r.length + 1); omega)).trans k.1, ih (fun i h1 h2 => h i h1 (by show _ < off + (r.length + 1); omega)) k.2⟩
theorem stn_app {A : Nat → Int32} (Y : List Nat) (hY : stn A 0 Y) : ∀ X : List Nat, stn A Y.length X → stn A 0 (X ++ Y) := by
  intro X
  induction X with
  | nil => intro _; exact hY
  | cons v r ih =>
    intro k
    show A (0 + (r ++ Y).length) = nI v ∧ stn A 0 (r ++ Y)
    exact ⟨by rw [List.length_append, Nat.zero_add, Nat.add_comm]; exact k.1, ih k.2⟩
theorem stn_snoc {A : Nat → Int32} {off y : Nat} (h : A off = nI y) : ∀ X : List Nat, stn A (off + 1) X → stn A off (X ++ [y]) := by
  intro X
  induction X with
  | nil => intro _; exact ⟨h, trivial⟩
  | cons v r ih =>
    intro k
    show A (off + (r ++ [y]).length) = nI v ∧ stn A off (r ++ [y])
    refine ⟨?_, ih k.2⟩
    rw [List.length_append, show off + (r.length + [y].length) = off + 1 + r.length by show off + (r.length + 1) = off + 1 + r.length; omega]
    exact k.1
theorem stn_get {A : Nat → Int32} : ∀ L : List Nat, stn A 0 L → ∀ i, i < L.length → A i = nI (L.reverse.getD i 0) := by
  intro L
  induction L with
  | nil => intro _ i hi; exact absurd hi (by simp)
  | cons v r ih =>
    intro h i hi
    have hi' : i < r.length + 1 := hi
    rw [List.reverse_cons]
    by_cases c : i = r.length
    · have h1 : A (0 + r.length) = nI v := h.1
      rw [c]
      rw [Nat.zero_add] at h1
      rw [h1]
      congr 1
      simp
    · rw [ih h.2 i (by omega)]
      congr 1
      have : i < r.reverse.length := by rw [List.length_reverse]; omega
      simp only [List.getD_eq_getElem?_getD, List.getElem?_append_left this]
theorem rev_mem (L : List Nat) (B i : Nat) (h : ∀ x ∈ L, x < B) (hi : i < L.length) : L.reverse.getD i 0 < B := by
  have h1 : i < L.reverse.length := by rw [List.length_reverse]; exact hi
  rw [List.getD_eq_getElem?_getD, List.getElem?_eq_getElem h1]
  exact h _ (List.mem_reverse.mp (List.getElem_mem h1))
section
variable {N np nr ns nh dy no : Nat} {ad : Nat → Nat} {S : PS} {w : Int32} {K : Int32 → PS → Prop}
/-- a run's day, and whether it is of the way -/
def rdy (R : Nat → Int32) (r : Nat) : Nat := (R (3 * r)).toNatClampNeg
def rwy (R : Nat → Int32) (w : Int32) (r : Nat) : Nat := if R (3 * r + 1) = w then 1 else 0
theorem rd_at (hN : RN S ad np nr ns nh dy no) {r : Nat} (hr : r < nr) : rdy (S.A (ad 82)) r ≤ dy ∧ S.A (ad 82) (3 * r) = nI (rdy (S.A (ad 82)) r) ∧ S.A (ad 41) r = nI (rdy (S.A (ad 82)) r) := by
  obtain ⟨q1, -, -, ⟨d, hd, ed⟩, -⟩ := hN.2.2.2.2.1 r hr
  have hb := hN.1
  have q1' : S.A (ad 41) r = S.A (ad 82) (3 * r) := q1
  unfold rdy
  rw [q1', ed, nI_clamp (by omega)]
  exact ⟨hd, rfl, rfl⟩
theorem l_ord34 {r : Nat} {k5 : PS → Nat → Int32 → Nat → Int32 → Int32 → Prop} (h : Sh ad S) (hN : RN S ad np nr ns nh dy no) (hr : r < nr) (hc : ∀ S', Un ad PIz (fun n => n = 11) False S S' → stn (S'.A (ad 11)) 0 (insR (rdy (S.A (ad 82))) r (oR (rdy (S.A (ad 82))) (rwy (S.A (ad 82)) w) r)) → k5 S' (ad 2) w (ad 11) (nI ((oR (rdy (S.A (ad 82))) (rwy (S.A (ad 82)) w) r).length + 1)) (nI (r + 1))) : ∀ (m n : Nat) (X A : List Nat) (S1 : PS), X.length = m → A ++ X = oR (rdy (S.A (ad 82))) (rwy (S.A (ad 82)) w) r → (∀ a ∈ A, rdy (S.A (ad 82)) r < rdy (S.A (ad 82)) a) → Un ad PIz (fun n => n = 11) False S S1 → stn (S1.A (ad 11)) 0 X → stn (S1.A (ad 11)) (X.length + 1) A → m < n → wq_X9_orderRuns_34 N K k5 n S1 (ad 2) w (ad 11) (nI (oR (rdy (S.A (ad 82))) (rwy (S.A (ad 82)) w) r).length) (nI r) (nI X.length) := by
  have hb := hN.1
  have hlen := oR_len (rdy (S.A (ad 82))) (rwy (S.A (ad 82)) w) r
  have fin : ∀ (X A : List Nat) (S1 : PS), A ++ X = oR (rdy (S.A (ad 82))) (rwy (S.A (ad 82)) w) r → (∀ a ∈ A, rdy (S.A (ad 82)) r < rdy (S.A (ad 82)) a) → Un ad PIz (fun n => n = 11) False S S1 → stn (S1.A (ad 11)) 0 X → stn (S1.A (ad 11)) (X.length + 1) A → insR (rdy (S.A (ad 82))) r X = r :: X → wq_X9_orderRuns_76 N K k5 S1 (ad 2) w (ad 11) (nI (oR (rdy (S.A (ad 82))) (rwy (S.A (ad 82)) w) r).length) (nI r) (nI X.length) := by
    intro X A S1 hA ha hU h1 h2 h3
    have hXl : X.length ≤ r := by
      have : (A ++ X).length ≤ r := by rw [hA]; exact hlen
      rw [List.length_append] at this
      omega
    have g1 := hU.sh h
    unfold wq_X9_orderRuns_76
    rw [nI_clamp (by omega), a1i, a1i]
    refine ⟨g1.k11, by rw [g1.l11]; exact vp_in_nI (by omega) (by decide), fun S12 e12 => ?_⟩
    have hU2 : Un ad PIz (fun n => n = 11) False S S12 := Un.tr hU (by rw [e12]; exact Un.setA rfl)
    refine hc S12 hU2 ?_
    rw [← hA, insR_app _ _ _ _ ha, h3]
    refine stn_app (r :: X) ⟨?_, stn_up X (fun i _ hi => ?_) h1⟩ A (stn_up A (fun i hi _ => ?_) h2)
    · rw [e12]; simp only [setI_K, setI_ln, setI_R, setI_Q, setI_I, setI_J, setI_A, setI_B, setJ_K, setJ_ln, setJ_R, setJ_Q, setJ_I, setJ_J, setJ_A, setJ_B, setR_K, setR_ln, setR_R, setR_Q, setR_I, setR_J, setR_A, setR_B, setA_K, setA_ln, setA_R, setA_Q, setA_I, setA_J, setA_A, setA_B, setB_K, setB_ln, setB_R, setB_Q, setB_I, setB_J, setB_A, setB_B, setQ_K, setQ_ln, setQ_R, setQ_Q, setQ_I, setQ_J, setQ_A, setQ_B, u2_ap, Nat.zero_add, and_self, true_and, and_true, Option.some.injEq, exists_eq_left', exists_eq_left, forall_eq, forall_eq_apply_imp_iff, true_or, or_true, false_or, or_false, not_true_eq_false, not_false_eq_true, false_and, if_true, if_false, reduceIte]
    · rw [e12]; simp only [setI_K, setI_ln, setI_R, setI_Q, setI_I, setI_J, setI_A, setI_B, setJ_K, setJ_ln, setJ_R, setJ_Q, setJ_I, setJ_J, setJ_A, setJ_B, setR_K, setR_ln, setR_R, setR_Q, setR_I, setR_J, setR_A, setR_B, setA_K, setA_ln, setA_R, setA_Q, setA_I, setA_J, setA_A, setA_B, setB_K, setB_ln, setB_R, setB_Q, setB_I, setB_J, setB_A, setB_B, setQ_K, setQ_ln, setQ_R, setQ_Q, setQ_I, setQ_J, setQ_A, setQ_B, u2_ap, true_and]; rw [if_neg (by omega)]
    · rw [e12]; simp only [setI_K, setI_ln, setI_R, setI_Q, setI_I, setI_J, setI_A, setI_B, setJ_K, setJ_ln, setJ_R, setJ_Q, setJ_I, setJ_J, setJ_A, setJ_B, setR_K, setR_ln, setR_R, setR_Q, setR_I, setR_J, setR_A, setR_B, setA_K, setA_ln, setA_R, setA_Q, setA_I, setA_J, setA_A, setA_B, setB_K, setB_ln, setB_R, setB_Q, setB_I, setB_J, setB_A, setB_B, setQ_K, setQ_ln, setQ_R, setQ_Q, setQ_I, setQ_J, setQ_A, setQ_B, u2_ap, true_and]; rw [if_neg (by have hi' : X.length + 1 ≤ i := hi; omega)]
  intro m
  induction m with
  | zero =>
    intro n X A S1 hX hA ha hU h1 h2 hn
    obtain ⟨n, rfl⟩ : ∃ z, n = z + 1 := ⟨n - 1, by omega⟩
    obtain rfl : X = [] := List.length_eq_zero_iff.mp hX
    rw [wq_X9_orderRuns_34.eq_2, if_pos (by exact nI_le (b := 0) (by simp) (by decide))]
    exact fin [] A S1 hA ha hU h1 h2 rfl
  | succ m ih =>
    intro n X A S1 hX hA ha hU h1 h2 hn
    obtain ⟨n, rfl⟩ : ∃ z, n = z + 1 := ⟨n - 1, by omega⟩
    have g1 := hU.sh h
    have hUz : Un ad PIz PAz False S S1 := hU.mono (fun _ _ e => e) (fun _ e => by unfold PAz; omega) id
    have hXl : X.length ≤ r := by
      have : (A ++ X).length ≤ r := by rw [hA]; exact hlen
      rw [List.length_append] at this
      omega
    cases X with
    | nil => exact absurd hX (by simp)
    | cons y ys =>
      have hX' : ys.length = m := by have : ys.length + 1 = m + 1 := hX; omega
      have hyl : ys.length + 1 ≤ r := hXl
      have hy : y < r := oR_mem _ _ r y (by rw [← hA]; simp)
      have hA11 : S1.A (ad 11) ys.length = nI y := by have := h1.1; rw [Nat.zero_add] at this; exact this
      have dyy := rd_at hN (show y < nr by omega)
      have dyr := rd_at hN hr
      have d1 : S1.A (ad 41) = S.A (ad 41) := hU.A h (by omega)
      rw [wq_X9_orderRuns_34.eq_2, show (y :: ys).length = ys.length + 1 from rfl, if_neg (by exact nI_ge (a := 0) (by omega) (by omega)), show nI (ys.length + 1) - 1 = nI ys.length from nI_pred _, nI_clamp (by omega), nI_clamp (by omega), nI_clamp (by omega), hA11, nI_clamp (by omega), show nI (ys.length + 1) + (-1) = nI ys.length from pk_m1 _]
      refine ⟨g1.k2, ad 41, g1.r649_2, g1.k11, by rw [g1.l11]; exact vp_in_nI (by omega) (by decide), g1.k41, by rw [g1.l41]; exact vp_in_nI (by omega) (by decide), ad 41, g1.r649_2, g1.k41, by rw [g1.l41]; exact vp_in_nI (by omega) (by decide), ?_⟩
      rw [d1, dyy.2.2, dyr.2.2]
      by_cases c : rdy (S.A (ad 82)) y ≤ rdy (S.A (ad 82)) r
      · rw [if_pos (nI_le c (by omega))]
        exact fin (y :: ys) A S1 hA ha hU h1 h2 (by rw [insR, if_pos c])
      · rw [if_neg (nI_ge (by omega) (by omega))]
        refine ⟨by rw [g1.l11]; exact vp_in_nI (by omega) (by decide), by rw [g1.l11]; exact vp_in_nI (by omega) (by decide), fun S25 e25 => ?_⟩
        refine ih n ys (A ++ [y]) S25 hX' (by rw [← hA]; simp) (fun a ha' => ?_) (Un.tr hU (by rw [e25]; exact Un.setA rfl)) (stn_up ys (fun i _ hi => ?_) h1.2) ?_ (by omega)
        · rcases List.mem_append.mp ha' with z | z
          · exact ha a z
          · have : a = y := by simpa using z
            rw [this]; omega
        · rw [e25]; simp only [setI_K, setI_ln, setI_R, setI_Q, setI_I, setI_J, setI_A, setI_B, setJ_K, setJ_ln, setJ_R, setJ_Q, setJ_I, setJ_J, setJ_A, setJ_B, setR_K, setR_ln, setR_R, setR_Q, setR_I, setR_J, setR_A, setR_B, setA_K, setA_ln, setA_R, setA_Q, setA_I, setA_J, setA_A, setA_B, setB_K, setB_ln, setB_R, setB_Q, setB_I, setB_J, setB_A, setB_B, setQ_K, setQ_ln, setQ_R, setQ_Q, setQ_I, setQ_J, setQ_A, setQ_B, u2_ap, true_and]; rw [if_neg (by omega)]
        · refine stn_snoc ?_ A (stn_up A (fun i hi _ => ?_) h2)
          · rw [e25]; simp only [setI_K, setI_ln, setI_R, setI_Q, setI_I, setI_J, setI_A, setI_B, setJ_K, setJ_ln, setJ_R, setJ_Q, setJ_I, setJ_J, setJ_A, setJ_B, setR_K, setR_ln, setR_R, setR_Q, setR_I, setR_J, setR_A, setR_B, setA_K, setA_ln, setA_R, setA_Q, setA_I, setA_J, setA_A, setA_B, setB_K, setB_ln, setB_R, setB_Q, setB_I, setB_J, setB_A, setB_B, setQ_K, setQ_ln, setQ_R, setQ_Q, setQ_I, setQ_J, setQ_A, setQ_B, u2_ap, and_self, true_and, and_true, Option.some.injEq, exists_eq_left', exists_eq_left, forall_eq, forall_eq_apply_imp_iff, true_or, or_true, false_or, or_false, not_true_eq_false, not_false_eq_true, false_and, if_true, if_false, reduceIte]
          · rw [e25]; simp only [setI_K, setI_ln, setI_R, setI_Q, setI_I, setI_J, setI_A, setI_B, setJ_K, setJ_ln, setJ_R, setJ_Q, setJ_I, setJ_J, setJ_A, setJ_B, setR_K, setR_ln, setR_R, setR_Q, setR_I, setR_J, setR_A, setR_B, setA_K, setA_ln, setA_R, setA_Q, setA_I, setA_J, setA_A, setA_B, setB_K, setB_ln, setB_R, setB_Q, setB_I, setB_J, setB_A, setB_B, setQ_K, setQ_ln, setQ_R, setQ_Q, setQ_I, setQ_J, setQ_A, setQ_B, u2_ap, true_and]; rw [if_neg (by have hi' : ys.length + 1 + 1 ≤ i := hi; omega)]
theorem l_ord5 (h : Sh ad S) (hN : RN S ad np nr ns nh dy no) (hN5 : 5000 ≤ N) (hK : ∀ S', Un ad PIz (fun n => n = 11) False S S' → stn (S'.A (ad 11)) 0 (oR (rdy (S.A (ad 82))) (rwy (S.A (ad 82)) w) nr) → K (nI (oR (rdy (S.A (ad 82))) (rwy (S.A (ad 82)) w) nr).length) S') : ∀ (m n k : Nat) (S1 : PS), k + m = nr → m < n → Un ad PIz (fun n => n = 11) False S S1 → stn (S1.A (ad 11)) 0 (oR (rdy (S.A (ad 82))) (rwy (S.A (ad 82)) w) k) → wq_X9_orderRuns_5 N K n S1 (ad 2) w (ad 11) (nI (oR (rdy (S.A (ad 82))) (rwy (S.A (ad 82)) w) k).length) (nI k) := by
  have hb := hN.1
  intro m
  induction m with
  | zero =>
    intro n k S1 hk hn hU hs
    obtain ⟨n, rfl⟩ : ∃ z, n = z + 1 := ⟨n - 1, by omega⟩
    obtain rfl : k = nr := by omega
    have g1 := hU.sh h
    have e1 : S1.I 645 (ad 2) = nI k := (hU.I h (by unfold PIz; omega)).trans hN.2.1.2.2.2.2.2.1
    rw [wq_X9_orderRuns_5.eq_2, e1, if_pos (nI_le (by omega) (by omega))]
    exact ⟨g1.k2, hK S1 hU hs⟩
  | succ m ih =>
    intro n k S1 hk hn hU hs
    obtain ⟨n, rfl⟩ : ∃ z, n = z + 1 := ⟨n - 1, by omega⟩
    have g1 := hU.sh h
    have hlen := oR_len (rdy (S.A (ad 82))) (rwy (S.A (ad 82)) w) k
    have e1 : S1.I 645 (ad 2) = nI nr := (hU.I h (by unfold PIz; omega)).trans hN.2.1.2.2.2.2.2.1
    have q2 : S1.A (ad 42) k = S.A (ad 82) (3 * k + 1) := by rw [hU.A h (n := 42) (by omega)]; exact (hN.2.2.2.2.1 k (by omega)).2.1
    rw [wq_X9_orderRuns_5.eq_2, e1, if_neg (nI_ge (by omega) (by omega)), nI_clamp (by omega), a1i]
    refine ⟨g1.k2, g1.k11, ?_⟩
    rw [g1.l11, if_neg (nI_ge (by omega) (by omega))]
    refine ⟨ad 42, g1.r650_2, g1.k42, by rw [g1.l42]; exact vp_in_nI (by omega) (by decide), ?_⟩
    rw [q2]
    by_cases c : S.A (ad 82) (3 * k + 1) = w
    · have hw : rwy (S.A (ad 82)) w k = 1 := by unfold rwy; rw [if_pos c]
      rw [if_pos c]
      refine l_ord34 h hN (by omega) (fun S' hU' hs' => ?_) (oR (rdy (S.A (ad 82))) (rwy (S.A (ad 82)) w) k).length N (oR (rdy (S.A (ad 82))) (rwy (S.A (ad 82)) w) k) [] S1 rfl rfl (fun a ha => absurd ha (by simp)) hU hs trivial (by omega)
      have := ih n (k + 1) S' (by omega) (by omega) hU' (by rw [oR, if_pos hw]; exact hs')
      rw [oR, if_pos hw, insR_len] at this
      exact this
    · have hw : ¬ rwy (S.A (ad 82)) w k = 1 := by unfold rwy; rw [if_neg c]; decide
      rw [if_neg c]
      have := ih n (k + 1) S1 (by omega) (by omega) hU (by rw [oR, if_neg hw]; exact hs)
      rw [oR, if_neg hw] at this
      exact this
theorem l_srt15 {d : Nat} {k4 : PS → Nat → Int32 → Int32 → Int32 → Prop} (h : Sh ad S) (hN : RN S ad np nr ns nh dy no) (hd : d ≤ 999) (hl : (gR (rdy (S.A (ad 82))) (rwy (S.A (ad 82)) w) nr (d + 1)).length ≤ 40) (hc : ∀ S', Un ad PIz (fun n => n = 89) False S S' → stn (S'.A (ad 89)) 0 (gR (rdy (S.A (ad 82))) (rwy (S.A (ad 82)) w) nr (d + 1)) → k4 S' (ad 80) w (nI (gR (rdy (S.A (ad 82))) (rwy (S.A (ad 82)) w) nr (d + 1)).length) (nI (d + 1))) : ∀ (m n k : Nat) (S1 : PS), k + m = nr → m < n → Un ad PIz (fun n => n = 89) False S S1 → stn (S1.A (ad 89)) 0 (rbk (rdy (S.A (ad 82))) (rwy (S.A (ad 82)) w) d k ++ gR (rdy (S.A (ad 82))) (rwy (S.A (ad 82)) w) nr d) → (rbk (rdy (S.A (ad 82))) (rwy (S.A (ad 82)) w) d k).length + m + (gR (rdy (S.A (ad 82))) (rwy (S.A (ad 82)) w) nr d).length ≤ 1000 → wq_X11_sortRuns_15 N K k4 n S1 (ad 80) w (nI (rbk (rdy (S.A (ad 82))) (rwy (S.A (ad 82)) w) d k ++ gR (rdy (S.A (ad 82))) (rwy (S.A (ad 82)) w) nr d).length) (nI d) (nI k) := by
  have hb := hN.1
  have mono : ∀ m k, k + m = nr → (rbk (rdy (S.A (ad 82))) (rwy (S.A (ad 82)) w) d k).length ≤ (rbk (rdy (S.A (ad 82))) (rwy (S.A (ad 82)) w) d nr).length ∧ (∀ hm : 0 < m, rwy (S.A (ad 82)) w k = 1 → rdy (S.A (ad 82)) k = d → (rbk (rdy (S.A (ad 82))) (rwy (S.A (ad 82)) w) d k).length < (rbk (rdy (S.A (ad 82))) (rwy (S.A (ad 82)) w) d nr).length) := by
    intro m
    induction m with
    | zero => intro k hk; obtain rfl : k = nr := by omega
              exact ⟨Nat.le_refl _, fun e => absurd e (by omega)⟩
    | succ m ih =>
      intro k hk
      have := (ih (k + 1) (by omega)).1
      rw [rbk] at this
      by_cases c1 : rwy (S.A (ad 82)) w k = 1
      · rw [if_pos c1] at this
        by_cases c2 : rdy (S.A (ad 82)) k = d
        · rw [if_pos c2] at this
          have t : (rbk (rdy (S.A (ad 82))) (rwy (S.A (ad 82)) w) d k).length + 1 ≤ _ := this
          exact ⟨by omega, fun _ _ _ => by omega⟩
        · rw [if_neg c2] at this
          exact ⟨this, fun _ _ e => absurd e c2⟩
      · rw [if_neg c1] at this
        exact ⟨this, fun _ e => absurd e c1⟩
  have hl2 : (rbk (rdy (S.A (ad 82))) (rwy (S.A (ad 82)) w) d nr).length + (gR (rdy (S.A (ad 82))) (rwy (S.A (ad 82)) w) nr d).length ≤ 40 := by rw [gR, List.length_append] at hl; exact hl
  intro m
  induction m with
  | zero =>
    intro n k S1 hk hn hU hs _
    obtain ⟨n, rfl⟩ : ∃ z, n = z + 1 := ⟨n - 1, by omega⟩
    obtain rfl : k = nr := by omega
    have g1 := hU.sh h
    have e1 : S1.I 774 (ad 80) = nI k := (hU.I h (by unfold PIz; omega)).trans hN.2.2.1.2.2.2.1
    rw [wq_X11_sortRuns_15.eq_2, e1, if_pos (nI_le (by omega) (by omega)), a1i]
    exact ⟨g1.k80, hc S1 hU hs⟩
  | succ m ih =>
    intro n k S1 hk hn hU hs hz
    obtain ⟨n, rfl⟩ : ∃ z, n = z + 1 := ⟨n - 1, by omega⟩
    have g1 := hU.sh h
    have mk := mono (m + 1) k hk
    have e1 : S1.I 774 (ad 80) = nI nr := (hU.I h (by unfold PIz; omega)).trans hN.2.2.1.2.2.2.1
    have r1 : S1.A (ad 82) = S.A (ad 82) := hU.A h (by omega)
    have dk := rd_at hN (show k < nr by omega)
    have v0 : vp_in (nI (3 * k)) 120 := vp_in_nI (by omega) (by decide)
    have v1 : vp_in (nI (3 * k + 1)) 120 := vp_in_nI (by omega) (by decide)
    rw [wq_X11_sortRuns_15.eq_2, e1, if_neg (nI_ge (by omega) (by omega)), m3d, a1i, nI_clamp (by omega), nI_clamp (by omega), a1i k]
    refine ⟨g1.k80, ad 82, g1.r775, g1.k82, by rw [g1.l82]; exact v1, ?_⟩
    rw [r1]
    by_cases c : S.A (ad 82) (3 * k + 1) = w
    · have hw : rwy (S.A (ad 82)) w k = 1 := by unfold rwy; rw [if_pos c]
      rw [if_pos c]
      refine ⟨ad 82, g1.r775, g1.k82, by rw [g1.l82]; exact v0, ?_⟩
      rw [r1, dk.2.1]
      by_cases c2 : rdy (S.A (ad 82)) k = d
      · have lt := mk.2 (by omega) hw c2
        have hlen : (rbk (rdy (S.A (ad 82))) (rwy (S.A (ad 82)) w) d k ++ gR (rdy (S.A (ad 82))) (rwy (S.A (ad 82)) w) nr d).length < 40 := by rw [List.length_append]; omega
        rw [if_pos (by rw [c2]), nI_clamp (by omega)]
        refine ⟨ad 89, g1.r794, g1.k89, by rw [g1.l89]; exact vp_in_nI hlen (by decide), fun S16 e16 => ?_⟩
        have := ih n (k + 1) S16 (by omega) (by omega) (Un.tr hU (by rw [e16]; exact Un.setA rfl)) ?_ ?_
        · rw [rbk, if_pos hw, if_pos c2] at this
          rw [a1i]
          exact this
        · rw [rbk, if_pos hw, if_pos c2]
          refine ⟨?_, stn_up _ (fun i _ hi => ?_) hs⟩
          · rw [e16]; simp only [setI_K, setI_ln, setI_R, setI_Q, setI_I, setI_J, setI_A, setI_B, setJ_K, setJ_ln, setJ_R, setJ_Q, setJ_I, setJ_J, setJ_A, setJ_B, setR_K, setR_ln, setR_R, setR_Q, setR_I, setR_J, setR_A, setR_B, setA_K, setA_ln, setA_R, setA_Q, setA_I, setA_J, setA_A, setA_B, setB_K, setB_ln, setB_R, setB_Q, setB_I, setB_J, setB_A, setB_B, setQ_K, setQ_ln, setQ_R, setQ_Q, setQ_I, setQ_J, setQ_A, setQ_B, u2_ap, Nat.zero_add]; rw [if_pos ⟨trivial, rfl⟩]
          · rw [e16]; simp only [setI_K, setI_ln, setI_R, setI_Q, setI_I, setI_J, setI_A, setI_B, setJ_K, setJ_ln, setJ_R, setJ_Q, setJ_I, setJ_J, setJ_A, setJ_B, setR_K, setR_ln, setR_R, setR_Q, setR_I, setR_J, setR_A, setR_B, setA_K, setA_ln, setA_R, setA_Q, setA_I, setA_J, setA_A, setA_B, setB_K, setB_ln, setB_R, setB_Q, setB_I, setB_J, setB_A, setB_B, setQ_K, setQ_ln, setQ_R, setQ_Q, setQ_I, setQ_J, setQ_A, setQ_B, u2_ap, true_and]; rw [if_neg (fun e => by rw [e, Nat.zero_add] at hi; exact absurd hi (Nat.lt_irrefl _))]
        · rw [rbk, if_pos hw, if_pos c2]
          show _ + 1 + m + _ ≤ 1000
          omega
      · rw [if_neg (ii_ne (by omega) (by omega) c2)]
        have := ih n (k + 1) S1 (by omega) (by omega) hU (by rw [rbk, if_pos hw, if_neg c2]; exact hs) (by rw [rbk, if_pos hw, if_neg c2]; omega)
        rw [rbk, if_pos hw, if_neg c2] at this
        exact this
    · have hw : ¬ rwy (S.A (ad 82)) w k = 1 := by unfold rwy; rw [if_neg c]; decide
      rw [if_neg c]
      have := ih n (k + 1) S1 (by omega) (by omega) hU (by rw [rbk, if_neg hw]; exact hs) (by rw [rbk, if_neg hw]; omega)
      rw [rbk, if_neg hw] at this
      exact this
end
