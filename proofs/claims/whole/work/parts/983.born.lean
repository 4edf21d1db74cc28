-- ===== the beginning: what the constructors leave, kept as a list of facts =====
/-- a fact of the pool: its sort, an address, a key, a value -/
abbrev bo_F := Nat × Nat × Nat × Nat
def bo_ev (S : PS) (f : bo_F) : Prop := (f.1 = 0 → S.K f.2.1 = f.2.2.2) ∧ (f.1 = 1 → S.ln f.2.1 = f.2.2.2) ∧ (f.1 = 2 → S.R f.2.2.1 f.2.1 = some f.2.2.2) ∧ (f.1 = 3 → S.K f.2.1 = f.2.2.1 / 64 ∧ S.Q f.2.1 (f.2.2.1 % 64) = some f.2.2.2) ∧ (f.1 = 4 → S.I f.2.2.1 f.2.1 = nI f.2.2.2) ∧ (f.1 = 5 → ∀ i, S.A f.2.1 i = 0) ∧ (f.1 = 6 → S.A f.2.1 f.2.2.1 = nI f.2.2.2) ∧ (f.1 = 7 → ∀ i, S.B f.2.1 i = 0)
def bo_at {α : Type} : List α → Nat → Option α
  | [], _ => none
  | a :: _, 0 => some a
  | _ :: l, n + 1 => bo_at l n
def bo_nd : List Nat → Prop
  | [] => True
  | a :: l => (∀ b, b ∈ l → a ≠ b) ∧ bo_nd l
/-- no fact of this sort has this key -/
def bo_kf (t g : Nat) : List bo_F → Bool
  | [] => true
  | f :: l => !(Nat.beq f.1 t && Nat.beq f.2.2.1 g) && bo_kf t g l
/-- no fact of this sort -/
def bo_ks (t : Nat) : List bo_F → Bool
  | [] => true
  | f :: l => !(Nat.beq f.1 t) && bo_ks t l
theorem bo_mem {α : Type} {a : α} : ∀ {l : List α} (i : Nat), bo_at l i = some a → a ∈ l := by
  intro l
  induction l with
  | nil => intro i h; exact absurd h (by simp [bo_at])
  | cons b l ih =>
    intro i h
    cases i with
    | zero => rw [bo_at] at h; rw [Option.some.inj h]; exact List.mem_cons_self
    | succ i => rw [bo_at] at h; exact List.mem_cons_of_mem _ (ih i h)
theorem bo_inj {a : Nat} : ∀ {l : List Nat} (i j : Nat), bo_nd l → bo_at l i = some a → bo_at l j = some a → i = j := by
  intro l
  induction l with
  | nil => intro i j _ h; exact absurd h (by simp [bo_at])
  | cons b l ih =>
    intro i j hd hi hj
    cases i with
    | zero =>
      rw [bo_at] at hi
      cases j with
      | zero => rfl
      | succ j => rw [bo_at] at hj; exact absurd (Option.some.inj hi) (hd.1 a (bo_mem j hj))
    | succ i =>
      rw [bo_at] at hi
      cases j with
      | zero => rw [bo_at] at hj; exact absurd (Option.some.inj hj) (hd.1 a (bo_mem i hi))
      | succ j => rw [bo_at] at hj; rw [ih i j hd.2 hi hj]
theorem bo_ndapp {m : List Nat} (hm : bo_nd m) : ∀ {l : List Nat}, bo_nd l → (∀ a, a ∈ l → ∀ b, b ∈ m → a ≠ b) → bo_nd (l ++ m) := by
  intro l
  induction l with
  | nil => intro _ _; exact hm
  | cons c l ih =>
    intro hl h
    refine ⟨fun b hb => ?_, ih hl.2 (fun a ha b hb => h a (List.mem_cons_of_mem _ ha) b hb)⟩
    rcases List.mem_append.mp hb with z | z
    · exact hl.1 b z
    · exact h c List.mem_cons_self b z
theorem bo_kf_ok {t g : Nat} : ∀ {l : List bo_F}, bo_kf t g l = true → ∀ f, f ∈ l → f.1 = t → f.2.2.1 ≠ g := by
  intro l
  induction l with
  | nil => intro _ f hf; exact absurd hf (by simp)
  | cons c l ih =>
    intro h f hf h1 h2
    rw [bo_kf, Bool.and_eq_true] at h
    rcases List.mem_cons.mp hf with z | z
    · subst z
      rw [h1, h2, Nat.beq_refl, Nat.beq_refl] at h
      exact absurd h.1 (by decide)
    · exact ih h.2 f z h1 h2
theorem bo_ks_ok {t : Nat} : ∀ {l : List bo_F}, bo_ks t l = true → ∀ f, f ∈ l → f.1 ≠ t := by
  intro l
  induction l with
  | nil => intro _ f hf; exact absurd hf (by simp)
  | cons c l ih =>
    intro h f hf h1
    rw [bo_ks, Bool.and_eq_true] at h
    rcases List.mem_cons.mp hf with z | z
    · subst z
      rw [h1, Nat.beq_refl] at h
      exact absurd h.1 (by decide)
    · exact ih h.2 f z h1
/-- from S0 on: what was there stands as it was; these facts hold; these addresses are new and differ -/
def Bo (S0 S : PS) (L : List bo_F) (D : List Nat) : Prop := Fr S0 S ∧ (∀ f, f ∈ L → bo_ev S f ∧ S.K f.2.1 ≠ 0) ∧ bo_nd D ∧ ∀ a, a ∈ D → S.K a ≠ 0 ∧ S0.K a = 0
section
variable {S0 S S1 : PS} {L L1 : List bo_F} {D D1 : List Nat} {q kd n g a v i : Nat} {w : Int32}
theorem bo_evfr (f : Fr S S1) {x : bo_F} (hl : S.K x.2.1 ≠ 0) (h : bo_ev S x) : bo_ev S1 x := by
  obtain ⟨a1, a2, a3, a4, a5, a6, a7⟩ := f x.2.1 hl
  obtain ⟨h0, h1, h2, h3, h4, h5, h6, h7⟩ := h
  exact ⟨fun z => a1.trans (h0 z), fun z => a2.trans (h1 z), fun z => (a3 _).trans (h2 z), fun z => ⟨a1.trans (h3 z).1, by rw [a4]; exact (h3 z).2⟩, fun z => (a5 _).trans (h4 z), fun z => by rw [a6]; exact h5 z, fun z => by rw [a6]; exact h6 z, fun z => by rw [a7]; exact h7 z⟩
theorem Bo.nil : Bo S S [] [] := ⟨fun a _ => ⟨rfl, rfl, fun _ => rfl, rfl, fun _ => rfl, rfl, rfl⟩, fun f hf => absurd hf (by simp), trivial, fun a ha => absurd ha (by simp)⟩
theorem Bo.tr (b : Bo S0 S L D) (c : Bo S S1 L1 D1) : Bo S0 S1 (L1 ++ L) (D1 ++ D) := by
  obtain ⟨b1, b2, b3, b4⟩ := b
  obtain ⟨c1, c2, c3, c4⟩ := c
  refine ⟨b1.tr c1, fun f hf => ?_, bo_ndapp b3 c3 (fun a ha b hb e => ?_), fun a ha => ?_⟩
  · rcases List.mem_append.mp hf with z | z
    · exact c2 f z
    · obtain ⟨p1, p2⟩ := b2 f z
      exact ⟨bo_evfr c1 p2 p1, by rw [(c1 _ p2).1]; exact p2⟩
  · exact (b4 b hb).1 (by rw [← e]; exact (c4 a ha).2)
  · rcases List.mem_append.mp ha with z | z
    · refine ⟨(c4 a z).1, Classical.byContradiction (fun q => ?_)⟩
      have e := (b1 a q).1
      rw [(c4 a z).2] at e
      exact q e.symm
    · obtain ⟨p1, p2⟩ := b4 a z
      exact ⟨by rw [(c1 _ p1).1]; exact p1, p2⟩
theorem Bo.newO (b : Bo S0 S L D) (h : S.K q = 0) (e : S1 = S.newO q kd) (hk : kd ≠ 0) : Bo S0 S1 ((0, q, 0, kd) :: L) (q :: D) := by
  have K1 : S1.K q = kd := by rw [e]; show va_up S.K q kd q = kd; unfold va_up; rw [if_pos rfl]
  refine Bo.tr (L1 := [(0, q, 0, kd)]) (D1 := [q]) b ⟨by rw [e]; exact fr_newO h, fun f hf => ?_, ⟨fun _ z => absurd z (by simp), trivial⟩, fun a ha => ?_⟩
  · obtain rfl := List.mem_singleton.mp hf
    refine ⟨⟨fun _ => K1, fun z => ?_, fun z => ?_, fun z => ?_, fun z => ?_, fun z => ?_, fun z => ?_, fun z => ?_⟩, by show S1.K q ≠ 0; rw [K1]; exact hk⟩ <;> exact absurd z (by show ¬ (0 : Nat) = _; decide)
  · obtain rfl := List.mem_singleton.mp ha
    exact ⟨by rw [K1]; exact hk, h⟩
/-- a new object's numbers are 0 -/
theorem Bo.zero (b : Bo S0 S1 L D) (e : S1 = S.newO q kd) (hq : S1.K q ≠ 0) : Bo S0 S1 ((4, q, g, 0) :: L) D := by
  obtain ⟨b1, b2, b3, b4⟩ := b
  refine ⟨b1, fun f hf => ?_, b3, b4⟩
  rcases List.mem_cons.mp hf with z | z
  · subst z
    refine ⟨⟨fun z => ?_, fun z => ?_, fun z => ?_, fun z => ?_, fun _ => ?_, fun z => ?_, fun z => ?_, fun z => ?_⟩, hq⟩
    all_goals first | exact absurd z (by show ¬ (4 : Nat) = _; decide) | (rw [e]; show uz2 S.I q 0 g q = _; unfold uz2; rw [if_pos rfl]; rfl)
  · exact b2 f z
theorem fr_newA (h : S.K q = 0) : Fr S (S.newA q kd n) := by
  intro a ha
  have nq : ¬ a = q := fun e => ha (by rw [e]; exact h)
  refine ⟨?_, ?_, fun g => rfl, ?_, fun g => rfl, ?_, ?_⟩
  · show va_up S.K q kd a = _; unfold va_up; rw [if_neg nq]
  · show va_up S.ln q n a = _; unfold va_up; rw [if_neg nq]
  · show uz S.Q q none a = _; funext k; unfold uz; rw [if_neg nq]
  · show uz S.A q 0 a = _; funext k; unfold uz; rw [if_neg nq]
  · show uz S.B q 0 a = _; funext k; unfold uz; rw [if_neg nq]
theorem Bo.newAz (b : Bo S0 S L D) (h : S.K q = 0) (e : S1 = S.newA q kd n) (hk : kd ≠ 0) : Bo S0 S1 ((0, q, 0, kd) :: (1, q, 0, n) :: (5, q, 0, 0) :: (7, q, 0, 0) :: L) (q :: D) := by
  have K1 : S1.K q = kd := by rw [e]; show va_up S.K q kd q = kd; unfold va_up; rw [if_pos rfl]
  have l1 : S1.ln q = n := by rw [e]; show va_up S.ln q n q = n; unfold va_up; rw [if_pos rfl]
  have A1 : ∀ i, S1.A q i = 0 := fun i => by rw [e]; show uz S.A q 0 q i = 0; unfold uz; rw [if_pos rfl]
  have B1 : ∀ i, S1.B q i = 0 := fun i => by rw [e]; show uz S.B q 0 q i = 0; unfold uz; rw [if_pos rfl]
  have hq : S1.K q ≠ 0 := by rw [K1]; exact hk
  refine Bo.tr (L1 := [(0, q, 0, kd), (1, q, 0, n), (5, q, 0, 0), (7, q, 0, 0)]) (D1 := [q]) b ⟨by rw [e]; exact fr_newA h, fun f hf => ?_, ⟨fun _ z => absurd z (by simp), trivial⟩, fun a ha => ?_⟩
  · rcases List.mem_cons.mp hf with z | hf
    · subst z
      refine ⟨⟨fun _ => K1, fun z => ?_, fun z => ?_, fun z => ?_, fun z => ?_, fun z => ?_, fun z => ?_, fun z => ?_⟩, hq⟩ <;> exact absurd z (by show ¬ (0 : Nat) = _; decide)
    rcases List.mem_cons.mp hf with z | hf
    · subst z
      refine ⟨⟨fun z => ?_, fun _ => l1, fun z => ?_, fun z => ?_, fun z => ?_, fun z => ?_, fun z => ?_, fun z => ?_⟩, hq⟩ <;> exact absurd z (by show ¬ (1 : Nat) = _; decide)
    rcases List.mem_cons.mp hf with z | hf
    · subst z
      refine ⟨⟨fun z => ?_, fun z => ?_, fun z => ?_, fun z => ?_, fun z => ?_, fun _ => A1, fun z => ?_, fun z => ?_⟩, hq⟩ <;> exact absurd z (by show ¬ (5 : Nat) = _; decide)
    obtain rfl := List.mem_singleton.mp hf
    refine ⟨⟨fun z => ?_, fun z => ?_, fun z => ?_, fun z => ?_, fun z => ?_, fun z => ?_, fun z => ?_, fun _ => B1⟩, hq⟩ <;> exact absurd z (by show ¬ (7 : Nat) = _; decide)
  · obtain rfl := List.mem_singleton.mp ha
    exact ⟨hq, h⟩
theorem Bo.sub (b : Bo S0 S L D) (h : ∀ f, f ∈ L1 → f ∈ L) : Bo S0 S L1 D := ⟨b.1, fun f hf => b.2.1 f (h f hf), b.2.2⟩
theorem Bo.newA (b : Bo S0 S L D) (h : S.K q = 0) (e : S1 = S.newA q kd n) (hk : kd ≠ 0) : Bo S0 S1 ((0, q, 0, kd) :: (1, q, 0, n) :: L) (q :: D) := (b.newAz h e hk).sub (fun f hf => by
  rcases List.mem_cons.mp hf with z | hf
  · rw [z]; exact List.mem_cons_self
  rcases List.mem_cons.mp hf with z | hf
  · rw [z]; exact List.mem_cons_of_mem _ List.mem_cons_self
  exact List.mem_cons_of_mem _ (List.mem_cons_of_mem _ (List.mem_cons_of_mem _ (List.mem_cons_of_mem _ hf))))
theorem Bo.upd (b : Bo S0 S L D) (hF : Fr S0 S1) (hK : S1.K = S.K) (hL : ∀ f, f ∈ L → bo_ev S f → bo_ev S1 f) {x : bo_F} (hx : bo_ev S1 x) (hx2 : S.K x.2.1 ≠ 0) : Bo S0 S1 (x :: L) D := by
  obtain ⟨b1, b2, b3, b4⟩ := b
  refine ⟨hF, fun f hf => ?_, b3, fun a ha => ?_⟩
  · rw [hK]
    rcases List.mem_cons.mp hf with z | z
    · rw [z]; exact ⟨hx, hx2⟩
    · exact ⟨hL f z (b2 f z).1, (b2 f z).2⟩
  · rw [hK]; exact b4 a ha
theorem Bo.setI (b : Bo S0 S L D) (j : Nat) (hj : bo_at D j = some a) (hk : bo_kf 4 g L = true) (hw : w = nI v) (e : S1 = S.setI g a w) : Bo S0 S1 ((4, a, g, v) :: L) D := by
  have ha := b.2.2.2 a (bo_mem j hj)
  refine b.upd (by rw [e]; exact b.1.sI ha.2) (by rw [e]; rfl) (fun f hf h => ?_) ⟨fun z => ?_, fun z => ?_, fun z => ?_, fun z => ?_, fun _ => ?_, fun z => ?_, fun z => ?_, fun z => ?_⟩ ha.1
  · obtain ⟨h0, h1, h2, h3, h4, h5, h6, h7⟩ := h
    refine ⟨by rw [e]; exact h0, by rw [e]; exact h1, by rw [e]; exact h2, by rw [e]; exact h3, fun z => ?_, by rw [e]; exact h5, by rw [e]; exact h6, by rw [e]; exact h7⟩
    rw [e]
    show u2 S.I g a w f.2.2.1 f.2.1 = _
    rw [u2_ap, if_neg (fun y => bo_kf_ok hk f hf z y.1)]
    exact h4 z
  all_goals first | exact absurd z (by show ¬ (4 : Nat) = _; decide) | (rw [e, hw]; show u2 S.I g a _ g a = _; rw [u2_ap, if_pos ⟨rfl, rfl⟩])
theorem Bo.setR (b : Bo S0 S L D) (j : Nat) (hj : bo_at D j = some a) (hk : bo_kf 2 g L = true) (e : S1 = S.setR g a (some v)) : Bo S0 S1 ((2, a, g, v) :: L) D := by
  have ha := b.2.2.2 a (bo_mem j hj)
  refine b.upd (by rw [e]; exact b.1.sR ha.2) (by rw [e]; rfl) (fun f hf h => ?_) ⟨fun z => ?_, fun z => ?_, fun _ => ?_, fun z => ?_, fun z => ?_, fun z => ?_, fun z => ?_, fun z => ?_⟩ ha.1
  · obtain ⟨h0, h1, h2, h3, h4, h5, h6, h7⟩ := h
    refine ⟨by rw [e]; exact h0, by rw [e]; exact h1, fun z => ?_, by rw [e]; exact h3, by rw [e]; exact h4, by rw [e]; exact h5, by rw [e]; exact h6, by rw [e]; exact h7⟩
    rw [e]
    show u2 S.R g a (some v) f.2.2.1 f.2.1 = _
    rw [u2_ap, if_neg (fun y => bo_kf_ok hk f hf z y.1)]
    exact h2 z
  all_goals first | exact absurd z (by show ¬ (2 : Nat) = _; decide) | (rw [e]; show u2 S.R g a _ g a = _; rw [u2_ap, if_pos ⟨rfl, rfl⟩])
theorem Fr.sQ {v : Option Nat} (f : Fr S S1) (h : S.K q = 0) : Fr S (S1.setQ q i v) := by
  intro a ha
  have n : ¬ a = q := fun e => ha (by rw [e]; exact h)
  obtain ⟨a1, a2, a3, a4, a5, a6, a7⟩ := f a ha
  refine ⟨a1, a2, a3, ?_, a5, a6, a7⟩
  show u2 S1.Q q i v a = _
  rw [← a4]
  funext k
  rw [u2_ap, if_neg (fun z => n z.1)]
theorem Fr.sA {v : Int32} (f : Fr S S1) (h : S.K q = 0) : Fr S (S1.setA q i v) := by
  intro a ha
  have n : ¬ a = q := fun e => ha (by rw [e]; exact h)
  obtain ⟨a1, a2, a3, a4, a5, a6, a7⟩ := f a ha
  refine ⟨a1, a2, a3, a4, a5, ?_, a7⟩
  show u2 S1.A q i v a = _
  rw [← a6]
  funext k
  rw [u2_ap, if_neg (fun z => n z.1)]
theorem Bo.setQ (b : Bo S0 S L D) (j : Nat) (hj : bo_at D j = some a) (hKa : S.K a = kd) (hi : i < 64) (hk : bo_kf 3 (64 * kd + i) L = true) (e : S1 = S.setQ a i (some v)) : Bo S0 S1 ((3, a, 64 * kd + i, v) :: L) D := by
  have ha := b.2.2.2 a (bo_mem j hj)
  have e1 : (64 * kd + i) / 64 = kd := by omega
  have e2 : (64 * kd + i) % 64 = i := by omega
  refine b.upd (by rw [e]; exact b.1.sQ ha.2) (by rw [e]; rfl) (fun f hf h => ?_) ⟨fun z => ?_, fun z => ?_, fun z => ?_, fun _ => ?_, fun z => ?_, fun z => ?_, fun z => ?_, fun z => ?_⟩ ha.1
  · obtain ⟨h0, h1, h2, h3, h4, h5, h6, h7⟩ := h
    refine ⟨by rw [e]; exact h0, by rw [e]; exact h1, by rw [e]; exact h2, fun z => ⟨by rw [e]; exact (h3 z).1, ?_⟩, by rw [e]; exact h4, by rw [e]; exact h5, by rw [e]; exact h6, by rw [e]; exact h7⟩
    rw [e]
    show u2 S.Q a i (some v) f.2.1 (f.2.2.1 % 64) = _
    rw [u2_ap, if_neg (fun y => bo_kf_ok hk f hf z ?_)]
    · exact (h3 z).2
    · have k1 := (h3 z).1
      rw [y.1, hKa] at k1
      have k2 := y.2
      omega
  all_goals first | exact absurd z (by show ¬ (3 : Nat) = _; decide) | skip
  refine ⟨?_, ?_⟩
  · show S1.K a = (64 * kd + i) / 64
    rw [e1, e]
    exact hKa
  · show S1.Q a ((64 * kd + i) % 64) = some v
    rw [e2, e]
    show u2 S.Q a i _ a i = _
    rw [u2_ap, if_pos ⟨rfl, rfl⟩]
/-- a row's number is set; of its zeros no word stands -/
theorem Bo.setA (b : Bo S0 S L D) (j : Nat) (hj : bo_at D j = some a) (hs : bo_ks 5 L = true) (hk : bo_kf 6 i L = true) (hw : w = nI v) (e : S1 = S.setA a i w) : Bo S0 S1 ((6, a, i, v) :: L) D := by
  have ha := b.2.2.2 a (bo_mem j hj)
  refine b.upd (by rw [e]; exact b.1.sA ha.2) (by rw [e]; rfl) (fun f hf h => ?_) ⟨fun z => ?_, fun z => ?_, fun z => ?_, fun z => ?_, fun z => ?_, fun z => ?_, fun _ => ?_, fun z => ?_⟩ ha.1
  · obtain ⟨h0, h1, h2, h3, h4, h5, h6, h7⟩ := h
    refine ⟨by rw [e]; exact h0, by rw [e]; exact h1, by rw [e]; exact h2, by rw [e]; exact h3, by rw [e]; exact h4, fun z => absurd z (bo_ks_ok hs f hf), fun z => ?_, by rw [e]; exact h7⟩
    rw [e]
    show u2 S.A a i w f.2.1 f.2.2.1 = _
    rw [u2_ap, if_neg (fun y => bo_kf_ok hk f hf z y.2)]
    exact h6 z
  all_goals first | exact absurd z (by show ¬ (6 : Nat) = _; decide) | (rw [e, hw]; show u2 S.A a i _ a i = _; rw [u2_ap, if_pos ⟨rfl, rfl⟩])
theorem Bo.gK (b : Bo S0 S L D) (j : Nat) (h : bo_at L j = some (0, a, 0, n)) : S.K a = n := (b.2.1 _ (bo_mem j h)).1.1 rfl
theorem Bo.gl (b : Bo S0 S L D) (j : Nat) (h : bo_at L j = some (1, a, 0, n)) : S.ln a = n := (b.2.1 _ (bo_mem j h)).1.2.1 rfl
theorem Bo.gR (b : Bo S0 S L D) (j : Nat) (h : bo_at L j = some (2, a, g, n)) : S.R g a = some n := (b.2.1 _ (bo_mem j h)).1.2.2.1 rfl
theorem Bo.gQ (b : Bo S0 S L D) (j : Nat) (h : bo_at L j = some (3, a, g, n)) : S.Q a (g % 64) = some n := ((b.2.1 _ (bo_mem j h)).1.2.2.2.1 rfl).2
theorem Bo.gI (b : Bo S0 S L D) (j : Nat) (h : bo_at L j = some (4, a, g, n)) : S.I g a = nI n := (b.2.1 _ (bo_mem j h)).1.2.2.2.2.1 rfl
theorem Bo.gz (b : Bo S0 S L D) (j : Nat) (h : bo_at L j = some (5, a, 0, 0)) : ∀ i, S.A a i = 0 := (b.2.1 _ (bo_mem j h)).1.2.2.2.2.2.1 rfl
theorem Bo.gA (b : Bo S0 S L D) (j : Nat) (h : bo_at L j = some (6, a, g, n)) : S.A a g = nI n := (b.2.1 _ (bo_mem j h)).1.2.2.2.2.2.2.1 rfl
theorem Bo.gB (b : Bo S0 S L D) (j : Nat) (h : bo_at L j = some (7, a, 0, 0)) : ∀ i, S.B a i = 0 := (b.2.1 _ (bo_mem j h)).1.2.2.2.2.2.2.2 rfl
end
/-- names out of the new addresses: ix holds for each number 1 and its place, or 0 -/
def bo_ad (D ix : List Nat) (B n : Nat) : Nat := match bo_at ix n with
  | some (k + 1) => (match bo_at D k with
    | some a => a
    | none => B + n)
  | _ => B + n
theorem bo_ad_in {D ix : List Nat} {B n k a : Nat} (h1 : bo_at ix n = some (k + 1)) (h2 : bo_at D k = some a) : bo_ad D ix B n = a := by
  unfold bo_ad
  rw [h1]
  show (match bo_at D k with | some a => a | none => B + n) = a
  rw [h2]
theorem bo_ad_cs (D ix : List Nat) (B n : Nat) : (∃ k a, bo_at ix n = some (k + 1) ∧ bo_at D k = some a ∧ bo_ad D ix B n = a) ∨ bo_ad D ix B n = B + n := by
  cases e : bo_at ix n with
  | none => refine Or.inr ?_; unfold bo_ad; rw [e]
  | some m =>
    cases m with
    | zero => refine Or.inr ?_; unfold bo_ad; rw [e]
    | succ k =>
      cases e2 : bo_at D k with
      | none => refine Or.inr ?_; unfold bo_ad; rw [e]; show (match bo_at D k with | some a => a | none => B + n) = B + n; rw [e2]
      | some a => exact Or.inl ⟨k, a, rfl, e2, bo_ad_in e e2⟩
theorem bo_ad_inj {D ix : List Nat} {B : Nat} (hd : bo_nd D) (hB : ∀ a, a ∈ D → a < B) (hx : ∀ i j k, bo_at ix i = some (k + 1) → bo_at ix j = some (k + 1) → i = j) (i j : Nat) (h : bo_ad D ix B i = bo_ad D ix B j) : i = j := by
  rcases bo_ad_cs D ix B i with ⟨k, a, p1, p2, p3⟩ | p <;> rcases bo_ad_cs D ix B j with ⟨l, b, q1, q2, q3⟩ | q
  · rw [p3, q3] at h
    subst h
    obtain rfl := bo_inj k l hd p2 q2
    exact hx i j k p1 q1
  · rw [p3, q] at h
    have := hB a (bo_mem k p2)
    omega
  · rw [p, q3] at h
    have := hB b (bo_mem l q2)
    omega
  · rw [p, q] at h
    omega
theorem bo_bound : ∀ D : List Nat, ∃ B, ∀ a, a ∈ D → a < B := by
  intro D
  induction D with
  | nil => exact ⟨0, fun a ha => absurd ha (by simp)⟩
  | cons c D ih =>
    obtain ⟨B, hB⟩ := ih
    refine ⟨B + c + 1, fun a ha => ?_⟩
    rcases List.mem_cons.mp ha with z | z
    · omega
    · have := hB a z
      omega
