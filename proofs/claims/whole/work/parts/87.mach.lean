/-- how a pending sign binds -/
def bnd (v : Int32) : Nat := if v = 30042 then 5 else if v = 30043 then 4 else if v = 30045 then 4 else if v = 30060 then 3 else if v = 30061 then 3 else if v = 30062 then 3 else if v = 40000 then 2 else if v = 40001 then 1 else 0
/-- what binds at least L goes from the pending to the words (both: the newest first) -/
def stl (L : Nat) : List Int32 → List Int32 → List Int32 × List Int32
  | [], o => ([], o)
  | v :: p, o => if bnd v < L then (v :: p, o) else stl L p (v :: o)
/-- all v that lie on top go -/
def ens (v : Int32) : List Int32 → List Int32 → Nat → List Int32 × List Int32 × Nat
  | [], o, d => ([], o, d)
  | u :: p, o, d => if u = v then ens v p (u :: o) (d - 1) else (u :: p, o, d)
/-- what a rule's reading comes to: well read with these words, or not, at this token -/
abbrev Rs := Bool × Nat × List Int32
def okR (o : List Int32) : Rs := (true, 0, o)
def badR (t : Nat) : Rs := (false, t, [])
abbrev MF := Nat → List Int32 → List Int32 → Nat → Bool → Nat → Rs → Prop
/-- it wants one -/
def st0 (C : Nat → Int32) (F : MF) (o p : List Int32) (d t : Nat) (r : Rs) : Prop := (C t = 307 ∧ d < 4 ∧ F 0 o (40002 :: p) (d + 1) false (t + 1) r) ∨ (C t = 40 ∧ d < 4 ∧ F 0 o (40004 :: p) (d + 1) false (t + 1) r) ∨ ((C t = 307 ∨ C t = 40) ∧ 4 ≤ d ∧ r = badR t) ∨ (C t ≠ 307 ∧ C t ≠ 40 ∧ C t ≠ 258 ∧ F 1 o p d false t r) ∨ (C t = 258 ∧ r = badR t)
/-- it wants a number -/
def st1 (C V : Nat → Int32) (F : MF) (o p : List Int32) (d : Nat) (x : Bool) (t : Nat) (r : Rs) : Prop := (C t = 45 ∧ d < 4 ∧ F 1 o (40003 :: p) (d + 1) x (t + 1) r) ∨ (C t = 45 ∧ 4 ≤ d ∧ r = badR t) ∨ (∃ v, ((C t = 256 ∧ v = V t) ∨ ∃ i : Nat, i ≤ 6 ∧ C t = nI (308 + i) ∧ v = nI (20000 + i)) ∧ F (if x then 3 else 2) (ens 40003 p (v :: o) d).2.1 (ens 40003 p (v :: o) d).1 (ens 40003 p (v :: o) d).2.2 x (t + 1) r) ∨ (C t ≠ 45 ∧ C t ≠ 256 ∧ (∀ i : Nat, i ≤ 6 → C t ≠ nI (308 + i)) ∧ r = badR t)
/-- it has a number -/
def st2 (C : Nat → Int32) (F : MF) (w : Nat) (o p : List Int32) (d : Nat) (x : Bool) (t : Nat) (r : Rs) : Prop := (∃ s L, ((s = 42 ∧ L = 5) ∨ (s = 43 ∧ L = 4) ∨ (s = 45 ∧ L = 4)) ∧ C t = s ∧ F 1 (stl L p o).2 ((30000 + s) :: (stl L p o).1) d x (t + 1) r) ∨ (w = 2 ∧ ∃ s, (s = 60 ∨ s = 61 ∨ s = 62) ∧ C t = s ∧ F 1 (stl 4 p o).2 ((30000 + s) :: (stl 4 p o).1) d true (t + 1) r) ∨ (w = 2 ∧ C t ≠ 42 ∧ C t ≠ 43 ∧ C t ≠ 45 ∧ C t ≠ 60 ∧ C t ≠ 61 ∧ C t ≠ 62 ∧ r = badR t) ∨ (w = 3 ∧ C t ≠ 42 ∧ C t ≠ 43 ∧ C t ≠ 45 ∧ F 4 (ens 40002 (stl 3 p o).1 (stl 3 p o).2 d).2.1 (ens 40002 (stl 3 p o).1 (stl 3 p o).2 d).1 (ens 40002 (stl 3 p o).1 (stl 3 p o).2 d).2.2 x t r)
/-- it has one -/
def st4 (C : Nat → Int32) (F : MF) (o p : List Int32) (d : Nat) (x : Bool) (t : Nat) (r : Rs) : Prop := (C t = 305 ∧ F 0 (stl 2 p o).2 (40000 :: (stl 2 p o).1) d x (t + 1) r) ∨ (C t = 306 ∧ F 0 (stl 1 p o).2 (40001 :: (stl 1 p o).1) d x (t + 1) r) ∨ (∃ p' o', C t = 41 ∧ stl 1 p o = (40004 :: p', o') ∧ F 4 (ens 40002 p' o' (d - 1)).2.1 (ens 40002 p' o' (d - 1)).1 (ens 40002 p' o' (d - 1)).2.2 x (t + 1) r) ∨ (∃ o', C t = 258 ∧ stl 1 p o = ([], o') ∧ r = okR o') ∨ (C t ≠ 305 ∧ C t ≠ 306 ∧ (C t = 41 → ∀ p', (stl 1 p o).1 ≠ 40004 :: p') ∧ (C t = 258 → (stl 1 p o).1 ≠ []) ∧ r = badR t)
/-- one turn of the reference's machine: what it wants, words, pending, how many open, compared, the token -/
def stp (C V : Nat → Int32) (F : MF) : MF := fun w o p d x t r => (w = 0 ∧ st0 C F o p d t r) ∨ (w = 1 ∧ st1 C V F o p d x t r) ∨ ((w = 2 ∨ w = 3) ∧ st2 C F w o p d x t r) ∨ (w = 4 ∧ st4 C F o p d x t r)
def MUn (C V : Nat → Int32) : Nat → MF
  | 0 => fun _ _ _ _ _ _ _ => False
  | n + 1 => stp C V (MUn C V n)
/-- from here it comes to r -/
def MU (C V : Nat → Int32) (w : Nat) (o p : List Int32) (d : Nat) (x : Bool) (t : Nat) (r : Rs) : Prop := ∃ n, MUn C V n w o p d x t r
section
variable {C V : Nat → Int32} {F G : MF} {w d t : Nat} {o p : List Int32} {x : Bool} {r : Rs}
theorem stp_mono (h : ∀ w o p d x t r, F w o p d x t r → G w o p d x t r) (k : stp C V F w o p d x t r) : stp C V G w o p d x t r := by
  rcases k with ⟨hw, k⟩ | ⟨hw, k⟩ | ⟨hw, k⟩ | ⟨hw, k⟩
  · refine Or.inl ⟨hw, ?_⟩
    rcases k with ⟨a, b, c⟩ | ⟨a, b, c⟩ | k | ⟨a, b, c, e⟩ | k
    · exact Or.inl ⟨a, b, h _ _ _ _ _ _ _ c⟩
    · exact Or.inr (Or.inl ⟨a, b, h _ _ _ _ _ _ _ c⟩)
    · exact Or.inr (Or.inr (Or.inl k))
    · exact Or.inr (Or.inr (Or.inr (Or.inl ⟨a, b, c, h _ _ _ _ _ _ _ e⟩)))
    · exact Or.inr (Or.inr (Or.inr (Or.inr k)))
  · refine Or.inr (Or.inl ⟨hw, ?_⟩)
    rcases k with ⟨a, b, c⟩ | k | ⟨v, a, b⟩ | k
    · exact Or.inl ⟨a, b, h _ _ _ _ _ _ _ c⟩
    · exact Or.inr (Or.inl k)
    · exact Or.inr (Or.inr (Or.inl ⟨v, a, h _ _ _ _ _ _ _ b⟩))
    · exact Or.inr (Or.inr (Or.inr k))
  · refine Or.inr (Or.inr (Or.inl ⟨hw, ?_⟩))
    rcases k with ⟨s, L, a, b, c⟩ | ⟨a, s, b, c, e⟩ | k | ⟨a, b, c, e, f⟩
    · exact Or.inl ⟨s, L, a, b, h _ _ _ _ _ _ _ c⟩
    · exact Or.inr (Or.inl ⟨a, s, b, c, h _ _ _ _ _ _ _ e⟩)
    · exact Or.inr (Or.inr (Or.inl k))
    · exact Or.inr (Or.inr (Or.inr ⟨a, b, c, e, h _ _ _ _ _ _ _ f⟩))
  · refine Or.inr (Or.inr (Or.inr ⟨hw, ?_⟩))
    rcases k with ⟨a, b⟩ | ⟨a, b⟩ | ⟨p', o', a, b, c⟩ | k | k
    · exact Or.inl ⟨a, h _ _ _ _ _ _ _ b⟩
    · exact Or.inr (Or.inl ⟨a, h _ _ _ _ _ _ _ b⟩)
    · exact Or.inr (Or.inr (Or.inl ⟨p', o', a, b, h _ _ _ _ _ _ _ c⟩))
    · exact Or.inr (Or.inr (Or.inr (Or.inl k)))
    · exact Or.inr (Or.inr (Or.inr (Or.inr k)))
theorem MU.inv (h : MU C V w o p d x t r) : stp C V (MU C V) w o p d x t r := by
  obtain ⟨n, h⟩ := h
  cases n with
  | zero => exact absurd h id
  | succ n => exact stp_mono (fun _ _ _ _ _ _ _ z => ⟨n, z⟩) h
theorem MUn_up : ∀ (n : Nat) (w : Nat) (o p : List Int32) (d : Nat) (x : Bool) (t : Nat) (r : Rs), MUn C V n w o p d x t r → MUn C V (n + 1) w o p d x t r := by
  intro n
  induction n with
  | zero => intro _ _ _ _ _ _ _ h; exact absurd h id
  | succ n ih => intro w o p d x t r h; exact stp_mono ih h
theorem MU.onot (a : C t = 307) (b : d < 4) (h : MU C V 0 o (40002 :: p) (d + 1) false (t + 1) r) : MU C V 0 o p d x t r := by
  obtain ⟨n, h⟩ := h
  exact ⟨n + 1, Or.inl ⟨rfl, Or.inl ⟨a, b, h⟩⟩⟩
theorem MU.opar (a : C t = 40) (b : d < 4) (h : MU C V 0 o (40004 :: p) (d + 1) false (t + 1) r) : MU C V 0 o p d x t r := by
  obtain ⟨n, h⟩ := h
  exact ⟨n + 1, Or.inl ⟨rfl, Or.inr (Or.inl ⟨a, b, h⟩)⟩⟩
theorem MU.odeep (a : C t = 307 ∨ C t = 40) (b : 4 ≤ d) : MU C V 0 o p d x t (badR t) := ⟨1, Or.inl ⟨rfl, Or.inr (Or.inr (Or.inl ⟨a, b, rfl⟩))⟩⟩
theorem MU.oat (a : C t ≠ 307) (b : C t ≠ 40) (c : C t ≠ 258) (h : MU C V 1 o p d false t r) : MU C V 0 o p d x t r := by
  obtain ⟨n, h⟩ := h
  exact ⟨n + 1, Or.inl ⟨rfl, Or.inr (Or.inr (Or.inr (Or.inl ⟨a, b, c, h⟩)))⟩⟩
theorem MU.oend (a : C t = 258) : MU C V 0 o p d x t (badR t) := ⟨1, Or.inl ⟨rfl, Or.inr (Or.inr (Or.inr (Or.inr ⟨a, rfl⟩)))⟩⟩
theorem MU.amin (a : C t = 45) (b : d < 4) (h : MU C V 1 o (40003 :: p) (d + 1) x (t + 1) r) : MU C V 1 o p d x t r := by
  obtain ⟨n, h⟩ := h
  exact ⟨n + 1, Or.inr (Or.inl ⟨rfl, Or.inl ⟨a, b, h⟩⟩)⟩
theorem MU.adeep (a : C t = 45) (b : 4 ≤ d) : MU C V 1 o p d x t (badR t) := ⟨1, Or.inr (Or.inl ⟨rfl, Or.inr (Or.inl ⟨a, b, rfl⟩)⟩)⟩
theorem MU.aval {v : Int32} (a : (C t = 256 ∧ v = V t) ∨ ∃ i : Nat, i ≤ 6 ∧ C t = nI (308 + i) ∧ v = nI (20000 + i)) (h : MU C V (if x then 3 else 2) (ens 40003 p (v :: o) d).2.1 (ens 40003 p (v :: o) d).1 (ens 40003 p (v :: o) d).2.2 x (t + 1) r) : MU C V 1 o p d x t r := by
  obtain ⟨n, h⟩ := h
  exact ⟨n + 1, Or.inr (Or.inl ⟨rfl, Or.inr (Or.inr (Or.inl ⟨v, a, h⟩))⟩)⟩
theorem MU.abad (a : C t ≠ 45) (b : C t ≠ 256) (c : ∀ i : Nat, i ≤ 6 → C t ≠ nI (308 + i)) : MU C V 1 o p d x t (badR t) := ⟨1, Or.inr (Or.inl ⟨rfl, Or.inr (Or.inr (Or.inr ⟨a, b, c, rfl⟩))⟩)⟩
theorem MU.gop {s : Int32} {L : Nat} (hw : w = 2 ∨ w = 3) (a : (s = 42 ∧ L = 5) ∨ (s = 43 ∧ L = 4) ∨ (s = 45 ∧ L = 4)) (b : C t = s) (h : MU C V 1 (stl L p o).2 ((30000 + s) :: (stl L p o).1) d x (t + 1) r) : MU C V w o p d x t r := by
  obtain ⟨n, h⟩ := h
  exact ⟨n + 1, Or.inr (Or.inr (Or.inl ⟨hw, Or.inl ⟨s, L, a, b, h⟩⟩))⟩
theorem MU.gcmp {s : Int32} (a : s = 60 ∨ s = 61 ∨ s = 62) (b : C t = s) (h : MU C V 1 (stl 4 p o).2 ((30000 + s) :: (stl 4 p o).1) d true (t + 1) r) : MU C V 2 o p d x t r := by
  obtain ⟨n, h⟩ := h
  exact ⟨n + 1, Or.inr (Or.inr (Or.inl ⟨Or.inl rfl, Or.inr (Or.inl ⟨rfl, s, a, b, h⟩)⟩))⟩
theorem MU.gbad (a : C t ≠ 42) (b : C t ≠ 43) (c : C t ≠ 45) (e : C t ≠ 60) (f : C t ≠ 61) (g : C t ≠ 62) : MU C V 2 o p d x t (badR t) := ⟨1, Or.inr (Or.inr (Or.inl ⟨Or.inl rfl, Or.inr (Or.inr (Or.inl ⟨rfl, a, b, c, e, f, g, rfl⟩))⟩))⟩
theorem MU.gend (a : C t ≠ 42) (b : C t ≠ 43) (c : C t ≠ 45) (h : MU C V 4 (ens 40002 (stl 3 p o).1 (stl 3 p o).2 d).2.1 (ens 40002 (stl 3 p o).1 (stl 3 p o).2 d).1 (ens 40002 (stl 3 p o).1 (stl 3 p o).2 d).2.2 x t r) : MU C V 3 o p d x t r := by
  obtain ⟨n, h⟩ := h
  exact ⟨n + 1, Or.inr (Or.inr (Or.inl ⟨Or.inr rfl, Or.inr (Or.inr (Or.inr ⟨rfl, a, b, c, h⟩))⟩))⟩
theorem MU.eand (a : C t = 305) (h : MU C V 0 (stl 2 p o).2 (40000 :: (stl 2 p o).1) d x (t + 1) r) : MU C V 4 o p d x t r := by
  obtain ⟨n, h⟩ := h
  exact ⟨n + 1, Or.inr (Or.inr (Or.inr ⟨rfl, Or.inl ⟨a, h⟩⟩))⟩
theorem MU.eor (a : C t = 306) (h : MU C V 0 (stl 1 p o).2 (40001 :: (stl 1 p o).1) d x (t + 1) r) : MU C V 4 o p d x t r := by
  obtain ⟨n, h⟩ := h
  exact ⟨n + 1, Or.inr (Or.inr (Or.inr ⟨rfl, Or.inr (Or.inl ⟨a, h⟩)⟩))⟩
theorem MU.eclo {p' o' : List Int32} (a : C t = 41) (b : stl 1 p o = (40004 :: p', o')) (h : MU C V 4 (ens 40002 p' o' (d - 1)).2.1 (ens 40002 p' o' (d - 1)).1 (ens 40002 p' o' (d - 1)).2.2 x (t + 1) r) : MU C V 4 o p d x t r := by
  obtain ⟨n, h⟩ := h
  exact ⟨n + 1, Or.inr (Or.inr (Or.inr ⟨rfl, Or.inr (Or.inr (Or.inl ⟨p', o', a, b, h⟩))⟩))⟩
theorem MU.eok {o' : List Int32} (a : C t = 258) (b : stl 1 p o = ([], o')) : MU C V 4 o p d x t (okR o') := ⟨1, Or.inr (Or.inr (Or.inr ⟨rfl, Or.inr (Or.inr (Or.inr (Or.inl ⟨o', a, b, rfl⟩)))⟩))⟩
theorem MU.ebad (a : C t ≠ 305) (b : C t ≠ 306) (c : C t = 41 → ∀ p', (stl 1 p o).1 ≠ 40004 :: p') (e : C t = 258 → (stl 1 p o).1 ≠ []) : MU C V 4 o p d x t (badR t) := ⟨1, Or.inr (Or.inr (Or.inr ⟨rfl, Or.inr (Or.inr (Or.inr (Or.inr ⟨a, b, c, e, rfl⟩)))⟩))⟩
end
theorem stl_cons {L : Nat} {v : Int32} {p o : List Int32} (h : L ≤ bnd v) : stl L (v :: p) o = stl L p (v :: o) := by rw [stl, if_neg (by omega)]
theorem stl_id {L : Nat} {p o : List Int32} (h : bnd (p.headD 0) < L) : stl L p o = (p, o) := by
  cases p with
  | nil => rfl
  | cons v p => rw [stl, if_pos (show bnd v < L from h)]
theorem ens_id {v : Int32} {p o : List Int32} {d : Nat} (h : p.headD 0 ≠ v) : ens v p o d = (p, o, d) := by
  cases p with
  | nil => rfl
  | cons u p => rw [ens, if_neg (show ¬ u = v from h)]
theorem ens_cons {v : Int32} {p o : List Int32} {d : Nat} : ens v (v :: p) o (d + 1) = ens v p (v :: o) d := by rw [ens, if_pos rfl]; rfl
section
variable {C V : Nat → Int32} {o p : List Int32} {d w t : Nat} {x : Bool} {r : Rs}
/-- a sign that waits may as well be written, where the next could not take from it -/
theorem lag_at {v : Int32} {L : Nat} (hw : w = 2 ∨ w = 3) (hv : L ≤ bnd v) (h3 : 4 ≤ L) (h5 : L = 5 ∨ C t ≠ 42) (h : MU C V w (v :: o) p d x t r) : MU C V w o (v :: p) d x t r := by
  rcases h.inv with ⟨z, k⟩ | ⟨z, k⟩ | ⟨z, k⟩ | ⟨z, k⟩
  · omega
  · omega
  · rcases k with ⟨s, L', hs, hc, hr⟩ | ⟨rfl, s, hs, hc, hr⟩ | ⟨rfl, a, b, c, e, f, g, rfl⟩ | ⟨rfl, a, b, c, hr⟩
    · refine MU.gop hw hs hc ?_
      rw [stl_cons]
      · exact hr
      · rcases hs with ⟨s1, s2⟩ | ⟨s1, s2⟩ | ⟨s1, s2⟩
        · rcases h5 with h5 | h5
          · omega
          · rw [s1] at hc; exact absurd hc h5
        · omega
        · omega
    · exact MU.gcmp hs hc (by rw [stl_cons (by omega)]; exact hr)
    · exact MU.gbad a b c e f g
    · exact MU.gend a b c (by rw [stl_cons (by omega)]; exact hr)
  · omega
theorem lag_end {v : Int32} {L : Nat} (hv : L ≤ bnd v) (h1 : 1 ≤ L) (h2 : L = 2 ∨ C t ≠ 305) (h : MU C V 4 (v :: o) p d x t r) : MU C V 4 o (v :: p) d x t r := by
  have s1 : stl 1 (v :: p) o = stl 1 p (v :: o) := stl_cons (by omega)
  rcases h.inv with ⟨z, k⟩ | ⟨z, k⟩ | ⟨z, k⟩ | ⟨z, k⟩
  · omega
  · omega
  · omega
  · rcases k with ⟨hc, hr⟩ | ⟨hc, hr⟩ | ⟨p', o', hc, hs, hr⟩ | ⟨o', hc, hs, rfl⟩ | ⟨a, b, c, e, rfl⟩
    · refine MU.eand hc ?_
      rw [stl_cons]
      · exact hr
      · rcases h2 with h2 | h2
        · omega
        · exact absurd hc h2
    · exact MU.eor hc (by rw [s1]; exact hr)
    · exact MU.eclo hc (by rw [s1]; exact hs) hr
    · exact MU.eok hc (by rw [s1]; exact hs)
    · exact MU.ebad a b (by rw [s1]; exact c) (by rw [s1]; exact e)
end
/-- words (the newest first) on a pile of kinds -/
def wl : List Int32 → List Bool → List Bool → Prop
  | [], st, st' => st = st'
  | v :: o, st, st' => ∃ s1, wl o st s1 ∧ wst v s1 st'
theorem wl_app {b : List Int32} {st s1 : List Bool} (hb : wl b st s1) : ∀ {a : List Int32} {st' : List Bool}, wl a s1 st' → wl (a ++ b) st st' := by
  intro a
  induction a with
  | nil => intro st' h; rw [wl] at h; rw [← h]; exact hb
  | cons v a ih => intro st' h; obtain ⟨s2, h1, h2⟩ := h; exact ⟨s2, ih h1, h2⟩
theorem wl_two {a b : List Int32} {v : Int32} {st s1 s2 st' : List Bool} (hb : wl b st s1) (ha : wl a s1 s2) (hv : wst v s2 st') : wl (v :: (a ++ b)) st st' := ⟨s2, wl_app hb ha, hv⟩
theorem wrn_snoc {f : Nat → Int32} : ∀ (m k : Nat) (st s1 st' : List Bool), wrn f m k st s1 → wst (f (k + m)) s1 st' → wrn f (m + 1) k st st' := by
  intro m
  induction m with
  | zero => intro k st s1 st' h1 h2; rw [wrn] at h1; rw [h1]; exact ⟨st', h2, rfl⟩
  | succ m ih =>
    intro k st s1 st' h1 h2
    obtain ⟨s2, h3, h4⟩ := h1
    exact ⟨s2, h3, ih (k + 1) s2 s1 st' h4 (by rw [show k + 1 + m = k + (m + 1) by omega]; exact h2)⟩
theorem wl_wrn {f : Nat → Int32} {st : List Bool} : ∀ (o : List Int32) (st' : List Bool), stk f o → wl o st st' → wrn f o.length 0 st st' := by
  intro o
  induction o with
  | nil => intro st' _ h; exact h
  | cons v o ih =>
    intro st' hs h
    obtain ⟨s1, h1, h2⟩ := h
    refine wrn_snoc _ _ _ _ _ (ih s1 hs.2 h1) ?_
    rw [Nat.zero_add, hs.1]
    exact h2
