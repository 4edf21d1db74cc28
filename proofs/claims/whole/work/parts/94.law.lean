section
variable {N nt w d t : Nat} {ad : Nat → Nat} {S : PS} {T : Nat → Nat} {o p : List Int32} {x : Bool} {g : Int32}
theorem j_at {K : PS → Prop} (hT : ∀ k, T k < 256) (hn : nt ≤ 200) (hN5 : 5000 ≤ N) (hd : d ≤ 4) (hp : opn p ≤ d) (hl : o.length + p.length < 200) (h : MR S ad T nt 1 o p d x t 1) (hm : Cc T nt t = 45 → d < 4 → ∀ S', UJ ad S S' → MR S' ad T nt 1 o (40003 :: p) (d + 1) x (t + 1) 1 → K S') (h0 : Cc T nt t = 45 → 4 ≤ d → ∀ S', UJ ad S S' → MR S' ad T nt 1 o p d x t 0 → K S') (hv : ∀ v, ((Cc T nt t = 256 ∧ v = Vc T nt t) ∨ ∃ i : Nat, i ≤ 6 ∧ Cc T nt t = nI (308 + i) ∧ v = nI (20000 + i)) → ∀ S', UJ ad S S' → MR S' ad T nt (if x then 3 else 2) (ens 40003 p (v :: o) d).2.1 (ens 40003 p (v :: o) d).1 (ens 40003 p (v :: o) d).2.2 x (t + 1) 1 → K S') (hb : Cc T nt t ≠ 45 → Cc T nt t ≠ 256 → (∀ i : Nat, i ≤ 6 → Cc T nt t ≠ nI (308 + i)) → ∀ S', UJ ad S S' → MR S' ad T nt 1 o p d x t 0 → K S') : wp_X11_beginAt N S (ad 80) K := by
  have s := h.1.1.1
  refine ⟨s.k80, ?_⟩
  show wp_X11_isMark N S (ad 80) (nI 45) _
  rw [t_mark hT s h.1.2.1 (b := 45) (by decide) (by decide) (by decide)]
  by_cases q : Cc T nt t = 45
  · rw [if_pos (show cdp T nt (pos T nt t) = nI 45 from q), if_neg (by decide)]
    exact ⟨s.k80, j_opens hT hn hN5 hd (by omega) h (fun z S' u' h' => h0 q z S' u' h') (fun z S' u' h' => hm q z S' u' h')⟩
  rw [if_neg (show ¬ cdp T nt (pos T nt t) = nI 45 from q), if_pos rfl]
  refine ⟨s.k80, ?_⟩
  rw [t_num hT s h.1.2.1]
  unfold wq_X11_beginAt_32 wq_X11_beginAt_37
  by_cases q2 : Cc T nt t = 256
  · rw [if_pos q2, if_neg (by decide)]
    refine ⟨s.k80, Or.inr rfl, fun S13 e13 => ?_⟩
    obtain ⟨h13, u13⟩ := mr_good h e13
    have s13 := h13.1.1.1
    refine ⟨s13.k80, ?_⟩
    rw [h13.1.2.2, if_neg (by decide), t_num hT s13 h13.1.2.1, if_pos q2, if_neg (by decide)]
    refine ⟨s13.k80, ?_⟩
    rw [h13.1.2.1.2.2.2.2, (t_val hT q2).1]
    exact j_val hT hn hN5 hp hl h13 (fun S' u' h' => hv _ (Or.inl ⟨q2, rfl⟩) S' (Un.tr u13 u') h')
  rw [if_neg q2, if_pos rfl]
  refine ⟨s.k80, ?_⟩
  rcases j_fact (N := N) hT h with ⟨i, hi, f, e⟩ | ⟨f, e⟩
  · rw [e, if_neg (nI_pos (by omega))]
    refine ⟨s.k80, Or.inr rfl, fun S13 e13 => ?_⟩
    obtain ⟨h13, u13⟩ := mr_good h e13
    have s13 := h13.1.1.1
    refine ⟨s13.k80, ?_⟩
    rw [h13.1.2.2, if_neg (by decide), t_num hT s13 h13.1.2.1, if_neg q2, if_pos rfl]
    refine ⟨s13.k80, ?_⟩
    rcases j_fact (N := N) hT h13 with ⟨i2, hi2, f2, e2⟩ | ⟨f2, e2⟩
    · rw [e2, show (20000 : Int32) + nI i2 = nI (20000 + i2) from nI_add 20000 i2]
      exact j_val hT hn hN5 hp hl h13 (fun S' u' h' => hv _ (Or.inr ⟨i2, hi2, f2, rfl⟩) S' (Un.tr u13 u') h')
    · exact absurd f (f2 i hi)
  · rw [e, if_pos (by decide)]
    refine ⟨s.k80, Or.inl rfl, fun S13 e13 => ?_⟩
    obtain ⟨h13, u13⟩ := mr_good h e13
    refine ⟨h13.1.1.1.k80, ?_⟩
    rw [h13.1.2.2, if_pos rfl]
    exact hb q q2 f S13 u13 h13
theorem stl_len (L : Nat) : ∀ (p o : List Int32), (stl L p o).1.length + (stl L p o).2.length = p.length + o.length := by
  intro p
  induction p with
  | nil => intro o; rfl
  | cons v p ih =>
    intro o
    rw [stl]
    by_cases c : bnd v < L
    · rw [if_pos c]
    · rw [if_neg c, ih, List.length_cons, List.length_cons]; omega
theorem stl_opn {L : Nat} (hL : 1 ≤ L) : ∀ (p o : List Int32), opn (stl L p o).1 = opn p := by
  intro p
  induction p with
  | nil => intro o; rfl
  | cons v p ih =>
    intro o
    rw [stl]
    by_cases c : bnd v < L
    · rw [if_pos c]
    · rw [if_neg c, ih, opn, if_neg]
      rintro (rfl | rfl | rfl)
      · exact c (Nat.lt_of_lt_of_le (by decide) hL)
      · exact c (Nat.lt_of_lt_of_le (by decide) hL)
      · exact c (Nat.lt_of_lt_of_le (by decide) hL)
theorem ens_len (v : Int32) : ∀ (p o : List Int32) (d : Nat), (ens v p o d).1.length + (ens v p o d).2.1.length = p.length + o.length := by
  intro p
  induction p with
  | nil => intro o d; rfl
  | cons u p ih =>
    intro o d
    rw [ens]
    by_cases c : u = v
    · rw [if_pos c, ih, List.length_cons, List.length_cons]; omega
    · rw [if_neg c]
theorem ens_opn {v : Int32} (hv : v = 40002 ∨ v = 40003) : ∀ (p o : List Int32) (d : Nat), opn p = d → opn (ens v p o d).1 = (ens v p o d).2.2 := by
  intro p
  induction p with
  | nil => intro o d h; exact h
  | cons u p ih =>
    intro o d h
    rw [ens]
    by_cases c : u = v
    · rw [if_pos c]
      rw [opn, if_pos (by rcases hv with z | z; exact Or.inl (c.trans z); exact Or.inr (Or.inl (c.trans z)))] at h
      exact ih (u :: o) (d - 1) (by omega)
    · rw [if_neg c]; exact h
theorem ens_le (v : Int32) : ∀ (p o : List Int32) (d : Nat), (ens v p o d).2.2 ≤ d := by
  intro p
  induction p with
  | nil => intro o d; exact Nat.le_refl _
  | cons u p ih =>
    intro o d
    rw [ens]
    by_cases c : u = v
    · rw [if_pos c]; exact Nat.le_trans (ih _ _) (Nat.sub_le _ _)
    · rw [if_neg c]; exact Nat.le_refl _
end
