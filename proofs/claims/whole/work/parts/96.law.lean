section
variable {N nt w d t : Nat} {ad : Nat → Nat} {S : PS} {T : Nat → Nat} {o p : List Int32} {x : Bool} {g : Int32}
theorem j_join {K : PS → Prop} {v : Int32} (hT : ∀ k, T k < 256) (hn : nt ≤ 200) (hN5 : 5000 ≤ N) (hl : p.length < 200) (h : MR S ad T nt w o p d x t g) (hK : ∀ S', UJ ad S S' → MR S' ad T nt 0 o (v :: p) d x (t + 1) g → K S') : wq_X11_goOnEnded_49 N K S (ad 80) (ad 80) v := by
  refine ⟨h.1.1.1.k80, j_pend h hl (fun S12 u12 h12 => ⟨h12.1.1.1.k80, fun S15 e15 => ?_⟩)⟩
  obtain ⟨h15, u15⟩ := mr_want (w' := 0) h12 e15
  exact j_adv hT hn hN5 h15 (fun S' u' h' => hK S' (Un.tr u12 (Un.tr u15 u')) h')
theorem j_end {K : PS → Prop} (hT : ∀ k, T k < 256) (hn : nt ≤ 200) (hN5 : 5000 ≤ N) (hp : opn p ≤ d) (hl : o.length + p.length < 200) (h : MR S ad T nt 4 o p d x t 1) (hand : Cc T nt t = 305 → ∀ S', UJ ad S S' → MR S' ad T nt 0 (stl 2 p o).2 (40000 :: (stl 2 p o).1) d x (t + 1) 1 → K S') (hor : Cc T nt t = 306 → ∀ S', UJ ad S S' → MR S' ad T nt 0 (stl 1 p o).2 (40001 :: (stl 1 p o).1) d x (t + 1) 1 → K S') (hclo : ∀ p' o', Cc T nt t = 41 → stl 1 p o = (40004 :: p', o') → ∀ S', UJ ad S S' → MR S' ad T nt 4 (ens 40002 p' o' (d - 1)).2.1 (ens 40002 p' o' (d - 1)).1 (ens 40002 p' o' (d - 1)).2.2 x (t + 1) 1 → K S') (hbad : Cc T nt t ≠ 305 → Cc T nt t ≠ 306 → (Cc T nt t = 41 → ∀ p', (stl 1 p o).1 ≠ 40004 :: p') → ∀ S', UJ ad S S' → MR S' ad T nt 4 (stl 1 p o).2 (stl 1 p o).1 d x t 0 → K S') : wp_X11_goOnEnded N S (ad 80) K := by
  have s := h.1.1.1
  have len1 := stl_len 1 p o
  have len2 := stl_len 2 p o
  refine ⟨s.k80, ?_⟩
  show wp_X11_isWord N S (ad 80) (lN (Wn.getD 5 0)) _
  rw [t_word hT s h.1.2.1 (i := 5) (by omega)]
  by_cases q5 : Cc T nt t = 305
  · rw [if_pos (show cdp T nt (pos T nt t) = nI (300 + 5) from q5), if_neg (by decide)]
    unfold wq_X11_goOnEnded_22 wq_X11_goOnEnded_32 wp_X11_settle
    rw [if_neg (by decide)]
    refine ⟨s.k80, j_settle (L := 2) (by omega) (by omega) p o N S (by omega) (by omega) h (fun S8 u8 h8 => ?_)⟩
    rw [if_neg (by decide)]
    exact j_join hT hn hN5 (by omega) h8 (fun S' u' h' => hand q5 S' (Un.tr u8 u') h')
  rw [if_neg (show ¬ cdp T nt (pos T nt t) = nI (300 + 5) from q5), if_pos rfl]
  refine ⟨s.k80, ?_⟩
  show wp_X11_isWord N S (ad 80) (lN (Wn.getD 6 0)) _
  rw [t_word hT s h.1.2.1 (i := 6) (by omega)]
  by_cases q6 : Cc T nt t = 306
  · rw [if_pos (show cdp T nt (pos T nt t) = nI (300 + 6) from q6), if_neg (by decide)]
    unfold wq_X11_goOnEnded_22 wq_X11_goOnEnded_32 wp_X11_settle
    rw [if_pos rfl]
    refine ⟨s.k80, j_settle (L := 1) (by omega) (by omega) p o N S (by omega) (by omega) h (fun S8 u8 h8 => ?_)⟩
    rw [if_pos rfl]
    exact j_join hT hn hN5 (by omega) h8 (fun S' u' h' => hor q6 S' (Un.tr u8 u') h')
  rw [if_neg (show ¬ cdp T nt (pos T nt t) = nI (300 + 6) from q6), if_pos rfl]
  refine ⟨s.k80, ?_⟩
  unfold wp_X11_settle
  refine j_settle (L := 1) (by omega) (by omega) p o N S (by omega) (by omega) h (fun S25 u25 h25 => ⟨h25.1.1.1.k80, ?_⟩)
  have s25 := h25.1.1.1
  have bad : (Cc T nt t = 41 → ∀ p', (stl 1 p o).1 ≠ 40004 :: p') → wq_X11_goOnEnded_91 N K S25 (ad 80) (ad 80) := by
    intro z
    refine ⟨s25.k80, Or.inl rfl, fun S34 e34 => ?_⟩
    obtain ⟨h34, u34⟩ := mr_good h25 e34
    refine ⟨h34.1.1.1.k80, ?_⟩
    rw [h34.1.2.2, if_pos rfl]
    exact hbad q5 q6 z S34 (Un.tr u25 u34) h34
  show wp_X11_isMark N S25 (ad 80) (nI 41) _
  rw [t_mark hT s25 h25.1.2.1 (b := 41) (by decide) (by decide) (by decide)]
  by_cases q4 : Cc T nt t = 41
  case neg =>
    rw [if_neg (show ¬ cdp T nt (pos T nt t) = nI 41 from q4), if_pos rfl]
    exact bad (fun z => absurd z q4)
  rw [if_pos (show cdp T nt (pos T nt t) = nI 41 from q4), if_neg (by decide)]
  refine ⟨s25.k80, ?_⟩
  rw [j_top h25 (by omega)]
  have oo := stl_opn (L := 1) (by decide) p o
  have ec : ∀ p', (stl 1 p o).1 = 40004 :: p' → stl 1 p o = (40004 :: p', (stl 1 p o).2) := fun p' z => by rw [← z]
  generalize ep : (stl 1 p o).1 = pp at *
  cases pp with
  | nil =>
    rw [if_neg (show ¬ ([] : List Int32).headD 0 = 40004 by decide)]
    exact bad (fun _ p' z => absurd z (by simp))
  | cons v p' =>
    by_cases c : v = 40004
    case neg =>
      rw [if_neg (show ¬ (v :: p').headD 0 = 40004 from c)]
      exact bad (fun _ p2 z => c (List.cons.inj z).1)
    subst c
    rw [if_pos (show ((40004 : Int32) :: p').headD 0 = 40004 from rfl)]
    rw [opn, if_pos (Or.inr (Or.inr rfl))] at oo
    obtain ⟨d, rfl⟩ : ∃ z, d = z + 1 := ⟨d - 1, by omega⟩
    refine ⟨s25.k80, Or.inr rfl, fun S34 e34 => ?_⟩
    obtain ⟨h34, u34⟩ := mr_good h25 e34
    refine ⟨h34.1.1.1.k80, ?_⟩
    rw [h34.1.2.2, if_neg (by decide)]
    intro S37 e37 S39 e39
    obtain ⟨h37, u37⟩ := mr_pop h34 e37
    obtain ⟨h39, u39⟩ := mr_less h37 e39
    rw [List.length_cons] at len1
    unfold wp_X11_ends
    refine j_ends (Or.inl rfl) p' _ d N S39 (by omega) (by omega) (by omega) h39 (fun S41 u41 h41 => ⟨h41.1.1.1.k80, j_adv hT hn hN5 h41 (fun S' u' h' => hclo p' _ q4 (ec p' rfl) S' (Un.tr u25 (Un.tr u34 (Un.tr u37 (Un.tr u39 (Un.tr u41 u'))))) h')⟩)
end
