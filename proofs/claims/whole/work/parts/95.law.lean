section
variable {N nt w d t : Nat} {ad : Nat → Nat} {S : PS} {T : Nat → Nat} {o p : List Int32} {x : Bool} {g : Int32}
/-- a sign is put behind what binds as much -/
theorem j_sign {K : PS → Prop} {x' : Bool} {b : Nat} (hT : ∀ k, T k < 256) (hn : nt ≤ 200) (hN5 : 5000 ≤ N) (hl : p.length < 200) (hb : b < 256) (q : Cc T nt t = nI b) (h : MR S ad T nt w o p d x t g) (hK : ∀ S', UJ ad S S' → MR S' ad T nt 1 o ((30000 + nI b) :: p) d x' (t + 1) g → K S') : wq_X11_goOnAt_74 N K S (ad 80) (ad 80) (if x' then 1 else 0) := by
  refine ⟨h.1.1.1.k80, by cases x'; exact Or.inl rfl; exact Or.inr rfl, fun S12 e12 => ?_⟩
  obtain ⟨h12, u12⟩ := mr_cmp h e12
  have v : S12.I 787 (ad 80) = nI b := by
    rw [h12.1.2.1.2.2.2.2]
    rcases mk_s (T := T) (nt := nt) (p := pos T nt t) hT with ⟨_, m2, _⟩ | ⟨_, m2⟩
    · rw [m2]; exact q
    · exact absurd q (m2 b hb)
  rw [v]
  refine ⟨h12.1.1.1.k80, j_pend h12 hl (fun S14 u14 h14 => ⟨h14.1.1.1.k80, fun S17 e17 => ?_⟩)⟩
  obtain ⟨h17, u17⟩ := mr_want (w' := 1) h14 e17
  exact j_adv hT hn hN5 h17 (fun S' u' h' => hK S' (Un.tr u12 (Un.tr u14 (Un.tr u17 u'))) h')
theorem j_go {K : PS → Prop} (hT : ∀ k, T k < 256) (hn : nt ≤ 200) (hN5 : 5000 ≤ N) (hw : w = 2 ∨ w = 3) (hp : opn p ≤ d) (hl : o.length + p.length ≤ 200) (hl2 : Cc T nt t ≠ 258 → o.length + p.length < 200) (h : MR S ad T nt w o p d x t 1) (hop : ∀ s L, ((s = 42 ∧ L = 5) ∨ (s = 43 ∧ L = 4) ∨ (s = 45 ∧ L = 4)) → Cc T nt t = s → ∀ S', UJ ad S S' → MR S' ad T nt 1 (stl L p o).2 ((30000 + s) :: (stl L p o).1) d x (t + 1) 1 → K S') (hcmp : w = 2 → ∀ s, (s = 60 ∨ s = 61 ∨ s = 62) → Cc T nt t = s → ∀ S', UJ ad S S' → MR S' ad T nt 1 (stl 4 p o).2 ((30000 + s) :: (stl 4 p o).1) d true (t + 1) 1 → K S') (hbad : w = 2 → Cc T nt t ≠ 42 → Cc T nt t ≠ 43 → Cc T nt t ≠ 45 → Cc T nt t ≠ 60 → Cc T nt t ≠ 61 → Cc T nt t ≠ 62 → ∀ S', UJ ad S S' → MR S' ad T nt w o p d x t 0 → K S') (hend : w = 3 → Cc T nt t ≠ 42 → Cc T nt t ≠ 43 → Cc T nt t ≠ 45 → ∀ S', UJ ad S S' → MR S' ad T nt 4 (ens 40002 (stl 3 p o).1 (stl 3 p o).2 d).2.1 (ens 40002 (stl 3 p o).1 (stl 3 p o).2 d).1 (ens 40002 (stl 3 p o).1 (stl 3 p o).2 d).2.2 x t 1 → K S') : wp_X11_goOnAt N S (ad 80) K := by
  have s := h.1.1.1
  have i800 : S.I 800 (ad 80) = nI w := h.2.2.2.2.2.2.1
  rw [j_goOn hT h]
  unfold wq_X11_goOnAt_23
  have op : ∀ (b L : Nat) (z : Int32), b < 256 → L = 4 ∨ L = 5 → z = nI L → ((nI b = 42 ∧ L = 5) ∨ (nI b = 43 ∧ L = 4) ∨ (nI b = 45 ∧ L = 4)) → Cc T nt t = nI b → wq_X11_goOnAt_42 N K S (ad 80) z := by
    intro b L z hb hL hz hs q
    have hl3 := hl2 (by rw [q]; exact ii_ne (b := 258) (by omega) (by decide) (by omega))
    unfold wq_X11_goOnAt_42 wq_X11_goOnAt_53 wp_X11_settle wq_X11_goOnAt_69
    have n3 : ¬ z = 3 := by rw [hz]; exact ii_ne (b := 3) (by omega) (by decide) (by omega)
    rw [if_neg n3, hz]
    refine ⟨s.k80, j_settle (by omega) (by omega) p o N S (by omega) (by omega) h (fun S6 u6 h6 => ⟨h6.1.1.1.k80, ?_⟩)⟩
    have len := stl_len L p o
    rw [h6.2.2.2.2.2.2.2]
    cases x with
    | false =>
      rw [if_pos (by decide), if_neg (by rw [← hz]; exact n3)]
      exact j_sign (x' := false) hT hn hN5 (by omega) hb q h6 (fun S' u' h' => hop (nI b) L hs q S' (Un.tr u6 u') h')
    | true =>
      rw [if_neg (by decide)]
      exact j_sign (x' := true) hT hn hN5 (by omega) hb q h6 (fun S' u' h' => hop (nI b) L hs q S' (Un.tr u6 u') h')
  have stop : Cc T nt t ≠ 42 → Cc T nt t ≠ 43 → Cc T nt t ≠ 45 → (w = 2 → Cc T nt t ≠ 60 ∧ Cc T nt t ≠ 61 ∧ Cc T nt t ≠ 62) → wq_X11_goOnAt_101 N K S (ad 80) := by
    intro a2 a3 a5 aw
    refine ⟨s.k80, ?_⟩
    rw [i800]
    rcases hw with rfl | rfl
    · rw [if_pos (show nI 2 = 2 from rfl)]
      intro S32 e32
      obtain ⟨h32, u32⟩ := mr_good h e32
      exact hbad rfl a2 a3 a5 (aw rfl).1 (aw rfl).2.1 (aw rfl).2.2 S32 u32 h32
    · rw [if_neg (by decide)]
      have len := stl_len 3 p o
      refine j_settle (L := 3) (by omega) (by omega) p o N S (by omega) (by omega) h (fun S25 u25 h25 => ⟨h25.1.1.1.k80, ?_⟩)
      unfold wp_X11_ends
      refine j_ends (Or.inl rfl) _ _ d N S25 (by omega) (by omega) (by rw [stl_opn (by decide)]; exact hp) h25 (fun S28 u28 h28 => ⟨h28.1.1.1.k80, fun S31 e31 => ?_⟩)
      obtain ⟨h31, u31⟩ := mr_want (w' := 4) h28 e31
      exact hend rfl a2 a3 a5 S31 (Un.tr u25 (Un.tr u28 u31)) h31
  by_cases c2 : Cc T nt t = 42
  · rw [show lv (Cc T nt t) = 5 by rw [c2]; decide, if_pos (by decide)]
    exact op 42 5 _ (by decide) (Or.inr rfl) rfl (Or.inl ⟨rfl, rfl⟩) c2
  by_cases c3 : Cc T nt t = 43
  · rw [show lv (Cc T nt t) = 4 by rw [c3]; decide, if_pos (by decide)]
    exact op 43 4 _ (by decide) (Or.inl rfl) rfl (Or.inr (Or.inl ⟨rfl, rfl⟩)) c3
  by_cases c5 : Cc T nt t = 45
  · rw [show lv (Cc T nt t) = 4 by rw [c5]; decide, if_pos (by decide)]
    exact op 45 4 _ (by decide) (Or.inl rfl) rfl (Or.inr (Or.inr ⟨rfl, rfl⟩)) c5
  have cm : ∀ b : Nat, b < 256 → (nI b = 60 ∨ nI b = 61 ∨ nI b = 62) → lv (nI b) = 3 → Cc T nt t = nI b → (if (4 : Int32) ≤ nI (lv (Cc T nt t)) then wq_X11_goOnAt_42 N K S (ad 80) (nI (lv (Cc T nt t))) else (if nI (lv (Cc T nt t)) = 3 then (S.K (ad 80) = 12 ∧ if (S.I 800 (ad 80)) = 2 then (wq_X11_goOnAt_42 N K S (ad 80) (nI (lv (Cc T nt t)))) else (wq_X11_goOnAt_101 N K S (ad 80))) else (wq_X11_goOnAt_101 N K S (ad 80)))) := by
    intro b hb hs l3 q
    have hl3 := hl2 (by rw [q]; exact ii_ne (b := 258) (by omega) (by decide) (by omega))
    rw [show lv (Cc T nt t) = 3 by rw [q]; exact l3, if_neg (by decide), if_pos (by decide), i800]
    refine ⟨s.k80, ?_⟩
    rcases hw with rfl | rfl
    · rw [if_pos (show nI 2 = 2 from rfl)]
      unfold wq_X11_goOnAt_42 wq_X11_goOnAt_53 wp_X11_settle wq_X11_goOnAt_69
      rw [if_pos (by decide)]
      have len := stl_len 4 p o
      refine ⟨s.k80, j_settle (L := 4) (by omega) (by omega) p o N S (by omega) (by omega) h (fun S6 u6 h6 => ⟨h6.1.1.1.k80, ?_⟩)⟩
      rw [h6.2.2.2.2.2.2.2]
      have fin : wq_X11_goOnAt_74 N K S6 (ad 80) (ad 80) 1 := j_sign (x' := true) hT hn hN5 (by omega) hb q h6 (fun S' u' h' => hcmp rfl (nI b) hs q S' (Un.tr u6 u') h')
      cases x with
      | false => rw [if_pos (by decide), if_pos (by decide)]; exact fin
      | true => rw [if_neg (by decide)]; exact fin
    · rw [if_neg (by decide)]
      exact stop c2 c3 c5 (fun z => absurd z (by decide))
  by_cases c6 : Cc T nt t = 60
  · exact cm 60 (by decide) (Or.inl rfl) (by decide) c6
  by_cases c7 : Cc T nt t = 61
  · exact cm 61 (by decide) (Or.inr (Or.inl rfl)) (by decide) c7
  by_cases c8 : Cc T nt t = 62
  · exact cm 62 (by decide) (Or.inr (Or.inr rfl)) (by decide) c8
  have e : lv (Cc T nt t) = 0 := by unfold lv; rw [if_neg c2, if_neg c3, if_neg c5, if_neg c6, if_neg c7, if_neg c8]
  rw [e, if_neg (by decide), if_neg (by decide)]
  exact stop c2 c3 c5 (fun _ => ⟨c6, c7, c8⟩)
end
