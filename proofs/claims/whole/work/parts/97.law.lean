/-- how the reference leaves the reading of a rule -/
def FinR (S : PS) (ad : Nat → Nat) (T : Nat → Nat) (nt : Nat) (r : Rs) : Prop := if r.1 = true then S.I 788 (ad 80) = 1 ∧ S.I 797 (ad 80) = nI r.2.2.length ∧ stk (S.A (ad 90)) r.2.2 else S.I 788 (ad 80) = 0 ∧ S.I 784 (ad 80) = nI (pos T nt r.2.1)
section
variable {N nt w d t c : Nat} {ad : Nat → Nat} {S : PS} {T : Nat → Nat} {o p : List Int32} {x : Bool} {g : Int32} {K : PS → Prop}
theorem fin_bad (h : MR S ad T nt w o p d x t 0) : FinR S ad T nt (badR t) := by
  unfold FinR
  rw [if_neg (show ¬ (badR t).1 = true from show ¬ false = true by decide)]
  exact ⟨h.1.2.2, h.1.2.1.2.1⟩
theorem j_bad {n : Nat} (h : MR S ad T nt w o p d x t 0) (hK : ∀ S', UJ ad S S' → FinR S' ad T nt (badR t) → K S') (hn : 0 < n) : wq_X11_wantRule_20 N K n S (ad 80) := by
  obtain ⟨n, rfl⟩ : ∃ z, n = z + 1 := ⟨n - 1, by omega⟩
  rw [wq_X11_wantRule_20.eq_2]
  refine ⟨h.1.1.1.k80, ?_⟩
  rw [h.1.2.2, if_pos rfl]
  refine ⟨h.1.1.1.k80, ?_⟩
  rw [h.1.2.2, if_pos rfl]
  exact hK S Un.rf (fin_bad h)
theorem j_last (hN5 : 5000 ≤ N) (hw : w ≤ 4) (hl : o.length + p.length ≤ 200) (h : MR S ad T nt w o p d x t 1) (h1 : w = 4 → (stl 1 p o).1 = [] → ∀ S', UJ ad S S' → FinR S' ad T nt (okR (stl 1 p o).2) → K S') (h0 : ¬ (w = 4 ∧ (stl 1 p o).1 = []) → ∀ S', UJ ad S S' → FinR S' ad T nt (badR t) → K S') : wq_X11_wantRule_108 N K S (ad 80) := by
  have len := stl_len 1 p o
  refine ⟨h.1.1.1.k80, ?_⟩
  rw [h.1.2.2, if_neg (by decide)]
  unfold wp_X11_settle
  refine j_settle (L := 1) (by omega) (by omega) p o N S (by omega) (by omega) h (fun S13 u13 h13 => ⟨h13.1.1.1.k80, ?_⟩)
  have bad : ¬ (w = 4 ∧ (stl 1 p o).1 = []) → wq_X11_wantRule_140 N K S13 (ad 80) := by
    intro z
    refine ⟨h13.1.1.1.k80, Or.inl rfl, fun S19 e19 => ?_⟩
    obtain ⟨h19, u19⟩ := mr_good h13 e19
    exact h0 z S19 (Un.tr u13 u19) (fin_bad h19)
  rw [h13.2.2.2.2.2.2.1, h13.2.2.2.1]
  by_cases c4 : w = 4
  case neg =>
    rw [if_neg (show ¬ nI w = 4 from ii_ne (b := 4) (by omega) (by decide) c4)]
    exact bad (fun z => c4 z.1)
  rw [if_pos (show nI w = 4 by rw [c4]; rfl)]
  by_cases e : (stl 1 p o).1 = []
  case neg =>
    have pos : 0 < (stl 1 p o).1.length := List.length_pos_iff.mpr e
    rw [if_neg (nI_ne0 pos (by omega))]
    exact bad (fun z => e z.2)
  rw [if_pos (show nI (stl 1 p o).1.length = 0 by rw [e]; rfl)]
  refine ⟨h13.1.1.1.k80, Or.inr rfl, fun S19 e19 => ?_⟩
  obtain ⟨h19, u19⟩ := mr_good h13 e19
  refine h1 c4 e S19 (Un.tr u13 u19) ?_
  unfold FinR
  rw [if_pos (show (okR (stl 1 p o).2).1 = true from rfl)]
  exact ⟨h19.1.2.2, h19.2.1, h19.2.2.1⟩
theorem tok_lt (c2 : pos T nt c = nt) (ht : t ≤ c) (e : Cc T nt t ≠ 258) : t < c := by
  refine Classical.byContradiction (fun z => e ?_)
  obtain rfl : t = c := by omega
  show cdp T nt (pos T nt t) = 258
  rw [c2]
  unfold cdp
  rw [if_pos (Nat.le_refl _)]
theorem val_eq {C V : Nat → Int32} {v v' : Int32} (a : (C t = 256 ∧ v = V t) ∨ ∃ i : Nat, i ≤ 6 ∧ C t = nI (308 + i) ∧ v = nI (20000 + i)) (b : (C t = 256 ∧ v' = V t) ∨ ∃ i : Nat, i ≤ 6 ∧ C t = nI (308 + i) ∧ v' = nI (20000 + i)) : v = v' := by
  rcases a with ⟨a1, a2⟩ | ⟨i, hi, a1, a2⟩ <;> rcases b with ⟨b1, b2⟩ | ⟨j, hj, b1, b2⟩
  · rw [a2, b2]
  · rw [a1] at b1; exact absurd b1 (ii_ne (a := 256) (by decide) (by omega) (by omega))
  · rw [b1] at a1; exact absurd a1 (ii_ne (a := 256) (by decide) (by omega) (by omega))
  · rw [a1] at b1
    have : 308 + i = 308 + j := (nI_eq (by omega) (by omega)).mp b1
    rw [a2, b2, show i = j by omega]
theorem j_loop (hT : ∀ k, T k < 256) (hn : nt ≤ 200) (hN5 : 5000 ≤ N) (c1 : c ≤ 200) (c2 : pos T nt c = nt) : ∀ (n w : Nat) (o p : List Int32) (d : Nat) (x : Bool) (t : Nat) (S : PS) (r : Rs) (K : PS → Prop), 4 * (c - t) + (if w = 0 ∨ w = 3 then 1 else 0) < n → w ≤ 4 → opn p = d → d ≤ 4 → o.length + p.length ≤ t → t ≤ c → MR S ad T nt w o p d x t 1 → MU (Cc T nt) (Vc T nt) w o p d x t r → (∀ S', UJ ad S S' → FinR S' ad T nt r → K S') → wq_X11_wantRule_20 N K n S (ad 80) := by
  intro n
  induction n with
  | zero => intro w o p d x t S r K hm; omega
  | succ n ih =>
    intro w o p d x t S r K hm hw hp hd hl ht h hM hK
    have s := h.1.1.1
    have i800 : S.I 800 (ad 80) = nI w := h.2.2.2.2.2.2.1
    rw [wq_X11_wantRule_20.eq_2]
    refine ⟨s.k80, ?_⟩
    rw [h.1.2.2, if_neg (by decide), h.1.2.1.1, i800]
    have lt : Cc T nt t ≠ 258 → t < c := tok_lt c2 ht
    have dec : ∀ {w'' : Nat}, t < c → 4 * (c - (t + 1)) + (if w'' = 0 ∨ w'' = 3 then 1 else 0) < n := by
      intro w'' z
      have : (if w'' = 0 ∨ w'' = 3 then 1 else 0) ≤ 1 := by split <;> omega
      omega
    have sg : ∀ (s : Int32) (q : List Int32), (s = 42 ∨ s = 43 ∨ s = 45 ∨ s = 60 ∨ s = 61 ∨ s = 62) → opn ((30000 + s) :: q) = opn q := by
      intro s q hs
      rw [opn, if_neg]
      rcases hs with rfl | rfl | rfl | rfl | rfl | rfl <;> decide
    have go : ∀ (w' : Nat) (o' p' : List Int32) (d' : Nat) (x' : Bool) (S' : PS), w' ≤ 4 → t < c → opn p' = d' → d' ≤ 4 → o'.length + p'.length ≤ t + 1 → UJ ad S S' → MR S' ad T nt w' o' p' d' x' (t + 1) 1 → MU (Cc T nt) (Vc T nt) w' o' p' d' x' (t + 1) r → wq_X11_wantRule_20 N K n S' (ad 80) := fun w' o' p' d' x' S' a1 a2 a3 a4 a5 u' h' m' => ih w' o' p' d' x' (t + 1) S' r K (dec a2) a1 a3 a4 a5 (by omega) h' m' (fun S2 u2 f2 => hK S2 (Un.tr u' u2) f2)
    have bd : ∀ (w' : Nat) (o' p' : List Int32) (d' : Nat) (x' : Bool) (S' : PS), t < c → UJ ad S S' → MR S' ad T nt w' o' p' d' x' t 0 → r = badR t → wq_X11_wantRule_20 N K n S' (ad 80) := fun w' o' p' d' x' S' a2 u' h' er => j_bad h' (fun S2 u2 f2 => hK S2 (Un.tr u' u2) (by rw [er]; exact f2)) (by omega)
    have op2 : ∀ v : Int32, v = 40002 ∨ v = 40003 ∨ v = 40004 → opn (v :: p) = d + 1 := fun v hv => by rw [opn, if_pos hv, hp]
    have turn : (Cc T nt t = 258 → w = 3) → wq_X11_wantRule_42 N K (fun S a0 => wq_X11_wantRule_20 N K n S a0) S (ad 80) := by
      intro hend
      refine ⟨s.k80, ?_⟩
      rw [i800]
      rcases hM.inv with ⟨rfl, k⟩ | ⟨rfl, k⟩ | ⟨hw2, k⟩ | ⟨rfl, k⟩
      · have tc : t < c := lt (fun z => absurd (hend z) (by decide))
        rw [if_pos (show nI 0 = 0 from rfl)]
        refine j_one hT hn hN5 hd (by omega) h (fun q d4 S' u' h' => ?_) (fun q d4 S' u' h' => ?_) (fun q d4 S' u' h' => ?_) (fun q q2 S' u' h' => ?_)
        · rcases k with ⟨a, b, m⟩ | ⟨a, b, m⟩ | ⟨a, b, m⟩ | ⟨a, b, e, m⟩ | ⟨a, m⟩
          · exact go _ _ _ _ _ S' (by omega) tc (op2 _ (Or.inl rfl)) (by omega) (by rw [List.length_cons]; omega) u' h' m
          · rw [q] at a; exact absurd a (by decide)
          · omega
          · exact absurd q a
          · rw [q] at a; exact absurd a (by decide)
        · rcases k with ⟨a, b, m⟩ | ⟨a, b, m⟩ | ⟨a, b, m⟩ | ⟨a, b, e, m⟩ | ⟨a, m⟩
          · rw [q] at a; exact absurd a (by decide)
          · exact go _ _ _ _ _ S' (by omega) tc (op2 _ (Or.inr (Or.inr rfl))) (by omega) (by rw [List.length_cons]; omega) u' h' m
          · omega
          · exact absurd q b
          · rw [q] at a; exact absurd a (by decide)
        · rcases k with ⟨a, b, m⟩ | ⟨a, b, m⟩ | ⟨a, b, m⟩ | ⟨a, b, e, m⟩ | ⟨a, m⟩
          · omega
          · omega
          · exact bd _ _ _ _ _ S' tc u' h' m
          · rcases q with q | q
            · exact absurd q a
            · exact absurd q b
          · exact bd _ _ _ _ _ S' tc u' h' m
        · rcases k with ⟨a, b, m⟩ | ⟨a, b, m⟩ | ⟨a, b, m⟩ | ⟨a, b, e, m⟩ | ⟨a, m⟩
          · exact absurd a q
          · exact absurd a q2
          · exact absurd a (fun z => z.elim q q2)
          · exact ih 1 o p d false t S' r K (by simp only [true_or, if_true] at hm; simp; omega) (by omega) hp hd hl ht h' m (fun S2 u2 f2 => hK S2 (Un.tr u' u2) f2)
          · exact absurd (hend a) (by decide)
      · have tc : t < c := lt (fun z => absurd (hend z) (by decide))
        rw [if_neg (by decide), if_pos (show nI 1 = 1 from rfl)]
        refine j_at hT hn hN5 hd (by omega) (by omega) h (fun q d4 S' u' h' => ?_) (fun q d4 S' u' h' => ?_) (fun v q S' u' h' => ?_) (fun q q2 q3 S' u' h' => ?_)
        · rcases k with ⟨a, b, m⟩ | ⟨a, b, m⟩ | ⟨v, a, m⟩ | ⟨a, b, e, m⟩
          · exact go _ _ _ _ _ S' (by omega) tc (op2 _ (Or.inr (Or.inl rfl))) (by omega) (by rw [List.length_cons]; omega) u' h' m
          · omega
          · rcases a with ⟨a, _⟩ | ⟨i, hi, a, _⟩
            · rw [q] at a; exact absurd a (by decide)
            · rw [q] at a; exact absurd a (ii_ne (a := 45) (by decide) (by omega) (by omega))
          · exact absurd q a
        · rcases k with ⟨a, b, m⟩ | ⟨a, b, m⟩ | ⟨v, a, m⟩ | ⟨a, b, e, m⟩
          · omega
          · exact bd _ _ _ _ _ S' tc u' h' m
          · rcases a with ⟨a, _⟩ | ⟨i, hi, a, _⟩
            · rw [q] at a; exact absurd a (by decide)
            · rw [q] at a; exact absurd a (ii_ne (a := 45) (by decide) (by omega) (by omega))
          · exact absurd q a
        · have n45 : Cc T nt t ≠ 45 := by
            rcases q with ⟨q, _⟩ | ⟨i, hi, q, _⟩
            · rw [q]; decide
            · rw [q]; exact ii_ne (b := 45) (by omega) (by decide) (by omega)
          rcases k with ⟨a, b, m⟩ | ⟨a, b, m⟩ | ⟨v', a, m⟩ | ⟨a, b, e, m⟩
          · exact absurd a n45
          · exact absurd a n45
          · have ev := val_eq q a
            subst ev
            have l1 := ens_len 40003 p (v :: o) d
            rw [List.length_cons] at l1
            have l2 := ens_le 40003 p (v :: o) d
            exact go _ _ _ _ _ S' (by split <;> omega) tc (ens_opn (Or.inr rfl) p (v :: o) d hp) (by omega) (by omega) u' h' m
          · rcases q with ⟨q, _⟩ | ⟨i, hi, q, _⟩
            · exact absurd q b
            · exact absurd q (e i hi)
        · rcases k with ⟨a, b, m⟩ | ⟨a, b, m⟩ | ⟨v, a, m⟩ | ⟨a, b, e, m⟩
          · exact absurd a q
          · exact absurd a q
          · rcases a with ⟨a, _⟩ | ⟨i, hi, a, _⟩
            · exact absurd a q2
            · exact absurd a (q3 i hi)
          · exact bd _ _ _ _ _ S' tc u' h' m
      · have disp : wp_X11_goOnAt N S (ad 80) (fun S31 => wq_X11_wantRule_20 N K n S31 (ad 80)) := by
          refine j_go hT hn hN5 hw2 (by omega) (by omega) (fun z => by have := lt z; omega) h (fun s' L hs q S' u' h' => ?_) (fun w2 s' hs q S' u' h' => ?_) (fun w2 a2 a3 a5 a60 a61 a62 S' u' h' => ?_) (fun w3 a2 a3 a5 S' u' h' => ?_)
          · have tc : t < c := lt (by rw [q]; rcases hs with ⟨rfl, _⟩ | ⟨rfl, _⟩ | ⟨rfl, _⟩ <;> decide)
            have l1 := stl_len L p o
            have L1 : 1 ≤ L := by omega
            have key : MU (Cc T nt) (Vc T nt) 1 (stl L p o).2 ((30000 + s') :: (stl L p o).1) d x (t + 1) r := by
              rcases k with ⟨s2, L2, hs2, q2, m⟩ | ⟨w2, s2, hs2, q2, m⟩ | ⟨w2, a, b, c', e1, f, g', m⟩ | ⟨w3, a, b, c', m⟩
              · have es : s2 = s' := q2.symm.trans q
                subst es
                have eL : L2 = L := by
                  rcases hs with ⟨z, rfl⟩ | ⟨z, rfl⟩ | ⟨z, rfl⟩ <;> rcases hs2 with ⟨z2, rfl⟩ | ⟨z2, rfl⟩ | ⟨z2, rfl⟩ <;> first | rfl | (rw [z] at z2; exact absurd z2 (by decide))
                subst eL
                exact m
              · have es : s2 = s' := q2.symm.trans q
                subst es
                rcases hs with ⟨z, _⟩ | ⟨z, _⟩ | ⟨z, _⟩ <;> rcases hs2 with z2 | z2 | z2 <;> (rw [z] at z2; exact absurd z2 (by decide))
              · rcases hs with ⟨z, _⟩ | ⟨z, _⟩ | ⟨z, _⟩
                · exact absurd (q.trans z) a
                · exact absurd (q.trans z) b
                · exact absurd (q.trans z) c'
              · rcases hs with ⟨z, _⟩ | ⟨z, _⟩ | ⟨z, _⟩
                · exact absurd (q.trans z) a
                · exact absurd (q.trans z) b
                · exact absurd (q.trans z) c'
            exact go _ _ _ _ _ S' (by omega) tc (by rw [sg s' _ (by rcases hs with ⟨z, _⟩ | ⟨z, _⟩ | ⟨z, _⟩; exact Or.inl z; exact Or.inr (Or.inl z); exact Or.inr (Or.inr (Or.inl z))), stl_opn L1, hp]) hd (by rw [List.length_cons]; omega) u' h' key
          · have tc : t < c := lt (by rw [q]; rcases hs with rfl | rfl | rfl <;> decide)
            have l1 := stl_len 4 p o
            have key : MU (Cc T nt) (Vc T nt) 1 (stl 4 p o).2 ((30000 + s') :: (stl 4 p o).1) d true (t + 1) r := by
              rcases k with ⟨s2, L2, hs2, q2, m⟩ | ⟨_, s2, hs2, q2, m⟩ | ⟨_, a, b, c', e1, f, g', m⟩ | ⟨w3, _⟩
              · have es : s2 = s' := q2.symm.trans q
                subst es
                rcases hs with z | z | z <;> rcases hs2 with ⟨z2, _⟩ | ⟨z2, _⟩ | ⟨z2, _⟩ <;> (rw [z] at z2; exact absurd z2 (by decide))
              · have es : s2 = s' := q2.symm.trans q
                subst es
                exact m
              · rcases hs with z | z | z
                · exact absurd (q.trans z) e1
                · exact absurd (q.trans z) f
                · exact absurd (q.trans z) g'
              · omega
            exact go _ _ _ _ _ S' (by omega) tc (by rw [sg s' _ (by rcases hs with z | z | z; exact Or.inr (Or.inr (Or.inr (Or.inl z))); exact Or.inr (Or.inr (Or.inr (Or.inr (Or.inl z)))); exact Or.inr (Or.inr (Or.inr (Or.inr (Or.inr z))))), stl_opn (by decide), hp]) hd (by rw [List.length_cons]; omega) u' h' key
          · have tc : t < c := lt (fun z => by have := hend z; omega)
            refine bd _ _ _ _ _ S' tc u' h' ?_
            rcases k with ⟨s2, L2, hs2, q2, m⟩ | ⟨_, s2, hs2, q2, m⟩ | ⟨_, a, b, c', e1, f, g', m⟩ | ⟨w3, _⟩
            · rcases hs2 with ⟨z, _⟩ | ⟨z, _⟩ | ⟨z, _⟩
              · exact absurd (q2.trans z) a2
              · exact absurd (q2.trans z) a3
              · exact absurd (q2.trans z) a5
            · rcases hs2 with z | z | z
              · exact absurd (q2.trans z) a60
              · exact absurd (q2.trans z) a61
              · exact absurd (q2.trans z) a62
            · exact m
            · omega
          · have l1 := stl_len 3 p o
            have l2 := ens_len 40002 (stl 3 p o).1 (stl 3 p o).2 d
            have l3 := ens_le 40002 (stl 3 p o).1 (stl 3 p o).2 d
            have key : MU (Cc T nt) (Vc T nt) 4 (ens 40002 (stl 3 p o).1 (stl 3 p o).2 d).2.1 (ens 40002 (stl 3 p o).1 (stl 3 p o).2 d).1 (ens 40002 (stl 3 p o).1 (stl 3 p o).2 d).2.2 x t r := by
              rcases k with ⟨s2, L2, hs2, q2, m⟩ | ⟨w2, _⟩ | ⟨w2, _⟩ | ⟨_, a, b, c', m⟩
              · rcases hs2 with ⟨z, _⟩ | ⟨z, _⟩ | ⟨z, _⟩
                · exact absurd (q2.trans z) a2
                · exact absurd (q2.trans z) a3
                · exact absurd (q2.trans z) a5
              · omega
              · omega
              · exact m
            rw [if_pos (Or.inr w3)] at hm
            exact ih 4 _ _ _ x t S' r K (by rw [if_neg (by decide)]; omega) (by omega) (ens_opn (Or.inl rfl) _ _ d (by rw [stl_opn (by decide), hp])) (by omega) (by omega) ht h' key (fun S2 u2 f2 => hK S2 (Un.tr u' u2) f2)
        rcases hw2 with rfl | rfl
        · rw [if_neg (by decide), if_neg (by decide), if_pos (show nI 2 = 2 from rfl)]
          exact ⟨s.k80, disp⟩
        · rw [if_neg (by decide), if_neg (by decide), if_neg (by decide), if_pos (show nI 3 = 3 from rfl)]
          exact ⟨s.k80, disp⟩
      · have tc : t < c := lt (fun z => absurd (hend z) (by decide))
        have l1 := stl_len 1 p o
        have l2 := stl_len 2 p o
        rw [if_neg (by decide), if_neg (by decide), if_neg (by decide), if_neg (by decide), if_pos (show nI 4 = 4 from rfl)]
        refine j_end hT hn hN5 (by omega) (by omega) h (fun q S' u' h' => ?_) (fun q S' u' h' => ?_) (fun p' o' q es S' u' h' => ?_) (fun q5 q6 q4 S' u' h' => ?_)
        · rcases k with ⟨a, m⟩ | ⟨a, m⟩ | ⟨p2, o2, a, b, m⟩ | ⟨o2, a, b, m⟩ | ⟨a, b, e1, e2, m⟩
          · exact go _ _ _ _ _ S' (by omega) tc (by rw [opn, if_neg (by decide), stl_opn (by decide), hp]) hd (by rw [List.length_cons]; omega) u' h' m
          · rw [q] at a; exact absurd a (by decide)
          · rw [q] at a; exact absurd a (by decide)
          · rw [q] at a; exact absurd a (by decide)
          · exact absurd q a
        · rcases k with ⟨a, m⟩ | ⟨a, m⟩ | ⟨p2, o2, a, b, m⟩ | ⟨o2, a, b, m⟩ | ⟨a, b, e1, e2, m⟩
          · rw [q] at a; exact absurd a (by decide)
          · exact go _ _ _ _ _ S' (by omega) tc (by rw [opn, if_neg (by decide), stl_opn (by decide), hp]) hd (by rw [List.length_cons]; omega) u' h' m
          · rw [q] at a; exact absurd a (by decide)
          · rw [q] at a; exact absurd a (by decide)
          · exact absurd q b
        · rcases k with ⟨a, m⟩ | ⟨a, m⟩ | ⟨p2, o2, a, b, m⟩ | ⟨o2, a, b, m⟩ | ⟨a, b, e1, e2, m⟩
          · rw [q] at a; exact absurd a (by decide)
          · rw [q] at a; exact absurd a (by decide)
          · rw [es] at b
            obtain ⟨b1, b2⟩ := Prod.mk.inj b
            obtain ⟨_, b3⟩ := List.cons.inj b1
            subst b2 b3
            have so := stl_opn (L := 1) (by decide) p o
            rw [es] at so l1
            rw [opn, if_pos (Or.inr (Or.inr rfl)), hp] at so
            rw [List.length_cons] at l1
            have l0 : p'.length + 1 + o'.length = p.length + o.length := l1
            have l3 := ens_len 40002 p' o' (d - 1)
            have l4 := ens_le 40002 p' o' (d - 1)
            exact go _ _ _ _ _ S' (by omega) tc (ens_opn (Or.inl rfl) p' o' (d - 1) (by omega)) (by omega) (by omega) u' h' m
          · rw [q] at a; exact absurd a (by decide)
          · exact absurd (by rw [es]) (e1 q p')
        · rcases k with ⟨a, m⟩ | ⟨a, m⟩ | ⟨p2, o2, a, b, m⟩ | ⟨o2, a, b, m⟩ | ⟨a, b, e1, e2, m⟩
          · exact absurd a q5
          · exact absurd a q6
          · exact absurd (by rw [b]) (q4 a p2)
          · exact absurd (hend a) (by decide)
          · exact bd _ _ _ _ _ S' tc u' h' m
    by_cases e : srp T nt (pos T nt t) = 0
    · have e' : Cc T nt t = 258 := (t_end hT).mp e
      rw [if_pos e]
      by_cases w3 : w = 3
      · rw [if_pos (show nI w = 3 by rw [w3]; rfl)]
        exact turn (fun _ => w3)
      rw [if_neg (show ¬ nI w = 3 from ii_ne (b := 3) (by omega) (by decide) w3)]
      refine j_last hN5 hw (by omega) h (fun w4 ee S' u' f' => hK S' u' ?_) (fun z S' u' f' => hK S' u' ?_)
      · rcases hM.inv with ⟨z, k⟩ | ⟨z, k⟩ | ⟨z, k⟩ | ⟨z, k⟩
        · omega
        · omega
        · omega
        · rcases k with ⟨a, m⟩ | ⟨a, m⟩ | ⟨p', o', a, b, m⟩ | ⟨o', a, b, m⟩ | ⟨a, b, e1, e2, m⟩
          · rw [e'] at a; exact absurd a (by decide)
          · rw [e'] at a; exact absurd a (by decide)
          · rw [e'] at a; exact absurd a (by decide)
          · rw [m]; rw [b] at f'; exact f'
          · exact absurd ee (e2 e')
      · have : r = badR t := by
          rcases hM.inv with ⟨z1, k⟩ | ⟨z1, k⟩ | ⟨z1, k⟩ | ⟨z1, k⟩
          · rcases k with ⟨a, b, m⟩ | ⟨a, b, m⟩ | ⟨a, b, m⟩ | ⟨a, b, e1, m⟩ | ⟨a, m⟩
            · rw [e'] at a; exact absurd a (by decide)
            · rw [e'] at a; exact absurd a (by decide)
            · exact m
            · exact absurd e' e1
            · exact m
          · rcases k with ⟨a, b, m⟩ | ⟨a, b, m⟩ | ⟨v, a, m⟩ | ⟨a, b, e1, m⟩
            · rw [e'] at a; exact absurd a (by decide)
            · exact m
            · rcases a with ⟨a, _⟩ | ⟨i, hi, a, _⟩
              · rw [e'] at a; exact absurd a (by decide)
              · rw [e'] at a; exact absurd a (ii_ne (a := 258) (by decide) (by omega) (by omega))
            · exact m
          · rcases k with ⟨s', L, hs, q, m⟩ | ⟨w2, s', hs, q, m⟩ | ⟨w2, a, b, c', e1, f, g', m⟩ | ⟨z3, _⟩
            · rw [e'] at q; rcases hs with ⟨rfl, _⟩ | ⟨rfl, _⟩ | ⟨rfl, _⟩ <;> exact absurd q (by decide)
            · rw [e'] at q; rcases hs with rfl | rfl | rfl <;> exact absurd q (by decide)
            · exact m
            · exact absurd z3 w3
          · rcases k with ⟨a, m⟩ | ⟨a, m⟩ | ⟨p', o', a, b, m⟩ | ⟨o', a, b, m⟩ | ⟨a, b, e1, e2, m⟩
            · rw [e'] at a; exact absurd a (by decide)
            · rw [e'] at a; exact absurd a (by decide)
            · rw [e'] at a; exact absurd a (by decide)
            · exact absurd ⟨z1, by rw [b]⟩ z
            · exact m
        rw [this]
        exact f'
    · rw [if_neg e]
      exact turn (fun z => absurd ((t_end hT).mpr z) e)
end
