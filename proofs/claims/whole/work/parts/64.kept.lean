/-- the same, with other rows of references -/
def PS.wQ (S : PS) (Q : Nat → Nat → Option Nat) : PS := (S.K, S.ln, S.R, Q, S.I, S.J, S.A, S.B)
/-- a change that may write rows of references too -/
def Uq (ad : Nat → Nat) (PI : Nat → Nat → Prop) (PA PQ : Nat → Prop) (S S' : PS) : Prop := Un ad PI PA False S (S'.wQ S.Q) ∧ ∀ a, (∀ n, PQ n → a ≠ ad n) → S'.Q a = S.Q a
section
variable {ad : Nat → Nat} {PI : Nat → Nat → Prop} {PA PQ : Nat → Prop} {S S1 S2 : PS}
theorem Uq.rf : Uq ad PI PA PQ S S := ⟨Un.rf, fun _ _ => rfl⟩
theorem Uq.tr (h : Uq ad PI PA PQ S S1) (k : Uq ad PI PA PQ S1 S2) : Uq ad PI PA PQ S S2 := by
  obtain ⟨⟨a1, a2, a3, a4, a5, a6, a7⟩, a8⟩ := h
  obtain ⟨⟨b1, b2, b3, b4, b5, b6, b7⟩, b8⟩ := k
  exact ⟨⟨b1.trans a1, b2.trans a2, b3.trans a3, rfl, fun g a z => (b5 g a z).trans (a5 g a z), fun a z => (b6 a z).trans (a6 a z), Or.inr ((b7.resolve_left id).trans (a7.resolve_left id))⟩, fun a z => (b8 a z).trans (a8 a z)⟩
theorem Uq.of (h : Un ad PI PA False S S1) : Uq ad PI PA PQ S S1 := by
  obtain ⟨a1, a2, a3, a4, a5, a6, a7⟩ := h
  exact ⟨⟨a1, a2, a3, rfl, a5, a6, a7⟩, fun a _ => by rw [a4]⟩
theorem Uq.setQ {i n : Nat} {v : Option Nat} (h : PQ n) : Uq ad PI PA PQ S (S.setQ (ad n) i v) := ⟨⟨rfl, rfl, rfl, rfl, fun _ _ _ => rfl, fun _ _ => rfl, Or.inr rfl⟩, fun a z => u2_off _ _ _ (z n h)⟩
theorem Uq.I (h : Uq ad PI PA PQ S S1) (k : Sh ad S) {g n : Nat} (hn : ¬ PI g n) : S1.I g (ad n) = S.I g (ad n) := Un.I h.1 k hn
theorem Uq.A (h : Uq ad PI PA PQ S S1) (k : Sh ad S) {n : Nat} (hn : ¬ PA n) : S1.A (ad n) = S.A (ad n) := Un.A h.1 k hn
theorem Uq.Q (h : Uq ad PI PA PQ S S1) (k : Sh ad S) {n : Nat} (hn : ¬ PQ n) : S1.Q (ad n) = S.Q (ad n) := h.2 (ad n) (fun n' h' e => by rw [k.adj] at e; rw [e] at hn; exact hn h')
theorem Uq.sh (h : Uq ad PI PA PQ S S1) (k : Sh ad S) (hq : ∀ n, PQ n → n = 44 ∨ n = 45 ∨ n = 54 ∨ n = 55) : Sh ad S1 := by
  obtain ⟨k1, k2, k3, k4, k5, k6⟩ := Un.sh h.1 k
  refine ⟨k1, k2, k3, fun i hi => ?_, fun w i hw hi => ?_, k6⟩
  · rw [h.Q k (n := 13) (fun e => by have := hq 13 e; omega), h.Q k (n := 14) (fun e => by have := hq 14 e; omega)]
    exact k.2.2.2.1 i hi
  · rw [h.Q k (n := 40 + 10 * w) (fun e => by have := hq _ e; omega)]
    exact ⟨(k.2.2.2.2.1 w i hw hi).1, (k5 w i hw hi).2⟩
theorem WR.uq (h : Uq ad PI PA PQ S S1) (k : Sh ad S) {w : Nat} {sg pt rn st rm ru : Nat → Int32} {np nr ns nh dy no : Nat} (q : WQ PI PA w) (q2 : ¬ PQ (44 + 10 * w) ∧ ¬ PQ (45 + 10 * w)) (hp : WR S ad w sg pt rn st rm ru np nr ns nh dy no) : WR S1 ad w sg pt rn st rm ru np nr ns nh dy no := by
  obtain ⟨h1, h2, h3, h4, h5, h6, h7⟩ := WR.un h.1 k q hp
  refine ⟨h1, h2, h3, h4, h5, fun s hs => ?_, fun s hs => ?_⟩
  · rw [h.Q k q2.1]
    exact h6 s hs
  · rw [h.Q k q2.2]
    exact h7 s hs
end
theorem WR.congr {S : PS} {ad : Nat → Nat} {w : Nat} {sg pt rn st rm ru sg' pt' rn' st' rm' ru' : Nat → Int32} {np nr ns nh dy no : Nat} (e1 : ∀ k, k < 8 → sg k = sg' k) (e2 : ∀ k, k < 90 → pt k = pt' k) (e3 : ∀ k, k < 120 → rn k = rn' k) (e4 : ∀ k, k < 128 → st k = st' k) (e5 : ∀ k, k < 8 → rm k = rm' k) (e6 : ∀ k, k < 1600 → ru k = ru' k) (h : WR S ad w sg pt rn st rm ru np nr ns nh dy no) : WR S ad w sg' pt' rn' st' rm' ru' np nr ns nh dy no := by
  obtain ⟨h1, h2, h3, h4, h5, h6, h7⟩ := h
  refine ⟨h1, ?_, ?_, fun i hi => ?_, fun r hr => ?_, fun s hs => ?_, fun s hs => ?_⟩
  · rw [← e1 2 (by decide), ← e1 3 (by decide)]; exact h2
  · rw [← e1 0 (by decide), ← e1 1 (by decide), ← e1 4 (by decide), ← e1 5 (by decide), ← e1 6 (by decide), ← e1 7 (by decide)]; exact h3
  · have f : ∀ k, k < 9 → pt (9 * i + k) = pt' (9 * i + k) := fun k hk => e2 _ (by omega)
    obtain ⟨p1, p2⟩ := h4 i hi
    refine ⟨fun k hk => (p1 k hk).trans (f k hk), ?_⟩
    simp only [← f 0 (by decide), ← f 1 (by decide), ← f 2 (by decide), ← f 3 (by decide), ← f 4 (by decide), ← f 6 (by decide), ← f 8 (by decide)]
    exact p2
  · rw [← e3 (3 * r) (by omega), ← e3 (3 * r + 1) (by omega), ← e3 (3 * r + 2) (by omega)]
    exact h5 r hr
  · obtain ⟨a, c, q, s1, s2, s3, s4, s5, s6, s7⟩ := h6 s hs
    have f : ∀ k, k < 16 → st (16 * s + k) = st' (16 * s + k) := fun k hk => e4 _ (by omega)
    refine ⟨a, c, q, s1, s2, s3, s4, s5.trans (f 0 (by decide)), ?_, ?_⟩
    · simp only [← f 0 (by decide)]
      exact s6
    · rcases s7 with ⟨z1, z2, z3, z4⟩ | ⟨z1, n, z2, z3, z4, z5⟩
      · exact Or.inl ⟨z1, (f 1 (by decide)).symm.trans z2, z3.trans (f 2 (by decide)), z4⟩
      · exact Or.inr ⟨z1, n, z2, (f 1 (by decide)).symm.trans z3, z4, fun k hk => (z5 k hk).trans (f (2 + k) (by omega))⟩
  · obtain ⟨a, c, q, s1, s2, s3, s4, n, n1, n2, s5, s6, s7, s8⟩ := h7 s hs
    have f : ∀ k, k < 200 → ru (200 * s + k) = ru' (200 * s + k) := fun k hk => e6 _ (by omega)
    exact ⟨a, c, q, s1, s2, s3, s4, n, n1, n2, (e5 s (by omega)).symm.trans s5, s6, fun k hk => (s7 k hk).trans (congrArg phi (f k (by omega))), wrn_congr n 0 _ _ (fun i hi hi2 => f i (by omega)) s8⟩
/-- the shape of a world -/
theorem Sh.wd {ad : Nat → Nat} {S : PS} (h : Sh ad S) {w : Nat} (hw : w < 2) : S.K (ad (2 + w)) = 10 ∧ (S.R 648 (ad (2 + w)) = some (ad (40 + 10 * w)) ∧ S.R 649 (ad (2 + w)) = some (ad (41 + 10 * w)) ∧ S.R 650 (ad (2 + w)) = some (ad (42 + 10 * w)) ∧ S.R 651 (ad (2 + w)) = some (ad (43 + 10 * w)) ∧ S.R 652 (ad (2 + w)) = some (ad (44 + 10 * w)) ∧ S.R 653 (ad (2 + w)) = some (ad (45 + 10 * w))) ∧ (S.K (ad (40 + 10 * w)) = 23 ∧ S.K (ad (41 + 10 * w)) = 20 ∧ S.K (ad (42 + 10 * w)) = 20 ∧ S.K (ad (43 + 10 * w)) = 20 ∧ S.K (ad (44 + 10 * w)) = 27 ∧ S.K (ad (45 + 10 * w)) = 24) ∧ S.ln (ad (40 + 10 * w)) = 10 ∧ S.ln (ad (41 + 10 * w)) = 40 ∧ S.ln (ad (42 + 10 * w)) = 40 ∧ S.ln (ad (43 + 10 * w)) = 40 ∧ S.ln (ad (44 + 10 * w)) = 8 ∧ S.ln (ad (45 + 10 * w)) = 8 := by
  obtain rfl | rfl : w = 0 ∨ w = 1 := by omega
  · exact ⟨h.k2, ⟨h.r648_2, h.r649_2, h.r650_2, h.r651_2, h.r652_2, h.r653_2⟩, ⟨h.k40, h.k41, h.k42, h.k43, h.k44, h.k45⟩, h.l40, h.l41, h.l42, h.l43, h.l44, h.l45⟩
  · exact ⟨h.k3, ⟨h.r648_3, h.r649_3, h.r650_3, h.r651_3, h.r652_3, h.r653_3⟩, ⟨h.k50, h.k51, h.k52, h.k53, h.k54, h.k55⟩, h.l50, h.l51, h.l52, h.l53, h.l54, h.l55⟩
theorem w_become1 {N p q : Nat} {ad : Nat → Nat} {S : PS} {K : PS → Prop} (h : Sh ad S) (hp : S.K (ad p) = 2) (hq : S.K (ad q) = 2) (hne : p ≠ q) (h6 : S.I 134 (ad q) = 0 ∨ S.I 134 (ad q) = 1) (hK : ∀ S', Un ad (fun g n => n = p ∧ 128 ≤ g ∧ g ≤ 136) (fun _ => False) False S S' → (∀ k, k < 9 → S'.I (128 + k) (ad p) = S.I (128 + k) (ad q)) → K S') : wp_X1_become N S (ad p) (ad q) K := by
  have ne : ¬ ad q = ad p := fun e => hne (by rw [h.adj] at e; exact e.symm)
  have st : ∀ (T T' : PS) (g : Nat) (v : Int32), T' = T.setI g (ad p) v → (∀ g, T.I g (ad q) = S.I g (ad q)) → ∀ g, T'.I g (ad q) = S.I g (ad q) := by
    intro T T' g v e hT g'
    rw [e, ← hT g']
    exact u2_ne (fun z => ne z.2)
  refine ⟨hq, hp, fun S3 e3 S6 e6 S9 e9 S12 e12 S15 e15 S18 e18 => ?_⟩
  have i3 := st S S3 _ _ e3 (fun _ => rfl)
  rw [i3 129] at e6
  have i6 := st S3 S6 _ _ e6 i3
  rw [i6 130] at e9
  have i9 := st S6 S9 _ _ e9 i6
  rw [i9 131] at e12
  have i12 := st S9 S12 _ _ e12 i9
  rw [i12 132] at e15
  have i15 := st S12 S15 _ _ e15 i12
  rw [i15 133] at e18
  have i18 := st S15 S18 _ _ e18 i15
  rw [i18 134]
  refine ⟨h6, fun S22 e22 S25 e25 S28 e28 => ?_⟩
  have i22 := st S18 S22 _ _ e22 i18
  rw [i22 135] at e25
  have i25 := st S22 S25 _ _ e25 i22
  rw [i25 136] at e28
  have hU : Un ad (fun g n => n = p ∧ 128 ≤ g ∧ g ≤ 136) (fun _ => False) False S S28 := by
    rw [e28, e25, e22, e18, e15, e12, e9, e6, e3]
    exact Un.tr (Un.tr (Un.tr (Un.tr (Un.tr (Un.tr (Un.tr (Un.tr (Un.setI ⟨rfl, by omega, by omega⟩) (Un.setI ⟨rfl, by omega, by omega⟩)) (Un.setI ⟨rfl, by omega, by omega⟩)) (Un.setI ⟨rfl, by omega, by omega⟩)) (Un.setI ⟨rfl, by omega, by omega⟩)) (Un.setI ⟨rfl, by omega, by omega⟩)) (Un.setI ⟨rfl, by omega, by omega⟩)) (Un.setI ⟨rfl, by omega, by omega⟩)) (Un.setI ⟨rfl, by omega, by omega⟩)
  refine hK S28 hU (fun k hk => ?_)
  rw [e28, e25, e22, e18, e15, e12, e9, e6, e3]
  obtain rfl | rfl | rfl | rfl | rfl | rfl | rfl | rfl | rfl : k = 0 ∨ k = 1 ∨ k = 2 ∨ k = 3 ∨ k = 4 ∨ k = 5 ∨ k = 6 ∨ k = 7 ∨ k = 8 := by omega
  all_goals simp only [setI_I, u2_ap, Nat.reduceAdd, Nat.reduceEqDiff, and_self, true_and, and_true, Option.some.injEq, exists_eq_left', exists_eq_left, forall_eq, forall_eq_apply_imp_iff, true_or, or_true, false_or, or_false, not_true_eq_false, not_false_eq_true, false_and, if_true, if_false, reduceIte]
/-- what become writes -/
def bI (w : Nat) (g n : Nat) : Prop := (n = 2 + w ∧ 640 ≤ g ∧ g ≤ 647) ∨ ((60 + 10 * w ≤ n ∧ n < 70 + 10 * w) ∧ 128 ≤ g ∧ g ≤ 136)
def bA (w : Nat) (n : Nat) : Prop := 41 + 10 * w ≤ n ∧ n ≤ 43 + 10 * w
def bQ (w : Nat) (n : Nat) : Prop := n = 44 + 10 * w ∨ n = 45 + 10 * w
section
variable {N v w np nr ns nh dy no : Nat} {ad : Nat → Nat} {S : PS} {K : PS → Prop} {sg pt rn st rm ru : Nat → Int32}
theorem bq_ok {w : Nat} (hw : w < 2) : ∀ n, bQ w n → n = 44 ∨ n = 45 ∨ n = 54 ∨ n = 55 := fun n e => by unfold bQ at e; omega
theorem bw_ok (hv : v < 2) (hw : w < 2) (hvw : v ≠ w) : WQ (bI w) (bA w) v := ⟨fun j hj => by unfold bI; omega, fun j hj i hi => by unfold bI; omega, fun n => ⟨by unfold bI; omega, by unfold bI; omega, by unfold bI; omega⟩, by unfold bA; omega, by unfold bA; omega, by unfold bA; omega⟩
theorem l_be177 (hv : v < 2) (hw : w < 2) (hvw : v ≠ w) (h : Sh ad S) (hW : WR S ad v sg pt rn st rm ru np nr ns nh dy no) : ∀ (m n k : Nat) (S1 : PS), Uq ad (bI w) (bA w) (bQ w) S S1 → S1.I 647 (ad (2 + w)) = nI nh → (∀ i, i < k → S1.Q (ad (45 + 10 * w)) i = S.Q (ad (45 + 10 * v)) i) → k + m = nh → m < n → (∀ S2, Uq ad (bI w) (bA w) (bQ w) S S2 → Uq ad (fun _ _ => False) (fun _ => False) (fun n => n = 45 + 10 * w) S1 S2 → (∀ i, i < nh → S2.Q (ad (45 + 10 * w)) i = S.Q (ad (45 + 10 * v)) i) → K S2) → wq_X9_become_177 N K n S1 (ad (2 + w)) (ad (2 + v)) (nI k) := by
  have hb := hW.1
  intro m
  induction m with
  | zero =>
    intro n k S1 hU e1 hQ hk hn hK
    obtain ⟨n, rfl⟩ : ∃ z, n = z + 1 := ⟨n - 1, by omega⟩
    have g1 := hU.sh h (bq_ok hw)
    rw [wq_X9_become_177.eq_2, e1, if_pos (nI_le (by omega) (by omega))]
    exact ⟨(g1.wd hw).1, hK S1 hU Uq.rf (fun i hi => hQ i (by omega))⟩
  | succ m ih =>
    intro n k S1 hU e1 hQ hk hn hK
    obtain ⟨n, rfl⟩ : ∃ z, n = z + 1 := ⟨n - 1, by omega⟩
    have g1 := hU.sh h (bq_ok hw)
    obtain ⟨w1, w2, w3, w4⟩ := g1.wd hw
    obtain ⟨x1, x2, x3, x4⟩ := g1.wd hv
    obtain ⟨a, c, q, s⟩ := (WR.uq hU h (bw_ok hv hw hvw) ⟨by unfold bQ; omega, by unfold bQ; omega⟩ hW).2.2.2.2.2.2 k (by omega)
    have vk : vp_in (nI k) 8 := vp_in_nI (by omega) (by decide)
    rw [wq_X9_become_177.eq_2, e1, if_neg (nI_ge (by omega) (by omega)), nI_clamp (by omega), a1i]
    refine ⟨w1, ad (45 + 10 * w), w2.2.2.2.2.2, x1, ad (45 + 10 * v), x2.2.2.2.2.2, x3.2.2.2.2.2, by rw [x4.2.2.2.2.2]; exact vk, a, q, w3.2.2.2.2.2, s.1, by rw [w4.2.2.2.2.2]; exact vk, fun S42 e42 => ?_⟩
    have hU2 : Uq ad (bI w) (bA w) (bQ w) S S42 := Uq.tr hU (by rw [e42]; exact Uq.setQ (Or.inr rfl))
    refine ih n (k + 1) S42 hU2 (by rw [e42]; exact e1) (fun i hi => ?_) (by omega) (by omega) (fun S2 hU3 hU4 => hK S2 hU3 (Uq.tr (by rw [e42]; exact Uq.setQ rfl) hU4))
    rw [e42]
    show u2 S1.Q (ad (45 + 10 * w)) k (some a) (ad (45 + 10 * w)) i = _
    rw [u2_ap]
    by_cases c1 : i = k
    · rw [if_pos ⟨rfl, c1⟩, c1, ← q, hU.Q h (n := 45 + 10 * v) (by unfold bQ; omega)]
    · rw [if_neg (fun e => c1 e.2)]
      exact hQ i (by omega)
theorem l_be149 (hv : v < 2) (hw : w < 2) (hvw : v ≠ w) (h : Sh ad S) (hW : WR S ad v sg pt rn st rm ru np nr ns nh dy no) : ∀ (m n k : Nat) (S1 : PS), Uq ad (bI w) (bA w) (bQ w) S S1 → S1.I 646 (ad (2 + w)) = nI ns → (∀ i, i < k → S1.Q (ad (44 + 10 * w)) i = S.Q (ad (44 + 10 * v)) i) → k + m = ns → m < n → (∀ S2, Uq ad (bI w) (bA w) (bQ w) S S2 → Uq ad (fun _ _ => False) (fun _ => False) (fun n => n = 44 + 10 * w) S1 S2 → (∀ i, i < ns → S2.Q (ad (44 + 10 * w)) i = S.Q (ad (44 + 10 * v)) i) → wq_X9_become_177 N K N S2 (ad (2 + w)) (ad (2 + v)) 0) → wq_X9_become_149 N K n S1 (ad (2 + w)) (ad (2 + v)) (nI k) := by
  have hb := hW.1
  intro m
  induction m with
  | zero =>
    intro n k S1 hU e1 hQ hk hn hK
    obtain ⟨n, rfl⟩ : ∃ z, n = z + 1 := ⟨n - 1, by omega⟩
    have g1 := hU.sh h (bq_ok hw)
    rw [wq_X9_become_149.eq_2, e1, if_pos (nI_le (by omega) (by omega))]
    exact ⟨(g1.wd hw).1, hK S1 hU Uq.rf (fun i hi => hQ i (by omega))⟩
  | succ m ih =>
    intro n k S1 hU e1 hQ hk hn hK
    obtain ⟨n, rfl⟩ : ∃ z, n = z + 1 := ⟨n - 1, by omega⟩
    have g1 := hU.sh h (bq_ok hw)
    obtain ⟨w1, w2, w3, w4⟩ := g1.wd hw
    obtain ⟨x1, x2, x3, x4⟩ := g1.wd hv
    obtain ⟨a, c, q, s⟩ := (WR.uq hU h (bw_ok hv hw hvw) ⟨by unfold bQ; omega, by unfold bQ; omega⟩ hW).2.2.2.2.2.1 k (by omega)
    have vk : vp_in (nI k) 8 := vp_in_nI (by omega) (by decide)
    rw [wq_X9_become_149.eq_2, e1, if_neg (nI_ge (by omega) (by omega)), nI_clamp (by omega), a1i]
    refine ⟨w1, ad (44 + 10 * w), w2.2.2.2.2.1, x1, ad (44 + 10 * v), x2.2.2.2.2.1, x3.2.2.2.2.1, by rw [x4.2.2.2.2.1]; exact vk, a, q, w3.2.2.2.2.1, s.1, by rw [w4.2.2.2.2.1]; exact vk, fun S42 e42 => ?_⟩
    have hU2 : Uq ad (bI w) (bA w) (bQ w) S S42 := Uq.tr hU (by rw [e42]; exact Uq.setQ (Or.inl rfl))
    refine ih n (k + 1) S42 hU2 (by rw [e42]; exact e1) (fun i hi => ?_) (by omega) (by omega) (fun S2 hU3 hU4 => hK S2 hU3 (Uq.tr (by rw [e42]; exact Uq.setQ rfl) hU4))
    rw [e42]
    show u2 S1.Q (ad (44 + 10 * w)) k (some a) (ad (44 + 10 * w)) i = _
    rw [u2_ap]
    by_cases c1 : i = k
    · rw [if_pos ⟨rfl, c1⟩, c1, ← q, hU.Q h (n := 44 + 10 * v) (by unfold bQ; omega)]
    · rw [if_neg (fun e => c1 e.2)]
      exact hQ i (by omega)
theorem l_be97 (hv : v < 2) (hw : w < 2) (hvw : v ≠ w) (h : Sh ad S) (hW : WR S ad v sg pt rn st rm ru np nr ns nh dy no) : ∀ (m n k : Nat) (S1 : PS), Uq ad (bI w) (bA w) (bQ w) S S1 → S1.I 645 (ad (2 + w)) = nI nr → (∀ i, i < k → ∀ p, 41 ≤ p → p ≤ 43 → S1.A (ad (p + 10 * w)) i = S.A (ad (p + 10 * v)) i) → k + m = nr → m < n → (∀ S2, Uq ad (bI w) (bA w) (bQ w) S S2 → Uq ad (fun _ _ => False) (bA w) (fun _ => False) S1 S2 → (∀ i, i < nr → ∀ p, 41 ≤ p → p ≤ 43 → S2.A (ad (p + 10 * w)) i = S.A (ad (p + 10 * v)) i) → wq_X9_become_149 N K N S2 (ad (2 + w)) (ad (2 + v)) 0) → wq_X9_become_97 N K n S1 (ad (2 + w)) (ad (2 + v)) (nI k) := by
  have hb := hW.1
  intro m
  induction m with
  | zero =>
    intro n k S1 hU e1 hA hk hn hK
    obtain ⟨n, rfl⟩ : ∃ z, n = z + 1 := ⟨n - 1, by omega⟩
    have g1 := hU.sh h (bq_ok hw)
    rw [wq_X9_become_97.eq_2, e1, if_pos (nI_le (by omega) (by omega))]
    exact ⟨(g1.wd hw).1, hK S1 hU Uq.rf (fun i hi => hA i (by omega))⟩
  | succ m ih =>
    intro n k S1 hU e1 hA hk hn hK
    obtain ⟨n, rfl⟩ : ∃ z, n = z + 1 := ⟨n - 1, by omega⟩
    have g1 := hU.sh h (bq_ok hw)
    obtain ⟨w1, w2, w3, w4⟩ := g1.wd hw
    obtain ⟨x1, x2, x3, x4⟩ := g1.wd hv
    have vk : vp_in (nI k) 40 := vp_in_nI (by omega) (by decide)
    have src : ∀ p, 41 ≤ p → p ≤ 43 → ∀ T : PS, Uq ad (bI w) (bA w) (bQ w) S T → T.A (ad (p + 10 * v)) k = S.A (ad (p + 10 * v)) k := fun p h1 h2 T hT => by rw [hT.A h (n := p + 10 * v) (by unfold bA; omega)]
    rw [wq_X9_become_97.eq_2, e1, if_neg (nI_ge (by omega) (by omega)), nI_clamp (by omega), a1i]
    refine ⟨w1, ad (41 + 10 * w), w2.2.1, x1, ad (41 + 10 * v), x2.2.1, x3.2.1, by rw [x4.2.1]; exact vk, w3.2.1, by rw [w4.2.1]; exact vk, fun S60 e60 => ?_⟩
    have u60 : Uq ad (fun _ _ => False) (bA w) (fun _ => False) S1 S60 := by rw [e60]; exact Uq.of (Un.setA (by unfold bA; omega))
    have hm : ∀ T T' : PS, Uq ad (fun _ _ => False) (bA w) (fun _ => False) T T' → Uq ad (bI w) (bA w) (bQ w) T T' := fun T T' z => ⟨Un.mono z.1 (fun _ _ e => absurd e id) (fun _ e => e) id, fun a _ => z.2 a (fun _ e => absurd e id)⟩
    have U60 := Uq.tr hU (hm _ _ u60)
    rw [src 41 (by omega) (by omega) S1 hU] at e60
    refine ⟨ad (42 + 10 * w), by rw [e60]; exact w2.2.2.1, ad (42 + 10 * v), by rw [e60]; exact x2.2.2.1, by rw [e60]; exact x3.2.2.1, by rw [e60]; show vp_in _ (S1.ln _); rw [x4.2.2.1]; exact vk, by rw [e60]; exact w3.2.2.1, by rw [e60]; show vp_in _ (S1.ln _); rw [w4.2.2.1]; exact vk, fun S69 e69 => ?_⟩
    rw [src 42 (by omega) (by omega) S60 U60] at e69
    have u69 : Uq ad (fun _ _ => False) (bA w) (fun _ => False) S60 S69 := by rw [e69]; exact Uq.of (Un.setA (by unfold bA; omega))
    have U69 := Uq.tr U60 (hm _ _ u69)
    refine ⟨ad (43 + 10 * w), by rw [e69, e60]; exact w2.2.2.2.1, ad (43 + 10 * v), by rw [e69, e60]; exact x2.2.2.2.1, by rw [e69, e60]; exact x3.2.2.2.1, by rw [e69, e60]; show vp_in _ (S1.ln _); rw [x4.2.2.2.1]; exact vk, by rw [e69, e60]; exact w3.2.2.2.1, by rw [e69, e60]; show vp_in _ (S1.ln _); rw [w4.2.2.2.1]; exact vk, fun S78 e78 => ?_⟩
    rw [src 43 (by omega) (by omega) S69 U69] at e78
    have u78 : Uq ad (fun _ _ => False) (bA w) (fun _ => False) S69 S78 := by rw [e78]; exact Uq.of (Un.setA (by unfold bA; omega))
    have U78 := Uq.tr U69 (hm _ _ u78)
    refine ih n (k + 1) S78 U78 (by rw [e78, e69, e60]; exact e1) (fun i hi p p1 p2 => ?_) (by omega) (by omega) (fun S2 hU3 hU4 => hK S2 hU3 (Uq.tr (Uq.tr (Uq.tr u60 u69) u78) hU4))
    rw [e78, e69, e60]
    simp only [setA_A, u2_ap, h.adj]
    by_cases c1 : i = k
    · subst c1
      obtain rfl | rfl | rfl : p = 41 ∨ p = 42 ∨ p = 43 := by omega
      · rw [if_neg (by omega), if_neg (by omega), if_pos ⟨rfl, rfl⟩]
      · rw [if_neg (by omega), if_pos ⟨rfl, rfl⟩]
      · rw [if_pos ⟨rfl, rfl⟩]
    · rw [if_neg (by omega), if_neg (by omega), if_neg (by omega)]
      exact hA i (by omega) p p1 p2
theorem l_be66 (hv : v < 2) (hw : w < 2) (hvw : v ≠ w) (h : Sh ad S) (hW : WR S ad v sg pt rn st rm ru np nr ns nh dy no) : ∀ (m n k : Nat) (S1 : PS), Uq ad (bI w) (bA w) (bQ w) S S1 → S1.I 644 (ad (2 + w)) = nI np → (∀ i, i < k → ∀ q, q < 9 → S1.I (128 + q) (ad (60 + 10 * w + i)) = S.I (128 + q) (ad (60 + 10 * v + i))) → k + m = np → m < n → (∀ S2, Uq ad (bI w) (bA w) (bQ w) S S2 → Uq ad (fun g n => (60 + 10 * w ≤ n ∧ n < 70 + 10 * w) ∧ 128 ≤ g ∧ g ≤ 136) (fun _ => False) (fun _ => False) S1 S2 → (∀ i, i < np → ∀ q, q < 9 → S2.I (128 + q) (ad (60 + 10 * w + i)) = S.I (128 + q) (ad (60 + 10 * v + i))) → wq_X9_become_97 N K N S2 (ad (2 + w)) (ad (2 + v)) 0) → wq_X9_become_66 N K n S1 (ad (2 + w)) (ad (2 + v)) (nI k) := by
  have hb := hW.1
  intro m
  induction m with
  | zero =>
    intro n k S1 hU e1 hA hk hn hK
    obtain ⟨n, rfl⟩ : ∃ z, n = z + 1 := ⟨n - 1, by omega⟩
    have g1 := hU.sh h (bq_ok hw)
    rw [wq_X9_become_66.eq_2, e1, if_pos (nI_le (by omega) (by omega))]
    exact ⟨(g1.wd hw).1, hK S1 hU Uq.rf (fun i hi => hA i (by omega))⟩
  | succ m ih =>
    intro n k S1 hU e1 hA hk hn hK
    obtain ⟨n, rfl⟩ : ∃ z, n = z + 1 := ⟨n - 1, by omega⟩
    have g1 := hU.sh h (bq_ok hw)
    obtain ⟨w1, w2, w3, w4⟩ := g1.wd hw
    obtain ⟨x1, x2, x3, x4⟩ := g1.wd hv
    have hk10 : k < 10 := by omega
    have vk : vp_in (nI k) 10 := vp_in_nI hk10 (by decide)
    have qw := g1.2.2.2.2.1 w k hw hk10
    have qv := g1.2.2.2.2.1 v k hv hk10
    have src : ∀ q, q < 9 → S1.I (128 + q) (ad (60 + 10 * v + k)) = S.I (128 + q) (ad (60 + 10 * v + k)) := fun q hq => hU.I h (by unfold bI; omega)
    have hp := hW.2.2.2.1 k (by omega)
    rw [wq_X9_become_66.eq_2, e1, if_neg (nI_ge (by omega) (by omega)), nI_clamp (by omega), a1i]
    refine ⟨w1, ad (40 + 10 * w), w2.1, w3.1, by rw [w4.1]; exact vk, ad (60 + 10 * w + k), qw.1, x1, ad (40 + 10 * v), x2.1, x3.1, by rw [x4.1]; exact vk, ad (60 + 10 * v + k), qv.1, qw.2, w_become1 g1 qw.2 qv.2 (by omega) ?_ (fun S2 hU2 hI2 => ?_)⟩
    · have := src 6 (by decide)
      rw [show S1.I 134 (ad (60 + 10 * v + k)) = _ from this, show S.I (128 + 6) (ad (60 + 10 * v + k)) = _ from hp.1 6 (by decide)]
      exact hp.2.2.2.2.2.2.1
    have hU2a : Uq ad (fun g n => (60 + 10 * w ≤ n ∧ n < 70 + 10 * w) ∧ 128 ≤ g ∧ g ≤ 136) (fun _ => False) (fun _ => False) S1 S2 := Uq.of (hU2.mono (fun g n e => by omega) (fun _ e => e) id)
    have hU2b : Uq ad (bI w) (bA w) (bQ w) S S2 := Uq.tr hU (Uq.of (hU2.mono (fun g n e => by unfold bI; omega) (fun _ e => absurd e id) id))
    refine ih n (k + 1) S2 hU2b ((hU2.I g1 (by omega)).trans e1) (fun i hi q hq => ?_) (by omega) (by omega) (fun S3 hU3 hU4 => hK S3 hU3 (Uq.tr hU2a hU4))
    by_cases c1 : i = k
    · subst c1
      rw [hI2 q hq]
      exact src q hq
    · rw [hU2.I g1 (by omega)]
      exact hA i (by omega) q hq
theorem w_become (hv : v < 2) (hw : w < 2) (hvw : v ≠ w) (hN5 : 5000 ≤ N) (h : Sh ad S) (hW : WR S ad v sg pt rn st rm ru np nr ns nh dy no) (hK : ∀ S', Uq ad (bI w) (bA w) (bQ w) S S' → WR S' ad w sg pt rn st rm ru np nr ns nh dy no → K S') : wp_X9_become N S (ad (2 + w)) (ad (2 + v)) K := by
  obtain ⟨hb, hc, hm, hp, hr, hs, hh⟩ := id hW
  have ne : ¬ ad (2 + v) = ad (2 + w) := fun e => by rw [h.adj] at e; omega
  have st' : ∀ (T T' : PS) (g : Nat) (v' : Int32), T' = T.setI g (ad (2 + w)) v' → (∀ g, T.I g (ad (2 + v)) = S.I g (ad (2 + v))) → ∀ g, T'.I g (ad (2 + v)) = S.I g (ad (2 + v)) := by
    intro T T' g v' e hT g'
    rw [e, ← hT g']
    exact u2_ne (fun z => ne z.2)
  refine ⟨(h.wd hv).1, (h.wd hw).1, fun S3 e3 S6 e6 S9 e9 S12 e12 S15 e15 S18 e18 S21 e21 S24 e24 => ?_⟩
  have i3 := st' S S3 _ _ e3 (fun _ => rfl)
  rw [i3 641] at e6
  have i6 := st' S3 S6 _ _ e6 i3
  rw [i6 642] at e9
  have i9 := st' S6 S9 _ _ e9 i6
  rw [i9 643] at e12
  have i12 := st' S9 S12 _ _ e12 i9
  rw [i12 644] at e15
  have i15 := st' S12 S15 _ _ e15 i12
  rw [i15 645] at e18
  have i18 := st' S15 S18 _ _ e18 i15
  rw [i18 646] at e21
  have i21 := st' S18 S21 _ _ e21 i18
  rw [i21 647] at e24
  have hU : Uq ad (bI w) (bA w) (bQ w) S S24 := by
    rw [e24, e21, e18, e15, e12, e9, e6, e3]
    exact Uq.of (Un.tr (Un.tr (Un.tr (Un.tr (Un.tr (Un.tr (Un.tr (Un.setI (by unfold bI; omega)) (Un.setI (by unfold bI; omega))) (Un.setI (by unfold bI; omega))) (Un.setI (by unfold bI; omega))) (Un.setI (by unfold bI; omega))) (Un.setI (by unfold bI; omega))) (Un.setI (by unfold bI; omega))) (Un.setI (by unfold bI; omega)))
  have fld : ∀ j, j < 8 → S24.I (640 + j) (ad (2 + w)) = S.I (640 + j) (ad (2 + v)) := by
    intro k hk
    rw [e24, e21, e18, e15, e12, e9, e6, e3]
    obtain rfl | rfl | rfl | rfl | rfl | rfl | rfl | rfl : k = 0 ∨ k = 1 ∨ k = 2 ∨ k = 3 ∨ k = 4 ∨ k = 5 ∨ k = 6 ∨ k = 7 := by omega
    all_goals simp only [setI_I, u2_ap, Nat.reduceAdd, Nat.reduceEqDiff, and_self, true_and, and_true, Option.some.injEq, exists_eq_left', exists_eq_left, forall_eq, forall_eq_apply_imp_iff, true_or, or_true, false_or, or_false, not_true_eq_false, not_false_eq_true, false_and, if_true, if_false, reduceIte]
  refine l_be66 hv hw hvw h hW np N 0 S24 hU ((fld 4 (by decide)).trans hc.2.2.2.2.1) (fun i hi => absurd hi (by omega)) (by omega) (by omega) (fun Sa Ua ua Ia => ?_)
  have ga := Ua.sh h (bq_ok hw)
  have g24 := hU.sh h (bq_ok hw)
  have flda : ∀ j, j < 8 → Sa.I (640 + j) (ad (2 + w)) = S.I (640 + j) (ad (2 + v)) := fun j hj => (ua.I g24 (by omega)).trans (fld j hj)
  refine l_be97 hv hw hvw h hW nr N 0 Sa Ua ((flda 5 (by decide)).trans hc.2.2.2.2.2.1) (fun i hi => absurd hi (by omega)) (by omega) (by omega) (fun Sb Ub ub Ab => ?_)
  have gb := Ub.sh h (bq_ok hw)
  have fldb : ∀ j, j < 8 → Sb.I (640 + j) (ad (2 + w)) = S.I (640 + j) (ad (2 + v)) := fun j hj => (ub.I ga (by simp)).trans (flda j hj)
  refine l_be149 hv hw hvw h hW ns N 0 Sb Ub ((fldb 6 (by decide)).trans hc.2.2.2.2.2.2.1) (fun i hi => absurd hi (by omega)) (by omega) (by omega) (fun Sc Uc uc Qc => ?_)
  have gc := Uc.sh h (bq_ok hw)
  have fldc : ∀ j, j < 8 → Sc.I (640 + j) (ad (2 + w)) = S.I (640 + j) (ad (2 + v)) := fun j hj => (uc.I gb (by simp)).trans (fldb j hj)
  refine l_be177 hv hw hvw h hW nh N 0 Sc Uc ((fldc 7 (by decide)).trans hc.2.2.2.2.2.2.2) (fun i hi => absurd hi (by omega)) (by omega) (by omega) (fun Sd Ud ud Qd => hK Sd Ud ?_)
  have fldd : ∀ j, j < 8 → Sd.I (640 + j) (ad (2 + w)) = S.I (640 + j) (ad (2 + v)) := fun j hj => (ud.I gc (by simp)).trans (fldc j hj)
  have Wd := WR.uq Ud h (bw_ok hv hw hvw) ⟨by unfold bQ; omega, by unfold bQ; omega⟩ hW
  refine ⟨hb, ⟨(fldd 0 (by decide)).trans hc.1, (fldd 1 (by decide)).trans hc.2.1, (fldd 2 (by decide)).trans hc.2.2.1, (fldd 3 (by decide)).trans hc.2.2.2.1, (fldd 4 (by decide)).trans hc.2.2.2.2.1, (fldd 5 (by decide)).trans hc.2.2.2.2.2.1, (fldd 6 (by decide)).trans hc.2.2.2.2.2.2.1, (fldd 7 (by decide)).trans hc.2.2.2.2.2.2.2⟩, hm, fun i hi => ?_, fun r hr' => ?_, fun s hs' => ?_, fun s hs' => ?_⟩
  · refine ⟨fun q hq => ?_, (hp i hi).2⟩
    rw [ud.I gc (by simp), uc.I gb (by simp), ub.I ga (by simp), Ia i hi q hq]
    exact (hp i hi).1 q hq
  · have z := fun p p1 p2 => Ab r hr' p p1 p2
    rw [ud.A gc (n := 41 + 10 * w) (by simp), ud.A gc (n := 42 + 10 * w) (by simp), ud.A gc (n := 43 + 10 * w) (by simp), uc.A gb (n := 41 + 10 * w) (by simp), uc.A gb (n := 42 + 10 * w) (by simp), uc.A gb (n := 43 + 10 * w) (by simp), z 41 (by omega) (by omega), z 42 (by omega) (by omega), z 43 (by omega) (by omega)]
    exact hr r hr'
  · obtain ⟨a, c, q, s1⟩ := Wd.2.2.2.2.2.1 s hs'
    refine ⟨a, c, ?_, s1⟩
    rw [ud.Q gc (n := 44 + 10 * w) (by omega), Qc s hs', ← q, Ud.Q h (n := 44 + 10 * v) (by unfold bQ; omega)]
  · obtain ⟨a, c, q, s1⟩ := Wd.2.2.2.2.2.2 s hs'
    refine ⟨a, c, ?_, s1⟩
    rw [Qd s hs', ← q, Ud.Q h (n := 45 + 10 * v) (by unfold bQ; omega)]
end
