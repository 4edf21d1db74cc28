/-- what a part of nine numbers takes on a day -/
def tk (f : Nat → Int32) (d : Int32) : Int32 := if f 8 ≤ d then (if f 0 = 3 then f 2 + f 7 * (d - f 8) / 10 else f 2 + f 7) else f 2
theorem tk_congr {f g : Nat → Int32} (h : ∀ k, k < 9 → f k = g k) (d : Int32) : tk f d = tk g d := by
  unfold tk
  rw [h 8 (by decide), h 0 (by decide), h 2 (by decide), h 7 (by decide)]
/-- is a part of nine numbers in a way -/
def isw (f : Nat → Int32) (w : Int32) : Int32 := if (f 1 >>> (w &&& 31)) &&& 1 = 1 then 1 else 0
theorem isw_congr {f g : Nat → Int32} (h : ∀ k, k < 9 → f k = g k) (w : Int32) : isw f w = isw g w := by
  unfold isw
  rw [h 1 (by decide)]
section
variable {N : Nat} {S : PS} {ad : Nat → Nat} {K : Int32 → PS → Prop} {a j dy np : Nat} {d w : Int32}
theorem w_takesOn (hk : S.K a = 2) : wp_X1_takesOn N S a d K = K (tk (fun k => S.I (128 + k) a) d) S := by
  unfold wp_X1_takesOn tk
  simp only [hk, true_and, Nat.reduceAdd]
  by_cases c1 : S.I 136 a ≤ d
  · by_cases c2 : S.I 128 a = 3
    · simp only [c1, c2, if_true]
    · simp only [c1, c2, if_true, if_false]
  · simp only [c1, if_false]
theorem w_lateOn (hk : S.K a = 2) : wp_X1_lateOn N S a d K = K (tk (fun k => S.I (128 + k) a) d - S.I 133 a) S := by
  unfold wp_X1_lateOn
  rw [w_takesOn hk]
  simp only [hk, true_and]
theorem w_isIn (hk : S.K a = 2) : wp_X1_isIn N S a w K = K (isw (fun k => S.I (128 + k) a) w) S := by
  unfold wp_X1_isIn isw
  simp only [hk, true_and, Nat.reduceAdd]
  by_cases c1 : (S.I 129 a >>> (w &&& 31)) &&& 1 = 1
  · simp only [c1, if_true]
  · simp only [c1, if_false]
theorem w_its (h : Sh ad S) {k : Nat} (hj : j < 10) (hk : k < 9) : wp_X11_its N S (ad 80) (nI j) (nI k) K = K (S.A (ad 81) (9 * j + k)) S := by
  unfold wp_X11_its
  have hv : vp_in (nI (9 * j + k)) 90 := vp_in_nI (by omega) (by decide)
  simp only [h.k80, h.r773, h.k81, h.l81, m9b, hv, true_and, Option.some.injEq, exists_eq_left', nI_clamp (show 9 * j + k < 2 ^ 31 by omega)]
theorem w_isOn (h : Sh ad S) (hj : j < 10) : wp_X11_isOn N S (ad 80) (nI j) w K = K (isw (fun k => S.A (ad 81) (9 * j + k)) w) S := by
  unfold wp_X11_isOn isw
  rw [show (1 : Int32) = nI 1 from rfl, w_its h hj (by decide)]
  simp only [h.k80, true_and]
  by_cases c1 : (S.A (ad 81) (9 * j + 1) >>> (w &&& 31)) &&& nI 1 = nI 1
  · simp only [c1, if_true]
  · simp only [c1, if_false]
theorem day_le {v dy : Nat} (hv : v ≤ 999) (hd : dy ≤ 999) : (0 ≤ nI dy - nI v) = (nI v ≤ nI dy) := by
  rw [Int32.le_iff_toInt_le, Int32.le_iff_toInt_le, pk_sub_toInt (by omega) (by omega), nI_toInt (by omega), nI_toInt (by omega)]
  exact propext ⟨fun h => by have : (0 : Int32).toInt = 0 := rfl; omega, fun h => by have : (0 : Int32).toInt = 0 := rfl; omega⟩
theorem w_takes (h : Sh ad S) (hj : j < 10) (ht : S.I 768 (ad 80) = nI dy) (hd : dy ≤ 999) (hs : ∃ v : Nat, v ≤ 999 ∧ S.A (ad 81) (9 * j + 8) = nI v) : wp_X11_takes N S (ad 80) (nI j) K = K (tk (fun k => S.A (ad 81) (9 * j + k)) (nI dy)) S := by
  obtain ⟨v, hv, ev⟩ := hs
  unfold wp_X11_takes wq_X11_takes_62 tk
  rw [show (8 : Int32) = nI 8 from rfl, show (2 : Int32) = nI 2 from rfl, show (7 : Int32) = nI 7 from rfl, show (0 : Int32) = nI 0 from rfl]
  simp only [w_its h hj (show 8 < 9 by decide), w_its h hj (show 2 < 9 by decide), w_its h hj (show 7 < 9 by decide), w_its h hj (show 0 < 9 by decide), h.k80, true_and, forall_eq, ht, ev]
  simp only [show nI 0 = (0 : Int32) from rfl, day_le hv hd]
  by_cases c1 : nI v ≤ nI dy
  · by_cases c2 : S.A (ad 81) (9 * j + 0) = 3
    · simp only [c1, c2, if_true]
    · simp only [c1, c2, if_true, if_false]
  · simp only [c1, if_false]
theorem w_lacks (h : Sh ad S) (hj : j < 10) (ht : S.I 768 (ad 80) = nI dy) (hd : dy ≤ 999) (hs : ∃ v : Nat, v ≤ 999 ∧ S.A (ad 81) (9 * j + 8) = nI v) : wp_X11_lacks N S (ad 80) (nI j) K = K (tk (fun k => S.A (ad 81) (9 * j + k)) (nI dy) - S.A (ad 81) (9 * j + 5)) S := by
  unfold wp_X11_lacks
  rw [w_takes h hj ht hd hs, show (5 : Int32) = nI 5 from rfl, w_its h hj (by decide)]
  simp only [h.k80, true_and]
end
/-- the world that now is, with other nine numbers for one of its parts (j below np, or the new one) -/
theorem RN.part {ad : Nat → Nat} {PI : Nat → Nat → Prop} {PA : Nat → Prop} {PB : Prop} {S S1 : PS} {np nr ns nh dy no j np' : Nat} (hU : Un ad PI PA PB S S1) (k : Sh ad S) (hj : j < np') (hnp : np' ≤ 10) (hle : np ≤ np') (hle2 : np' ≤ np + 1) (hj2 : np' = np + 1 → j = np) (q2 : ∀ i, i < 10 → i ≠ j → ∀ q, q < 9 → ¬ PI (128 + q) (60 + i)) (q3 : ∀ n, ¬ PI 448 n ∧ ¬ PI 449 n ∧ ¬ PI 450 n) (q4 : ¬ PA 41 ∧ ¬ PA 42 ∧ ¬ PA 43 ∧ ¬ PA 82 ∧ ¬ PA 83 ∧ ¬ PA 84 ∧ ¬ PA 85) (hp : RN S ad np nr ns nh dy no)
    (e : S1.I 640 (ad 2) = nI dy ∧ S1.I 641 (ad 2) = nI no ∧ S1.I 642 (ad 2) = S1.I 770 (ad 80) ∧ S1.I 643 (ad 2) = S1.I 771 (ad 80) ∧ S1.I 644 (ad 2) = nI np' ∧ S1.I 645 (ad 2) = nI nr ∧ S1.I 646 (ad 2) = nI ns ∧ S1.I 647 (ad 2) = nI nh) (e2 : S1.I 768 (ad 80) = nI dy ∧ S1.I 769 (ad 80) = nI no ∧ S1.I 772 (ad 80) = nI np' ∧ S1.I 774 (ad 80) = nI nr ∧ S1.I 776 (ad 80) = nI ns ∧ S1.I 778 (ad 80) = nI nh)
    (hpart : PR S1 (ad (60 + j)) (fun q => S1.A (ad 81) (9 * j + q))) (hoth : ∀ i, i ≠ j → ∀ q, q < 9 → S1.A (ad 81) (9 * i + q) = S.A (ad 81) (9 * i + q)) : RN S1 ad np' nr ns nh dy no := by
  obtain ⟨h1, h2, h3, h4, h5, h6, h7⟩ := hp
  obtain ⟨q41, q42, q43, q82, q83, q84, q85⟩ := q4
  refine ⟨⟨hnp, h1.2⟩, e, e2, ?_, ?_, ?_, ?_⟩
  · intro i hi
    by_cases hij : i = j
    · subst hij
      exact hpart
    · have hin : i < np := by omega
      have hp := h4 i hin
      rw [show 60 + 10 * 0 + i = 60 + i from rfl] at hp ⊢
      have hp1 := hp.un hU k (fun q hq => q2 i (by omega) hij q hq)
      unfold PR at hp1 ⊢
      simp only [hoth i hij 0 (by decide), hoth i hij 1 (by decide), hoth i hij 2 (by decide), hoth i hij 3 (by decide), hoth i hij 4 (by decide), hoth i hij 6 (by decide), hoth i hij 8 (by decide)]
      exact ⟨fun q hq => by rw [hoth i hij q hq]; exact hp1.1 q hq, hp1.2⟩
  · rw [hU.A k q82, show 41 + 10 * 0 = 41 from rfl, show 42 + 10 * 0 = 42 from rfl, show 43 + 10 * 0 = 43 from rfl, hU.A k q41, hU.A k q42, hU.A k q43]
    exact h5
  · rw [hU.A k q83, hU.2.2.2.1]
    intro s hs
    obtain ⟨a, c, g1, g2⟩ := h6 s hs
    exact ⟨a, c, g1, g2.un hU q3⟩
  · rw [hU.A k q84, hU.A k q85, hU.2.2.2.1]
    intro s hs
    obtain ⟨a, c, g1, g2⟩ := h7 s hs
    exact ⟨a, c, g1, g2.un hU⟩
