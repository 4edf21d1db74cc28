/-- from S to S' only what PI, PA, PB name has changed -/
def Un (ad : Nat → Nat) (PI : Nat → Nat → Prop) (PA : Nat → Prop) (PB : Prop) (S S' : PS) : Prop :=
  S'.K = S.K ∧ S'.ln = S.ln ∧ S'.R = S.R ∧ S'.Q = S.Q ∧ (∀ g a, (∀ n, PI g n → a ≠ ad n) → S'.I g a = S.I g a) ∧ (∀ a, (∀ n, isN n → PA n → a ≠ ad n) → S'.A a = S.A a) ∧ (PB ∨ S'.B = S.B)
section
variable {ad : Nat → Nat} {PI : Nat → Nat → Prop} {PA : Nat → Prop} {PB : Prop} {S S1 S2 : PS}
theorem Un.rf : Un ad PI PA PB S S := ⟨rfl, rfl, rfl, rfl, fun _ _ _ => rfl, fun _ _ => rfl, Or.inr rfl⟩
theorem Un.tr (h : Un ad PI PA PB S S1) (k : Un ad PI PA PB S1 S2) : Un ad PI PA PB S S2 := by
  obtain ⟨a1, a2, a3, a4, a5, a6, a7⟩ := h
  obtain ⟨b1, b2, b3, b4, b5, b6, b7⟩ := k
  exact ⟨b1.trans a1, b2.trans a2, b3.trans a3, b4.trans a4, fun g a z => (b5 g a z).trans (a5 g a z), fun a z => (b6 a z).trans (a6 a z), by rcases b7 with x | x; exact Or.inl x; rcases a7 with y | y; exact Or.inl y; exact Or.inr (x.trans y)⟩
theorem Un.setI {g n : Nat} {v : Int32} (h : PI g n) : Un ad PI PA PB S (S.setI g (ad n) v) := ⟨rfl, rfl, rfl, rfl, fun g' a z => u2_ne (fun q => by obtain ⟨rfl, q2⟩ := q; exact z n h q2), fun _ _ => rfl, Or.inr rfl⟩
theorem Un.setJ {g a : Nat} {v : Int64} : Un ad PI PA PB S (S.setJ g a v) := ⟨rfl, rfl, rfl, rfl, fun _ _ _ => rfl, fun _ _ => rfl, Or.inr rfl⟩
theorem Un.setA {i n : Nat} {v : Int32} (h : PA n) (hn : isN n := by first | assumption | (unfold isN; omega)) : Un ad PI PA PB S (S.setA (ad n) i v) := ⟨rfl, rfl, rfl, rfl, fun _ _ _ => rfl, fun a z => u2_off _ _ _ (z n hn h), Or.inr rfl⟩
theorem Un.setB {i a : Nat} {v : Int64} (h : PB) : Un ad PI PA PB S (S.setB a i v) := ⟨rfl, rfl, rfl, rfl, fun _ _ _ => rfl, fun _ _ => rfl, Or.inl h⟩
theorem Un.sh (h : Un ad PI PA PB S S1) (k : Sh ad S) : Sh ad S1 := by
  obtain ⟨a1, a2, a3, a4, -⟩ := h
  unfold Sh
  rw [a1, a2, a3, a4]
  exact k
theorem Un.I (h : Un ad PI PA PB S S1) (k : Sh ad S) {g n : Nat} (hn : ¬ PI g n) : S1.I g (ad n) = S.I g (ad n) := h.2.2.2.2.1 g (ad n) (fun n' h' e => by rw [k.adj] at e; rw [e] at hn; exact hn h')
theorem Un.A (h : Un ad PI PA PB S S1) (k : Sh ad S) {n : Nat} (hn : ¬ PA n) : S1.A (ad n) = S.A (ad n) := h.2.2.2.2.2.1 (ad n) (fun n' _ h' e => by rw [k.adj] at e; rw [e] at hn; exact hn h')
theorem PR.un (h : Un ad PI PA PB S S1) (k : Sh ad S) {n : Nat} {f : Nat → Int32} (hn : ∀ j, j < 9 → ¬ PI (128 + j) n) (hp : PR S (ad n) f) : PR S1 (ad n) f := ⟨fun j hj => (h.I k (hn j hj)).trans (hp.1 j hj), hp.2⟩
theorem SR.un (h : Un ad PI PA PB S S1) {a c : Nat} {f : Nat → Int32} (hn : ∀ n, ¬ PI 448 n ∧ ¬ PI 449 n ∧ ¬ PI 450 n) (hp : SR S ad a c f) : SR S1 ad a c f := by
  obtain ⟨a1, a2, a3, a4, a5, a6, -⟩ := h
  have e1 : S1.I 448 a = S.I 448 a := a5 448 a (fun n z => absurd z (hn n).1)
  have e2 : S1.I 449 a = S.I 449 a := a5 449 a (fun n z => absurd z (hn n).2.1)
  have e3 : S1.I 450 a = S.I 450 a := a5 450 a (fun n z => absurd z (hn n).2.2)
  have e4 : S1.A c = S.A c := a6 c (fun n hn _ => hp.2.2.2.1 n hn)
  unfold SR
  rw [a1, a2, a3, e1, e2, e3, e4]
  exact hp
theorem HR.un (h : Un ad PI PA PB S S1) {a c : Nat} {m : Int32} {f : Nat → Int32} (hp : HR S ad a c m f) : HR S1 ad a c m f := by
  obtain ⟨a1, a2, a3, a4, a5, a6, -⟩ := h
  have e4 : S1.A c = S.A c := a6 c (fun n hn _ => hp.2.2.2.1 n hn)
  unfold HR
  rw [a1, a2, a3, e4]
  exact hp
/-- what a world of the class needs of the change -/
def WQ (PI : Nat → Nat → Prop) (PA : Nat → Prop) (w : Nat) : Prop := (∀ j, j < 8 → ¬ PI (640 + j) (2 + w)) ∧ (∀ j, j < 9 → ∀ i, i < 10 → ¬ PI (128 + j) (60 + 10 * w + i)) ∧ (∀ n, ¬ PI 448 n ∧ ¬ PI 449 n ∧ ¬ PI 450 n) ∧ ¬ PA (41 + 10 * w) ∧ ¬ PA (42 + 10 * w) ∧ ¬ PA (43 + 10 * w)
theorem WR.un (h : Un ad PI PA PB S S1) (k : Sh ad S) {w : Nat} {sg pt rn st rm ru : Nat → Int32} {np nr ns nh dy no : Nat} (q : WQ PI PA w) (hp : WR S ad w sg pt rn st rm ru np nr ns nh dy no) : WR S1 ad w sg pt rn st rm ru np nr ns nh dy no := by
  obtain ⟨q1, q2, q3, q4, q5, q6⟩ := q
  obtain ⟨h1, h2, h3, h4, h5, h6, h7⟩ := hp
  have e0 := h.I k (q1 0 (by decide))
  have e1 := h.I k (q1 1 (by decide))
  have e2 := h.I k (q1 2 (by decide))
  have e3 := h.I k (q1 3 (by decide))
  have e4 := h.I k (q1 4 (by decide))
  have e5 := h.I k (q1 5 (by decide))
  have e6 := h.I k (q1 6 (by decide))
  have e7 := h.I k (q1 7 (by decide))
  refine ⟨h1, ?_, h3, fun i hi => (h4 i hi).un h k (fun j hj => q2 j hj i (by omega)), ?_, ?_, ?_⟩
  · exact ⟨e0.trans h2.1, e1.trans h2.2.1, e2.trans h2.2.2.1, e3.trans h2.2.2.2.1, e4.trans h2.2.2.2.2.1, e5.trans h2.2.2.2.2.2.1, e6.trans h2.2.2.2.2.2.2.1, e7.trans h2.2.2.2.2.2.2.2⟩
  · rw [h.A k q4, h.A k q5, h.A k q6]
    exact h5
  · intro s hs
    obtain ⟨a, c, g1, g2⟩ := h6 s hs
    exact ⟨a, c, by rw [h.2.2.2.1]; exact g1, g2.un h q3⟩
  · intro s hs
    obtain ⟨a, c, g1, g2⟩ := h7 s hs
    exact ⟨a, c, by rw [h.2.2.2.1]; exact g1, g2.un h⟩
theorem RN.un (h : Un ad PI PA PB S S1) (k : Sh ad S) {np nr ns nh dy no : Nat} (q : WQ PI PA 0) (q2 : ∀ j, j < 11 → ¬ PI (768 + j) 80) (q3 : ¬ PA 81 ∧ ¬ PA 82 ∧ ¬ PA 83 ∧ ¬ PA 84 ∧ ¬ PA 85) (hp : RN S ad np nr ns nh dy no) : RN S1 ad np nr ns nh dy no := by
  have e : sgN S1 ad = sgN S ad := by
    unfold sgN
    rw [h.I k (q2 0 (by decide)), h.I k (q2 1 (by decide)), h.I k (q2 2 (by decide)), h.I k (q2 3 (by decide)), h.I k (q2 4 (by decide)), h.I k (q2 6 (by decide)), h.I k (q2 8 (by decide)), h.I k (q2 10 (by decide))]
  unfold RN
  rw [e, h.A k q3.1, h.A k q3.2.1, h.A k q3.2.2.1, h.A k q3.2.2.2.1, h.A k q3.2.2.2.2]
  exact WR.un h k q hp
/-- the single numbers of the world that now is have changed, and nothing else of it -/
theorem RN.single (h : Un ad PI PA PB S S1) (k : Sh ad S) {np nr ns nh dy no dy' no' : Nat} (q2 : ∀ j, j < 9 → ∀ i, i < 10 → ¬ PI (128 + j) (60 + i)) (q3 : ∀ n, ¬ PI 448 n ∧ ¬ PI 449 n ∧ ¬ PI 450 n) (q4 : ¬ PA 41 ∧ ¬ PA 42 ∧ ¬ PA 43 ∧ ¬ PA 81 ∧ ¬ PA 82 ∧ ¬ PA 83 ∧ ¬ PA 84 ∧ ¬ PA 85) (hp : RN S ad np nr ns nh dy no) (hb : dy ≤ dy' ∧ dy' ≤ 999 ∧ no' ≤ 20)
    (e : S1.I 640 (ad 2) = nI dy' ∧ S1.I 641 (ad 2) = nI no' ∧ S1.I 642 (ad 2) = S1.I 770 (ad 80) ∧ S1.I 643 (ad 2) = S1.I 771 (ad 80) ∧ S1.I 644 (ad 2) = nI np ∧ S1.I 645 (ad 2) = nI nr ∧ S1.I 646 (ad 2) = nI ns ∧ S1.I 647 (ad 2) = nI nh) (e2 : S1.I 768 (ad 80) = nI dy' ∧ S1.I 769 (ad 80) = nI no' ∧ S1.I 772 (ad 80) = nI np ∧ S1.I 774 (ad 80) = nI nr ∧ S1.I 776 (ad 80) = nI ns ∧ S1.I 778 (ad 80) = nI nh) : RN S1 ad np nr ns nh dy' no' := by
  obtain ⟨h1, h2, h3, h4, h5, h6, h7⟩ := hp
  obtain ⟨q41, q42, q43, q81, q82, q83, q84, q85⟩ := q4
  refine ⟨⟨h1.1, h1.2.1, h1.2.2.1, h1.2.2.2.1, hb.2.1, hb.2.2⟩, e, e2, ?_, ?_, ?_, ?_⟩
  · rw [h.A k q81]
    exact fun i hi => (h4 i hi).un h k (fun j hj => by have := q2 j hj i (by omega); simpa using this)
  · rw [h.A k q82, show 41 + 10 * 0 = 41 from rfl, show 42 + 10 * 0 = 42 from rfl, show 43 + 10 * 0 = 43 from rfl, h.A k q41, h.A k q42, h.A k q43]
    intro r hr
    obtain ⟨g1, g2, g3, ⟨d, g4, g5⟩, g6⟩ := h5 r hr
    exact ⟨g1, g2, g3, ⟨d, by omega, g5⟩, g6⟩
  · rw [h.A k q83, h.2.2.2.1]
    intro s hs
    obtain ⟨a, c, g1, g2⟩ := h6 s hs
    exact ⟨a, c, g1, g2.un h q3⟩
  · rw [h.A k q84, h.A k q85, h.2.2.2.1]
    intro s hs
    obtain ⟨a, c, g1, g2⟩ := h7 s hs
    exact ⟨a, c, g1, g2.un h⟩
theorem RK.un (h : Un ad PI PA PB S S1) (k : Sh ad S) (q : WQ PI PA 1) (q2 : ¬ PI 706 1 ∧ ¬ PI 818 80 ∧ ¬ PA 102) (hp : RK S ad) : RK S1 ad := by
  unfold RK
  rw [h.I k q2.1, h.I k q2.2.1, h.A k q2.2.2]
  rcases hp with hp | ⟨p1, p2, np, nr, ns, nh, dy, no, p3⟩
  · exact Or.inl hp
  · exact Or.inr ⟨p1, p2, np, nr, ns, nh, dy, no, p3.un h k q⟩
theorem RT.un (h : Un ad PI PA PB S S1) (k : Sh ad S) (q : ¬ PI 708 1 ∧ ¬ PI 782 80 ∧ ¬ PA 4 ∧ ¬ PA 86) (hp : RT S ad) : RT S1 ad := by
  unfold RT
  rw [h.I k q.1, h.I k q.2.1, h.A k q.2.2.1, h.A k q.2.2.2]
  exact hp
theorem RR.un (h : Un ad PI PA PB S S1) (k : Sh ad S) (q : ¬ PI 717 1 ∧ ¬ PI 805 80 ∧ ¬ PA 12 ∧ ¬ PA 94) (hp : RR S ad) : RR S1 ad := by
  unfold RR
  rw [h.I k q.1, h.I k q.2.1, h.A k q.2.2.1, h.A k q.2.2.2]
  exact hp
theorem RS.un (h : Un ad PI PA PB S S1) (k : Sh ad S) (q : (∀ s, s < 4 → ¬ PI 320 (22 + s) ∧ ¬ PI 321 (22 + s) ∧ ¬ PA (26 + s)) ∧ ¬ PA 95 ∧ ¬ PA 96 ∧ ¬ PB) (hp : RS S ad) : RS S1 ad := by
  have eB : S1.B = S.B := h.2.2.2.2.2.2.elim (fun z => absurd z q.2.2.2) id
  intro s hs
  rw [h.I k (q.1 s hs).1, h.I k (q.1 s hs).2.1, h.A k (q.1 s hs).2.2, h.A k q.2.1, h.A k q.2.2.1, eB]
  exact hp s hs
theorem RF.un (h : Un ad PI PA PB S S1) (k : Sh ad S) (q : (∀ s, s < 4 → ¬ PI 384 (30 + s) ∧ ¬ PI 385 (30 + s) ∧ ¬ PI 386 (30 + s) ∧ ¬ PI 387 (30 + s)) ∧ ¬ PA 98 ∧ ¬ PA 99 ∧ ¬ PA 100) (hp : RF S ad) : RF S1 ad := by
  intro s hs
  rw [h.I k (q.1 s hs).1, h.I k (q.1 s hs).2.1, h.I k (q.1 s hs).2.2.1, h.I k (q.1 s hs).2.2.2, h.A k q.2.1, h.A k q.2.2.1, h.A k q.2.2.2]
  exact hp s hs
theorem RC.un (h : Un ad PI PA PB S S1) (k : Sh ad S) (q : ¬ PI 65 15 ∧ ¬ PI 816 80 ∧ ¬ PA 21 ∧ ¬ PA 101) (hp : RC S ad) : RC S1 ad := by
  unfold RC
  rw [h.I k q.1, h.I k q.2.1, h.A k q.2.2.1, h.A k q.2.2.2]
  exact hp
end
theorem sg_0 (S : PS) (ad : Nat → Nat) : sgN S ad 0 = S.I 768 (ad 80) := rfl
theorem sg_1 (S : PS) (ad : Nat → Nat) : sgN S ad 1 = S.I 769 (ad 80) := rfl
theorem sg_2 (S : PS) (ad : Nat → Nat) : sgN S ad 2 = S.I 770 (ad 80) := rfl
theorem sg_3 (S : PS) (ad : Nat → Nat) : sgN S ad 3 = S.I 771 (ad 80) := rfl
theorem sg_4 (S : PS) (ad : Nat → Nat) : sgN S ad 4 = S.I 772 (ad 80) := rfl
theorem sg_5 (S : PS) (ad : Nat → Nat) : sgN S ad 5 = S.I 774 (ad 80) := rfl
theorem sg_6 (S : PS) (ad : Nat → Nat) : sgN S ad 6 = S.I 776 (ad 80) := rfl
theorem sg_7 (S : PS) (ad : Nat → Nat) : sgN S ad 7 = S.I 778 (ad 80) := rfl
theorem i10 : ((1 : Int32) = 0) = False := by decide
/-- nothing that the relation speaks of has changed -/
theorem InvR.un0 {ad : Nat → Nat} {PI : Nat → Nat → Prop} {PA : Nat → Prop} {PB : Prop} {S S1 : PS} (h : Un ad PI PA PB S S1) (k : Sh ad S) (hI : (∃ np nr ns nh dy no : Nat, RN S ad np nr ns nh dy no) ∧ RK S ad ∧ RT S ad ∧ RR S ad ∧ RS S ad ∧ RF S ad ∧ RC S ad)
    (q0 : WQ PI PA 0) (q1 : ∀ j, j < 11 → ¬ PI (768 + j) 80) (q2 : ¬ PA 81 ∧ ¬ PA 82 ∧ ¬ PA 83 ∧ ¬ PA 84 ∧ ¬ PA 85) (q3 : WQ PI PA 1) (q4 : ¬ PI 706 1 ∧ ¬ PI 818 80 ∧ ¬ PA 102) (q5 : ¬ PI 708 1 ∧ ¬ PI 782 80 ∧ ¬ PA 4 ∧ ¬ PA 86) (q6 : ¬ PI 717 1 ∧ ¬ PI 805 80 ∧ ¬ PA 12 ∧ ¬ PA 94) (q7 : (∀ s, s < 4 → ¬ PI 320 (22 + s) ∧ ¬ PI 321 (22 + s) ∧ ¬ PA (26 + s)) ∧ ¬ PA 95 ∧ ¬ PA 96 ∧ ¬ PB) (q8 : (∀ s, s < 4 → ¬ PI 384 (30 + s) ∧ ¬ PI 385 (30 + s) ∧ ¬ PI 386 (30 + s) ∧ ¬ PI 387 (30 + s)) ∧ ¬ PA 98 ∧ ¬ PA 99 ∧ ¬ PA 100) (q9 : ¬ PI 65 15 ∧ ¬ PI 816 80 ∧ ¬ PA 21 ∧ ¬ PA 101) : InvR (ad 1) (ad 80) S1 := by
  obtain ⟨⟨np, nr, ns, nh, dy, no, hN⟩, h2, h3, h4, h5, h6, h7⟩ := hI
  exact ⟨ad, rfl, rfl, h.sh k, ⟨np, nr, ns, nh, dy, no, hN.un h k q0 q1 q2⟩, h2.un h k q3 q4, h3.un h k q5, h4.un h k q6, h5.un h k q7, h6.un h k q8, h7.un h k q9⟩
