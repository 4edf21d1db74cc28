/-- all that was there stands as it was -/
def Fr (S S' : PS) : Prop := ∀ a, S.K a ≠ 0 → S'.K a = S.K a ∧ S'.ln a = S.ln a ∧ (∀ g, S'.R g a = S.R g a) ∧ S'.Q a = S.Q a ∧ (∀ g, S'.I g a = S.I g a) ∧ S'.A a = S.A a ∧ S'.B a = S.B a
theorem kT_all : ∀ n, n < 104 → isN n → ¬ (60 ≤ n ∧ n < 80) → ∃ kd, kd ≠ 0 ∧ (n, kd) ∈ kT := by
  have : ∀ n, n < 104 → ((1 ≤ n ∧ n ≤ 33) ∨ (40 ≤ n ∧ n ≤ 45) ∨ (50 ≤ n ∧ n ≤ 55) ∨ (60 ≤ n ∧ n ≤ 103)) → ¬ (60 ≤ n ∧ n < 80) → (kT.any (fun e => decide (e.1 = n) && decide (e.2 ≠ 0))) = true := by decide
  intro n hn h1 h2
  obtain ⟨e, he, hp⟩ := List.any_eq_true.mp (this n hn h1 h2)
  rw [Bool.and_eq_true, decide_eq_true_eq, decide_eq_true_eq] at hp
  exact ⟨e.2, hp.2, by rw [← hp.1]; exact he⟩
section
variable {ad : Nat → Nat} {S S1 : PS}
theorem Sh.kn (h : Sh ad S) {n : Nat} (hn : isN n) : S.K (ad n) ≠ 0 := by
  by_cases c : 60 ≤ n ∧ n < 80
  · obtain ⟨w, i, hw, hi, e⟩ : ∃ w i, w < 2 ∧ i < 10 ∧ n = 60 + 10 * w + i := by
      by_cases d : n < 70
      · exact ⟨0, n - 60, by omega, by omega, by omega⟩
      · exact ⟨1, n - 70, by omega, by omega, by omega⟩
    rw [e, (h.2.2.2.2.1 w i hw hi).2]
    decide
  · obtain ⟨kd, k0, hk⟩ := kT_all n (by unfold isN at hn; omega) hn c
    rw [h.1 (n, kd) hk]
    exact k0
theorem Fr.sh (f : Fr S S1) (h : Sh ad S) : Sh ad S1 := by
  have lt : ∀ e ∈ lT, isN e.1 := by unfold isN; decide
  have rt : ∀ e ∈ rT, isN e.2.1 := by unfold isN; decide
  have kt : ∀ e ∈ kT, isN e.1 := by unfold isN; decide
  refine ⟨fun e he => ?_, fun e he => ?_, fun e he => ?_, fun i hi => ?_, fun w i hw hi => ?_, h.2.2.2.2.2⟩
  · rw [(f _ (h.kn (kt e he))).1]; exact h.1 e he
  · rw [(f _ (h.kn (lt e he))).2.1]; exact h.2.1 e he
  · rw [(f _ (h.kn (rt e he))).2.2.1]; exact h.2.2.1 e he
  · rw [(f _ (h.kn (n := 13) (by unfold isN; omega))).2.2.2.1, (f _ (h.kn (n := 14) (by unfold isN; omega))).2.2.2.1]; exact h.2.2.2.1 i hi
  · rw [(f _ (h.kn (n := 40 + 10 * w) (by unfold isN; omega))).2.2.2.1, (f _ (h.kn (n := 60 + 10 * w + i) (by unfold isN; omega))).1]; exact h.2.2.2.2.1 w i hw hi
theorem Fr.I (f : Fr S S1) (h : Sh ad S) {g n : Nat} (hn : isN n := by unfold isN; omega) : S1.I g (ad n) = S.I g (ad n) := (f _ (h.kn hn)).2.2.2.2.1 g
theorem Fr.A (f : Fr S S1) (h : Sh ad S) {n : Nat} (hn : isN n := by unfold isN; omega) : S1.A (ad n) = S.A (ad n) := (f _ (h.kn hn)).2.2.2.2.2.1
theorem Fr.B (f : Fr S S1) (h : Sh ad S) {n : Nat} (hn : isN n := by unfold isN; omega) : S1.B (ad n) = S.B (ad n) := (f _ (h.kn hn)).2.2.2.2.2.2
theorem Fr.Q (f : Fr S S1) (h : Sh ad S) {n : Nat} (hn : isN n := by unfold isN; omega) : S1.Q (ad n) = S.Q (ad n) := (f _ (h.kn hn)).2.2.2.1
theorem SR.fr (f : Fr S S1) {a c : Nat} {v : Nat → Int32} (hp : SR S ad a c v) : SR S1 ad a c v := by
  obtain ⟨s1, s2, s3, s4, s5, s6, s7⟩ := hp
  obtain ⟨a1, a2, a3, a4, a5, a6, a7⟩ := f a (by rw [s1]; decide)
  obtain ⟨c1, c2, c3, c4, c5, c6, c7⟩ := f c (by rw [s3]; decide)
  unfold SR
  rw [a1, a3, c1, a5, a5, a5, c2, c6]
  exact ⟨s1, s2, s3, s4, s5, s6, s7⟩
theorem HR.fr (f : Fr S S1) {a c : Nat} {m : Int32} {v : Nat → Int32} (hp : HR S ad a c m v) : HR S1 ad a c m v := by
  obtain ⟨s1, s2, s3, s4, s5⟩ := hp
  obtain ⟨a1, a2, a3, a4, a5, a6, a7⟩ := f a (by rw [s1]; decide)
  obtain ⟨c1, c2, c3, c4, c5, c6, c7⟩ := f c (by rw [s3]; decide)
  unfold HR
  rw [a1, a3, c1, c2, c6]
  exact ⟨s1, s2, s3, s4, s5⟩
theorem WR.fr (f : Fr S S1) (k : Sh ad S) {w : Nat} (hw : w < 2) {sg pt rn st rm ru : Nat → Int32} {np nr ns nh dy no : Nat} (hp : WR S ad w sg pt rn st rm ru np nr ns nh dy no) : WR S1 ad w sg pt rn st rm ru np nr ns nh dy no := by
  obtain ⟨h1, h2, h3, h4, h5, h6, h7⟩ := hp
  have n2 : isN (2 + w) := by unfold isN; omega
  refine ⟨h1, ?_, h3, fun i hi => ?_, ?_, ?_, ?_⟩
  · simp only [f.I k n2]; exact h2
  · obtain ⟨p1, p2⟩ := h4 i hi
    exact ⟨fun j hj => (f.I k (by unfold isN; omega)).trans (p1 j hj), p2⟩
  · rw [f.A k (n := 41 + 10 * w) (by unfold isN; omega), f.A k (n := 42 + 10 * w) (by unfold isN; omega), f.A k (n := 43 + 10 * w) (by unfold isN; omega)]
    exact h5
  · rw [f.Q k (n := 44 + 10 * w) (by unfold isN; omega)]
    exact fun s hs => by obtain ⟨a, c, q, r⟩ := h6 s hs; exact ⟨a, c, q, r.fr f⟩
  · rw [f.Q k (n := 45 + 10 * w) (by unfold isN; omega)]
    exact fun s hs => by obtain ⟨a, c, q, r⟩ := h7 s hs; exact ⟨a, c, q, r.fr f⟩
theorem RN.fr (f : Fr S S1) (k : Sh ad S) {np nr ns nh dy no : Nat} (hp : RN S ad np nr ns nh dy no) : RN S1 ad np nr ns nh dy no := by
  have e : sgN S1 ad = sgN S ad := by
    unfold sgN
    simp only [f.I k (n := 80)]
  unfold RN
  rw [e, f.A k (n := 81), f.A k (n := 82), f.A k (n := 83), f.A k (n := 84), f.A k (n := 85)]
  exact WR.fr f k (by decide) hp
theorem RK.fr (f : Fr S S1) (k : Sh ad S) (hp : RK S ad) : RK S1 ad := by
  unfold RK
  rw [f.I k (n := 1), f.I k (n := 80), f.A k (n := 102)]
  rcases hp with hp | ⟨p1, p2, np, nr, ns, nh, dy, no, p3⟩
  · exact Or.inl hp
  · exact Or.inr ⟨p1, p2, np, nr, ns, nh, dy, no, WR.fr f k (by decide) p3⟩
theorem RR.fr (f : Fr S S1) (k : Sh ad S) (hp : RR S ad) : RR S1 ad := by
  unfold RR
  rw [f.I k (n := 1), f.I k (n := 80), f.A k (n := 12), f.A k (n := 94)]
  exact hp
theorem RS.fr (f : Fr S S1) (k : Sh ad S) (hp : RS S ad) : RS S1 ad := by
  intro s hs
  rw [f.I k (n := 22 + s), f.I k (n := 22 + s), f.A k (n := 26 + s), f.A k (n := 95), f.A k (n := 96), f.B k (n := 97)]
  exact hp s hs
theorem RF.fr (f : Fr S S1) (k : Sh ad S) (hp : RF S ad) : RF S1 ad := by
  intro s hs
  rw [f.I k (n := 30 + s), f.I k (n := 30 + s), f.I k (n := 30 + s), f.I k (n := 30 + s), f.A k (n := 98), f.A k (n := 99), f.A k (n := 100)]
  exact hp s hs
theorem RC.fr (f : Fr S S1) (k : Sh ad S) (hp : RC S ad) : RC S1 ad := by
  unfold RC
  rw [f.I k (n := 15), f.I k (n := 80), f.A k (n := 21), f.A k (n := 101)]
  exact hp
end
theorem SR.congr {S : PS} {ad : Nat → Nat} {a c : Nat} {f f' : Nat → Int32} (e : ∀ k, k < 16 → f k = f' k) (h : SR S ad a c f) : SR S ad a c f' := by
  obtain ⟨s1, s2, s3, s4, s5, s6, s7⟩ := h
  refine ⟨s1, s2, s3, s4, s5.trans (e 0 (by decide)), ?_, ?_⟩
  · rw [← e 0 (by decide)]; exact s6
  · rcases s7 with ⟨z1, z2, z3, z4⟩ | ⟨z1, n, z2, z3, z4, z5⟩
    · exact Or.inl ⟨z1, (e 1 (by decide)).symm.trans z2, z3.trans (e 2 (by decide)), z4⟩
    · exact Or.inr ⟨z1, n, z2, (e 1 (by decide)).symm.trans z3, z4, fun k hk => (z5 k hk).trans (e (2 + k) (by omega))⟩
