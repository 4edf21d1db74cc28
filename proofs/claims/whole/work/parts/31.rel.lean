/-- the names that stand for something -/
def isN (n : Nat) : Prop := (1 ≤ n ∧ n ≤ 33) ∨ (40 ≤ n ∧ n ≤ 45) ∨ (50 ≤ n ∧ n ≤ 55) ∨ (60 ≤ n ∧ n ≤ 103)
/-- a part of the chain, against its nine numbers -/
def PR (S : PS) (a : Nat) (f : Nat → Int32) : Prop := (∀ k, k < 9 → S.I (128 + k) a = f k) ∧ (∃ v : Nat, v ≤ 6 ∧ f 0 = nI v) ∧ (∃ v : Nat, 1 ≤ v ∧ v ≤ 3 ∧ f 1 = nI v) ∧ (∃ v : Nat, v ≤ 9999 ∧ f 2 = nI v) ∧ (∃ v : Nat, v ≤ 99 ∧ f 3 = nI v) ∧ (∃ v : Nat, 1 ≤ v ∧ v ≤ 60 ∧ f 4 = nI v) ∧ (f 6 = 0 ∨ f 6 = 1) ∧ (∃ v : Nat, v ≤ 999 ∧ f 8 = nI v)
/-- a story's object a with its row c, against sixteen numbers: weight, how many clauses (-1: light), the clauses or the light's number -/
def SR (S : PS) (ad : Nat → Nat) (a c : Nat) (f : Nat → Int32) : Prop := S.K a = 7 ∧ S.R 451 a = some c ∧ S.K c = 20 ∧ (∀ n, isN n → c ≠ ad n) ∧ S.I 448 a = f 0 ∧ (∃ v : Nat, 1 ≤ v ∧ v ≤ 99 ∧ f 0 = nI v) ∧ ((S.I 449 a = 1 ∧ f 1 = -1 ∧ S.I 450 a = f 2 ∧ S.ln c = 0) ∨ (S.I 449 a ≠ 1 ∧ ∃ n : Nat, n ≤ 4 ∧ f 1 = nI n ∧ S.ln c = 3 * n ∧ ∀ k, k < 3 * n → S.A c k = f (2 + k)))
/-- a rule's word, out of the reference's sign -/
def phi (v : Int32) : Int32 := if v = 40000 then -16 else if v = 40001 then -17 else if v = 40002 then -9 else if v = 40003 then -8 else if v = 30042 then -10 else if v = 30043 then -11 else if v = 30045 then -12 else if v = 30060 then -13 else if v = 30061 then -14 else if v = 30062 then -15 else if 20000 ≤ v then 19999 - v else v
/-- one word of a rule on a pile of kinds (true: yes or no, false: a number) -/
def wst (v : Int32) (st st' : List Bool) : Prop := (v = 40002 ∧ ∃ r, st = true :: r ∧ st' = true :: r) ∨ (v = 40003 ∧ ∃ r, st = false :: r ∧ st' = false :: r) ∨ ((v = 40000 ∨ v = 40001) ∧ ∃ r, st = true :: true :: r ∧ st' = true :: r) ∨ ((v = 30042 ∨ v = 30043 ∨ v = 30045) ∧ ∃ r, st = false :: false :: r ∧ st' = false :: r) ∨ ((v = 30060 ∨ v = 30061 ∨ v = 30062) ∧ ∃ r, st = false :: false :: r ∧ st' = true :: r) ∨ (((∃ n : Nat, n ≤ 9999 ∧ v = nI n) ∨ (∃ n : Nat, n ≤ 6 ∧ v = nI (20000 + n))) ∧ st' = false :: st)
/-- m words from k on -/
def wrn (f : Nat → Int32) : Nat → Nat → List Bool → List Bool → Prop
  | 0, _, st, st' => st = st'
  | m + 1, k, st, st' => ∃ s1, wst (f k) st s1 ∧ wrn f m (k + 1) s1 st'
/-- a rule's object a with its code c, against the reference's signs -/
def HR (S : PS) (ad : Nat → Nat) (a c : Nat) (m : Int32) (f : Nat → Int32) : Prop := S.K a = 3 ∧ S.R 192 a = some c ∧ S.K c = 20 ∧ (∀ n, isN n → c ≠ ad n) ∧ ∃ n : Nat, 1 ≤ n ∧ n ≤ 200 ∧ m = nI n ∧ S.ln c = n ∧ (∀ k, k < n → S.A c k = phi (f k)) ∧ wrn f n 0 [] [true]
/-- a world w (0 now, 1 kept) of the class against the reference's rows -/
def WR (S : PS) (ad : Nat → Nat) (w : Nat) (sg pt rn st rm ru : Nat → Int32) (np nr ns nh dy no : Nat) : Prop :=
  (np ≤ 10 ∧ nr ≤ 40 ∧ ns ≤ 8 ∧ nh ≤ 8 ∧ dy ≤ 999 ∧ no ≤ 20) ∧
  (S.I 640 (ad (2 + w)) = nI dy ∧ S.I 641 (ad (2 + w)) = nI no ∧ S.I 642 (ad (2 + w)) = sg 2 ∧ S.I 643 (ad (2 + w)) = sg 3 ∧ S.I 644 (ad (2 + w)) = nI np ∧ S.I 645 (ad (2 + w)) = nI nr ∧ S.I 646 (ad (2 + w)) = nI ns ∧ S.I 647 (ad (2 + w)) = nI nh) ∧
  (sg 0 = nI dy ∧ sg 1 = nI no ∧ sg 4 = nI np ∧ sg 5 = nI nr ∧ sg 6 = nI ns ∧ sg 7 = nI nh) ∧
  (∀ i, i < np → PR S (ad (60 + 10 * w + i)) (fun k => pt (9 * i + k))) ∧
  (∀ r, r < nr → S.A (ad (41 + 10 * w)) r = rn (3 * r) ∧ S.A (ad (42 + 10 * w)) r = rn (3 * r + 1) ∧ S.A (ad (43 + 10 * w)) r = rn (3 * r + 2) ∧ (∃ d : Nat, d ≤ dy ∧ rn (3 * r) = nI d) ∧ (rn (3 * r + 1) = 0 ∨ rn (3 * r + 1) = 1)) ∧
  (∀ s, s < ns → ∃ a c, S.Q (ad (44 + 10 * w)) s = some a ∧ SR S ad a c (fun k => st (16 * s + k))) ∧
  (∀ h, h < nh → ∃ a c, S.Q (ad (45 + 10 * w)) h = some a ∧ HR S ad a c (rm h) (fun k => ru (200 * h + k)))
/-- the reference's eight single numbers -/
def sgN (S : PS) (ad : Nat → Nat) : Nat → Int32 := fun k => if k = 0 then S.I 768 (ad 80) else if k = 1 then S.I 769 (ad 80) else if k = 2 then S.I 770 (ad 80) else if k = 3 then S.I 771 (ad 80) else if k = 4 then S.I 772 (ad 80) else if k = 5 then S.I 774 (ad 80) else if k = 6 then S.I 776 (ad 80) else S.I 778 (ad 80)
/-- the world that now is -/
def RN (S : PS) (ad : Nat → Nat) (np nr ns nh dy no : Nat) : Prop := WR S ad 0 (sgN S ad) (S.A (ad 81)) (S.A (ad 82)) (S.A (ad 83)) (S.A (ad 84)) (S.A (ad 85)) np nr ns nh dy no
/-- what is kept -/
def RK (S : PS) (ad : Nat → Nat) : Prop := (S.I 706 (ad 1) = 0 ∧ S.I 818 (ad 80) = 0) ∨ (S.I 706 (ad 1) = 1 ∧ S.I 818 (ad 80) = 1 ∧ ∃ np nr ns nh dy no : Nat, WR S ad 1 (S.A (ad 102)) (fun k => S.A (ad 102) (8 + k)) (fun k => S.A (ad 102) (98 + k)) (fun k => S.A (ad 102) (218 + k)) (fun k => S.A (ad 102) (346 + k)) (fun k => S.A (ad 102) (354 + k)) np nr ns nh dy no)
/-- the tape -/
def RT (S : PS) (ad : Nat → Nat) : Prop := ∃ nt : Nat, nt ≤ 200 ∧ S.I 708 (ad 1) = nI nt ∧ S.I 782 (ad 80) = nI nt ∧ ∀ k, k < nt → S.A (ad 4) k = S.A (ad 86) k ∧ ∃ v : Nat, v < 256 ∧ S.A (ad 86) k = nI v
/-- the rows -/
def RR (S : PS) (ad : Nat → Nat) : Prop := ∃ n : Nat, n ≤ 10 ∧ S.I 717 (ad 1) = nI n ∧ S.I 805 (ad 80) = nI n ∧ ∀ k, k < 3 * n → S.A (ad 12) k = S.A (ad 94) k
/-- sheets -/
def RS (S : PS) (ad : Nat → Nat) : Prop := ∀ s, s < 4 → S.I 320 (ad (22 + s)) = S.A (ad 95) s ∧ S.I 321 (ad (22 + s)) = S.A (ad 96) s ∧ (S.A (ad 95) s = -1 ∨ ∃ v : Nat, v ≤ 3 ∧ S.A (ad 95) s = nI v) ∧ (∃ v : Nat, v ≤ 40 ∧ S.A (ad 96) s = nI v) ∧ ∀ i, i < 40 → (S.A (ad (26 + s)) i).toInt64 = S.B (ad 97) (40 * s + i)
/-- shelves: nothing, a part's number, or a row's sort and size -/
def RF (S : PS) (ad : Nat → Nat) : Prop := ∀ s, s < 4 → (S.I 384 (ad (30 + s)) = 2 ∧ S.A (ad 98) s = -1) ∨ (S.I 384 (ad (30 + s)) = 0 ∧ S.A (ad 98) s = 0 ∧ S.I 385 (ad (30 + s)) = S.A (ad 99) s) ∨ (S.I 384 (ad (30 + s)) = 1 ∧ S.A (ad 98) s = 1 ∧ S.I 386 (ad (30 + s)) = S.A (ad 99) s ∧ S.I 387 (ad (30 + s)) = S.A (ad 100) s ∧ (∃ v : Nat, v ≤ 3 ∧ S.A (ad 99) s = nI v))
/-- the trace -/
def RC (S : PS) (ad : Nat → Nat) : Prop := ∃ n : Nat, n ≤ 30 ∧ S.I 65 (ad 15) = nI n ∧ S.I 816 (ad 80) = nI n ∧ ∀ k, k < n → S.A (ad 21) k = S.A (ad 101) k
/-- THE RELATION between the two objects -/
def InvR (x mm : Nat) (S : PS) : Prop := ∃ ad : Nat → Nat, ad 1 = x ∧ ad 80 = mm ∧ Sh ad S ∧ (∃ np nr ns nh dy no : Nat, RN S ad np nr ns nh dy no) ∧ RK S ad ∧ RT S ad ∧ RR S ad ∧ RS S ad ∧ RF S ad ∧ RC S ad
