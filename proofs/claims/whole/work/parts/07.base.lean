-- ===== THE POOL: every object and array of the run by its address; kinds 1..12 objects (class number and 1), 20 int[], 21 char[], 22 long[], 23.. arrays of references =====
def PS : Type := (Nat → Nat) × (Nat → Nat) × (Nat → Nat → Option Nat) × (Nat → Nat → Option Nat) × (Nat → Nat → Int32) × (Nat → Nat → Int64) × (Nat → Nat → Int32) × (Nat → Nat → Int64)
/-- the kind at an address, 0: nothing -/
def PS.K (S : PS) : Nat → Nat := S.1
/-- an array's length -/
def PS.ln (S : PS) : Nat → Nat := S.2.1
/-- fields that hold references: field, address -/
def PS.R (S : PS) : Nat → Nat → Option Nat := S.2.2.1
/-- arrays of references: address, place -/
def PS.Q (S : PS) : Nat → Nat → Option Nat := S.2.2.2.1
/-- int and boolean fields: field, address -/
def PS.I (S : PS) : Nat → Nat → Int32 := S.2.2.2.2.1
/-- long fields -/
def PS.J (S : PS) : Nat → Nat → Int64 := S.2.2.2.2.2.1
/-- int and char arrays: address, place -/
def PS.A (S : PS) : Nat → Nat → Int32 := S.2.2.2.2.2.2.1
/-- long arrays -/
def PS.B (S : PS) : Nat → Nat → Int64 := S.2.2.2.2.2.2.2
def u2 {α : Type} (f : Nat → Nat → α) (g a : Nat) (v : α) : Nat → Nat → α := fun x y => if x = g ∧ y = a then v else f x y
def PS.setI (S : PS) (g a : Nat) (v : Int32) : PS := (S.K, S.ln, S.R, S.Q, u2 S.I g a v, S.J, S.A, S.B)
def PS.setJ (S : PS) (g a : Nat) (v : Int64) : PS := (S.K, S.ln, S.R, S.Q, S.I, u2 S.J g a v, S.A, S.B)
def PS.setR (S : PS) (g a : Nat) (v : Option Nat) : PS := (S.K, S.ln, u2 S.R g a v, S.Q, S.I, S.J, S.A, S.B)
def PS.setA (S : PS) (a i : Nat) (v : Int32) : PS := (S.K, S.ln, S.R, S.Q, S.I, S.J, u2 S.A a i v, S.B)
def PS.setB (S : PS) (a i : Nat) (v : Int64) : PS := (S.K, S.ln, S.R, S.Q, S.I, S.J, S.A, u2 S.B a i v)
def PS.setQ (S : PS) (a i : Nat) (v : Option Nat) : PS := (S.K, S.ln, S.R, u2 S.Q a i v, S.I, S.J, S.A, S.B)
/-- one row of zeros at q -/
def uz {α : Type} (f : Nat → Nat → α) (q : Nat) (v : α) : Nat → Nat → α := fun x y => if x = q then v else f x y
def uz2 {α : Type} (f : Nat → Nat → α) (q : Nat) (v : α) : Nat → Nat → α := fun x y => if y = q then v else f x y
/-- a new object of kind kd at q -/
def PS.newO (S : PS) (q kd : Nat) : PS := (va_up S.K q kd, S.ln, uz2 S.R q none, S.Q, uz2 S.I q 0, uz2 S.J q 0, S.A, S.B)
/-- a new array of kind kd with n places at q -/
def PS.newA (S : PS) (q kd n : Nat) : PS := (va_up S.K q kd, va_up S.ln q n, S.R, uz S.Q q none, S.I, S.J, uz S.A q 0, uz S.B q 0)
-- the fields' types by kind: 0 int or boolean, 1 long, 2 a reference
def tcs : List (List Nat) := [[], [2,0,0,0,0,0], [0,0,0,0,0,0,0,0,0], [2], [2,2,0], [0,0,2], [0,0,0,0], [0,0,0,2], [2,2,0,0,0], [2,2,2,0,0], [0,0,0,0,0,0,0,0,2,2,2,2,2,2], [2,2,0,2,0,2,2,2,2,2,2,2,2,0,2,2,2], [0,0,0,0,0,2,0,2,0,2,0,2,2,2,0,0,0,0,1,0,0,2,1,1,2,0,2,2,2,0,0,0,0,0,2,2,2,0,2,2,2,2,2,2,0,0,0,2,0,0,0,2,0,2]]
def tcl (kd : Nat) : List Nat := tcs.getD kd []
def tcode (kd j : Nat) : Nat := (tcl kd).getD j 0
def sv (S : PS) (kd a j : Nat) : Value := if tcode kd j = 0 then .int (S.I (64 * kd + j) a) else if tcode kd j = 1 then .long (S.J (64 * kd + j) a) else va_rf (S.R (64 * kd + j) a)
def flds (S : PS) (kd a : Nat) : List Value := (List.range (tcl kd).length).map (sv S kd a)
def cellE (cA : Nat → ClassId) (S : PS) (a : Nat) : va_E := if S.K a < 20 then .inr (S.K a - 1, flds S (S.K a) a) else if S.K a < 22 then .inl (cA (S.K a), S.ln a, .inl (S.A a)) else if S.K a = 22 then .inl (cA 22, S.ln a, .inr (.inl (S.B a))) else .inl (cA (S.K a), S.ln a, .inr (.inr (.inr (.inr (S.Q a)))))
theorem cell_obj {cA : Nat → ClassId} {S : PS} {a ci : Nat} (h : S.K a = ci + 1) (hc : ci < 12) : cellE cA S a = .inr (ci, flds S (ci + 1) a) := by
  unfold cellE
  rw [h, if_pos (by omega)]
  rfl
theorem cell_A {cA : Nat → ClassId} {S : PS} {a kd : Nat} (h : S.K a = kd) (h1 : 20 ≤ kd) (h2 : kd < 22) : cellE cA S a = .inl (cA kd, S.ln a, .inl (S.A a)) := by
  unfold cellE
  rw [h, if_neg (by omega), if_pos h2]
theorem cell_B {cA : Nat → ClassId} {S : PS} {a : Nat} (h : S.K a = 22) : cellE cA S a = .inl (cA 22, S.ln a, .inr (.inl (S.B a))) := by
  unfold cellE
  rw [h, if_neg (by omega), if_neg (by omega), if_pos rfl]
theorem cell_Q {cA : Nat → ClassId} {S : PS} {a kd : Nat} (h : S.K a = kd) (h1 : 23 ≤ kd) : cellE cA S a = .inl (cA kd, S.ln a, .inr (.inr (.inr (.inr (S.Q a))))) := by
  unfold cellE
  rw [h, if_neg (by omega), if_neg (by omega), if_neg (by omega)]
theorem u2_eq {α : Type} {f : Nat → Nat → α} {g a : Nat} {v : α} : u2 f g a v g a = v := if_pos ⟨rfl, rfl⟩
theorem u2_ne {α : Type} {f : Nat → Nat → α} {g a x y : Nat} {v : α} (h : ¬ (x = g ∧ y = a)) : u2 f g a v x y = f x y := if_neg h
theorem fl_get {S : PS} {kd a j : Nat} (hj : j < (tcl kd).length) : (flds S kd a)[j]? = some (sv S kd a j) := by
  unfold flds
  rw [List.getElem?_map, List.getElem?_range hj]
  rfl
theorem fl_len {S : PS} {kd a : Nat} : (flds S kd a).length = (tcl kd).length := by
  unfold flds
  rw [List.length_map, List.length_range]
theorem fl_set {S S' : PS} {kd a j : Nat} {v : Value} (hj : j < (tcl kd).length) (h1 : sv S' kd a j = v) (h2 : ∀ i, i < (tcl kd).length → i ≠ j → sv S' kd a i = sv S kd a i) : (flds S kd a).set j v = flds S' kd a := by
  apply List.ext_getElem?
  intro i
  by_cases hi : i < (tcl kd).length
  · rw [fl_get hi]
    by_cases e : i = j
    · subst e
      rw [List.getElem?_set_self (by rw [fl_len]; exact hi), h1]
    · rw [List.getElem?_set_ne (fun q => e q.symm), fl_get hi, h2 i hi e]
  · rw [List.getElem?_eq_none (by rw [List.length_set, fl_len]; omega), List.getElem?_eq_none (by rw [fl_len]; omega)]
theorem sv_off {S S' : PS} {kd a j : Nat} (hI : S'.I (64 * kd + j) a = S.I (64 * kd + j) a) (hJ : S'.J (64 * kd + j) a = S.J (64 * kd + j) a) (hR : S'.R (64 * kd + j) a = S.R (64 * kd + j) a) : sv S' kd a j = sv S kd a j := by
  unfold sv
  rw [hI, hJ, hR]
theorem tcl_big {kd : Nat} : (tcl kd).length ≤ 54 := by
  unfold tcl
  rcases Nat.lt_or_ge kd 13 with h | h
  · have : ∀ k : Fin 13, (tcs.getD k.val []).length ≤ 54 := by decide
    exact this ⟨kd, h⟩
  · rw [show tcs.getD kd [] = [] from by rw [List.getD_eq_getElem?_getD, List.getElem?_eq_none (show tcs.length ≤ kd from h)]; rfl]
    exact Nat.zero_le _
theorem flds_off {S S' : PS} {kd b : Nat} (h : ∀ j, j < 54 → sv S' kd b j = sv S kd b j) : flds S' kd b = flds S kd b := by
  unfold flds
  apply List.map_congr_left
  intro j hj
  exact h j (Nat.lt_of_lt_of_le (List.mem_range.mp hj) tcl_big)
/-- a put of one field of one object: the cells behind it -/
theorem cell_put {cA : Nat → ClassId} {S S' : PS} {a ci j : Nat} {v : Value} (hK : S'.K = S.K) (hl : S'.ln = S.ln) (hA : S'.A = S.A) (hB : S'.B = S.B) (hQ : S'.Q = S.Q) (hka : S.K a = ci + 1) (hci : ci < 12) (hj : j < (tcl (ci + 1)).length)
    (hv : sv S' (ci + 1) a j = v) (ho : ∀ g b, ¬ (g = 64 * (ci + 1) + j ∧ b = a) → S'.I g b = S.I g b ∧ S'.J g b = S.J g b ∧ S'.R g b = S.R g b) :
    ∀ b, va_up (cellE cA S) a (.inr (ci, (flds S (ci + 1) a).set j v)) b = cellE cA S' b := by
  intro b
  by_cases hb : b = a
  · subst hb
    rw [va_up_self, cell_obj (by rw [hK]; exact hka) hci, fl_set (S' := S') hj hv]
    intro i hi hne
    obtain ⟨h1, h2, h3⟩ := ho (64 * (ci + 1) + i) b (fun q => hne (by omega))
    exact sv_off h1 h2 h3
  · rw [va_up_ne _ _ hb]
    unfold cellE
    rw [hK, hl, hA, hB, hQ]
    by_cases hk : S.K b < 20
    · rw [if_pos hk, if_pos hk, flds_off (S' := S') (S := S)]
      intro j _
      obtain ⟨h1, h2, h3⟩ := ho (64 * (S.K b) + j) b (fun q => hb q.2)
      exact sv_off h1 h2 h3
    · rw [if_neg hk, if_neg hk]
theorem cell_same {cA : Nat → ClassId} {S S' : PS} {b : Nat} (hK : S'.K b = S.K b) (hl : S'.ln b = S.ln b) (hI : ∀ g, S'.I g b = S.I g b) (hJ : ∀ g, S'.J g b = S.J g b) (hR : ∀ g, S'.R g b = S.R g b) (hA : S'.A b = S.A b) (hB : S'.B b = S.B b) (hQ : S'.Q b = S.Q b) : cellE cA S' b = cellE cA S b := by
  unfold cellE
  rw [hK, hl, hA, hB, hQ, flds_off (S' := S') (S := S) (fun j _ => sv_off (hI _) (hJ _) (hR _))]
-- ===== what holds of the heap: the pool stands there, and nothing of it is older than z0 =====
def zA (z0 : Nat) : Nat → Prop := fun q => z0 ≤ q
def tyA (cA : Nat → ClassId) : List (ClassId × FieldType) := [(cA 20, .int), (cA 21, .char), (cA 22, .long), (cA 23, .object RX1), (cA 24, .object RX2), (cA 25, .object RX4), (cA 26, .object RX5), (cA 27, .object RX6)]
/-- names of cells: class and slot numbers, and where the text constants and their rows of bytes lie -/
def DX : Type := va_G × (Nat → Nat) × (Nat → Nat)
/-- the text constants: their places in the class's constants, texts, lengths, bytes -/
def STi : List Nat := [68, 70, 72, 74, 76, 78, 80, 82, 84, 86, 88, 90, 92, 94, 96, 98]
def STx : List String := ["nothing", "light", "by", "part", "from", "and", "or", "not", "day", "runs", "soon", "tried", "spent", "miss", "signed", ""]
def STl : List Nat := [7, 5, 2, 4, 4, 3, 2, 3, 3, 4, 4, 5, 5, 4, 6, 0]
def STb : List (List Int32) := [[110, 111, 116, 104, 105, 110, 103], [108, 105, 103, 104, 116], [98, 121], [112, 97, 114, 116], [102, 114, 111, 109], [97, 110, 100], [111, 114], [110, 111, 116], [100, 97, 121], [114, 117, 110, 115], [115, 111, 111, 110], [116, 114, 105, 101, 100], [115, 112, 101, 110, 116], [109, 105, 115, 115], [115, 105, 103, 110, 101, 100], []]
/-- what stays as it is all through the run: the text constants, two statics, links of nest mates, classes of arrays -/
def EX (D : DX) (z0 : Nat) (U : State) : Prop := vk_S 16 STl STb D.2.1 D.2.2 (zA z0) U U.heap ∧ (∀ i, i < 16 → vk_R RX8 (STi.getD i 0) (STx.getD i "") (D.2.1 i) U) ∧ va_Z "java/lang/String" "COMPACT_STRINGS" "Z" (.int 1) (zA z0) U U.heap ∧ va_Zq "jdk/internal/util/Preconditions" "SIOOBE_FORMATTER" "Ljava/util/function/BiFunction;" (zA z0) U U.heap ∧
  va_Nw (.methodLinkNest RX9 64 yX1_init RX10) U ∧ va_Nw (.methodLinkNest RX10 33 yX8_init RX10) U ∧ va_Nw (.methodLinkNest RX10 87 yX0_init RX10) U ∧ va_Nw (.methodLinkNest RX10 92 yX4_init RX10) U ∧ va_Nw (.methodLinkNest RX10 93 yX5_init RX10) U ∧
  va_AO RX1 U ∧ va_AO RX6 U ∧ va_AO RX2 U ∧ va_AO RX4 U ∧ va_AO RX5 U ∧ va_Nw (.castable "[I" "java/lang/Cloneable") U
theorem EX.next {D : DX} {z0 : Nat} {s t : State} {H : Heap} {locs : List Loc} (h : EX D z0 s) (hW : s.WarmedH t.vm) (hS : va_S (zA z0) s.heap H locs) (ht : t.heap = H) : EX D z0 t := by
  obtain ⟨h1, h2, h3, h4, n1, n2, n3, n4, n5, o1, o2, o3, o4, o5, o6⟩ := h
  have hk : ∀ a : Nat, a < s.heap.size → ¬ (zA z0) a → t.heap[a]? = s.heap[a]? := fun a x y => by rw [ht]; exact hS.2.1 a x y
  exact ⟨(vk_S.moved hW.alike h1).kept hk, fun i hi => (h2 i hi).warm hW, (va_Z.moved hW.alike h3).kept hk, (va_Zq.moved hW.alike h4).kept hk, n1.warmM hW, n2.warmM hW, n3.warmM hW, n4.warmM hW, n5.warmM hW, o1.moved hW.alike, o2.moved hW.alike, o3.moved hW.alike, o4.moved hW.alike, o5.moved hW.alike, o6.warmC hW⟩
theorem EX.calling {D : DX} {z0 : Nat} {U : State} {g : JFrame} {mk : MethodId} {a : Array Value} (h : EX D z0 U) : EX D z0 (U.calling g mk a) := by
  obtain ⟨h1, h2, h3, h4, n1, n2, n3, n4, n5, o1, o2, o3, o4, o5, o6⟩ := h
  have ha : U.vm.Alike (U.calling g mk a).vm := Vm.Alike.refl U.vm
  exact ⟨vk_S.moved ha h1, fun i hi => vk_R.same rfl (h2 i hi), va_Z.moved ha h3, va_Zq.moved ha h4, n1.same rfl rfl, n2.same rfl rfl, n3.same rfl rfl, n4.same rfl rfl, n5.same rfl rfl, o1.moved ha, o2.moved ha, o3.moved ha, o4.moved ha, o5.moved ha, o6.same rfl rfl⟩
def XW (D : DX) (cA : Nat → ClassId) (z0 : Nat) (S : PS) (H : Heap) : Prop := ∃ L : List Nat, (∀ a, a ∈ L ↔ S.K a ≠ 0) ∧ va_P D.1 vwCl (va_pl L (cellE cA S)) H ∧ va_D (zA z0) (va_pl L (cellE cA S))
def XV (D : DX) (cA : Nat → ClassId) (z0 : Nat) (s : State) (S : PS) (H : Heap) (locs : List Loc) : Prop := XW D cA z0 S H ∧ va_S (zA z0) s.heap H locs
def XK (D : DX) (cA : Nat → ClassId) (z0 : Nat) (S : PS) (U : State) : Prop := va_K D.1 vwCl (tyA cA) U ∧ z0 ≤ U.heap.size ∧ XW D cA z0 S U.heap ∧ EX D z0 U
def TBL : List Cond := lw_tbl.filter goodWord
theorem tb_in {w : Cond} (i : Nat) (h : lw_tbl[i]? = some w) (hg : goodWord w = true) : w ∈ TBL := List.mem_filter.mpr ⟨List.mem_of_getElem? h, hg⟩
theorem tb_good {Ts : List Cond} (h : ∀ w ∈ TBL, w ∈ Ts) : GoodIn Ts TBL := fun w hw => ⟨h w hw, good_of_word (List.mem_filter.mp hw).2⟩
/-- what holds all through a method's body -/
def CX (p : Program) (s : State) (m : MethodId) (args : Array Value) (meth : Method) (c : Code) (cc : ByteArray) (nL : Nat) (own : String) (ret : Option FieldType) (D : DX) (cA : Nat → ClassId) (z0 : Nat) : Prop :=
  p.tables.exec = Jvm.exec ∧ c.code = cc ∧ c.maxLocals = nL ∧ s.vm.findClass own = some m.cls ∧ (∀ w ∈ TBL, w.before args s = true) ∧ va_K D.1 vwCl (tyA cA) s ∧ (z0 ≤ s.heap.size ∧ EX D z0 s) ∧ meth.locks = false ∧ meth.sig.returnType = ret
/-- a class: its names are the tables' -/
def CF (ci : Nat) : Prop := ∃ (C : String) (T : u_T) (N : Nat) (ty0 : Nat → FieldType), vwCl[ci]? = some (C, T, N) ∧ ci < 12 ∧ N = (tcl (ci + 1)).length ∧ (∀ w ∈ u_ws C T N, w ∈ TBL) ∧ (∀ k, k < N → parseFieldDescriptor (T k).2.2.1 = some (ty0 k)) ∧ (∀ a, a < N → ∀ b, b < N → a ≠ b → (T a).2.1 ≠ (T b).2.1)
/-- a field as a class's constant names it: kind kd, field g, its type -/
def FL (own : String) (idx kd g t : Nat) : Prop := ∃ (ci j : Nat) (C : String) (T : u_T) (N : Nat) (ty0 : Nat → FieldType), kd = ci + 1 ∧ g = 64 * kd + j ∧ (vwCl[ci]? = some (C, T, N) ∧ ci < 12 ∧ N = (tcl (ci + 1)).length ∧ (∀ w ∈ u_ws C T N, w ∈ TBL) ∧ (∀ k, k < N → parseFieldDescriptor (T k).2.2.1 = some (ty0 k)) ∧ (∀ a, a < N → ∀ b, b < N → a ≠ b → (T a).2.1 ≠ (T b).2.1)) ∧ j < N ∧ tcode (ci + 1) j = t ∧ Cond.fieldLink own idx (T j).1 (T j).2.1 (T j).2.2.1 ∈ TBL
theorem FL.mk {own : String} {idx kd g t : Nat} (ci j : Nat) {C : String} {T : u_T} {N : Nat} {ty0 : Nat → FieldType} (h : vwCl[ci]? = some (C, T, N) ∧ ci < 12 ∧ N = (tcl (ci + 1)).length ∧ (∀ w ∈ u_ws C T N, w ∈ TBL) ∧ (∀ k, k < N → parseFieldDescriptor (T k).2.2.1 = some (ty0 k)) ∧ (∀ a, a < N → ∀ b, b < N → a ≠ b → (T a).2.1 ≠ (T b).2.1)) (hk : kd = ci + 1) (hg : g = 64 * kd + j) (hj : j < N) (ht : tcode (ci + 1) j = t) (hw : Cond.fieldLink own idx (T j).1 (T j).2.1 (T j).2.2.1 ∈ TBL) : FL own idx kd g t := ⟨ci, j, C, T, N, ty0, hk, hg, h, hj, ht, hw⟩
/-- a field that may be written: its type, not final (fin false), or final and written in a constructor of its class -/
def FP (own : String) (idx kd g t : Nat) (fin : Bool) (ty : FieldType) : Prop := ∃ (ci j : Nat) (C : String) (T : u_T) (N : Nat) (ty0 : Nat → FieldType), (kd = ci + 1 ∧ g = 64 * kd + j ∧ (vwCl[ci]? = some (C, T, N) ∧ ci < 12 ∧ N = (tcl (ci + 1)).length ∧ (∀ w ∈ u_ws C T N, w ∈ TBL) ∧ (∀ k, k < N → parseFieldDescriptor (T k).2.2.1 = some (ty0 k)) ∧ (∀ a, a < N → ∀ b, b < N → a ≠ b → (T a).2.1 ≠ (T b).2.1)) ∧ j < N ∧ tcode (ci + 1) j = t ∧ Cond.fieldLink own idx (T j).1 (T j).2.1 (T j).2.2.1 ∈ TBL) ∧ (T j).2.2.2 = fin ∧ (fin = true → (T j).1 = own) ∧ parseFieldDescriptor (T j).2.2.1 = some ty
theorem FP.mk {own : String} {idx kd g t : Nat} {fin : Bool} {ty : FieldType} (ci j : Nat) {C : String} {T : u_T} {N : Nat} {ty0 : Nat → FieldType} (h : vwCl[ci]? = some (C, T, N) ∧ ci < 12 ∧ N = (tcl (ci + 1)).length ∧ (∀ w ∈ u_ws C T N, w ∈ TBL) ∧ (∀ k, k < N → parseFieldDescriptor (T k).2.2.1 = some (ty0 k)) ∧ (∀ a, a < N → ∀ b, b < N → a ≠ b → (T a).2.1 ≠ (T b).2.1)) (hk : kd = ci + 1) (hg : g = 64 * kd + j) (hj : j < N) (ht : tcode (ci + 1) j = t) (hw : Cond.fieldLink own idx (T j).1 (T j).2.1 (T j).2.2.1 ∈ TBL) (hf : (T j).2.2.2 = fin) (ho : fin = true → (T j).1 = own) (hp : parseFieldDescriptor (T j).2.2.1 = some ty) : FP own idx kd g t fin ty := ⟨ci, j, C, T, N, ty0, ⟨hk, hg, h, hj, ht, hw⟩, hf, ho, hp⟩
theorem ite_t {c : Prop} [Decidable c] {A B : Prop} (h : c) (x : if c then A else B) : A := by rwa [if_pos h] at x
theorem ite_f {c : Prop} [Decidable c] {A B : Prop} (h : ¬ c) (x : if c then A else B) : B := by rwa [if_neg h] at x
theorem nz_b {v : Int32} (h : v = 0 ∨ v = 1) : narrow .boolean (.int v) = .int v ∧ fits .boolean (.int v) = true := by rcases h with rfl | rfl <;> exact ⟨by decide, by decide⟩
theorem kp_I {S S1 : PS} {g a b k : Nat} {v : Int32} (e : S1 = S.setI g a v) (h : S.K b = k) : S1.K b = k := by rw [e]; exact h
theorem kp_J {S S1 : PS} {g a b k : Nat} {v : Int64} (e : S1 = S.setJ g a v) (h : S.K b = k) : S1.K b = k := by rw [e]; exact h
theorem kp_R {S S1 : PS} {g a b k : Nat} {v : Option Nat} (e : S1 = S.setR g a v) (h : S.K b = k) : S1.K b = k := by rw [e]; exact h
theorem kp_A {S S1 : PS} {g a b k : Nat} {v : Int32} (e : S1 = S.setA g a v) (h : S.K b = k) : S1.K b = k := by rw [e]; exact h
theorem kp_B {S S1 : PS} {g a b k : Nat} {v : Int64} (e : S1 = S.setB g a v) (h : S.K b = k) : S1.K b = k := by rw [e]; exact h
theorem kp_Q {S S1 : PS} {g a b k : Nat} {v : Option Nat} (e : S1 = S.setQ g a v) (h : S.K b = k) : S1.K b = k := by rw [e]; exact h
theorem kp_O {S S1 : PS} {q kd b k : Nat} (e : S1 = S.newO q kd) (hq : S.K q = 0) (h : S.K b = k) (hk : k ≠ 0) : S1.K b = k := by
  rw [e]
  show va_up S.K q kd b = k
  rw [va_up_ne _ _ (fun x => hk (by rw [← h, x, hq]))]
  exact h
theorem kp_N {S S1 : PS} {q kd b k n : Nat} (e : S1 = S.newA q kd n) (hq : S.K q = 0) (h : S.K b = k) (hk : k ≠ 0) : S1.K b = k := by
  rw [e]
  show va_up S.K q kd b = k
  rw [va_up_ne _ _ (fun x => hk (by rw [← h, x, hq]))]
  exact h
theorem kq_O {S S1 : PS} {q kd : Nat} (e : S1 = S.newO q kd) : S1.K q = kd := by
  rw [e]
  exact va_up_self _ _ _
theorem kq_N {S S1 : PS} {q kd n : Nat} (e : S1 = S.newA q kd n) : S1.K q = kd := by
  rw [e]
  exact va_up_self _ _ _
