section
variable {p : Program} {l : Launch} {e : Env} {R : Room} {s : State} {m : MethodId} {args : Array Value} {below : List Frame} {meth : Method} {c : Code} {H : Heap} {locs : List Loc} {cells slots : Nat} {Q : State → Prop}
variable {cc : ByteArray} {nL pc : Nat} {own : String} {ret : Option FieldType} {D : DX} {cA : Nat → ClassId} {z0 : Nat} {ls : Array Slot} {rest : List Value} {S : PS} {a kd g idx : Nat}
theorem XW.at (h : XW D cA z0 S H) (ha : S.K a ≠ 0) : ∃ (L : List Nat) (k : Nat), a ∈ L ∧ va_P D.1 vwCl (va_pl L (cellE cA S)) H ∧ va_D (zA z0) (va_pl L (cellE cA S)) ∧ (∀ a, a ∈ L ↔ S.K a ≠ 0) ∧ (va_pl L (cellE cA S))[k]? = some (a, cellE cA S a) := by
  obtain ⟨L, hL, hP, hD⟩ := h
  obtain ⟨k, hk⟩ := va_pl_get (X := []) (f := cellE cA S) ((hL a).mpr ha)
  exact ⟨L, k, (hL a).mpr ha, hP, hD, hL, hk⟩
/-- behind a write of one cell -/
theorem XW.put {L : List Nat} {k : Nat} {H1 : Heap} {S' : PS} {x : va_E} (ha : a ∈ L) (hL : ∀ a, a ∈ L ↔ S.K a ≠ 0) (hD0 : va_D (zA z0) (va_pl L (cellE cA S))) (hk : (va_pl L (cellE cA S))[k]? = some (a, cellE cA S a)) (hK : S'.K = S.K) (hc : ∀ b, va_up (cellE cA S) a x b = cellE cA S' b)
    (hP : va_P D.1 vwCl ((va_pl L (cellE cA S)).set k (a, x)) H1) (hD : va_D (zA z0) ((va_pl L (cellE cA S)).set k (a, x))) : XW D cA z0 S' H1 := by
  have e1 : (va_pl L (cellE cA S)).set k (a, x) = va_pl L (cellE cA S') := by
    have := va_pl_set (X := []) (e := x) hD0 ha hk
    rw [List.nil_append] at this
    rw [List.nil_append] at this
    rw [this]
    exact va_pl_congr hc
  rw [e1] at hP hD
  exact ⟨L, fun b => by rw [hK]; exact hL b, hP, hD⟩
theorem x_getI (C : CX p s m args meth c cc nL own ret D cA z0) (hV : XV D cA z0 s S H locs) (f : FL own idx kd g 0) (hk : S.K a = kd) (hd : decode cc pc = .ok (.getfield idx, 3))
    (kk : W p l e R s m args below meth c H locs cells slots Q (F0 m (pc + 3) ls (.int (S.I g a) :: rest))) : W p l e R s m args below meth c H locs cells slots Q (F0 m pc ls (.ref a :: rest)) := by
  obtain ⟨hx, hb, hml, hown, hts, hK, hz, hlk, hr⟩ := C
  obtain ⟨ci, j, Cn, T, N, ty0, rfl, rfl, ⟨h1, h2, h3, h4, h5, h6⟩, hj, ht, hw⟩ := f
  obtain ⟨L, k, hL, hP, hD, hLL, hg⟩ := hV.1.at (a := a) (by rw [hk]; omega)
  rw [cell_obj hk h2] at hg
  have hg2 := fl_get (S := S) (kd := ci + 1) (a := a) (j := j) (by rw [← h3]; exact hj)
  have hs : sv S (ci + 1) a j = .int (S.I (64 * (ci + 1) + j) a) := by unfold sv; rw [if_pos ht]
  rw [hs] at hg2
  exact va_get hx hb hts h4 hown hK hP k hg h1 j hj (hts _ hw) (fun _ h => h) hg2 hd kk
theorem x_getJ (C : CX p s m args meth c cc nL own ret D cA z0) (hV : XV D cA z0 s S H locs) (f : FL own idx kd g 1) (hk : S.K a = kd) (hd : decode cc pc = .ok (.getfield idx, 3))
    (kk : W p l e R s m args below meth c H locs cells slots Q (F0 m (pc + 3) ls (.long (S.J g a) :: rest))) : W p l e R s m args below meth c H locs cells slots Q (F0 m pc ls (.ref a :: rest)) := by
  obtain ⟨hx, hb, hml, hown, hts, hK, hz, hlk, hr⟩ := C
  obtain ⟨ci, j, Cn, T, N, ty0, rfl, rfl, ⟨h1, h2, h3, h4, h5, h6⟩, hj, ht, hw⟩ := f
  obtain ⟨L, k, hL, hP, hD, hLL, hg⟩ := hV.1.at (a := a) (by rw [hk]; omega)
  rw [cell_obj hk h2] at hg
  have hg2 := fl_get (S := S) (kd := ci + 1) (a := a) (j := j) (by rw [← h3]; exact hj)
  have hs : sv S (ci + 1) a j = .long (S.J (64 * (ci + 1) + j) a) := by unfold sv; rw [if_neg (by rw [ht]; decide), if_pos ht]
  rw [hs] at hg2
  exact va_get hx hb hts h4 hown hK hP k hg h1 j hj (hts _ hw) (fun _ h => h) hg2 hd kk
theorem x_getR {x : Nat} (C : CX p s m args meth c cc nL own ret D cA z0) (hV : XV D cA z0 s S H locs) (f : FL own idx kd g 2) (hk : S.K a = kd) (hp : S.R g a = some x) (hd : decode cc pc = .ok (.getfield idx, 3))
    (kk : W p l e R s m args below meth c H locs cells slots Q (F0 m (pc + 3) ls (.ref x :: rest))) : W p l e R s m args below meth c H locs cells slots Q (F0 m pc ls (.ref a :: rest)) := by
  obtain ⟨hx, hb, hml, hown, hts, hK, hz, hlk, hr⟩ := C
  obtain ⟨ci, j, Cn, T, N, ty0, rfl, rfl, ⟨h1, h2, h3, h4, h5, h6⟩, hj, ht, hw⟩ := f
  obtain ⟨L, k, hL, hP, hD, hLL, hg⟩ := hV.1.at (a := a) (by rw [hk]; omega)
  rw [cell_obj hk h2] at hg
  have hg2 := fl_get (S := S) (kd := ci + 1) (a := a) (j := j) (by rw [← h3]; exact hj)
  have hs : sv S (ci + 1) a j = .ref x := by unfold sv; rw [if_neg (by rw [ht]; decide), if_neg (by rw [ht]; decide), hp]; rfl
  rw [hs] at hg2
  exact va_get hx hb hts h4 hown hK hP k hg h1 j hj (hts _ hw) (fun _ h => h) hg2 hd kk
theorem x_putI {ty : FieldType} {v : Int32} {S' : PS} (C : CX p s m args meth c cc nL own ret D cA z0) (hV : XV D cA z0 s S H locs) (f : FP own idx kd g 0 false ty) (hk : S.K a = kd) (hn : narrow ty (.int v) = .int v ∧ fits ty (.int v) = true) (eS : S' = S.setI g a v) (hd : decode cc pc = .ok (.putfield idx, 3))
    (kk : ∀ (H1 : Heap) (locs1 : List Loc), XV D cA z0 s S' H1 locs1 → W p l e R s m args below meth c H1 locs1 cells slots Q (F0 m (pc + 3) ls rest)) : W p l e R s m args below meth c H locs cells slots Q (F0 m pc ls (.int v :: .ref a :: rest)) := by
  obtain ⟨hx, hb, hml, hown, hts, hK, hz, hlk, hr⟩ := C
  obtain ⟨ci, j, Cn, T, N, ty0, ⟨rfl, rfl, ⟨h1, h2, h3, h4, h5, h6⟩, hj, ht, hw⟩, g2, -, g3⟩ := f
  obtain ⟨L, k, hL, hP, hD, hLL, hg⟩ := hV.1.at (a := a) (by rw [hk]; omega)
  have hg' := hg
  rw [cell_obj hk h2] at hg'
  refine va_put hx hb hts h4 ty0 h5 h6 hown hK hP hD hV.2 k hg' h1 j hj (hts _ hw) (fun _ h => h) g2 g3 hn.1 hn.2 (by rw [fl_len, ← h3]; exact hj) hd (fun H1 locs1 hP1 hD1 hS1 => kk H1 locs1 ⟨XW.put hL hLL hD hg (S' := S') (by rw [eS]; rfl) (cell_put (by rw [eS]; rfl) (by rw [eS]; rfl) (by rw [eS]; rfl) (by rw [eS]; rfl) (by rw [eS]; rfl) hk h2 (by rw [← h3]; exact hj) ?_ ?_) hP1 hD1, hS1⟩)
  · unfold sv
    rw [if_pos ht, eS]
    exact congrArg Value.int u2_eq
  · intro g b hgb
    rw [eS]
    exact ⟨u2_ne hgb, rfl, rfl⟩
theorem x_putJ {v : Int64} {S' : PS} (C : CX p s m args meth c cc nL own ret D cA z0) (hV : XV D cA z0 s S H locs) (f : FP own idx kd g 1 false .long) (hk : S.K a = kd) (eS : S' = S.setJ g a v) (hd : decode cc pc = .ok (.putfield idx, 3))
    (kk : ∀ (H1 : Heap) (locs1 : List Loc), XV D cA z0 s S' H1 locs1 → W p l e R s m args below meth c H1 locs1 cells slots Q (F0 m (pc + 3) ls rest)) : W p l e R s m args below meth c H locs cells slots Q (F0 m pc ls (.long v :: .ref a :: rest)) := by
  obtain ⟨hx, hb, hml, hown, hts, hK, hz, hlk, hr⟩ := C
  obtain ⟨ci, j, Cn, T, N, ty0, ⟨rfl, rfl, ⟨h1, h2, h3, h4, h5, h6⟩, hj, ht, hw⟩, g2, -, g3⟩ := f
  obtain ⟨L, k, hL, hP, hD, hLL, hg⟩ := hV.1.at (a := a) (by rw [hk]; omega)
  have hg' := hg
  rw [cell_obj hk h2] at hg'
  refine va_put hx hb hts h4 ty0 h5 h6 hown hK hP hD hV.2 k hg' h1 j hj (hts _ hw) (fun _ h => h) g2 g3 rfl rfl (by rw [fl_len, ← h3]; exact hj) hd (fun H1 locs1 hP1 hD1 hS1 => kk H1 locs1 ⟨XW.put hL hLL hD hg (S' := S') (by rw [eS]; rfl) (cell_put (by rw [eS]; rfl) (by rw [eS]; rfl) (by rw [eS]; rfl) (by rw [eS]; rfl) (by rw [eS]; rfl) hk h2 (by rw [← h3]; exact hj) ?_ ?_) hP1 hD1, hS1⟩)
  · unfold sv
    rw [if_neg (by rw [ht]; decide), if_pos ht, eS]
    exact congrArg Value.long u2_eq
  · intro g b hgb
    rw [eS]
    exact ⟨rfl, u2_ne hgb, rfl⟩
/-- a final reference field, in the constructor -/
theorem x_putFR {x : Nat} {ty : FieldType} {S' : PS} (C : CX p s m args meth c cc nL own ret D cA z0) (hin : meth.name = "<init>") (hV : XV D cA z0 s S H locs) (f : FP own idx kd g 2 true ty) (hk : S.K a = kd) (hn : narrow ty (.ref x) = .ref x ∧ fits ty (.ref x) = true) (eS : S' = S.setR g a (some x)) (hd : decode cc pc = .ok (.putfield idx, 3))
    (kk : ∀ (H1 : Heap) (locs1 : List Loc), XV D cA z0 s S' H1 locs1 → W p l e R s m args below meth c H1 locs1 cells slots Q (F0 m (pc + 3) ls rest)) : W p l e R s m args below meth c H locs cells slots Q (F0 m pc ls (.ref x :: .ref a :: rest)) := by
  obtain ⟨hx, hb, hml, hown, hts, hK, hz, hlk, hr⟩ := C
  obtain ⟨ci, j, Cn, T, N, ty0, ⟨rfl, rfl, ⟨h1, h2, h3, h4, h5, h6⟩, hj, ht, hw⟩, g2, g4, g3⟩ := f
  have g4 := g4 rfl
  obtain ⟨L, k, hL, hP, hD, hLL, hg⟩ := hV.1.at (a := a) (by rw [hk]; omega)
  have hg' := hg
  rw [cell_obj hk h2] at hg'
  refine va_putF hx hb hts h4 ty0 h5 h6 hown hK hP hD hV.2 k hg' h1 j hj (hts _ hw) (fun _ h => h) g2 hin g4 g3 hn.1 hn.2 (by rw [fl_len, ← h3]; exact hj) hd (fun H1 locs1 hP1 hD1 hS1 => kk H1 locs1 ⟨XW.put hL hLL hD hg (S' := S') (by rw [eS]; rfl) (cell_put (by rw [eS]; rfl) (by rw [eS]; rfl) (by rw [eS]; rfl) (by rw [eS]; rfl) (by rw [eS]; rfl) hk h2 (by rw [← h3]; exact hj) ?_ ?_) hP1 hD1, hS1⟩)
  · unfold sv
    rw [if_neg (by rw [ht]; decide), if_neg (by rw [ht]; decide), eS]
    exact congrArg va_rf u2_eq
  · intro g b hgb
    rw [eS]
    exact ⟨rfl, rfl, u2_ne hgb⟩
theorem x_putFI {ty : FieldType} {v : Int32} {S' : PS} (C : CX p s m args meth c cc nL own ret D cA z0) (hin : meth.name = "<init>") (hV : XV D cA z0 s S H locs) (f : FP own idx kd g 0 true ty) (hk : S.K a = kd) (hn : narrow ty (.int v) = .int v ∧ fits ty (.int v) = true) (eS : S' = S.setI g a v) (hd : decode cc pc = .ok (.putfield idx, 3))
    (kk : ∀ (H1 : Heap) (locs1 : List Loc), XV D cA z0 s S' H1 locs1 → W p l e R s m args below meth c H1 locs1 cells slots Q (F0 m (pc + 3) ls rest)) : W p l e R s m args below meth c H locs cells slots Q (F0 m pc ls (.int v :: .ref a :: rest)) := by
  obtain ⟨hx, hb, hml, hown, hts, hK, hz, hlk, hr⟩ := C
  obtain ⟨ci, j, Cn, T, N, ty0, ⟨rfl, rfl, ⟨h1, h2, h3, h4, h5, h6⟩, hj, ht, hw⟩, g2, g4, g3⟩ := f
  have g4 := g4 rfl
  obtain ⟨L, k, hL, hP, hD, hLL, hg⟩ := hV.1.at (a := a) (by rw [hk]; omega)
  have hg' := hg
  rw [cell_obj hk h2] at hg'
  refine va_putF hx hb hts h4 ty0 h5 h6 hown hK hP hD hV.2 k hg' h1 j hj (hts _ hw) (fun _ h => h) g2 hin g4 g3 hn.1 hn.2 (by rw [fl_len, ← h3]; exact hj) hd (fun H1 locs1 hP1 hD1 hS1 => kk H1 locs1 ⟨XW.put hL hLL hD hg (S' := S') (by rw [eS]; rfl) (cell_put (by rw [eS]; rfl) (by rw [eS]; rfl) (by rw [eS]; rfl) (by rw [eS]; rfl) (by rw [eS]; rfl) hk h2 (by rw [← h3]; exact hj) ?_ ?_) hP1 hD1, hS1⟩)
  · unfold sv
    rw [if_pos ht, eS]
    exact congrArg Value.int u2_eq
  · intro g b hgb
    rw [eS]
    exact ⟨u2_ne hgb, rfl, rfl⟩
-- arrays
theorem x_iald {i : Int32} (C : CX p s m args meth c cc nL own ret D cA z0) (hV : XV D cA z0 s S H locs) (hk : S.K a = 20) (hin : vp_in i (S.ln a)) (hd : decode cc pc = .ok (.iaload, 1))
    (kk : W p l e R s m args below meth c H locs cells slots Q (F0 m (pc + 1) ls (.int (S.A a i.toNatClampNeg) :: rest))) : W p l e R s m args below meth c H locs cells slots Q (F0 m pc ls (.int i :: .ref a :: rest)) := by
  obtain ⟨hx, hb, hml, hown, hts, hK, hz, hlk, hr⟩ := C
  obtain ⟨L, k, hL, hP, hD, hLL, hg⟩ := hV.1.at (a := a) (by rw [hk]; omega)
  rw [cell_A hk (by omega) (by omega)] at hg
  exact va_iald hx hb hK hP k 0 hg rfl hin hd kk
theorem x_cald {i : Int32} (C : CX p s m args meth c cc nL own ret D cA z0) (hV : XV D cA z0 s S H locs) (hk : S.K a = 21) (hin : vp_in i (S.ln a)) (hd : decode cc pc = .ok (.caload, 1))
    (kk : W p l e R s m args below meth c H locs cells slots Q (F0 m (pc + 1) ls (.int (S.A a i.toNatClampNeg) :: rest))) : W p l e R s m args below meth c H locs cells slots Q (F0 m pc ls (.int i :: .ref a :: rest)) := by
  obtain ⟨hx, hb, hml, hown, hts, hK, hz, hlk, hr⟩ := C
  obtain ⟨L, k, hL, hP, hD, hLL, hg⟩ := hV.1.at (a := a) (by rw [hk]; omega)
  rw [cell_A hk (by omega) (by omega)] at hg
  exact va_cald hx hb hK hP k 1 hg rfl hin hd kk
theorem x_lald {i : Int32} (C : CX p s m args meth c cc nL own ret D cA z0) (hV : XV D cA z0 s S H locs) (hk : S.K a = 22) (hin : vp_in i (S.ln a)) (hd : decode cc pc = .ok (.laload, 1))
    (kk : W p l e R s m args below meth c H locs cells slots Q (F0 m (pc + 1) ls (.long (S.B a i.toNatClampNeg) :: rest))) : W p l e R s m args below meth c H locs cells slots Q (F0 m pc ls (.int i :: .ref a :: rest)) := by
  obtain ⟨hx, hb, hml, hown, hts, hK, hz, hlk, hr⟩ := C
  obtain ⟨L, k, hL, hP, hD, hLL, hg⟩ := hV.1.at (a := a) (by rw [hk]; omega)
  rw [cell_B hk] at hg
  exact va_lald hx hb hK hP k 2 hg rfl hin hd kk
theorem x_aald {i : Int32} {kd x : Nat} {Cn : String} (C : CX p s m args meth c cc nL own ret D cA z0) (hV : XV D cA z0 s S H locs) (hk : S.K a = kd) (hkd : 23 ≤ kd) (ht : (tyA cA)[kd - 20]? = some (cA kd, .object Cn)) (hin : vp_in i (S.ln a)) (hp : S.Q a i.toNatClampNeg = some x) (hd : decode cc pc = .ok (.aaload, 1))
    (kk : W p l e R s m args below meth c H locs cells slots Q (F0 m (pc + 1) ls (.ref x :: rest))) : W p l e R s m args below meth c H locs cells slots Q (F0 m pc ls (.int i :: .ref a :: rest)) := by
  obtain ⟨hx, hb, hml, hown, hts, hK, hz, hlk, hr⟩ := C
  obtain ⟨L, k, hL, hP, hD, hLL, hg⟩ := hV.1.at (a := a) (by rw [hk]; omega)
  rw [cell_Q hk hkd] at hg
  refine va_aldq hx hb hK hP k (kd - 20) hg ht hin hd ?_
  rw [hp]
  exact kk
theorem x_alen {kd : Nat} {ty : FieldType} (C : CX p s m args meth c cc nL own ret D cA z0) (hV : XV D cA z0 s S H locs) (hk : S.K a = kd) (hkd : 20 ≤ kd) (ht : (tyA cA)[kd - 20]? = some (cA kd, ty)) (hd : decode cc pc = .ok (.arraylength, 1))
    (kk : W p l e R s m args below meth c H locs cells slots Q (F0 m (pc + 1) ls (.int (nI (S.ln a)) :: rest))) : W p l e R s m args below meth c H locs cells slots Q (F0 m pc ls (.ref a :: rest)) := by
  obtain ⟨hx, hb, hml, hown, hts, hK, hz, hlk, hr⟩ := C
  obtain ⟨L, k, hL, hP, hD, hLL, hg⟩ := hV.1.at (a := a) (by rw [hk]; omega)
  rcases Nat.lt_or_ge kd 22 with h | h
  · rw [cell_A hk hkd h] at hg
    exact va_alen hx hb hK hP k (kd - 20) hg ht rfl hd kk
  · rcases Nat.lt_or_ge kd 23 with h2 | h2
    · obtain rfl : kd = 22 := by omega
      rw [cell_B hk] at hg
      exact va_alen hx hb hK hP k 2 hg ht rfl hd kk
    · rw [cell_Q hk h2] at hg
      exact va_alen hx hb hK hP k (kd - 20) hg ht rfl hd kk
theorem cell_arr {S' : PS} {x : va_E} (hK : S'.K = S.K) (hl : S'.ln = S.ln) (hI : S'.I = S.I) (hJ : S'.J = S.J) (hR : S'.R = S.R) (hx : x = cellE cA S' a) (hA : ∀ b, b ≠ a → S'.A b = S.A b) (hB : ∀ b, b ≠ a → S'.B b = S.B b) (hQ : ∀ b, b ≠ a → S'.Q b = S.Q b) : ∀ b, va_up (cellE cA S) a x b = cellE cA S' b := by
  intro b
  by_cases hb : b = a
  · subst hb
    rw [va_up_self]
    exact hx
  · rw [va_up_ne _ _ hb]
    exact (cell_same (by rw [hK]) (by rw [hl]) (fun g => by rw [hI]) (fun g => by rw [hJ]) (fun g => by rw [hR]) (hA b hb) (hB b hb) (hQ b hb)).symm
theorem u2_row {α : Type} (f : Nat → Nat → α) (a i : Nat) (v : α) : u2 f a i v a = fun k => if k = i then v else f a k := by
  funext k
  unfold u2
  by_cases h : k = i
  · rw [if_pos ⟨rfl, h⟩, if_pos h]
  · rw [if_neg (fun q => h q.2), if_neg h]
theorem u2_off {α : Type} (f : Nat → Nat → α) {a b : Nat} (i : Nat) (v : α) (h : b ≠ a) : u2 f a i v b = f b := by
  funext k
  exact u2_ne (fun q => h q.1)
theorem x_iast {i v : Int32} {S' : PS} (C : CX p s m args meth c cc nL own ret D cA z0) (hV : XV D cA z0 s S H locs) (hk : S.K a = 20) (hin : vp_in i (S.ln a)) (eS : S' = S.setA a i.toNatClampNeg v) (hd : decode cc pc = .ok (.iastore, 1))
    (kk : ∀ (H1 : Heap) (locs1 : List Loc), XV D cA z0 s S' H1 locs1 → W p l e R s m args below meth c H1 locs1 cells slots Q (F0 m (pc + 1) ls rest)) : W p l e R s m args below meth c H locs cells slots Q (F0 m pc ls (.int v :: .int i :: .ref a :: rest)) := by
  obtain ⟨hx, hb, hml, hown, hts, hK, hz, hlk, hr⟩ := C
  obtain ⟨L, k, hL, hP, hD, hLL, hg⟩ := hV.1.at (a := a) (by rw [hk]; omega)
  have hg' := hg
  rw [cell_A hk (by omega) (by omega)] at hg'
  refine va_iast hx hb hK hP hD hV.2 k 0 hg' rfl hin hd (fun H1 locs1 hP1 hD1 hS1 => kk H1 locs1 ⟨XW.put hL hLL hD hg (S' := S') (by rw [eS]; rfl) (cell_arr (by rw [eS]; rfl) (by rw [eS]; rfl) (by rw [eS]; rfl) (by rw [eS]; rfl) (by rw [eS]; rfl) ?_ ?_ ?_ ?_) hP1 hD1, hS1⟩)
  · rw [cell_A (S := S') (kd := 20) (by rw [eS]; exact hk) (by omega) (by omega), eS]
    show _ = Sum.inl (cA 20, S.ln a, Sum.inl (u2 S.A a i.toNatClampNeg v a))
    rw [u2_row]
    rfl
  · intro b hb
    rw [eS]
    exact u2_off _ _ _ hb
  · intro b hb
    rw [eS]
    rfl
  · intro b hb
    rw [eS]
    rfl
theorem x_cast {i v : Int32} {S' : PS} (C : CX p s m args meth c cc nL own ret D cA z0) (hV : XV D cA z0 s S H locs) (hk : S.K a = 21) (hin : vp_in i (S.ln a)) (eS : S' = S.setA a i.toNatClampNeg (vp_nar .char v)) (hd : decode cc pc = .ok (.castore, 1))
    (kk : ∀ (H1 : Heap) (locs1 : List Loc), XV D cA z0 s S' H1 locs1 → W p l e R s m args below meth c H1 locs1 cells slots Q (F0 m (pc + 1) ls rest)) : W p l e R s m args below meth c H locs cells slots Q (F0 m pc ls (.int v :: .int i :: .ref a :: rest)) := by
  obtain ⟨hx, hb, hml, hown, hts, hK, hz, hlk, hr⟩ := C
  obtain ⟨L, k, hL, hP, hD, hLL, hg⟩ := hV.1.at (a := a) (by rw [hk]; omega)
  have hg' := hg
  rw [cell_A hk (by omega) (by omega)] at hg'
  refine va_cast hx hb hK hP hD hV.2 k 1 hg' rfl hin hd (fun H1 locs1 hP1 hD1 hS1 => kk H1 locs1 ⟨XW.put hL hLL hD hg (S' := S') (by rw [eS]; rfl) (cell_arr (by rw [eS]; rfl) (by rw [eS]; rfl) (by rw [eS]; rfl) (by rw [eS]; rfl) (by rw [eS]; rfl) ?_ ?_ ?_ ?_) hP1 hD1, hS1⟩)
  · rw [cell_A (S := S') (kd := 21) (by rw [eS]; exact hk) (by omega) (by omega), eS]
    show _ = Sum.inl (cA 21, S.ln a, Sum.inl (u2 S.A a i.toNatClampNeg (vp_nar .char v) a))
    rw [u2_row]
    rfl
  · intro b hb
    rw [eS]
    exact u2_off _ _ _ hb
  · intro b hb
    rw [eS]
    rfl
  · intro b hb
    rw [eS]
    rfl
theorem x_last {i : Int32} {v : Int64} {S' : PS} (C : CX p s m args meth c cc nL own ret D cA z0) (hV : XV D cA z0 s S H locs) (hk : S.K a = 22) (hin : vp_in i (S.ln a)) (eS : S' = S.setB a i.toNatClampNeg v) (hd : decode cc pc = .ok (.lastore, 1))
    (kk : ∀ (H1 : Heap) (locs1 : List Loc), XV D cA z0 s S' H1 locs1 → W p l e R s m args below meth c H1 locs1 cells slots Q (F0 m (pc + 1) ls rest)) : W p l e R s m args below meth c H locs cells slots Q (F0 m pc ls (.long v :: .int i :: .ref a :: rest)) := by
  obtain ⟨hx, hb, hml, hown, hts, hK, hz, hlk, hr⟩ := C
  obtain ⟨L, k, hL, hP, hD, hLL, hg⟩ := hV.1.at (a := a) (by rw [hk]; omega)
  have hg' := hg
  rw [cell_B hk] at hg'
  refine va_last hx hb hK hP hD hV.2 k 2 hg' rfl hin hd (fun H1 locs1 hP1 hD1 hS1 => kk H1 locs1 ⟨XW.put hL hLL hD hg (S' := S') (by rw [eS]; rfl) (cell_arr (by rw [eS]; rfl) (by rw [eS]; rfl) (by rw [eS]; rfl) (by rw [eS]; rfl) (by rw [eS]; rfl) ?_ ?_ ?_ ?_) hP1 hD1, hS1⟩)
  · rw [cell_B (S := S') (by rw [eS]; exact hk), eS]
    show _ = Sum.inl (cA 22, S.ln a, Sum.inr (Sum.inl (u2 S.B a i.toNatClampNeg v a)))
    rw [u2_row]
    rfl
  · intro b hb
    rw [eS]
    rfl
  · intro b hb
    rw [eS]
    exact u2_off _ _ _ hb
  · intro b hb
    rw [eS]
    rfl
theorem x_aast {i : Int32} {kd x cx : Nat} {r : vw_C} {S' : PS} (C : CX p s m args meth c cc nL own ret D cA z0) (hV : XV D cA z0 s S H locs) (hk : S.K a = kd) (hkd : 23 ≤ kd) (ht : (tyA cA)[kd - 20]? = some (cA kd, .object r.1)) (hc : vwCl[cx]? = some r) (hcx : cx < 12) (hkx : S.K x = cx + 1) (hin : vp_in i (S.ln a)) (eS : S' = S.setQ a i.toNatClampNeg (some x)) (hd : decode cc pc = .ok (.aastore, 1))
    (kk : ∀ (H1 : Heap) (locs1 : List Loc), XV D cA z0 s S' H1 locs1 → W p l e R s m args below meth c H1 locs1 cells slots Q (F0 m (pc + 1) ls rest)) : W p l e R s m args below meth c H locs cells slots Q (F0 m pc ls (.ref x :: .int i :: .ref a :: rest)) := by
  obtain ⟨hx, hb, hml, hown, hts, hK, hz, hlk, hr⟩ := C
  obtain ⟨L, k, hL, hP, hD, hLL, hg⟩ := hV.1.at (a := a) (by rw [hk]; omega)
  obtain ⟨k2, hk2⟩ := va_pl_get (X := []) (f := cellE cA S) ((hLL x).mpr (by rw [hkx]; omega))
  rw [List.nil_append, cell_obj hkx hcx] at hk2
  have hg' := hg
  rw [cell_Q hk hkd] at hg'
  refine va_astq hx hb hK hP hD hV.2 k (kd - 20) k2 cx hg' ht hk2 hc hin hd (fun H1 locs1 hP1 hD1 hS1 => kk H1 locs1 ⟨XW.put hL hLL hD hg (S' := S') (by rw [eS]; rfl) (cell_arr (by rw [eS]; rfl) (by rw [eS]; rfl) (by rw [eS]; rfl) (by rw [eS]; rfl) (by rw [eS]; rfl) ?_ ?_ ?_ ?_) hP1 hD1, hS1⟩)
  · rw [cell_Q (S := S') (by rw [eS]; exact hk) hkd, eS]
    show _ = Sum.inl (cA kd, S.ln a, Sum.inr (Sum.inr (Sum.inr (Sum.inr (u2 S.Q a i.toNatClampNeg (some x) a)))))
    rw [u2_row]
    rfl
  · intro b hb
    rw [eS]
    rfl
  · intro b hb
    rw [eS]
    rfl
  · intro b hb
    rw [eS]
    exact u2_off _ _ _ hb
-- returns
theorem x_iret {K : Int32 → PS → Prop} {r : Int32} (C : CX p s m args meth c cc nL own (some .int) D cA z0) (hV : XV D cA z0 s S H locs) (hM : K r S) (hd : decode cc pc = .ok (.ireturn, 1)) : W p l e R s m args below meth c H locs cells slots (MQ below (va_Qi K (XK D cA z0) (zA z0)) args s cells slots (zA z0)) (F0 m pc ls [.int r]) := by
  obtain ⟨hx, hb, hml, hown, hts, hK, hz, hlk, hr⟩ := C
  exact W.iret hx hb hr (fun t ht hW => ⟨⟨r, S, rfl, hM, va_K.moved hW.alike hK, by rw [ht]; exact Nat.le_trans hz.1 hV.2.1, by rw [ht]; exact hV.1, hz.2.next hW hV.2 ht⟩, hV.2.F ht⟩) hV.2.2.2 hd
theorem x_zret {K : Int32 → PS → Prop} {r : Int32} (C : CX p s m args meth c cc nL own (some .boolean) D cA z0) (hV : XV D cA z0 s S H locs) (hz1 : r = 0 ∨ r = 1) (hM : K r S) (hd : decode cc pc = .ok (.ireturn, 1)) : W p l e R s m args below meth c H locs cells slots (MQ below (va_Qi (fun r S => (r = 0 ∨ r = 1) ∧ K r S) (XK D cA z0) (zA z0)) args s cells slots (zA z0)) (F0 m pc ls [.int r]) := by
  obtain ⟨hx, hb, hml, hown, hts, hK, hz, hlk, hr⟩ := C
  exact W.zret hx hb hr (nz_b hz1).1 (fun t ht hW => ⟨⟨r, S, rfl, ⟨hz1, hM⟩, va_K.moved hW.alike hK, by rw [ht]; exact Nat.le_trans hz.1 hV.2.1, by rw [ht]; exact hV.1, hz.2.next hW hV.2 ht⟩, hV.2.F ht⟩) hV.2.2.2 hd
theorem x_lret {K : Int64 → PS → Prop} {r : Int64} (C : CX p s m args meth c cc nL own (some .long) D cA z0) (hV : XV D cA z0 s S H locs) (hM : K r S) (hd : decode cc pc = .ok (.lreturn, 1)) : W p l e R s m args below meth c H locs cells slots (MQ below (va_Ql K (XK D cA z0) (zA z0)) args s cells slots (zA z0)) (F0 m pc ls [.long r]) := by
  obtain ⟨hx, hb, hml, hown, hts, hK, hz, hlk, hr⟩ := C
  exact W.lret hx hb hr (fun t ht hW => ⟨⟨r, S, rfl, hM, va_K.moved hW.alike hK, by rw [ht]; exact Nat.le_trans hz.1 hV.2.1, by rw [ht]; exact hV.1, hz.2.next hW hV.2 ht⟩, hV.2.F ht⟩) hV.2.2.2 hd
theorem x_vret {K : PS → Prop} (C : CX p s m args meth c cc nL own none D cA z0) (hV : XV D cA z0 s S H locs) (hM : K S) (hd : decode cc pc = .ok (.return_, 1)) : W p l e R s m args below meth c H locs cells slots (MQ below (va_Qv K (XK D cA z0) (zA z0)) args s cells slots (zA z0)) (F0 m pc ls []) := by
  obtain ⟨hx, hb, hml, hown, hts, hK, hz, hlk, hr⟩ := C
  exact W.vret hx hb hr (fun t ht hW => ⟨⟨S, rfl, hM, va_K.moved hW.alike hK, by rw [ht]; exact Nat.le_trans hz.1 hV.2.1, by rw [ht]; exact hV.1, hz.2.next hW hV.2 ht⟩, hV.2.F ht⟩) hV.2.2.2 hd
/-- an answer that is an object or a row: K gets its address -/
theorem x_aret {K : Nat → PS → Prop} {r : Nat} {n : FieldType} (C : CX p s m args meth c cc nL own (some n) D cA z0) (hn : (∃ x, n = .object x) ∨ ∃ t, n = .array t) (hV : XV D cA z0 s S H locs) (hM : K r S) (hd : decode cc pc = .ok (.areturn, 1)) : W p l e R s m args below meth c H locs cells slots (MQ below (va_Qr (S := Nat × PS) (fun u => K u.1 u.2) (fun u a t => a = u.1 ∧ XK D cA z0 u.2 t) (zA z0)) args s cells slots (zA z0)) (F0 m pc ls [.ref r]) := by
  obtain ⟨hx, hb, hml, hown, hts, hK, hz, hlk, hr⟩ := C
  exact W.aret hx hb hr hn (Or.inr ⟨_, rfl⟩) (fun t ht hW => ⟨⟨(r, S), r, rfl, hM, rfl, va_K.moved hW.alike hK, by rw [ht]; exact Nat.le_trans hz.1 hV.2.1, by rw [ht]; exact hV.1, hz.2.next hW hV.2 ht⟩, hV.2.F ht⟩) hV.2.2.2 hd
end
