/-- the fields of a new object -/
def dflt (kd : Nat) : List Value := (List.range (tcl kd).length).map (fun j => if tcode kd j = 0 then .int 0 else if tcode kd j = 1 then .long 0 else .null)
/-- a class that objects are made of, as a class's constant names it -/
def NC (own : String) (idx kd N : Nat) : Prop := ∃ (ci : Nat) (C : String) (T : u_T) (ty0 : Nat → FieldType), kd = ci + 1 ∧ (vwCl[ci]? = some (C, T, N) ∧ ci < 12 ∧ N = (tcl (ci + 1)).length ∧ (∀ w ∈ u_ws C T N, w ∈ TBL) ∧ (∀ k, k < N → parseFieldDescriptor (T k).2.2.1 = some (ty0 k)) ∧ (∀ a, a < N → ∀ b, b < N → a ≠ b → (T a).2.1 ≠ (T b).2.1)) ∧ (∀ j, j < N → defaultValue (ty0 j) = vp_V (dflt (ci + 1)) j) ∧ Cond.classLink own idx C ∈ TBL ∧ Cond.instantiable C N ∈ TBL ∧ Cond.initialized C ∈ TBL
theorem NC.mk {own : String} {idx kd N : Nat} (ci : Nat) {C : String} {T : u_T} {ty0 : Nat → FieldType} (hk : kd = ci + 1) (h : vwCl[ci]? = some (C, T, N) ∧ ci < 12 ∧ N = (tcl (ci + 1)).length ∧ (∀ w ∈ u_ws C T N, w ∈ TBL) ∧ (∀ k, k < N → parseFieldDescriptor (T k).2.2.1 = some (ty0 k)) ∧ (∀ a, a < N → ∀ b, b < N → a ≠ b → (T a).2.1 ≠ (T b).2.1)) (hd : ∀ j, j < N → defaultValue (ty0 j) = vp_V (dflt (ci + 1)) j) (h1 : Cond.classLink own idx C ∈ TBL) (h2 : Cond.instantiable C N ∈ TBL) (h3 : Cond.initialized C ∈ TBL) : NC own idx kd N := ⟨ci, C, T, ty0, hk, h, hd, h1, h2, h3⟩
theorem flds_new {S : PS} {q kd : Nat} : flds (S.newO q kd) kd q = dflt kd := by
  unfold flds dflt
  apply List.map_congr_left
  intro j _
  unfold sv
  show (if tcode kd j = 0 then Value.int (uz2 S.I q 0 (64 * kd + j) q) else if tcode kd j = 1 then .long (uz2 S.J q 0 (64 * kd + j) q) else va_rf (uz2 S.R q none (64 * kd + j) q)) = _
  simp only [uz2, if_true]
  rfl
/-- a new array of kind 20 that holds f -/
def PS.cpA (S : PS) (q n : Nat) (f : Nat → Int32) : PS := (va_up S.K q 20, va_up S.ln q n, S.R, uz S.Q q none, S.I, S.J, va_up S.A q f, uz S.B q 0)
section
variable {p : Program} {l : Launch} {e : Env} {R : Room} {s : State} {m : MethodId} {args : Array Value} {below : List Frame} {meth : Method} {c : Code} {H : Heap} {locs : List Loc} {cells slots : Nat} {Q : State → Prop}
variable {cc : ByteArray} {nL pc : Nat} {own : String} {ret : Option FieldType} {D : DX} {cA : Nat → ClassId} {z0 : Nat} {ls : Array Slot} {rest : List Value} {S : PS} {kd idx N : Nat}
/-- behind a new cell -/
theorem XW.push {L : List Nat} {q : Nat} {H1 : Heap} {S' : PS} {x : va_E} {k : Nat} (hk : k ≠ 0) (hL : ∀ a, a ∈ L ↔ S.K a ≠ 0) (hq : q ∉ L) (hK : S'.K = va_up S.K q k) (hx : x = cellE cA S' q) (hc : ∀ b, b ≠ q → cellE cA S b = cellE cA S' b)
    (hP : va_P D.1 vwCl (va_pl L (cellE cA S) ++ [(q, x)]) H1) (hD : va_D (zA z0) (va_pl L (cellE cA S) ++ [(q, x)])) : XW D cA z0 S' H1 := by
  have e1 : va_pl L (cellE cA S) ++ [(q, x)] = va_pl (L ++ [q]) (cellE cA S') := by
    rw [va_pl_push hq]
    apply va_pl_congr
    intro b
    by_cases hb : b = q
    · subst hb
      rw [va_up_self]
      exact hx
    · rw [va_up_ne _ _ hb]
      exact hc b hb
  rw [e1] at hP hD
  refine ⟨L ++ [q], fun a => ?_, hP, hD⟩
  rw [hK, List.mem_append, List.mem_singleton]
  by_cases ha : a = q
  · subst ha
    rw [va_up_self]
    exact ⟨fun _ => hk, fun _ => Or.inr rfl⟩
  · rw [va_up_ne _ _ ha, ← hL a]
    exact ⟨fun h => h.elim id (fun z => absurd z ha), Or.inl⟩
theorem x_new (C : CX p s m args meth c cc nL own ret D cA z0) (hV : XV D cA z0 s S H locs) (f : NC own idx kd N) (hcells : cells + 1 ≤ R.cells) (hslots : slots + N ≤ R.slots) (hd : decode cc pc = .ok (.new idx, 3))
    (kk : ∀ (q : Nat) (H1 : Heap) (S1 : PS), S.K q = 0 → S1 = S.newO q kd → XV D cA z0 s S1 H1 locs → W p l e R s m args below meth c H1 locs (cells + 1) (slots + N) Q (F0 m (pc + 3) ls (.ref q :: rest))) : W p l e R s m args below meth c H locs cells slots Q (F0 m pc ls rest) := by
  obtain ⟨hx, hb, hml, hown, hts, hK, hz, hlk, hr⟩ := C
  obtain ⟨ci, Cn, T, ty0, rfl, ⟨h1, h2, h3, h4, h5, h6⟩, hdf, w1, w2, w3⟩ := f
  obtain ⟨⟨L, hL, hP, hD⟩, hS⟩ := hV
  have hA : ∀ q, s.heap.size ≤ q → zA z0 q := fun q h => Nat.le_trans hz.1 h
  refine va_new hx hb hts h4 ty0 h5 hown (hts _ w1) (hts _ w2) (hts _ w3) hK hP hD hS hA h1 hdf hcells hslots hd (fun q H1 hP1 hD1 hS1 => ?_)
  have hq : q ∉ L := va_pl_fresh2 (X := []) (f := cellE cA S) (by rw [List.nil_append]; exact hD1)
  refine kk q H1 _ (Decidable.byContradiction fun z => hq ((hL q).mpr z)) rfl ⟨XW.push (k := ci + 1) (Nat.succ_ne_zero _) hL hq rfl ?_ ?_ hP1 hD1, hS1⟩
  · rw [cell_obj (S := S.newO q (ci + 1)) (a := q) (ci := ci) (va_up_self S.K q (ci + 1)) h2, flds_new]
  · intro b hb
    exact (cell_same (S := S) (S' := S.newO q (ci + 1)) (b := b) (va_up_ne S.K (ci + 1) hb) rfl (fun g => if_neg hb) (fun g => if_neg hb) (fun g => if_neg hb) rfl rfl rfl).symm
theorem cell_nb {q n b : Nat} (hb : b ≠ q) : cellE cA (S.newA q kd n) b = cellE cA S b := by
  refine cell_same (S := S) (S' := S.newA q kd n) (b := b) (va_up_ne S.K kd hb) (va_up_ne S.ln n hb) (fun g => rfl) (fun g => rfl) (fun g => rfl) ?_ ?_ ?_
  · funext k; exact if_neg hb
  · funext k; exact if_neg hb
  · funext k; exact if_neg hb
theorem x_newI {n : Int32} {N' : Nat} (C : CX p s m args meth c cc nL own ret D cA z0) (hV : XV D cA z0 s S H locs) (hw : Cond.arrayClass .int ∈ TBL) (hn : ¬ n < 0) (hN : n.toNatClampNeg = N') (hby : N' * 4 ≤ 536870912) (hcells : cells + 1 ≤ R.cells) (hslots : slots + N' ≤ R.slots) (hd : decode cc pc = .ok (.newarray .int, 2))
    (kk : ∀ (q : Nat) (H1 : Heap) (S1 : PS), S.K q = 0 → S1 = S.newA q 20 N' → XV D cA z0 s S1 H1 locs → W p l e R s m args below meth c H1 locs (cells + 1) (slots + N') Q (F0 m (pc + 2) ls (.ref q :: rest))) : W p l e R s m args below meth c H locs cells slots Q (F0 m pc ls (.int n :: rest)) := by
  obtain ⟨hx, hb, hml, hown, hts, hK, hz, hlk, hr⟩ := C
  obtain ⟨⟨L, hL, hP, hD⟩, hS⟩ := hV
  have hA : ∀ q, s.heap.size ≤ q → zA z0 q := fun q h => Nat.le_trans hz.1 h
  refine va_newa (atype := .int) (a0 := (N', .inl (fun _ => 0))) hx hb (hts _ hw) rfl hK hP hD hS hA (fun _ => rfl) hn hN hby hcells hslots hd (fun q cX H1 hK1 hP1 hD1 hS1 => ?_)
  have e1 : cX = cA 20 := by
    have g1 := (hK1.2 0 _ rfl).2
    have g2 := (hK1.2 8 _ rfl).2
    exact Option.some.inj (g2.symm.trans g1)
  subst e1
  have hq : q ∉ L := va_pl_fresh2 (X := []) (f := cellE cA S) (by rw [List.nil_append]; exact hD1)
  refine kk q H1 _ (Decidable.byContradiction fun z => hq ((hL q).mpr z)) rfl ⟨XW.push (k := 20) (by decide) hL hq rfl ?_ (fun b hb => (cell_nb hb).symm) hP1 hD1, hS1⟩
  rw [cell_A (S := S.newA q 20 N') (a := q) (kd := 20) (va_up_self S.K q 20) (by decide) (by decide)]
  show _ = Sum.inl (cA 20, va_up S.ln q N' q, Sum.inl (uz S.A q 0 q))
  rw [va_up_self]
  have : uz S.A q 0 q = fun _ => 0 := by funext k; exact if_pos rfl
  rw [this]
theorem x_newC {n : Int32} {N' : Nat} (C : CX p s m args meth c cc nL own ret D cA z0) (hV : XV D cA z0 s S H locs) (hw : Cond.arrayClass .char ∈ TBL) (hn : ¬ n < 0) (hN : n.toNatClampNeg = N') (hby : N' * 2 ≤ 536870912) (hcells : cells + 1 ≤ R.cells) (hslots : slots + N' ≤ R.slots) (hd : decode cc pc = .ok (.newarray .char, 2))
    (kk : ∀ (q : Nat) (H1 : Heap) (S1 : PS), S.K q = 0 → S1 = S.newA q 21 N' → XV D cA z0 s S1 H1 locs → W p l e R s m args below meth c H1 locs (cells + 1) (slots + N') Q (F0 m (pc + 2) ls (.ref q :: rest))) : W p l e R s m args below meth c H locs cells slots Q (F0 m pc ls (.int n :: rest)) := by
  obtain ⟨hx, hb, hml, hown, hts, hK, hz, hlk, hr⟩ := C
  obtain ⟨⟨L, hL, hP, hD⟩, hS⟩ := hV
  have hA : ∀ q, s.heap.size ≤ q → zA z0 q := fun q h => Nat.le_trans hz.1 h
  refine va_newa (atype := .char) (a0 := (N', .inl (fun _ => 0))) hx hb (hts _ hw) rfl hK hP hD hS hA (fun _ => rfl) hn hN hby hcells hslots hd (fun q cX H1 hK1 hP1 hD1 hS1 => ?_)
  have e1 : cX = cA 21 := by
    have g1 := (hK1.2 1 _ rfl).2
    have g2 := (hK1.2 8 _ rfl).2
    exact Option.some.inj (g2.symm.trans g1)
  subst e1
  have hq : q ∉ L := va_pl_fresh2 (X := []) (f := cellE cA S) (by rw [List.nil_append]; exact hD1)
  refine kk q H1 _ (Decidable.byContradiction fun z => hq ((hL q).mpr z)) rfl ⟨XW.push (k := 21) (by decide) hL hq rfl ?_ (fun b hb => (cell_nb hb).symm) hP1 hD1, hS1⟩
  rw [cell_A (S := S.newA q 21 N') (a := q) (kd := 21) (va_up_self S.K q 21) (by decide) (by decide)]
  show _ = Sum.inl (cA 21, va_up S.ln q N' q, Sum.inl (uz S.A q 0 q))
  rw [va_up_self]
  have : uz S.A q 0 q = fun _ => 0 := by funext k; exact if_pos rfl
  rw [this]
theorem x_newJ {n : Int32} {N' : Nat} (C : CX p s m args meth c cc nL own ret D cA z0) (hV : XV D cA z0 s S H locs) (hw : Cond.arrayClass .long ∈ TBL) (hn : ¬ n < 0) (hN : n.toNatClampNeg = N') (hby : N' * 8 ≤ 536870912) (hcells : cells + 1 ≤ R.cells) (hslots : slots + N' ≤ R.slots) (hd : decode cc pc = .ok (.newarray .long, 2))
    (kk : ∀ (q : Nat) (H1 : Heap) (S1 : PS), S.K q = 0 → S1 = S.newA q 22 N' → XV D cA z0 s S1 H1 locs → W p l e R s m args below meth c H1 locs (cells + 1) (slots + N') Q (F0 m (pc + 2) ls (.ref q :: rest))) : W p l e R s m args below meth c H locs cells slots Q (F0 m pc ls (.int n :: rest)) := by
  obtain ⟨hx, hb, hml, hown, hts, hK, hz, hlk, hr⟩ := C
  obtain ⟨⟨L, hL, hP, hD⟩, hS⟩ := hV
  have hA : ∀ q, s.heap.size ≤ q → zA z0 q := fun q h => Nat.le_trans hz.1 h
  refine va_newa (atype := .long) (a0 := (N', .inr (.inl (fun _ => 0)))) hx hb (hts _ hw) rfl hK hP hD hS hA (fun _ => rfl) hn hN hby hcells hslots hd (fun q cX H1 hK1 hP1 hD1 hS1 => ?_)
  have e1 : cX = cA 22 := by
    have g1 := (hK1.2 2 _ rfl).2
    have g2 := (hK1.2 8 _ rfl).2
    exact Option.some.inj (g2.symm.trans g1)
  subst e1
  have hq : q ∉ L := va_pl_fresh2 (X := []) (f := cellE cA S) (by rw [List.nil_append]; exact hD1)
  refine kk q H1 _ (Decidable.byContradiction fun z => hq ((hL q).mpr z)) rfl ⟨XW.push (k := 22) (by decide) hL hq rfl ?_ (fun b hb => (cell_nb hb).symm) hP1 hD1, hS1⟩
  rw [cell_B (S := S.newA q 22 N') (a := q) (va_up_self S.K q 22)]
  show _ = Sum.inl (cA 22, va_up S.ln q N' q, Sum.inr (Sum.inl (uz S.B q 0 q)))
  rw [va_up_self]
  have : uz S.B q 0 q = fun _ => 0 := by funext k; exact if_pos rfl
  rw [this]
/-- a new array of references -/
theorem x_newQ {n : Int32} {N' : Nat} {Cn : String} (C : CX p s m args meth c cc nL own ret D cA z0) (hV : XV D cA z0 s S H locs) (hkd : 23 ≤ kd) (ht : (tyA cA)[kd - 20]? = some (cA kd, .object Cn)) (hw : Cond.classLink own idx Cn ∈ TBL) (ho : va_AO Cn s) (hn : ¬ n < 0) (hN : n.toNatClampNeg = N') (hby : N' * 4 ≤ 536870912) (hcells : cells + 1 ≤ R.cells) (hslots : slots + N' ≤ R.slots) (hd : decode cc pc = .ok (.anewarray idx, 3))
    (kk : ∀ (q : Nat) (H1 : Heap) (S1 : PS), S.K q = 0 → S1 = S.newA q kd N' → XV D cA z0 s S1 H1 locs → W p l e R s m args below meth c H1 locs (cells + 1) (slots + N') Q (F0 m (pc + 3) ls (.ref q :: rest))) : W p l e R s m args below meth c H locs cells slots Q (F0 m pc ls (.int n :: rest)) := by
  obtain ⟨hx, hb, hml, hown, hts, hK, hz, hlk, hr⟩ := C
  obtain ⟨⟨L, hL, hP, hD⟩, hS⟩ := hV
  have hA : ∀ q, s.heap.size ≤ q → zA z0 q := fun q h => Nat.le_trans hz.1 h
  refine va_newq hx hb hown (hts _ hw) ho hK hP hD hS hA hn hN hby hcells hslots hd (fun q cX H1 hK1 hP1 hD1 hS1 => ?_)
  have e1 : cX = cA kd := by
    obtain ⟨_, _, -, -, -, g1⟩ := (hK.2 (kd - 20) _ ht).2
    obtain ⟨_, _, -, -, -, g2⟩ := (hK1.2 8 _ rfl).2
    exact Option.some.inj (g2.symm.trans g1)
  subst e1
  have hq : q ∉ L := va_pl_fresh2 (X := []) (f := cellE cA S) (by rw [List.nil_append]; exact hD1)
  refine kk q H1 _ (Decidable.byContradiction fun z => hq ((hL q).mpr z)) rfl ⟨XW.push (k := kd) (by omega) hL hq rfl ?_ (fun b hb => (cell_nb hb).symm) hP1 hD1, hS1⟩
  rw [cell_Q (S := S.newA q kd N') (a := q) (kd := kd) (va_up_self S.K q kd) hkd]
  show _ = Sum.inl (cA kd, va_up S.ln q N' q, Sum.inr (Sum.inr (Sum.inr (Sum.inr (uz S.Q q none q)))))
  rw [va_up_self]
  have : uz S.Q q none q = fun _ => none := by funext k; exact if_pos rfl
  rw [this]
/-- Object's constructor -/
theorem x_obj {a : Nat} (C : CX p s m args meth c cc nL own ret D cA z0) (hls : ls.size = nL) (hw : Cond.methodLink own idx objectInit ∈ TBL) (hfr : 1 ≤ R.frames) (hlo : (rest.map fun v => v.category).sum + 12 ≤ R.locals) (hd : decode cc pc = .ok (.invokespecial idx, 3))
    (kk : W p l e R s m args below meth c H locs cells slots Q (F0 m (pc + 3) ls rest)) : W p l e R s m args below meth c H locs cells slots Q (F0 m pc ls (.ref a :: rest)) := by
  obtain ⟨hx, hb, hml, hown, hts, hK, hz, hlk, hr⟩ := C
  refine W.objInit hx hb hown (hts _ hw) (hts _ wo_inst) (hts _ wo_code) rfl (by rw [hml]; exact hls) rfl hd hfr ?_ kk
  show 2 * (F0 m pc ls (.ref a :: rest)).monitorRoom + _ + 12 ≤ _
  have : (F0 m pc ls (.ref a :: rest)).monitorRoom = 0 := rfl
  rw [this]
  omega
/-- a constructor of a nest mate -/
theorem x_runIN {y : MethodName} {bytes : ByteArray} {maxL n d mc ms b : Nat} {As : List Value} {Qc : Array Value → State → Outcome → State → Prop} {host : String} (C : CX p s m args meth c cc nL own ret D cA z0) (hV : XV D cA z0 s S H locs) (mi : MC y bytes maxL n) (hlink : va_Nw (.methodLinkNest own idx y host) s) (hM : Met l y (Cond.code y bytes maxL none :: TBL) (rmd d mc ms) (va_Pc (.ref b :: As) (XK D cA z0 S)) Qc mc ms (zA z0)) (hR : d + 1 ≤ R.frames ∧ 48 * (d + 1) ≤ R.locals)
    (hn : As.length = n) (hls : ls.size = nL) (hroom : (rest.map fun v => v.category).sum ≤ 8) (hd : decode cc pc = .ok (.invokespecial idx, 3)) (hf : cells + mc ≤ R.cells ∧ slots + ms ≤ R.slots) :
    va_Run p l e R s m args below meth c H locs cells slots mc ms (F0 m pc ls (As.reverse ++ .ref b :: rest)) rest (Qc (Value.ref b :: As).toArray) (zA z0) := by
  have hpre := xk_pre C hV (av := .ref b :: As)
  obtain ⟨hy1, hin, hini, hcode, hnm, hpar, hm⟩ := mi
  obtain ⟨hx, hb, hml, hown, hts, hK, hz, hlk, hr⟩ := C
  have hG : GoodIn TBL (Cond.code y bytes maxL none :: TBL) := fun w hw => by
    rcases List.mem_cons.mp hw with rfl | h
    · exact tb_good (fun _ h => h) _ hcode
    · exact tb_good (fun _ h => h) _ h
  exact va_runIN ⟨hx, hb, hml, hown, hts⟩ hM ⟨va_cnB n hts hG rfl rfl rfl hlink (hts _ hini) ⟨hnm.1, hnm.2, hpar⟩ ⟨hR.1, by show 8 + (maxL + 11) + 48 * d ≤ R.locals; omega⟩, hy1, hts _ hin⟩ ⟨xk_blind, hpre⟩ rfl hn hls rfl (lv_room hroom) hd hf
end
