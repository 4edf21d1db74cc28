/-- an instance method, as the tables have it -/
def MI (y : MethodName) (bytes : ByteArray) (maxL : Nat) (ret : Option FieldType) (n cy : Nat) : Prop := (∃ r : vw_C, vwCl[cy]? = some r ∧ r.1 = y.cls) ∧ cy < 12 ∧ Cond.instanceMethod y ∈ TBL ∧ Cond.selects y.cls y y ∈ TBL ∧ Cond.initialized y.cls ∈ TBL ∧ Cond.code y bytes maxL ret ∈ TBL ∧ (y.cls ≠ "java/lang/invoke/MethodHandle" ∧ y.cls ≠ "java/lang/invoke/VarHandle") ∧ (parseMethodDescriptor y.desc).map (fun d => d.parameters.length) = some n ∧ maxL ≤ 29
def MS (y : MethodName) (bytes : ByteArray) (maxL : Nat) (ret : Option FieldType) (n : Nat) : Prop := Cond.static y ∈ TBL ∧ Cond.initialized y.cls ∈ TBL ∧ Cond.code y bytes maxL ret ∈ TBL ∧ (y.cls ≠ "java/lang/invoke/MethodHandle" ∧ y.cls ≠ "java/lang/invoke/VarHandle") ∧ (parseMethodDescriptor y.desc).map (fun d => d.parameters.length) = some n ∧ maxL ≤ 29
abbrev rmd (d mc ms : Nat) : Room := { frames := d, cells := mc, slots := ms, locals := 48 * d }
/-- a contract: over the pool S, at the arguments av, with what comes back told to K -/
abbrev MetI (l : Launch) (y : MethodName) (bytes : ByteArray) (maxL : Nat) (ret : Option FieldType) (d mc ms : Nat) (D : DX) (cA : Nat → ClassId) (z0 : Nat) (av : List Value) (S : PS) (K : Int32 → PS → Prop) : Prop := Met l y (Cond.code y bytes maxL ret :: TBL) (rmd d mc ms) (va_Pc av (XK D cA z0 S)) (va_Qi K (XK D cA z0) (zA z0)) mc ms (zA z0)
abbrev MetL (l : Launch) (y : MethodName) (bytes : ByteArray) (maxL : Nat) (ret : Option FieldType) (d mc ms : Nat) (D : DX) (cA : Nat → ClassId) (z0 : Nat) (av : List Value) (S : PS) (K : Int64 → PS → Prop) : Prop := Met l y (Cond.code y bytes maxL ret :: TBL) (rmd d mc ms) (va_Pc av (XK D cA z0 S)) (va_Ql K (XK D cA z0) (zA z0)) mc ms (zA z0)
abbrev MetV (l : Launch) (y : MethodName) (bytes : ByteArray) (maxL : Nat) (ret : Option FieldType) (d mc ms : Nat) (D : DX) (cA : Nat → ClassId) (z0 : Nat) (av : List Value) (S : PS) (K : PS → Prop) : Prop := Met l y (Cond.code y bytes maxL ret :: TBL) (rmd d mc ms) (va_Pc av (XK D cA z0 S)) (va_Qv K (XK D cA z0) (zA z0)) mc ms (zA z0)
abbrev MetR (l : Launch) (y : MethodName) (bytes : ByteArray) (maxL : Nat) (ret : Option FieldType) (d mc ms : Nat) (D : DX) (cA : Nat → ClassId) (z0 : Nat) (av : List Value) (S : PS) (K : Nat → PS → Prop) : Prop := Met l y (Cond.code y bytes maxL ret :: TBL) (rmd d mc ms) (va_Pc av (XK D cA z0 S)) (va_Qr (S := Nat × PS) (fun u => K u.1 u.2) (fun u a t => a = u.1 ∧ XK D cA z0 u.2 t) (zA z0)) mc ms (zA z0)
section
variable {p : Program} {l : Launch} {e : Env} {R : Room} {s : State} {m : MethodId} {args : Array Value} {below : List Frame} {meth : Method} {c : Code} {H : Heap} {locs : List Loc} {cells slots : Nat} {Q : State → Prop}
variable {cc : ByteArray} {nL pc : Nat} {own : String} {ret : Option FieldType} {D : DX} {cA : Nat → ClassId} {z0 : Nat} {ls : Array Slot} {rest : List Value} {S : PS} {idx : Nat}
variable {y : MethodName} {bytes : ByteArray} {maxL n cy d mc ms b : Nat} {rt : Option FieldType} {As : List Value} {Qc : Array Value → State → Outcome → State → Prop}
theorem xk_blind {av : List Value} : FrameBlind (va_Pc av (XK D cA z0 S)) := fun a U g mk h => ⟨h.1, va_K.moved (u := U) (U := U.calling g mk a) (Vm.Alike.refl U.vm) h.2.1, h.2.2.1, h.2.2.2.1, h.2.2.2.2.calling⟩
theorem xk_pre (C : CX p s m args meth c cc nL own ret D cA z0) (hV : XV D cA z0 s S H locs) {av : List Value} : ∀ U : State, U.heap = H → s.WarmedH U.vm → va_Pc av (XK D cA z0 S) av.toArray U := by
  obtain ⟨hx, hb, hml, hown, hts, hK, hz, hlk, hr⟩ := C
  exact fun U hU hW => ⟨rfl, va_K.moved hW.alike hK, by rw [hU]; exact Nat.le_trans hz.1 hV.2.1, by rw [hU]; exact hV.1, hz.2.next hW hV.2 hU⟩
theorem xk_callB (C : CX p s m args meth c cc nL own ret D cA z0) (hini : Cond.initialized y.cls ∈ TBL) (hcode : Cond.code y bytes maxL rt ∈ TBL) (hnm : y.cls ≠ "java/lang/invoke/MethodHandle" ∧ y.cls ≠ "java/lang/invoke/VarHandle") (hpar : (parseMethodDescriptor y.desc).map (fun d => d.parameters.length) = some n) (hm : maxL ≤ 29) (hlink : Cond.methodLink own idx y ∈ TBL) (hR : d + 1 ≤ R.frames ∧ 48 * (d + 1) ≤ R.locals) :
    CallB R s args own idx y bytes maxL rt (Cond.code y bytes maxL rt :: TBL) (rmd d mc ms) mc ms n := by
  obtain ⟨hx, hb, hml, hown, hts, hK, hz, hlk, hr⟩ := C
  refine ⟨rfl, rfl, hR.1, by show 8 + (maxL + 11) + 48 * d ≤ R.locals; omega, pay_in hts (fun w hw => ?_), List.mem_cons_self, hts _ hcode, hts _ hini, hnm, fun sig h => ?_, hts _ hlink⟩
  · rcases List.mem_cons.mp hw with rfl | h
    · exact tb_good (fun _ h => h) _ hcode
    · exact tb_good (fun _ h => h) _ h
  · rw [h] at hpar
    exact (Option.some.inj hpar).symm
theorem x_runV (C : CX p s m args meth c cc nL own ret D cA z0) (hV : XV D cA z0 s S H locs) (mi : MI y bytes maxL rt n cy) (hlink : Cond.methodLink own idx y ∈ TBL) (hk : S.K b = cy + 1) (hM : Met l y (Cond.code y bytes maxL rt :: TBL) (rmd d mc ms) (va_Pc (.ref b :: As) (XK D cA z0 S)) Qc mc ms (zA z0)) (hR : d + 1 ≤ R.frames ∧ 48 * (d + 1) ≤ R.locals)
    (hn : As.length = n) (hls : ls.size = nL) (hroom : (rest.map fun v => v.category).sum ≤ 8) (hd : decode cc pc = .ok (.invokevirtual idx, 3)) (hf : cells + mc ≤ R.cells ∧ slots + ms ≤ R.slots) :
    va_Run p l e R s m args below meth c H locs cells slots mc ms (F0 m pc ls (As.reverse ++ .ref b :: rest)) rest (Qc (Value.ref b :: As).toArray) (zA z0) := by
  have hpre := xk_pre C hV (av := .ref b :: As)
  obtain ⟨⟨r, hr1, hr2⟩, hcy, hin, hsel, hini, hcode, hnm, hpar, hm⟩ := mi
  have hB := xk_callB (R := R) (d := d) (mc := mc) (ms := ms) C hini hcode hnm hpar hm hlink hR
  obtain ⟨hx, hb, hml, hown, hts, hK, hz, hlk, hr⟩ := C
  obtain ⟨L, k, hL, hP, hD, hLL, hg⟩ := hV.1.at (a := b) (by rw [hk]; omega)
  rw [cell_obj hk hcy] at hg
  exact va_runV (C := y.cls) ⟨hx, hb, hml, hown, hts⟩ hM ⟨hB, hts _ hin, hts _ hsel⟩ ⟨xk_blind, by rw [← hr2]; exact va_recv hK hP hr1 hg, hpre⟩ rfl hn hls rfl (lv_room hroom) hd hf
theorem x_runS (C : CX p s m args meth c cc nL own ret D cA z0) (hV : XV D cA z0 s S H locs) (mi : MS y bytes maxL rt n) (hlink : Cond.methodLink own idx y ∈ TBL) (hM : Met l y (Cond.code y bytes maxL rt :: TBL) (rmd d mc ms) (va_Pc As (XK D cA z0 S)) Qc mc ms (zA z0)) (hR : d + 1 ≤ R.frames ∧ 48 * (d + 1) ≤ R.locals)
    (hn : As.length = n) (hls : ls.size = nL) (hroom : (rest.map fun v => v.category).sum ≤ 8) (hd : decode cc pc = .ok (.invokestatic idx, 3)) (hf : cells + mc ≤ R.cells ∧ slots + ms ≤ R.slots) :
    va_Run p l e R s m args below meth c H locs cells slots mc ms (F0 m pc ls (As.reverse ++ rest)) rest (Qc As.toArray) (zA z0) := by
  have hpre := xk_pre C hV (av := As)
  obtain ⟨hst, hini, hcode, hnm, hpar, hm⟩ := mi
  have hB := xk_callB (R := R) (d := d) (mc := mc) (ms := ms) C hini hcode hnm hpar hm hlink hR
  obtain ⟨hx, hb, hml, hown, hts, hK, hz, hlk, hr⟩ := C
  exact va_runS ⟨hx, hb, hml, hown, hts⟩ hM ⟨hB, hts _ hst⟩ ⟨xk_blind, hpre⟩ rfl hn hls rfl (lv_room hroom) hd hf
/-- a constructor -/
def MC (y : MethodName) (bytes : ByteArray) (maxL n : Nat) : Prop := y.name = "<init>" ∧ Cond.instanceMethod y ∈ TBL ∧ Cond.initialized y.cls ∈ TBL ∧ Cond.code y bytes maxL none ∈ TBL ∧ (y.cls ≠ "java/lang/invoke/MethodHandle" ∧ y.cls ≠ "java/lang/invoke/VarHandle") ∧ (parseMethodDescriptor y.desc).map (fun d => d.parameters.length) = some n ∧ maxL ≤ 29
theorem x_runI (C : CX p s m args meth c cc nL own ret D cA z0) (hV : XV D cA z0 s S H locs) (mi : MC y bytes maxL n) (hlink : Cond.methodLink own idx y ∈ TBL) (hM : Met l y (Cond.code y bytes maxL none :: TBL) (rmd d mc ms) (va_Pc (.ref b :: As) (XK D cA z0 S)) Qc mc ms (zA z0)) (hR : d + 1 ≤ R.frames ∧ 48 * (d + 1) ≤ R.locals)
    (hn : As.length = n) (hls : ls.size = nL) (hroom : (rest.map fun v => v.category).sum ≤ 8) (hd : decode cc pc = .ok (.invokespecial idx, 3)) (hf : cells + mc ≤ R.cells ∧ slots + ms ≤ R.slots) :
    va_Run p l e R s m args below meth c H locs cells slots mc ms (F0 m pc ls (As.reverse ++ .ref b :: rest)) rest (Qc (Value.ref b :: As).toArray) (zA z0) := by
  have hpre := xk_pre C hV (av := .ref b :: As)
  obtain ⟨hy1, hin, hini, hcode, hnm, hpar, hm⟩ := mi
  have hB := xk_callB (R := R) (d := d) (mc := mc) (ms := ms) C hini hcode hnm hpar hm hlink hR
  obtain ⟨hx, hb, hml, hown, hts, hK, hz, hlk, hr⟩ := C
  exact va_runI ⟨hx, hb, hml, hown, hts⟩ hM ⟨hB, hy1, hts _ hin⟩ ⟨xk_blind, hpre⟩ rfl hn hls rfl (lv_room hroom) hd hf
theorem x_ci {st0 : List Value} {a : Array Value} {K : Int32 → PS → Prop} (hV : XV D cA z0 s S H locs) (hr : va_Run p l e R s m args below meth c H locs cells slots mc ms (F0 m pc ls st0) rest (va_Qi K (XK D cA z0) (zA z0) a) (zA z0))
    (kk : ∀ (r : Int32) (S1 : PS) (H1 : Heap) (locs1 : List Loc), XV D cA z0 s S1 H1 locs1 → K r S1 → W p l e R s m args below meth c H1 locs1 (cells + mc) (slots + ms) Q (F0 m (pc + 3) ls (.int r :: rest))) : W p l e R s m args below meth c H locs cells slots Q (F0 m pc ls st0) :=
  va_calli hr hV.2 (fun _ _ h => h) (fun _ h => h) (fun r u t H1 locs1 ht hvm hp hB _ _ hS => kk r u H1 locs1 ⟨by rw [← ht]; exact hB.2.2.1, hS⟩ hp)
theorem x_cl {st0 : List Value} {a : Array Value} {K : Int64 → PS → Prop} (hV : XV D cA z0 s S H locs) (hr : va_Run p l e R s m args below meth c H locs cells slots mc ms (F0 m pc ls st0) rest (va_Ql K (XK D cA z0) (zA z0) a) (zA z0))
    (kk : ∀ (r : Int64) (S1 : PS) (H1 : Heap) (locs1 : List Loc), XV D cA z0 s S1 H1 locs1 → K r S1 → W p l e R s m args below meth c H1 locs1 (cells + mc) (slots + ms) Q (F0 m (pc + 3) ls (.long r :: rest))) : W p l e R s m args below meth c H locs cells slots Q (F0 m pc ls st0) :=
  va_calll hr hV.2 (fun _ _ h => h) (fun _ h => h) (fun r u t H1 locs1 ht hvm hp hB _ _ hS => kk r u H1 locs1 ⟨by rw [← ht]; exact hB.2.2.1, hS⟩ hp)
theorem x_cv {st0 : List Value} {a : Array Value} {K : PS → Prop} (hV : XV D cA z0 s S H locs) (hr : va_Run p l e R s m args below meth c H locs cells slots mc ms (F0 m pc ls st0) rest (va_Qv K (XK D cA z0) (zA z0) a) (zA z0))
    (kk : ∀ (S1 : PS) (H1 : Heap) (locs1 : List Loc), XV D cA z0 s S1 H1 locs1 → K S1 → W p l e R s m args below meth c H1 locs1 (cells + mc) (slots + ms) Q (F0 m (pc + 3) ls rest)) : W p l e R s m args below meth c H locs cells slots Q (F0 m pc ls st0) :=
  va_callv hr hV.2 (fun _ _ h => h) (fun _ h => h) (fun u t H1 locs1 ht hvm hp hB _ _ hS => kk u H1 locs1 ⟨by rw [← ht]; exact hB.2.2.1, hS⟩ hp)
theorem x_cr {st0 : List Value} {a : Array Value} {K : Nat → PS → Prop} (hV : XV D cA z0 s S H locs) (hr : va_Run p l e R s m args below meth c H locs cells slots mc ms (F0 m pc ls st0) rest (va_Qr (S := Nat × PS) (fun u => K u.1 u.2) (fun u a t => a = u.1 ∧ XK D cA z0 u.2 t) (zA z0) a) (zA z0))
    (kk : ∀ (r : Nat) (S1 : PS) (H1 : Heap) (locs1 : List Loc), XV D cA z0 s S1 H1 locs1 → K r S1 → W p l e R s m args below meth c H1 locs1 (cells + mc) (slots + ms) Q (F0 m (pc + 3) ls (.ref r :: rest))) : W p l e R s m args below meth c H locs cells slots Q (F0 m pc ls st0) :=
  va_callr hr hV.2 (fun _ _ h => h) (fun _ h => h) (fun u ra t H1 locs1 ht hvm hp hB _ _ hS => by
    obtain ⟨rfl, hB⟩ := hB
    exact kk u.1 u.2 H1 locs1 ⟨by rw [← ht]; exact hB.2.2.1, hS⟩ hp)
/-- a method's contract out of the walk of its body -/
theorem x_met {y : MethodName} {cc : ByteArray} {rt : Option FieldType} {av : List Value} {Qc : Array Value → State → Outcome → State → Prop} (nm : String) (hy : plainName y.cls = true) (hc : y.cls = nm)
    (body : ∀ p e s m below meth c, CX p s m av.toArray meth c cc maxL nm rt D cA z0 → meth.name = y.name → XV D cA z0 s S s.heap [] → W p l e (rmd d mc ms) s m av.toArray below meth c s.heap [] 0 0 (MQ below Qc av.toArray s mc ms (zA z0)) (entryFrame m av.toArray maxL)) : Met l y (Cond.code y cc maxL rt :: TBL) (rmd d mc ms) (va_Pc av (XK D cA z0 S)) Qc mc ms (zA z0) := by
  refine Met.ofW (cc := cc) (maxL := maxL) (ret := rt) hy rfl ?_
  intro p e s m args below meth c s₁ B hml hv
  obtain ⟨rfl, hK, hz, hX, hE⟩ := hv
  have hts := atoms_spec (ws := Cond.code y cc maxL rt :: TBL) B.pre
  exact body p e s m below meth c ⟨B.exec, B.bytes, hml, by rw [← hc]; exact findClass_of_methodNamed B.named, fun w hw => hts w (List.mem_cons_of_mem _ hw), hK, ⟨hz, hE⟩, B.notSynchronized, B.returns⟩ (name_of_methodNamed B.named B.method).1 ⟨hX, va_S.rf⟩
end
