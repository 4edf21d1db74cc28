theorem wq_mabs_st : Cond.static Lib.Math.abs.name ∈ TBL := tb_in 732 (by decide +kernel) (by decide +kernel)
theorem wq_mabs_cd : Cond.code Lib.Math.abs.name Lib.Math.abs.code 1 (some .int) ∈ TBL := tb_in 733 (by decide +kernel) (by decide +kernel)
theorem wq_mabs_nm : yJ9_abs_0f7a4 = Lib.Math.abs.name := by decide +kernel
theorem wq_mmax_st : Cond.static Lib.Math.max.name ∈ TBL := tb_in 753 (by decide +kernel) (by decide +kernel)
theorem wq_mmax_cd : Cond.code Lib.Math.max.name Lib.Math.max.code 2 (some .int) ∈ TBL := tb_in 754 (by decide +kernel) (by decide +kernel)
theorem wq_mmax_nm : yJ9_max_7cf53 = Lib.Math.max.name := by decide +kernel
theorem wq_mmin_st : Cond.static Lib.Math.min.name ∈ TBL := tb_in 674 (by decide +kernel) (by decide +kernel)
theorem wq_mmin_cd : Cond.code Lib.Math.min.name Lib.Math.min.code 2 (some .int) ∈ TBL := tb_in 675 (by decide +kernel) (by decide +kernel)
theorem wq_mmin_nm : yJ9_min_7cf53 = Lib.Math.min.name := by decide +kernel
theorem wq_mabsl_st : Cond.static Lib.MathLoose.abs_long.x ∈ TBL := tb_in 762 (by decide +kernel) (by decide +kernel)
theorem wq_mabsl_cd : Cond.code Lib.MathLoose.abs_long.x Lib.MathLoose.abs_long.code 2 (some .long) ∈ TBL := tb_in 763 (by decide +kernel) (by decide +kernel)
theorem wq_mabsl_nm : yJ9_abs_067f4 = Lib.MathLoose.abs_long.x := by decide +kernel
theorem wq_math : Cond.initialized "java/lang/Math" ∈ TBL := tb_in 100 (by decide +kernel) (by decide +kernel)
section
variable {p : Program} {l : Launch} {e : Env} {R : Room} {s : State} {m : MethodId} {args : Array Value} {below : List Frame} {meth : Method} {c : Code} {H : Heap} {locs : List Loc} {cells slots : Nat} {Q : State → Prop}
variable {cc : ByteArray} {nL pc : Nat} {own : String} {ret : Option FieldType} {D : DX} {cA : Nat → ClassId} {z0 : Nat} {ls : Array Slot} {rest : List Value} {idx : Nat}
theorem x_mabs {x : Int32} (C : CX p s m args meth c cc nL own ret D cA z0) (hls : ls.size = nL) (hl : Cond.methodLink own idx yJ9_abs_0f7a4 ∈ TBL) (hfr : 1 ≤ R.frames) (hlo : 21 ≤ R.locals) (hc : cells ≤ R.cells) (hs : slots ≤ R.slots) (hrm : (rest.map fun v => v.category).sum ≤ 8) (hd : decode cc pc = .ok (.invokestatic idx, 3))
    (kk : W p l e R s m args below meth c H locs cells slots Q (F0 m (pc + 3) ls (.int (if 0 ≤ x then x else 0 - x) :: rest))) : W p l e R s m args below meth c H locs cells slots Q (F0 m pc ls (.int x :: rest)) := by
  obtain ⟨hx, hb, hml, hown, hts, hK, hz, hlk, hr⟩ := C
  rw [wq_mabs_nm] at hl
  exact va_mabs hx hb (hml.trans hls.symm) hown (hts _ hl) (hts _ wq_mabs_st) (hts _ wq_math) (hts _ wq_mabs_cd) hfr (by omega) hc hs hd kk
theorem x_mmax {x y : Int32} (C : CX p s m args meth c cc nL own ret D cA z0) (hls : ls.size = nL) (hl : Cond.methodLink own idx yJ9_max_7cf53 ∈ TBL) (hfr : 1 ≤ R.frames) (hlo : 21 ≤ R.locals) (hc : cells ≤ R.cells) (hs : slots ≤ R.slots) (hrm : (rest.map fun v => v.category).sum ≤ 8) (hd : decode cc pc = .ok (.invokestatic idx, 3))
    (kk : W p l e R s m args below meth c H locs cells slots Q (F0 m (pc + 3) ls (.int (if x < y then y else x) :: rest))) : W p l e R s m args below meth c H locs cells slots Q (F0 m pc ls (.int y :: .int x :: rest)) := by
  obtain ⟨hx, hb, hml, hown, hts, hK, hz, hlk, hr⟩ := C
  rw [wq_mmax_nm] at hl
  exact va_mmax hx hb (hml.trans hls.symm) hown (hts _ hl) (hts _ wq_mmax_st) (hts _ wq_math) (hts _ wq_mmax_cd) hfr (by omega) hc hs hd kk
theorem x_mmin {x y : Int32} (C : CX p s m args meth c cc nL own ret D cA z0) (hls : ls.size = nL) (hl : Cond.methodLink own idx yJ9_min_7cf53 ∈ TBL) (hfr : 1 ≤ R.frames) (hlo : 21 ≤ R.locals) (hc : cells ≤ R.cells) (hs : slots ≤ R.slots) (hrm : (rest.map fun v => v.category).sum ≤ 8) (hd : decode cc pc = .ok (.invokestatic idx, 3))
    (kk : W p l e R s m args below meth c H locs cells slots Q (F0 m (pc + 3) ls (.int (if y < x then y else x) :: rest))) : W p l e R s m args below meth c H locs cells slots Q (F0 m pc ls (.int y :: .int x :: rest)) := by
  obtain ⟨hx, hb, hml, hown, hts, hK, hz, hlk, hr⟩ := C
  rw [wq_mmin_nm] at hl
  exact va_mmin hx hb (hml.trans hls.symm) hown (hts _ hl) (hts _ wq_mmin_st) (hts _ wq_math) (hts _ wq_mmin_cd) hfr (by omega) hc hs hd kk
theorem x_mabsl {x : Int64} (C : CX p s m args meth c cc nL own ret D cA z0) (hls : ls.size = nL) (hl : Cond.methodLink own idx yJ9_abs_067f4 ∈ TBL) (hfr : 1 ≤ R.frames) (hlo : 21 ≤ R.locals) (hc : cells ≤ R.cells) (hs : slots ≤ R.slots) (hrm : (rest.map fun v => v.category).sum ≤ 8) (hd : decode cc pc = .ok (.invokestatic idx, 3))
    (kk : W p l e R s m args below meth c H locs cells slots Q (F0 m (pc + 3) ls (.long (if 0 < x then x else -x) :: rest))) : W p l e R s m args below meth c H locs cells slots Q (F0 m pc ls (.long x :: rest)) := by
  obtain ⟨hx, hb, hml, hown, hts, hK, hz, hlk, hr⟩ := C
  rw [wq_mabsl_nm] at hl
  exact va_mabs_long hx hb (hml.trans hls.symm) hown (hts _ hl) (hts _ wq_mabsl_st) (hts _ wq_math) (hts _ wq_mabsl_cd) hfr (by omega) hc hs hd kk
end
