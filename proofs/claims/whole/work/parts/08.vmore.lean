theorem jv_noNest {a : String} {i : Nat} {b n d h : String} : ¬ (Cond.fieldLinkNest a i b n d h) ∈ lw_tbl := by
  intro hm
  have hall : lw_tbl.all (fun w => match w with | .fieldLinkNest .. => false | _ => true) = true := by decide +kernel
  exact absurd (List.all_eq_true.mp hall _ hm) (by simp)
theorem Y_Tx : jv_Y 0 := ⟨_, t_Tx, rfl, ty_Tx, nd_Tx⟩
theorem Y_Nm : jv_Y 1 := ⟨_, t_Nm, rfl, ty_Nm, nd_Nm⟩
theorem Y_Rd : jv_Y 2 := ⟨_, t_Rd, rfl, ty_Rd, nd_Rd⟩
theorem Y_Ol : jv_Y 3 := ⟨_, t_Ol, rfl, ty_Ol, nd_Ol⟩
theorem Y_Cp : jv_Y 4 := ⟨_, t_Cp, rfl, ty_Cp, nd_Cp⟩
theorem Y_Sh : jv_Y 5 := ⟨_, t_Sh, rfl, ty_Sh, nd_Sh⟩
theorem Y_Tr : jv_Y 6 := ⟨_, t_Tr, rfl, ty_Tr, nd_Tr⟩
theorem Y_Md : jv_Y 7 := ⟨_, t_Md, rfl, ty_Md, nd_Md⟩
theorem jm_obj : Cond.instanceMethod Lib.objectInit ∈ lw_tbl ∧ Cond.code Lib.objectInit ⟨#[0xb1]⟩ 1 none ∈ lw_tbl := ⟨(jm1 (List.mem_of_getElem? (i := 30) rfl)), (jm1 (List.mem_of_getElem? (i := 31) rfl))⟩
section JVX
variable {p : Program} {l : Launch} {e : Env} {R : Room} {s : State} {m : MethodId} {args : Array Value} {below : List Frame} {meth : Method} {c : Code} {cells slots : Nat} {Q : State → Prop} {cc : ByteArray} {own : String} {nL : Nat} {D : va_G} {dA : Nat → ClassId} {zz : (Nat → Nat) × (Nat → Nat)} {A : Nat → Prop} {ws : va_W} {lv : List (Nat × Value)} {pc : Nat} {rest : List Value}
theorem jv_fix {st : List Value} (is : List Nat) (ws' : va_W) (st' : List Value) (k n : Nat) (hn : va_nd is = true) (hs : is.map (fun i => ws[i]?) = ws'.map some) (hst : st = st') (h1 : cells ≤ k) (h2 : slots ≤ n) (kk : jv_V p l e R s m args below meth c k n Q D A nL ws' lv pc st') : jv_V p l e R s m args below meth c cells slots Q D A nL ws lv pc st := by
  subst hst
  exact jv_widen h1 h2 (jv_perm is hn hs kk)
theorem jv_weq {ws' : va_W} {st : List Value} (h : ws = ws') (k : jv_V p l e R s m args below meth c cells slots Q D A nL ws' lv pc st) : jv_V p l e R s m args below meth c cells slots Q D A nL ws lv pc st := by rw [h]; exact k
theorem jv_ati {x y : Int32} (h : x = y) (k : jv_V p l e R s m args below meth c cells slots Q D A nL ws lv pc (.int y :: rest)) : jv_V p l e R s m args below meth c cells slots Q D A nL ws lv pc (.int x :: rest) := by rw [h]; exact k
theorem jv_atl {x y : Int64} (h : x = y) (k : jv_V p l e R s m args below meth c cells slots Q D A nL ws lv pc (.long y :: rest)) : jv_V p l e R s m args below meth c cells slots Q D A nL ws lv pc (.long x :: rest) := by rw [h]; exact k
theorem jv_ldc (C : jv_C p s m args meth c cc own nL D dA zz A) {index : Nat} {v : Int32} (hw : Cond.constant own index v ∈ lw_tbl) (hdg : decode cc pc = .ok (.ldc index, 2)) (k : jv_V p l e R s m args below meth c cells slots Q D A nL ws lv (pc + 2) (.int v :: rest)) : jv_V p l e R s m args below meth c cells slots Q D A nL ws lv pc rest :=
  fun H locs ls hP hD hS h => lv_ldc C.1 C.2.1 C.2.2.2.1 (C.2.2.2.2.1.2 _ hw rfl args) hdg (k H locs ls hP hD hS h)
theorem jv_ldc2_w (C : jv_C p s m args meth c cc own nL D dA zz A) {index : Nat} {v : Int64} (hw : Cond.constantLong own index v ∈ lw_tbl) (hdg : decode cc pc = .ok (.ldc2_w index, 3)) (k : jv_V p l e R s m args below meth c cells slots Q D A nL ws lv (pc + 3) (.long v :: rest)) : jv_V p l e R s m args below meth c cells slots Q D A nL ws lv pc rest :=
  fun H locs ls hP hD hS h => lv_ldc2 C.1 C.2.1 C.2.2.2.1 (C.2.2.2.2.1.2 _ hw rfl args) hdg (k H locs ls hP hD hS h)
theorem jv_objInit (C : jv_C p s m args meth c cc own nL D dA zz A) {idx a : Nat} (hl : Cond.methodLink own idx Lib.objectInit ∈ lw_tbl) (hdg : decode cc pc = .ok (.invokespecial idx, 3)) (hf : 1 ≤ R.frames) (hR : (rest.map fun v => v.category).sum + 12 ≤ R.locals) (k : jv_V p l e R s m args below meth c cells slots Q D A nL ws lv (pc + 3) rest) : jv_V p l e R s m args below meth c cells slots Q D A nL ws lv pc (.ref a :: rest) :=
  fun H locs ls hP hD hS h => W.objInit C.1 C.2.1 C.2.2.2.1 (C.2.2.2.2.1.2 _ hl rfl args) (C.2.2.2.2.1.2 _ jm_obj.1 rfl args) (C.2.2.2.2.1.2 _ jm_obj.2 rfl args) rfl (by rw [C.2.2.1]; exact h.1) rfl hdg hf (by show 2 * 0 + _ + 12 ≤ _; omega) (k H locs ls hP hD hS h)
theorem jv_zast (C : jv_C p s m args meth c cc own nL D dA zz A) (q0 : Nat) (ws' : va_W) {a n : Nat} {f : Nat → Int32} {i x : Int32} (ha : ws[q0]? = some (a, .inl (dA 4, n, .inl f))) (e2 : ws.set q0 (a, .inl (dA 4, n, .inl (upd f i.toNatClampNeg (vp_nar .boolean x)))) = ws') (hin : vp_in i n) (hdg : decode cc pc = .ok (.bastore, 1))
    (kk : jv_V p l e R s m args below meth c cells slots Q D A nL ws' lv (pc + 1) rest) : jv_V p l e R s m args below meth c cells slots Q D A nL ws lv pc (.int x :: .int i :: .ref a :: rest) := by
  subst e2
  exact fun H locs ls hP hD hS h => va_zast C.1 C.2.1 C.2.2.2.2.1.1 hP hD hS q0 4 ha rfl hin hdg (fun H1 locs1 hP hD hS => kk H1 locs1 ls hP hD hS h)
theorem jv_cast (C : jv_C p s m args meth c cc own nL D dA zz A) (q0 : Nat) (ws' : va_W) {a n : Nat} {f : Nat → Int32} {i x : Int32} (ha : ws[q0]? = some (a, .inl (dA 3, n, .inl f))) (e2 : ws.set q0 (a, .inl (dA 3, n, .inl (upd f i.toNatClampNeg (vp_nar .char x)))) = ws') (hin : vp_in i n) (hdg : decode cc pc = .ok (.castore, 1))
    (kk : jv_V p l e R s m args below meth c cells slots Q D A nL ws' lv (pc + 1) rest) : jv_V p l e R s m args below meth c cells slots Q D A nL ws lv pc (.int x :: .int i :: .ref a :: rest) := by
  subst e2
  exact fun H locs ls hP hD hS h => va_cast C.1 C.2.1 C.2.2.2.2.1.1 hP hD hS q0 3 ha rfl hin hdg (fun H1 locs1 hP hD hS => kk H1 locs1 ls hP hD hS h)
theorem jv_newai (C : jv_C p s m args meth c cc own nL D dA zz A) {atype : ArrayType} {ty : FieldType} (t0 : Nat) (hty : newarray.typeOf atype = ty) (hw : Cond.arrayClass ty ∈ lw_tbl) (ht : (jv_tys dA)[t0]? = some (dA t0, ty)) (hra : ∀ cA : ClassId, va_RA s cA ty → s.vm.findClass ("[" ++ ty.toString) = some cA) (hdv : defaultValue ty = .int 0)
    {n : Int32} (N : Nat) (hn : ¬ n < 0) (hN : n.toNatClampNeg = N) (hbytes : N * componentBytes ty ≤ 536870912) (hcells : cells + 1 ≤ R.cells) (hslots : slots + N ≤ R.slots) (hdg : decode cc pc = .ok (.newarray atype, 2))
    (kk : ∀ q : Nat, jv_V p l e R s m args below meth c (cells + 1) (slots + N) Q D A nL (ws ++ [(q, .inl (dA t0, N, .inl (fun _ => 0)))]) lv (pc + 2) (.ref q :: rest)) : jv_V p l e R s m args below meth c cells slots Q D A nL ws lv pc (.int n :: rest) := by
  intro H locs ls hP hD hS h
  subst hty
  refine va_newa (a0 := (N, .inl (fun _ => 0))) C.1 C.2.1 (C.2.2.2.2.1.2 _ hw rfl args) rfl C.2.2.2.2.1.1 hP hD hS C.2.2.2.2.2.1 (fun cA => by rw [vp_cell_i, hdv]) hn hN hbytes hcells hslots hdg (fun q cA H1 hK1 hP1 hD1 hS1 => ?_)
  have e1 := hra _ (C.2.2.2.2.1.1.2 t0 _ ht).2
  have e2 := hra _ (hK1.2 7 (cA, newarray.typeOf atype) rfl).2
  cases e1.symm.trans e2
  exact kk q H1 locs ls hP1 hD1 hS1 h
theorem jv_newag (C : jv_C p s m args meth c cc own nL D dA zz A) {atype : ArrayType} {ty : FieldType} (t0 : Nat) {ar : (Nat → Int32) ⊕ (Nat → Int64) ⊕ (Nat → UInt32) ⊕ (Nat → UInt64) ⊕ (Nat → Option Nat)} (hty : newarray.typeOf atype = ty) (hw : Cond.arrayClass ty ∈ lw_tbl) (ht : (jv_tys dA)[t0]? = some (dA t0, ty)) (hra : ∀ cA : ClassId, va_RA s cA ty → s.vm.findClass ("[" ++ ty.toString) = some cA)
    {n : Int32} (N : Nat) (ha : ∀ cA : ClassId, vp_cell cA (N, ar) = arrV cA N (fun _ => defaultValue ty)) (hn : ¬ n < 0) (hN : n.toNatClampNeg = N) (hbytes : N * componentBytes ty ≤ 536870912) (hcells : cells + 1 ≤ R.cells) (hslots : slots + N ≤ R.slots) (hdg : decode cc pc = .ok (.newarray atype, 2))
    (kk : ∀ q : Nat, jv_V p l e R s m args below meth c (cells + 1) (slots + N) Q D A nL (ws ++ [(q, .inl (dA t0, N, ar))]) lv (pc + 2) (.ref q :: rest)) : jv_V p l e R s m args below meth c cells slots Q D A nL ws lv pc (.int n :: rest) := by
  intro H locs ls hP hD hS h
  subst hty
  refine va_newa (a0 := (N, ar)) C.1 C.2.1 (C.2.2.2.2.1.2 _ hw rfl args) rfl C.2.2.2.2.1.1 hP hD hS C.2.2.2.2.2.1 ha hn hN hbytes hcells hslots hdg (fun q cA H1 hK1 hP1 hD1 hS1 => ?_)
  have e1 := hra _ (C.2.2.2.2.1.1.2 t0 _ ht).2
  have e2 := hra _ (hK1.2 7 (cA, newarray.typeOf atype) rfl).2
  cases e1.symm.trans e2
  exact kk q H1 locs ls hP1 hD1 hS1 h
def jv_fs0 (ci : Nat) : List Value := match jvCl[ci]? with
  | some q => (List.range q.2.2).map fun j => match parseFieldDescriptor (q.2.1 j).2.2.1 with
    | some t => defaultValue t
    | none => .null
  | none => []
def jv_N (own : String) (index ci : Nat) (N : Nat) : Prop := ∃ q : vw_C, jvCl[ci]? = some q ∧ q.2.2 = N ∧ (∀ w ∈ u_ws q.1 q.2.1 q.2.2, w ∈ lw_tbl) ∧ Cond.classLink own index q.1 ∈ lw_tbl ∧ Cond.instantiable q.1 q.2.2 ∈ lw_tbl ∧ Cond.initialized q.1 ∈ lw_tbl
theorem jv_new (C : jv_C p s m args meth c cc own nL D dA zz A) {index ci N : Nat} {fs : List Value} (F : jv_N own index ci N) (Y : jv_Y ci) (hfs : jv_fs0 ci = fs) (hcells : cells + 1 ≤ R.cells) (hslots : slots + N ≤ R.slots) (hdg : decode cc pc = .ok (.new index, 3))
    (kk : ∀ q : Nat, jv_V p l e R s m args below meth c (cells + 1) (slots + N) Q D A nL (ws ++ [(q, .inr (ci, fs))]) lv (pc + 3) (.ref q :: rest)) : jv_V p l e R s m args below meth c cells slots Q D A nL ws lv pc rest := by
  intro H locs ls hP hD hS h
  obtain ⟨⟨CC, T, N0⟩, hc, e0, hin, hcl, hinst, hini⟩ := F
  have e0 : N0 = N := e0
  subst e0
  obtain ⟨q2, ty0, hc2, hty, hnm⟩ := Y
  cases hc.symm.trans hc2
  refine va_new C.1 C.2.1 (jv_lays C.2.2.2.2.1.2 hin) (fun _ z => z) ty0 hty C.2.2.2.1 (C.2.2.2.2.1.2 _ hcl rfl args) (C.2.2.2.2.1.2 _ hinst rfl args) (C.2.2.2.2.1.2 _ hini rfl args) C.2.2.2.2.1.1 hP hD hS C.2.2.2.2.2.1 hc (fs := fs) (fun j hj => ?_) hcells hslots hdg (fun q H1 hP1 hD1 hS1 => kk q H1 locs ls hP1 hD1 hS1 h)
  subst hfs
  unfold jv_fs0
  rw [hc]
  have e5 := hty j hj
  simp only [vp_V, List.getD_eq_getElem?_getD, List.getElem?_map, List.getElem?_range hj, Option.map_some, Option.getD_some]
  have e6 : parseFieldDescriptor (T j).2.2.1 = some (ty0 j) := e5
  rw [e6]
theorem jm_max : Cond.static Lib.Math.max.name ∈ lw_tbl ∧ Cond.initialized "java/lang/Math" ∈ lw_tbl ∧ Cond.code Lib.Math.max.name Lib.Math.max.code 2 (some .int) ∈ lw_tbl := ⟨(jm3 (List.mem_of_getElem? (i := 5) rfl)), (jm1 (List.mem_of_getElem? (i := 18) rfl)), (jm3 (List.mem_of_getElem? (i := 6) rfl))⟩
theorem jv_mmax (C : jv_C p s m args meth c cc own nL D dA zz A) {idx : Nat} {x y : Int32} (hl : Cond.methodLink own idx Lib.Math.max.name ∈ lw_tbl) (hdg : decode cc pc = .ok (.invokestatic idx, 3)) (hf : 1 ≤ R.frames) (hR : (rest.map fun v => v.category).sum + 13 ≤ R.locals) (hc : cells ≤ R.cells) (hs : slots ≤ R.slots) (k : jv_V p l e R s m args below meth c cells slots Q D A nL ws lv (pc + 3) (.int (if x < y then y else x) :: rest)) : jv_V p l e R s m args below meth c cells slots Q D A nL ws lv pc (.int y :: .int x :: rest) :=
  fun H locs ls hP hD hS h => va_mmax C.1 C.2.1 (C.2.2.1.trans h.1.symm) C.2.2.2.1 (C.2.2.2.2.1.2 _ hl rfl args) (C.2.2.2.2.1.2 _ jm_max.1 rfl args) (C.2.2.2.2.1.2 _ jm_max.2.1 rfl args) (C.2.2.2.2.1.2 _ jm_max.2.2 rfl args) hf hR hc hs hdg (k H locs ls hP hD hS h)
end JVX
