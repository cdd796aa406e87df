section JVH
variable {p : Program} {l : Launch} {e : Env} {R : Room} {s : State} {m : MethodId} {args : Array Value} {below : List Frame} {meth : Method} {c : Code} {cells slots : Nat} {Q : State → Prop} {cc : ByteArray} {own : String} {nL : Nat} {D : va_G} {dA : Nat → ClassId} {zz : (Nat → Nat) × (Nat → Nat)} {A : Nat → Prop} {ws : va_W} {lv : List (Nat × Value)} {pc : Nat} {rest : List Value}
/-- field k of the class ci, at the constant index of the class own -/
def jv_F (own : String) (index ci k : Nat) : Prop := ∃ (q : vw_C), jvCl[ci]? = some q ∧ k < q.2.2 ∧ (∀ w ∈ u_ws q.1 q.2.1 q.2.2, w ∈ lw_tbl) ∧
  ((Cond.fieldLink own index (q.2.1 k).1 (q.2.1 k).2.1 (q.2.1 k).2.2.1) ∈ lw_tbl ∨ ∃ host : String, (Cond.fieldLinkNest own index (q.2.1 k).1 (q.2.1 k).2.1 (q.2.1 k).2.2.1 host) ∈ lw_tbl)
theorem jv_layok {C : String} {T : u_T} {N : Nat} {w : Cond} (h : w ∈ u_ws C T N) : jv_ok w = true := by
  unfold u_ws at h
  obtain ⟨k, -, rfl⟩ := List.mem_map.mp h
  unfold u_lay
  split <;> rfl
theorem jv_lays (hT : jv_T s) {C : String} {T : u_T} {N : Nat} (h : ∀ w ∈ u_ws C T N, w ∈ lw_tbl) : ∀ w ∈ u_ws C T N, w.before args s = true := fun w hw => hT w (h w hw) (jv_layok hw) args
theorem jv_get (C : jv_C p s m args meth c cc own nL D dA zz A) {a index ci k : Nat} {fs : List Value} {v : Value} (F : jv_F own index ci k) (q0 : Nat) (he : ws[q0]? = some (a, .inr (ci, fs))) (hv : fs[k]? = some v) (hdg : decode cc pc = .ok (.getfield index, 3))
    (kk : jv_V p l e R s m args below meth c cells slots Q D A nL ws lv (pc + 3) (v :: rest)) : jv_V p l e R s m args below meth c cells slots Q D A nL ws lv pc (.ref a :: rest) := by
  intro H locs ls hP hD hS h
  obtain ⟨⟨CC, T, N⟩, hc, hk, hin, hl | ⟨host, hl⟩⟩ := F
  · exact va_get C.1 C.2.1 (jv_lays C.2.2.2.2.1.2 hin) (fun _ z => z) C.2.2.2.1 C.2.2.2.2.1.1 hP q0 he hc k hk (C.2.2.2.2.1.2 _ hl rfl args) (fun _ z => z) hv hdg (kk H locs ls hP hD hS h)
  · exact va_getN C.1 C.2.1 (jv_lays C.2.2.2.2.1.2 hin) (fun _ z => z) C.2.2.2.1 C.2.2.2.2.1.1 hP q0 he hc k hk (C.2.2.2.2.1.2 _ hl rfl args) (fun _ z => z) hv hdg (kk H locs ls hP hD hS h)
/-- what a class's field table must say for a store -/
def jv_Y (ci : Nat) : Prop := ∃ (q : vw_C) (ty : Nat → FieldType), jvCl[ci]? = some q ∧ (∀ k, k < q.2.2 → parseFieldDescriptor (q.2.1 k).2.2.1 = some (ty k)) ∧ (∀ a, a < q.2.2 → ∀ b, b < q.2.2 → a ≠ b → (q.2.1 a).2.1 ≠ (q.2.1 b).2.1)
def jv_ft (ci k : Nat) : Option (FieldType × Bool × String) := match jvCl[ci]? with
  | some q => (parseFieldDescriptor (q.2.1 k).2.2.1).map fun t => (t, (q.2.1 k).2.2.2, (q.2.1 k).1)
  | none => none
theorem jv_put (C : jv_C p s m args meth c cc own nL D dA zz A) {a index ci k : Nat} {fs fs' : List Value} {v : Value} {ty : FieldType} {cn : String} (F : jv_F own index ci k) (Y : jv_Y ci) (hf : jv_ft ci k = some (ty, false, cn)) (q0 : Nat) (ws' : va_W) (he : ws[q0]? = some (a, .inr (ci, fs))) (hn : narrow ty v = v) (hfit : fits ty v = true) (hl : k < fs.length) (e1 : fs.set k v = fs') (e2 : ws.set q0 (a, .inr (ci, fs')) = ws') (hdg : decode cc pc = .ok (.putfield index, 3))
    (kk : jv_V p l e R s m args below meth c cells slots Q D A nL ws' lv (pc + 3) rest) : jv_V p l e R s m args below meth c cells slots Q D A nL ws lv pc (v :: .ref a :: rest) := by
  intro H locs ls hP hD hS h
  subst e1
  subst e2
  obtain ⟨⟨CC, T, N⟩, hc, hk, hin, hlk⟩ := F
  obtain ⟨q2, ty0, hc2, hty, hnm⟩ := Y
  cases hc.symm.trans hc2
  unfold jv_ft at hf
  rw [hc] at hf
  simp only [hty k hk, Option.map_some, Option.some.injEq, Prod.mk.injEq] at hf
  obtain ⟨f1, f2, f3⟩ := hf
  subst f1
  rcases hlk with hlk | ⟨host, hlk⟩
  · exact va_put C.1 C.2.1 (jv_lays C.2.2.2.2.1.2 hin) (fun _ z => z) ty0 hty hnm C.2.2.2.1 C.2.2.2.2.1.1 hP hD hS q0 he hc k hk (C.2.2.2.2.1.2 _ hlk rfl args) (fun _ z => z) f2 (hty k hk) hn hfit hl hdg (fun H1 locs1 hP hD hS => kk H1 locs1 ls hP hD hS h)
  · exact va_putN C.1 C.2.1 (jv_lays C.2.2.2.2.1.2 hin) (fun _ z => z) ty0 hty hnm C.2.2.2.1 C.2.2.2.2.1.1 hP hD hS q0 he hc k hk (C.2.2.2.2.1.2 _ hlk rfl args) (fun _ z => z) f2 (hty k hk) hn hfit hl hdg (fun H1 locs1 hP hD hS => kk H1 locs1 ls hP hD hS h)
theorem jv_putF (C : jv_C p s m args meth c cc own nL D dA zz A) {a index ci k : Nat} {fs fs' : List Value} {v : Value} {ty : FieldType} (F : jv_F own index ci k) (Y : jv_Y ci) (hf : jv_ft ci k = some (ty, true, own)) (hin2 : meth.name = "<init>") (q0 : Nat) (ws' : va_W) (he : ws[q0]? = some (a, .inr (ci, fs))) (hn : narrow ty v = v) (hfit : fits ty v = true) (hl : k < fs.length) (e1 : fs.set k v = fs') (e2 : ws.set q0 (a, .inr (ci, fs')) = ws') (hdg : decode cc pc = .ok (.putfield index, 3))
    (hno : ∀ host : String, ∀ q : vw_C, jvCl[ci]? = some q → ¬ (Cond.fieldLinkNest own index (q.2.1 k).1 (q.2.1 k).2.1 (q.2.1 k).2.2.1 host) ∈ lw_tbl)
    (kk : jv_V p l e R s m args below meth c cells slots Q D A nL ws' lv (pc + 3) rest) : jv_V p l e R s m args below meth c cells slots Q D A nL ws lv pc (v :: .ref a :: rest) := by
  intro H locs ls hP hD hS h
  subst e1
  subst e2
  obtain ⟨⟨CC, T, N⟩, hc, hk, hin, hlk⟩ := F
  obtain ⟨q2, ty0, hc2, hty, hnm⟩ := Y
  cases hc.symm.trans hc2
  unfold jv_ft at hf
  rw [hc] at hf
  simp only [hty k hk, Option.map_some, Option.some.injEq, Prod.mk.injEq] at hf
  obtain ⟨f1, f2, f3⟩ := hf
  subst f1
  rcases hlk with hlk | ⟨host, hlk⟩
  · exact va_putF C.1 C.2.1 (jv_lays C.2.2.2.2.1.2 hin) (fun _ z => z) ty0 hty hnm C.2.2.2.1 C.2.2.2.2.1.1 hP hD hS q0 he hc k hk (C.2.2.2.2.1.2 _ hlk rfl args) (fun _ z => z) f2 hin2 f3 (hty k hk) hn hfit hl hdg (fun H1 locs1 hP hD hS => kk H1 locs1 ls hP hD hS h)
  · exact absurd hlk (hno host _ hc)
theorem jv_iald (C : jv_C p s m args meth c cc own nL D dA zz A) (q0 : Nat) {a n : Nat} {f : Nat → Int32} {i : Int32} (ha : ws[q0]? = some (a, .inl (dA 1, n, .inl f))) (hin : vp_in i n) (hdg : decode cc pc = .ok (.iaload, 1))
    (kk : jv_V p l e R s m args below meth c cells slots Q D A nL ws lv (pc + 1) (.int (f i.toNatClampNeg) :: rest)) : jv_V p l e R s m args below meth c cells slots Q D A nL ws lv pc (.int i :: .ref a :: rest) :=
  fun H locs ls hP hD hS h => va_iald C.1 C.2.1 C.2.2.2.2.1.1 hP q0 1 ha rfl hin hdg (kk H locs ls hP hD hS h)
theorem jv_bald (C : jv_C p s m args meth c cc own nL D dA zz A) (q0 : Nat) {a n : Nat} {f : Nat → Int32} {i : Int32} (ha : ws[q0]? = some (a, .inl (dA 0, n, .inl f))) (hin : vp_in i n) (hdg : decode cc pc = .ok (.baload, 1))
    (kk : jv_V p l e R s m args below meth c cells slots Q D A nL ws lv (pc + 1) (.int (f i.toNatClampNeg) :: rest)) : jv_V p l e R s m args below meth c cells slots Q D A nL ws lv pc (.int i :: .ref a :: rest) :=
  fun H locs ls hP hD hS h => va_bald C.1 C.2.1 C.2.2.2.2.1.1 hP q0 0 ha rfl hin hdg (kk H locs ls hP hD hS h)
theorem jv_zald (C : jv_C p s m args meth c cc own nL D dA zz A) (q0 : Nat) {a n : Nat} {f : Nat → Int32} {i : Int32} (ha : ws[q0]? = some (a, .inl (dA 4, n, .inl f))) (hin : vp_in i n) (hdg : decode cc pc = .ok (.baload, 1))
    (kk : jv_V p l e R s m args below meth c cells slots Q D A nL ws lv (pc + 1) (.int (f i.toNatClampNeg) :: rest)) : jv_V p l e R s m args below meth c cells slots Q D A nL ws lv pc (.int i :: .ref a :: rest) :=
  fun H locs ls hP hD hS h => va_zald C.1 C.2.1 C.2.2.2.2.1.1 hP q0 4 ha rfl hin hdg (kk H locs ls hP hD hS h)
theorem jv_cald (C : jv_C p s m args meth c cc own nL D dA zz A) (q0 : Nat) {a n : Nat} {f : Nat → Int32} {i : Int32} (ha : ws[q0]? = some (a, .inl (dA 3, n, .inl f))) (hin : vp_in i n) (hdg : decode cc pc = .ok (.caload, 1))
    (kk : jv_V p l e R s m args below meth c cells slots Q D A nL ws lv (pc + 1) (.int (f i.toNatClampNeg) :: rest)) : jv_V p l e R s m args below meth c cells slots Q D A nL ws lv pc (.int i :: .ref a :: rest) :=
  fun H locs ls hP hD hS h => va_cald C.1 C.2.1 C.2.2.2.2.1.1 hP q0 3 ha rfl hin hdg (kk H locs ls hP hD hS h)
theorem jv_lald (C : jv_C p s m args meth c cc own nL D dA zz A) (q0 : Nat) {a n : Nat} {f : Nat → Int64} {i : Int32} (ha : ws[q0]? = some (a, .inl (dA 2, n, .inr (.inl f)))) (hin : vp_in i n) (hdg : decode cc pc = .ok (.laload, 1))
    (kk : jv_V p l e R s m args below meth c cells slots Q D A nL ws lv (pc + 1) (.long (f i.toNatClampNeg) :: rest)) : jv_V p l e R s m args below meth c cells slots Q D A nL ws lv pc (.int i :: .ref a :: rest) :=
  fun H locs ls hP hD hS h => va_lald C.1 C.2.1 C.2.2.2.2.1.1 hP q0 2 ha rfl hin hdg (kk H locs ls hP hD hS h)
theorem jv_iast (C : jv_C p s m args meth c cc own nL D dA zz A) (q0 : Nat) (ws' : va_W) {a n : Nat} {f : Nat → Int32} {i x : Int32} (ha : ws[q0]? = some (a, .inl (dA 1, n, .inl f))) (e2 : ws.set q0 (a, .inl (dA 1, n, .inl (upd f i.toNatClampNeg x))) = ws') (hin : vp_in i n) (hdg : decode cc pc = .ok (.iastore, 1))
    (kk : jv_V p l e R s m args below meth c cells slots Q D A nL ws' lv (pc + 1) rest) : jv_V p l e R s m args below meth c cells slots Q D A nL ws lv pc (.int x :: .int i :: .ref a :: rest) := by
  subst e2
  exact fun H locs ls hP hD hS h => va_iast C.1 C.2.1 C.2.2.2.2.1.1 hP hD hS q0 1 ha rfl hin hdg (fun H1 locs1 hP hD hS => kk H1 locs1 ls hP hD hS h)
theorem jv_bast (C : jv_C p s m args meth c cc own nL D dA zz A) (q0 : Nat) (ws' : va_W) {a n : Nat} {f : Nat → Int32} {i x : Int32} (ha : ws[q0]? = some (a, .inl (dA 0, n, .inl f))) (e2 : ws.set q0 (a, .inl (dA 0, n, .inl (upd f i.toNatClampNeg x.toInt8.toInt32))) = ws') (hin : vp_in i n) (hdg : decode cc pc = .ok (.bastore, 1))
    (kk : jv_V p l e R s m args below meth c cells slots Q D A nL ws' lv (pc + 1) rest) : jv_V p l e R s m args below meth c cells slots Q D A nL ws lv pc (.int x :: .int i :: .ref a :: rest) := by
  subst e2
  exact fun H locs ls hP hD hS h => va_bast C.1 C.2.1 C.2.2.2.2.1.1 hP hD hS q0 0 ha rfl hin hdg (fun H1 locs1 hP hD hS => kk H1 locs1 ls (by first | exact hP | simpa [vp_nar_byte] using hP) (by first | exact hD | simpa [vp_nar_byte] using hD) hS h)
theorem jv_last (C : jv_C p s m args meth c cc own nL D dA zz A) (q0 : Nat) (ws' : va_W) {a n : Nat} {f : Nat → Int64} {i : Int32} {x : Int64} (ha : ws[q0]? = some (a, .inl (dA 2, n, .inr (.inl f)))) (e2 : ws.set q0 (a, .inl (dA 2, n, .inr (.inl (vp_updL f i.toNatClampNeg x)))) = ws') (hin : vp_in i n) (hdg : decode cc pc = .ok (.lastore, 1))
    (kk : jv_V p l e R s m args below meth c cells slots Q D A nL ws' lv (pc + 1) rest) : jv_V p l e R s m args below meth c cells slots Q D A nL ws lv pc (.long x :: .int i :: .ref a :: rest) := by
  subst e2
  exact fun H locs ls hP hD hS h => va_last C.1 C.2.1 C.2.2.2.2.1.1 hP hD hS q0 2 ha rfl hin hdg (fun H1 locs1 hP hD hS => kk H1 locs1 ls hP hD hS h)
theorem jv_alen (C : jv_C p s m args meth c cc own nL D dA zz A) (q0 t0 : Nat) {a : Nat} {cA : ClassId} {x : vp_A} {ty : FieldType} (ha : ws[q0]? = some (a, .inl (cA, x))) (ht : (jv_tys dA)[t0]? = some (cA, ty)) (hdg : decode cc pc = .ok (.arraylength, 1))
    (kk : jv_V p l e R s m args below meth c cells slots Q D A nL ws lv (pc + 1) (.int (nI x.1) :: rest)) : jv_V p l e R s m args below meth c cells slots Q D A nL ws lv pc (.ref a :: rest) :=
  fun H locs ls hP hD hS h => va_alen C.1 C.2.1 C.2.2.2.2.1.1 hP q0 t0 ha ht rfl hdg (kk H locs ls hP hD hS h)
theorem jv_perm (is : List Nat) {ws' : va_W} (hn : va_nd is = true) (hs : is.map (fun i => ws[i]?) = ws'.map some) (k : jv_V p l e R s m args below meth c cells slots Q D A nL ws' lv pc rest) : jv_V p l e R s m args below meth c cells slots Q D A nL ws lv pc rest :=
  fun H locs ls hP hD hS h => k H locs ls (hP.sub is (by
    have e : is.filterMap (fun i => ws[i]?) = (is.map (fun i => ws[i]?)).filterMap id := by rw [List.filterMap_map]; rfl
    rw [e, hs, List.filterMap_map]
    exact List.filterMap_some)) (hD.sub is hn hs) hS h
theorem jv_widen {k n : Nat} (h1 : cells ≤ k) (h2 : slots ≤ n) (kk : jv_V p l e R s m args below meth c k n Q D A nL ws lv pc rest) : jv_V p l e R s m args below meth c cells slots Q D A nL ws lv pc rest :=
  fun H locs ls hP hD hS h => W.widen (k := k) (n := n) h1 h2 (kk H locs ls hP hD hS h)
end JVH
