-- methods with a table of handlers
def jv_MW {S : Type} (l : Launch) (D : va_G) (dA : Nat → ClassId) (zz : (Nat → Nat) × (Nat → Nat)) (y : MethodName) (b : ByteArray) (nL : Nat) (ret : Option FieldType) (hh : List (Nat × Nat × Nat × Nat)) (n : Nat) (av : List Value) (w0 : va_W) (post : Option Value → S → Prop) (w1 : S → va_W) (mc ms : Nat) : Prop :=
  ∀ sz : Nat, Met l y [.codeWith y b nL ret hh] (jv_rm n mc ms) (jv_Pc D dA zz av w0 sz) (jv_Q D post w1 (va_A w0 sz)) mc ms (va_A w0 sz)
theorem jv_MW.of {S : Type} {l : Launch} {D : va_G} {dA : Nat → ClassId} {zz : (Nat → Nat) × (Nat → Nat)} {y : MethodName} {b : ByteArray} {nL : Nat} {ret : Option FieldType} {hh : List (Nat × Nat × Nat × Nat)} {n : Nat} {av : List Value} {w0 : va_W} {post : Option Value → S → Prop} {w1 : S → va_W} {mc ms : Nat} (lv : List (Nat × Value)) (hy : plainName y.cls = true) (hlen : (lg_sl av).length ≤ nL) (hlv : lv_args 0 av = lv)
    (body : ∀ (p : Program) (e : Env) (s : State) (m : MethodId) (below : List Frame) (meth : Method) (c : Code) (A : Nat → Prop), jv_C p s m av.toArray meth c b y.cls nL D dA zz A → meth.sig.returnType = ret → c.exceptionTable.toList = tableOf hh →
      jv_V p l e (jv_rm n mc ms) s m av.toArray below meth c 0 0 (jv_E D post w1 below av.toArray s A mc ms) D A nL w0 lv 0 []) : jv_MW l D dA zz y b nL ret hh n av w0 post w1 mc ms := by
  intro sz
  refine MetFree.of_bodyS (code := b) (maxLocals := nL) (ret := ret) hy ?_ ?_
  · intro args s m h hn
    obtain ⟨m9, meth, c, hn9, h1, h2, h3, h4, -, h5, h6, -⟩ := Cond.codeWith_spec (atoms_spec (ws := [Cond.codeWith y b nL ret hh]) h _ List.mem_cons_self)
    cases hn.symm.trans hn9
    exact ⟨meth, c, h1, h2, h3, h4, h5, h6⟩
  · intro p e s m args below meth c s₁ B hml hv _
    have hh0 : s₁.heap = s.heap := by rw [B.state]; rfl
    have htab : c.exceptionTable.toList = tableOf hh := vx_table (x := y) B (atoms_spec (ws := [Cond.codeWith y b nL ret hh]) B.pre _ List.mem_cons_self)
    obtain ⟨rfl, hsz, hP, hK, hD0, hZ⟩ := hv
    subst hsz
    have hD := hD0.self (sz := s.heap.size)
    have hl := lv_entry av (n := nL) hlen
    rw [hlv] at hl
    have hw := body p e s m below meth c (va_A w0 s.heap.size) ⟨B.exec, B.bytes, hml, findClass_of_methodNamed B.named, hK, fun q h => Or.inr h, B.notSynchronized, hZ⟩ B.returns htab s.heap [] _ hP hD va_S.rf hl
    rw [← lg_entry_eq] at hw
    obtain ⟨t, a1, o, b1, b2, b3⟩ := hw s₁ hh0 (Stand.of_body B)
    exact ⟨t, o, a1, b1, b2, ⟨b3.1, b3.2⟩⟩
theorem jw_range (ws : va_W) : (List.range ws.length).map (fun i => ws[i]?) = ws.map some := by
  apply List.ext_getElem?
  intro k
  rw [List.getElem?_map, List.getElem?_map]
  rcases Nat.lt_or_ge k ws.length with h | h
  · rw [List.getElem?_range h, List.getElem?_eq_getElem h]; exact congrArg some (List.getElem?_eq_getElem h)
  · rw [List.getElem?_eq_none (by rw [List.length_range]; exact h), List.getElem?_eq_none h]; rfl
theorem jw_range_at (pre ws suf : va_W) : ((List.range ws.length).map (fun i => i + pre.length)).map (fun i => (pre ++ ws ++ suf)[i]?) = ws.map some := by
  rw [List.map_map, ← jw_range ws]
  apply List.map_congr_left
  intro i hi
  have hi := List.mem_range.mp hi
  show (pre ++ ws ++ suf)[i + pre.length]? = ws[i]?
  rw [List.getElem?_append_left (by rw [List.length_append]; omega), List.getElem?_append_right (by omega), Nat.add_sub_cancel]
theorem jw_range_nd (n k : Nat) : va_nd ((List.range n).map (fun i => i + k)) = true := by
  apply jv_nd_of
  rw [List.nodup_iff_pairwise_ne, List.pairwise_map]
  exact List.Pairwise.imp (fun h z => h (by omega)) (List.nodup_iff_pairwise_ne.mp List.nodup_range)
theorem jw_range_mem {n k i : Nat} (h : i ∈ (List.range n).map (fun i => i + k)) : k ≤ i ∧ i < k + n := by
  obtain ⟨j, h1, rfl⟩ := List.mem_map.mp h
  have := List.mem_range.mp h1
  constructor <;> omega
section JVT
variable {p : Program} {l : Launch} {e : Env} {R : Room} {s : State} {m : MethodId} {args : Array Value} {below : List Frame} {meth : Method} {c : Code} {cells slots : Nat} {Q : State → Prop} {cc : ByteArray} {own : String} {nL : Nat} {D : va_G} {dA : Nat → ClassId} {zz : (Nat → Nat) × (Nat → Nat)} {A : Nat → Prop} {ws : va_W} {lv : List (Nat × Value)} {pc : Nat} {rest : List Value}
theorem jv_iretA {S : Type} {post : Int32 → S → Prop} {w1 : S → va_W} {mc ms : Nat} (C : jv_C p s m args meth c cc own nL D dA zz A) {ty : FieldType} (hr : meth.sig.returnType = some ty) {x : Int32} (u : S) (hp : post x u) (hty : narrow ty (.int x) = .int x) (hw : ws = w1 u) (h1 : cells ≤ mc) (h2 : slots ≤ ms) (hdg : decode cc pc = .ok (.ireturn, 1)) :
    jv_V p l e R s m args below meth c cells slots (jv_E D (jv_pi post) w1 below args s A mc ms) D A nL ws lv pc [.int x] :=
  jv_iret C hr u hp hty (List.range ws.length) (jv_nd_of List.nodup_range) (by rw [← hw]; exact jw_range ws) h1 h2 hdg
theorem jw_C1 (oc : Nat × va_E) (X : va_W) : ((List.range X.length).map (fun i => i + 1)).map (fun i => (oc :: X)[i]?) = X.map some := by
  have h := jw_range_at [oc] X []
  rw [List.append_nil] at h
  exact h
/-- a virtual call: the world is a cell, and the callee's -/
theorem jv_callXV {S : Type} {post : Option Value → S → Prop} {w1 : S → va_W} {X : va_W} {oc : Nat × va_E} {mc ms n k index ml : Nat} {y : MethodName} {b : ByteArray} {ret : Option FieldType} {o ci : Nat} {As st : List Value} {fs : List Value} {q : vw_C} (C : jv_C p s m args meth c cc own nL D dA zz A) (L : jv_LV own index y b ml ret n) (hM : jv_M l D dA zz y b ml ret k (.ref o :: As) X post w1 mc ms)
    (hc : jvCl[ci]? = some q) (hq : q.1 = y.cls) (he : X[0]? = some (o, .inr (ci, fs)))
    (hR2 : k + 1 ≤ R.frames ∧ 8 + (ml + 11) + 64 * k ≤ R.locals) (hf : cells + mc ≤ R.cells ∧ slots + ms ≤ R.slots) (hnA : As.length = n) (hst : st = As.reverse ++ .ref o :: rest) (hcat : (rest.map fun v => v.category).sum ≤ 8) (hdg : decode cc pc = .ok (.invokevirtual index, 3))
    (kk : ∀ (v : Option Value) (u : S), post v u → jv_V p l e R s m args below meth c (cells + mc) (slots + ms) Q D A nL (oc :: w1 u) lv (pc + 3) (v.toList ++ rest)) : jv_V p l e R s m args below meth c cells slots Q D A nL (oc :: X) lv pc st :=
  jv_callV (wr := [oc]) C L hM ((List.range X.length).map (fun i => i + 1)) [0] (jw_C1 oc X) rfl (jw_range_nd _ _) rfl (fun i hi z => by
    rw [List.mem_singleton.mp hi] at z
    exact absurd (jw_range_mem z).1 (by decide)) hc hq 0 he hR2 hf hnA hst hcat hdg kk
/-- a virtual call whose callee throws: caught here -/
theorem jv_catXV {S : Type} {E name : String} {px : S → Prop} {w1 : S → va_W} {X : va_W} {oc : Nat × va_E} {mc ms n k index ml : Nat} {y : MethodName} {b : ByteArray} {ret : Option FieldType} {hh : List (Nat × Nat × Nat × Nat)} {o ci : Nat} {As st : List Value} {fs : List Value} {q : vw_C} (C : jv_C p s m args meth c cc own nL D dA zz A) (htab : c.exceptionTable.toList = tableOf hh) (L : jv_LV own index y b ml ret n) (hM : jv_MX l D dA zz y b ml ret k (.ref o :: As) X E px w1 mc ms)
    (hc : jvCl[ci]? = some q) (hq : q.1 = y.cls) (he : X[0]? = some (o, .inr (ci, fs))) (hno : ∀ host : String, ¬ Cond.methodLinkNest own index y host ∈ lw_tbl)
    (hR2 : k + 1 ≤ R.frames ∧ 8 + (ml + 11) + 64 * k ≤ R.locals) (hf : cells + mc ≤ R.cells ∧ slots + ms ≤ R.slots) (hnA : As.length = n) (hst : st = As.reverse ++ .ref o :: rest) (hcat : (rest.map fun v => v.category).sum ≤ 8) (hdg : decode cc pc = .ok (.invokevirtual index, 3))
    (pre : List ExceptionTableEntry) (x : ExceptionTableEntry) (suf : List ExceptionTableEntry) (hsplit : tableOf hh = pre ++ x :: suf) (hpass : ∀ z ∈ pre, z.catchType ≠ 0 ∧ ∃ nm : String, Cond.classLink own z.catchType nm ∈ lw_tbl ∧ va_Nc E nm s) (hcov : covers x pc = true) (h0 : x.catchType ≠ 0) (hlink : Cond.classLink own x.catchType name ∈ lw_tbl) (hcast : Cond.castable E name ∈ lw_tbl)
    (kk : ∀ (a : Nat) (u : S), px u → jv_V p l e R s m args below meth c (cells + mc) (slots + ms) Q D A nL (oc :: w1 u) lv x.handlerPc [.ref a]) : jv_V p l e R s m args below meth c cells slots Q D A nL (oc :: X) lv pc st := by
  intro H locs ls hP hD hS h
  refine jv_goonX (wr := [oc]) C.2.2.2.2.2.1 hP hD hS ((List.range X.length).map (fun i => i + 1)) [0] (jw_C1 oc X) rfl rfl (fun i hi z => by
    rw [List.mem_singleton.mp hi] at z
    exact absurd (jw_range_mem z).1 (by decide)) (jv_runVX C L hM hP hD hS h _ (jw_C1 oc X) (jw_range_nd _ _) hc hq 0 he hno hR2 hf hnA hst hcat hdg) ?_
  intro q9 ce u H1 locs1 hpx hP1 hD1 hS1 hq9 hcv hcl
  have hT := C.2.2.2.2.1.2
  exact vx_catch C.2.2.2.1 pre x suf (htab.trans hsplit) (fun z hz => by
    obtain ⟨z0, nm, z1, z2⟩ := hpass z hz
    exact Or.inr ⟨z0, nm, hT _ z1 rfl args, z2⟩) hcov h0 (hT _ hlink rfl args) (hT _ hcast rfl args) hq9 hcv hcl (kk q9 u hpx H1 locs1 ls hP1 hD1 hS1 h)
/-- a static call of a method with handlers: the callee's world is the head of this one -/
def jv_LW (own : String) (index : Nat) (y : MethodName) (b : ByteArray) (nL : Nat) (ret : Option FieldType) (hh : List (Nat × Nat × Nat × Nat)) (n : Nat) : Prop :=
  Cond.codeWith y b nL ret hh ∈ lw_tbl ∧ Cond.initialized y.cls ∈ lw_tbl ∧ (y.cls ≠ "java/lang/invoke/MethodHandle" ∧ y.cls ≠ "java/lang/invoke/VarHandle") ∧ (parseMethodDescriptor y.desc).map (fun d => d.parameters.length) = some n ∧ Cond.methodLink own index y ∈ lw_tbl ∧ Cond.static y ∈ lw_tbl
theorem jv_callW {S : Type} {post : Option Value → S → Prop} {w1 : S → va_W} {wc wr : va_W} {mc ms n k index ml : Nat} {y : MethodName} {b : ByteArray} {ret : Option FieldType} {hh : List (Nat × Nat × Nat × Nat)} {As st : List Value} (C : jv_C p s m args meth c cc own nL D dA zz A) (L : jv_LW own index y b ml ret hh n) (hM : jv_MW l D dA zz y b ml ret hh k As wc post w1 mc ms)
    (isC isR : List Nat) (hC : isC.map (fun i => ws[i]?) = wc.map some) (hR : isR.map (fun i => ws[i]?) = wr.map some) (hnC : va_nd isC = true) (hn : va_nd isR = true) (hdis : ∀ i ∈ isR, i ∉ isC)
    (hR2 : k + 1 ≤ R.frames ∧ 8 + (ml + 11) + 64 * k ≤ R.locals) (hf : cells + mc ≤ R.cells ∧ slots + ms ≤ R.slots) (hnA : As.length = n) (hst : st = As.reverse ++ rest) (hcat : (rest.map fun v => v.category).sum ≤ 8) (hdg : decode cc pc = .ok (.invokestatic index, 3))
    (kk : ∀ (v : Option Value) (u : S), post v u → jv_V p l e R s m args below meth c (cells + mc) (slots + ms) Q D A nL (wr ++ w1 u) lv (pc + 3) (v.toList ++ rest)) : jv_V p l e R s m args below meth c cells slots Q D A nL ws lv pc st := by
  intro H locs ls hP hD hS h
  obtain ⟨hx, hb, hml, hown, ⟨hK, hT⟩, hA, hlk, hZ⟩ := C
  obtain ⟨hPc, hDc⟩ := jv_pick hP hD isC hnC hC
  have S0 : CallFix p m c cc nL s args ([] : List Cond) own := ⟨hx, hb, hml, hown, fun w h => by cases h⟩
  have hp : PreS s H (jv_Pc D dA zz As wc H.size) As := ⟨jv_Pc_blind, fun U hU hW => ⟨rfl, by rw [hU], by rw [hU]; exact hPc, jv_K.moved hW ⟨hK, hT⟩, hDc.weaken (fun _ _ _ _ => trivial), by rw [hU]; exact hZ.to hS.2.1 hW (va_free hD hS hA isC hC)⟩⟩
  have hws : ∀ w ∈ [Cond.codeWith y b ml ret hh], ∀ (a' : Array Value) (U : State), s.WarmedH U.vm → w.before a' U = true := by
    intro w hw a' U hW
    rw [List.mem_singleton.mp hw]
    exact word_at hW (Or.inl rfl) (hT _ L.1 rfl #[])
  have hlen : ∀ sig, parseMethodDescriptor y.desc = some sig → n = sig.parameters.length := by
    intro sig h
    have h2 := L.2.2.2.1
    rw [h] at h2
    exact (Option.some.inj h2).symm
  exact jv_goon hA hP hD hS h isC isR hC hR hn hdis (vx_runSW (As := As) (rest := rest) S0 (hM H.size) ⟨⟨rfl, rfl, hR2.1, hR2.2, hws, List.mem_cons_self⟩, hT _ L.1 rfl args, hT _ L.2.1 rfl args, L.2.2.1, hlen, hT _ L.2.2.2.2.1 rfl args, hT _ L.2.2.2.2.2 rfl args⟩ hp rfl hnA h.1 hst (lv_room hcat) hdg hf) kk
end JVT

theorem cw_La_56 : jv_LW R_La 56 y_La_feed b_La_feed 8 (some .int) [(0, 16, 19, 13)] 7 := ⟨(jm1 (List.mem_of_getElem? (i := 185) rfl)), (jm1 (List.mem_of_getElem? (i := 0) rfl)), ⟨by decide, by decide⟩, by decide +kernel, (jm1 (List.mem_of_getElem? (i := 183) rfl)), (jm1 (List.mem_of_getElem? (i := 184) rfl))⟩
theorem cw_La_66 : jv_LW R_La 66 y_La_end b_La_end 4 (some .int) [(0, 9, 12, 19)] 3 := ⟨(jm2 (List.mem_of_getElem? (i := 30) rfl)), (jm1 (List.mem_of_getElem? (i := 0) rfl)), ⟨by decide, by decide⟩, by decide +kernel, (jm2 (List.mem_of_getElem? (i := 28) rfl)), (jm2 (List.mem_of_getElem? (i := 29) rfl))⟩
theorem cw_La_70 : jv_LW R_La 70 y_La_read b_La_read 4 (some .int) [(0, 9, 12, 19), (0, 9, 15, 24)] 3 := ⟨(jm2 (List.mem_of_getElem? (i := 57) rfl)), (jm1 (List.mem_of_getElem? (i := 0) rfl)), ⟨by decide, by decide⟩, by decide +kernel, (jm2 (List.mem_of_getElem? (i := 55) rfl)), (jm2 (List.mem_of_getElem? (i := 56) rfl))⟩
theorem cw_La_73 : jv_LW R_La 73 y_La_print b_La_print 4 (some .int) [(0, 9, 12, 19), (0, 9, 15, 29)] 3 := ⟨(jm3 (List.mem_of_getElem? (i := 51) rfl)), (jm1 (List.mem_of_getElem? (i := 0) rfl)), ⟨by decide, by decide⟩, by decide +kernel, (jm3 (List.mem_of_getElem? (i := 49) rfl)), (jm3 (List.mem_of_getElem? (i := 50) rfl))⟩
theorem cw_La_76 : jv_LW R_La 76 y_La_same b_La_same 5 (some .int) [(0, 17, 20, 19), (0, 17, 24, 29)] 4 := ⟨(jm3 (List.mem_of_getElem? (i := 77) rfl)), (jm1 (List.mem_of_getElem? (i := 0) rfl)), ⟨by decide, by decide⟩, by decide +kernel, (jm3 (List.mem_of_getElem? (i := 75) rfl)), (jm3 (List.mem_of_getElem? (i := 76) rfl))⟩
theorem cw_La_80 : jv_LW R_La 80 y_La_about b_La_about 5 (some .int) [(0, 9, 12, 19), (0, 9, 16, 29)] 4 := ⟨(jm3 (List.mem_of_getElem? (i := 167) rfl)), (jm1 (List.mem_of_getElem? (i := 0) rfl)), ⟨by decide, by decide⟩, by decide +kernel, (jm3 (List.mem_of_getElem? (i := 165) rfl)), (jm3 (List.mem_of_getElem? (i := 166) rfl))⟩
theorem cw_La_83 : jv_LW R_La 83 y_La_take b_La_take 5 (some .int) [(0, 7, 10, 19), (0, 7, 14, 29), (0, 7, 18, 43)] 4 := ⟨(jm3 (List.mem_of_getElem? (i := 198) rfl)), (jm1 (List.mem_of_getElem? (i := 0) rfl)), ⟨by decide, by decide⟩, by decide +kernel, (jm3 (List.mem_of_getElem? (i := 196) rfl)), (jm3 (List.mem_of_getElem? (i := 197) rfl))⟩
theorem cw_La_87 : jv_LW R_La 87 y_La_word b_La_word 4 (some .int) [(0, 8, 11, 13)] 3 := ⟨(jm3 (List.mem_of_getElem? (i := 229) rfl)), (jm1 (List.mem_of_getElem? (i := 0) rfl)), ⟨by decide, by decide⟩, by decide +kernel, (jm3 (List.mem_of_getElem? (i := 227) rfl)), (jm3 (List.mem_of_getElem? (i := 228) rfl))⟩
theorem cw_La_90 : jv_LW R_La 90 y_La_count b_La_count 4 (some .int) [(0, 9, 12, 19)] 3 := ⟨(jm3 (List.mem_of_getElem? (i := 236) rfl)), (jm1 (List.mem_of_getElem? (i := 0) rfl)), ⟨by decide, by decide⟩, by decide +kernel, (jm3 (List.mem_of_getElem? (i := 234) rfl)), (jm3 (List.mem_of_getElem? (i := 235) rfl))⟩

set_option maxHeartbeats 4000000 in
set_option maxRecDepth 100000 in
theorem c_La_feed_ok {l : Launch} {D : va_G} {dA : Nat → ClassId} {zz : (Nat → Nat) × (Nat → Nat)} {S : Type} {x : Nat} {a b c d e : Int32} {X : va_W} {fs : List Value} (oa : Nat) (fo : Nat → Int64) (hx : X[0]? = some (x, .inr (5, fs))) {post : Int32 → S → Prop} {w1 : S → va_W} {kL mc ms : Nat} (hM : jv_M l D dA zz y_Sh_feed b_Sh_feed 6 (some (FieldType.int)) kL [.ref x, .int a, .int b, .int c, .int d, .int e] X (jv_pi post) w1 mc ms) : jv_MW l D dA zz y_La_feed b_La_feed 8 (some .int) [(0, 16, 19, 13)] (kL + 1) [.ref x, .int a, .int b, .int c, .int d, .int e, .ref oa] ((oa, .inl (dA 2, 1, .inr (.inl fo))) :: X) (jv_pi fun r (u : S × (Nat → Int64)) => r = 0 ∧ ∃ v, post v u.1 ∧ u.2 0 = v.toInt64) (fun u => (oa, .inl (dA 2, 1, .inr (.inl u.2))) :: w1 u.1) mc ms := by
  refine jv_MW.of [(0, .ref x), (1, .int a), (2, .int b), (3, .int c), (4, .int d), (5, .int e), (6, .ref oa)] (by decide) (Nat.le_of_ble_eq_true rfl) rfl ?_
  intro pR eR sR mR belowR methR cR AR C hr htab
  refine jv_aload C (jd D_La_feed 0 rfl) 6 rfl ?_
  refine jv_iconst (v := 0) C (jd D_La_feed 1 rfl) (by decide) ?_
  refine jv_aload_n C (jd D_La_feed 2 rfl) rfl 0 rfl ?_
  refine jv_iload_n C (jd D_La_feed 3 rfl) rfl 1 rfl ?_
  refine jv_iload_n C (jd D_La_feed 4 rfl) rfl 2 rfl ?_
  refine jv_iload_n C (jd D_La_feed 5 rfl) rfl 3 rfl ?_
  refine jv_iload C (jd D_La_feed 6 rfl) 4 rfl ?_
  refine jv_iload C (jd D_La_feed 7 rfl) 5 rfl ?_
  refine jv_callXV C cl_La_7 hM rfl rfl hx ⟨Nat.le_refl _, (by show 8 + (6 + 11) + 64 * kL ≤ 64 * (kL + 1); omega)⟩ ⟨Nat.le_of_eq (Nat.zero_add _), Nat.le_of_eq (Nat.zero_add _)⟩ rfl rfl (Nat.le_of_ble_eq_true rfl) (jd D_La_feed 8 rfl) (fun vR uR hv => ?_)
  obtain ⟨rR, rfl, hv⟩ := hv
  refine jv_i2l C (jd D_La_feed 9 rfl) ?_
  refine jv_last C 0 ((oa, .inl (dA 2, 1, .inr (.inl (vp_updL fo (0 : Int32).toNatClampNeg rR.toInt64)))) :: w1 uR) rfl rfl (vp_in_nI (n := 0) (by decide) (by decide)) (jd D_La_feed 10 rfl) ?_
  refine jv_goto (tgt := 23) C (jd D_La_feed 11 rfl) (by decide) ?_
  refine jv_iconst (v := 0) C (jd D_La_feed 15 rfl) (by decide) ?_
  exact jv_iretA C hr (uR, vp_updL fo (0 : Int32).toNatClampNeg rR.toInt64) (⟨rfl, rR, hv, rfl⟩) rfl rfl (Nat.le_of_eq (Nat.zero_add _)) (Nat.le_of_eq (Nat.zero_add _)) (jd D_La_feed 16 rfl)

set_option maxHeartbeats 4000000 in
set_option maxRecDepth 100000 in
theorem c_La_feed_x1 {l : Launch} {D : va_G} {dA : Nat → ClassId} {zz : (Nat → Nat) × (Nat → Nat)} {S : Type} {x : Nat} {a b c d e : Int32} {X : va_W} {fs : List Value} (oa : Nat) (fo : Nat → Int64) (hx : X[0]? = some (x, .inr (5, fs))) {px : S → Prop} {w1 : S → va_W} {kL mc ms : Nat} (hM : jv_MX l D dA zz y_Sh_feed b_Sh_feed 6 (some (FieldType.int)) kL [.ref x, .int a, .int b, .int c, .int d, .int e] X "java/lang/IndexOutOfBoundsException" px w1 mc ms) : jv_MW l D dA zz y_La_feed b_La_feed 8 (some .int) [(0, 16, 19, 13)] (kL + 1) [.ref x, .int a, .int b, .int c, .int d, .int e, .ref oa] ((oa, .inl (dA 2, 1, .inr (.inl fo))) :: X) (jv_pi fun r (u : S × (Nat → Int64)) => r = 1 ∧ px u.1) (fun u => (oa, .inl (dA 2, 1, .inr (.inl u.2))) :: w1 u.1) mc ms := by
  refine jv_MW.of [(0, .ref x), (1, .int a), (2, .int b), (3, .int c), (4, .int d), (5, .int e), (6, .ref oa)] (by decide) (Nat.le_of_ble_eq_true rfl) rfl ?_
  intro pR eR sR mR belowR methR cR AR C hr htab
  refine jv_aload C (jd D_La_feed 0 rfl) 6 rfl ?_
  refine jv_iconst (v := 0) C (jd D_La_feed 1 rfl) (by decide) ?_
  refine jv_aload_n C (jd D_La_feed 2 rfl) rfl 0 rfl ?_
  refine jv_iload_n C (jd D_La_feed 3 rfl) rfl 1 rfl ?_
  refine jv_iload_n C (jd D_La_feed 4 rfl) rfl 2 rfl ?_
  refine jv_iload_n C (jd D_La_feed 5 rfl) rfl 3 rfl ?_
  refine jv_iload C (jd D_La_feed 6 rfl) 4 rfl ?_
  refine jv_iload C (jd D_La_feed 7 rfl) 5 rfl ?_
  refine jv_catXV (name := "java/lang/IndexOutOfBoundsException") C htab cl_La_7 hM rfl rfl hx (fun _ => jv_noNestM (by decide)) ⟨Nat.le_refl _, (by show 8 + (6 + 11) + 64 * kL ≤ 64 * (kL + 1); omega)⟩ ⟨Nat.le_of_eq (Nat.zero_add _), Nat.le_of_eq (Nat.zero_add _)⟩ rfl rfl (Nat.le_of_ble_eq_true rfl) (jd D_La_feed 8 rfl) [] (⟨0, 16, 19, 13⟩ : ExceptionTableEntry) [] rfl (fun _ h => absurd h List.not_mem_nil) (by decide) (by decide) (jm1 (List.mem_of_getElem? (i := 186) rfl)) (jm1 (List.mem_of_getElem? (i := 197) rfl)) (fun aR uR hv => ?_)
  refine jv_astore C [(7, .ref aR), (0, .ref x), (1, .int a), (2, .int b), (3, .int c), (4, .int d), (5, .int e), (6, .ref oa)] (jd D_La_feed 12 rfl) (by decide) rfl ?_
  refine jv_iconst (v := 1) C (jd D_La_feed 13 rfl) (by decide) ?_
  exact jv_iretA C hr (uR, fo) (⟨rfl, hv⟩) rfl rfl (Nat.le_of_eq (Nat.zero_add _)) (Nat.le_of_eq (Nat.zero_add _)) (jd D_La_feed 14 rfl)

set_option maxHeartbeats 4000000 in
set_option maxRecDepth 100000 in
theorem c_La_end_ok {l : Launch} {D : va_G} {dA : Nat → ClassId} {zz : (Nat → Nat) × (Nat → Nat)} {S : Type} {x : Nat} {a : Int32} {X : va_W} {fs : List Value} (oa : Nat) (fo : Nat → Int64) (hx : X[0]? = some (x, .inr (5, fs))) {post : Int32 → S → Prop} {w1 : S → va_W} {kL mc ms : Nat} (hM : jv_M l D dA zz y_Sh_end b_Sh_end 2 (some (FieldType.int)) kL [.ref x, .int a] X (jv_pi post) w1 mc ms) : jv_MW l D dA zz y_La_end b_La_end 4 (some .int) [(0, 9, 12, 19)] (kL + 1) [.ref x, .int a, .ref oa] ((oa, .inl (dA 2, 1, .inr (.inl fo))) :: X) (jv_pi fun r (u : S × (Nat → Int64)) => r = 0 ∧ ∃ v, post v u.1 ∧ u.2 0 = v.toInt64) (fun u => (oa, .inl (dA 2, 1, .inr (.inl u.2))) :: w1 u.1) mc ms := by
  refine jv_MW.of [(0, .ref x), (1, .int a), (2, .ref oa)] (by decide) (Nat.le_of_ble_eq_true rfl) rfl ?_
  intro pR eR sR mR belowR methR cR AR C hr htab
  refine jv_aload_n C (jd D_La_end 0 rfl) rfl 2 rfl ?_
  refine jv_iconst (v := 0) C (jd D_La_end 1 rfl) (by decide) ?_
  refine jv_aload_n C (jd D_La_end 2 rfl) rfl 0 rfl ?_
  refine jv_iload_n C (jd D_La_end 3 rfl) rfl 1 rfl ?_
  refine jv_callXV C cl_La_15 hM rfl rfl hx ⟨Nat.le_refl _, (by show 8 + (2 + 11) + 64 * kL ≤ 64 * (kL + 1); omega)⟩ ⟨Nat.le_of_eq (Nat.zero_add _), Nat.le_of_eq (Nat.zero_add _)⟩ rfl rfl (Nat.le_of_ble_eq_true rfl) (jd D_La_end 4 rfl) (fun vR uR hv => ?_)
  obtain ⟨rR, rfl, hv⟩ := hv
  refine jv_i2l C (jd D_La_end 5 rfl) ?_
  refine jv_last C 0 ((oa, .inl (dA 2, 1, .inr (.inl (vp_updL fo (0 : Int32).toNatClampNeg rR.toInt64)))) :: w1 uR) rfl rfl (vp_in_nI (n := 0) (by decide) (by decide)) (jd D_La_end 6 rfl) ?_
  refine jv_goto (tgt := 15) C (jd D_La_end 7 rfl) (by decide) ?_
  refine jv_iconst (v := 0) C (jd D_La_end 11 rfl) (by decide) ?_
  exact jv_iretA C hr (uR, vp_updL fo (0 : Int32).toNatClampNeg rR.toInt64) (⟨rfl, rR, hv, rfl⟩) rfl rfl (Nat.le_of_eq (Nat.zero_add _)) (Nat.le_of_eq (Nat.zero_add _)) (jd D_La_end 12 rfl)

set_option maxHeartbeats 4000000 in
set_option maxRecDepth 100000 in
theorem c_La_end_x1 {l : Launch} {D : va_G} {dA : Nat → ClassId} {zz : (Nat → Nat) × (Nat → Nat)} {S : Type} {x : Nat} {a : Int32} {X : va_W} {fs : List Value} (oa : Nat) (fo : Nat → Int64) (hx : X[0]? = some (x, .inr (5, fs))) {px : S → Prop} {w1 : S → va_W} {kL mc ms : Nat} (hM : jv_MX l D dA zz y_Sh_end b_Sh_end 2 (some (FieldType.int)) kL [.ref x, .int a] X "java/lang/IllegalArgumentException" px w1 mc ms) : jv_MW l D dA zz y_La_end b_La_end 4 (some .int) [(0, 9, 12, 19)] (kL + 1) [.ref x, .int a, .ref oa] ((oa, .inl (dA 2, 1, .inr (.inl fo))) :: X) (jv_pi fun r (u : S × (Nat → Int64)) => r = 1 ∧ px u.1) (fun u => (oa, .inl (dA 2, 1, .inr (.inl u.2))) :: w1 u.1) mc ms := by
  refine jv_MW.of [(0, .ref x), (1, .int a), (2, .ref oa)] (by decide) (Nat.le_of_ble_eq_true rfl) rfl ?_
  intro pR eR sR mR belowR methR cR AR C hr htab
  refine jv_aload_n C (jd D_La_end 0 rfl) rfl 2 rfl ?_
  refine jv_iconst (v := 0) C (jd D_La_end 1 rfl) (by decide) ?_
  refine jv_aload_n C (jd D_La_end 2 rfl) rfl 0 rfl ?_
  refine jv_iload_n C (jd D_La_end 3 rfl) rfl 1 rfl ?_
  refine jv_catXV (name := "java/lang/IllegalArgumentException") C htab cl_La_15 hM rfl rfl hx (fun _ => jv_noNestM (by decide)) ⟨Nat.le_refl _, (by show 8 + (2 + 11) + 64 * kL ≤ 64 * (kL + 1); omega)⟩ ⟨Nat.le_of_eq (Nat.zero_add _), Nat.le_of_eq (Nat.zero_add _)⟩ rfl rfl (Nat.le_of_ble_eq_true rfl) (jd D_La_end 4 rfl) [] (⟨0, 9, 12, 19⟩ : ExceptionTableEntry) [] rfl (fun _ h => absurd h List.not_mem_nil) (by decide) (by decide) (jm2 (List.mem_of_getElem? (i := 31) rfl)) (jm2 (List.mem_of_getElem? (i := 38) rfl)) (fun aR uR hv => ?_)
  refine jv_astore_n C [(3, .ref aR), (0, .ref x), (1, .int a), (2, .ref oa)] (jd D_La_end 8 rfl) rfl (by decide) rfl ?_
  refine jv_iconst (v := 1) C (jd D_La_end 9 rfl) (by decide) ?_
  exact jv_iretA C hr (uR, fo) (⟨rfl, hv⟩) rfl rfl (Nat.le_of_eq (Nat.zero_add _)) (Nat.le_of_eq (Nat.zero_add _)) (jd D_La_end 10 rfl)

set_option maxHeartbeats 4000000 in
set_option maxRecDepth 100000 in
theorem c_La_read_ok {l : Launch} {D : va_G} {dA : Nat → ClassId} {zz : (Nat → Nat) × (Nat → Nat)} {S : Type} {x : Nat} {a : Int32} {X : va_W} {fs : List Value} (oa : Nat) (fo : Nat → Int64) (hx : X[0]? = some (x, .inr (5, fs))) {post : Int32 → S → Prop} {w1 : S → va_W} {kL mc ms : Nat} (hM : jv_M l D dA zz y_Sh_read b_Sh_read 4 (some (FieldType.int)) kL [.ref x, .int a] X (jv_pi post) w1 mc ms) : jv_MW l D dA zz y_La_read b_La_read 4 (some .int) [(0, 9, 12, 19), (0, 9, 15, 24)] (kL + 1) [.ref x, .int a, .ref oa] ((oa, .inl (dA 2, 1, .inr (.inl fo))) :: X) (jv_pi fun r (u : S × (Nat → Int64)) => r = 0 ∧ ∃ v, post v u.1 ∧ u.2 0 = v.toInt64) (fun u => (oa, .inl (dA 2, 1, .inr (.inl u.2))) :: w1 u.1) mc ms := by
  refine jv_MW.of [(0, .ref x), (1, .int a), (2, .ref oa)] (by decide) (Nat.le_of_ble_eq_true rfl) rfl ?_
  intro pR eR sR mR belowR methR cR AR C hr htab
  refine jv_aload_n C (jd D_La_read 0 rfl) rfl 2 rfl ?_
  refine jv_iconst (v := 0) C (jd D_La_read 1 rfl) (by decide) ?_
  refine jv_aload_n C (jd D_La_read 2 rfl) rfl 0 rfl ?_
  refine jv_iload_n C (jd D_La_read 3 rfl) rfl 1 rfl ?_
  refine jv_callXV C cl_La_21 hM rfl rfl hx ⟨Nat.le_refl _, (by show 8 + (4 + 11) + 64 * kL ≤ 64 * (kL + 1); omega)⟩ ⟨Nat.le_of_eq (Nat.zero_add _), Nat.le_of_eq (Nat.zero_add _)⟩ rfl rfl (Nat.le_of_ble_eq_true rfl) (jd D_La_read 4 rfl) (fun vR uR hv => ?_)
  obtain ⟨rR, rfl, hv⟩ := hv
  refine jv_i2l C (jd D_La_read 5 rfl) ?_
  refine jv_last C 0 ((oa, .inl (dA 2, 1, .inr (.inl (vp_updL fo (0 : Int32).toNatClampNeg rR.toInt64)))) :: w1 uR) rfl rfl (vp_in_nI (n := 0) (by decide) (by decide)) (jd D_La_read 6 rfl) ?_
  refine jv_goto (tgt := 18) C (jd D_La_read 7 rfl) (by decide) ?_
  refine jv_iconst (v := 0) C (jd D_La_read 14 rfl) (by decide) ?_
  exact jv_iretA C hr (uR, vp_updL fo (0 : Int32).toNatClampNeg rR.toInt64) (⟨rfl, rR, hv, rfl⟩) rfl rfl (Nat.le_of_eq (Nat.zero_add _)) (Nat.le_of_eq (Nat.zero_add _)) (jd D_La_read 15 rfl)

set_option maxHeartbeats 4000000 in
set_option maxRecDepth 100000 in
theorem c_La_read_x1 {l : Launch} {D : va_G} {dA : Nat → ClassId} {zz : (Nat → Nat) × (Nat → Nat)} {S : Type} {x : Nat} {a : Int32} {X : va_W} {fs : List Value} (oa : Nat) (fo : Nat → Int64) (hx : X[0]? = some (x, .inr (5, fs))) {px : S → Prop} {w1 : S → va_W} {kL mc ms : Nat} (hM : jv_MX l D dA zz y_Sh_read b_Sh_read 4 (some (FieldType.int)) kL [.ref x, .int a] X "java/lang/IllegalArgumentException" px w1 mc ms) : jv_MW l D dA zz y_La_read b_La_read 4 (some .int) [(0, 9, 12, 19), (0, 9, 15, 24)] (kL + 1) [.ref x, .int a, .ref oa] ((oa, .inl (dA 2, 1, .inr (.inl fo))) :: X) (jv_pi fun r (u : S × (Nat → Int64)) => r = 1 ∧ px u.1) (fun u => (oa, .inl (dA 2, 1, .inr (.inl u.2))) :: w1 u.1) mc ms := by
  refine jv_MW.of [(0, .ref x), (1, .int a), (2, .ref oa)] (by decide) (Nat.le_of_ble_eq_true rfl) rfl ?_
  intro pR eR sR mR belowR methR cR AR C hr htab
  refine jv_aload_n C (jd D_La_read 0 rfl) rfl 2 rfl ?_
  refine jv_iconst (v := 0) C (jd D_La_read 1 rfl) (by decide) ?_
  refine jv_aload_n C (jd D_La_read 2 rfl) rfl 0 rfl ?_
  refine jv_iload_n C (jd D_La_read 3 rfl) rfl 1 rfl ?_
  refine jv_catXV (name := "java/lang/IllegalArgumentException") C htab cl_La_21 hM rfl rfl hx (fun _ => jv_noNestM (by decide)) ⟨Nat.le_refl _, (by show 8 + (4 + 11) + 64 * kL ≤ 64 * (kL + 1); omega)⟩ ⟨Nat.le_of_eq (Nat.zero_add _), Nat.le_of_eq (Nat.zero_add _)⟩ rfl rfl (Nat.le_of_ble_eq_true rfl) (jd D_La_read 4 rfl) [] (⟨0, 9, 12, 19⟩ : ExceptionTableEntry) [(⟨0, 9, 15, 24⟩ : ExceptionTableEntry)] rfl (fun _ h => absurd h List.not_mem_nil) (by decide) (by decide) (jm2 (List.mem_of_getElem? (i := 31) rfl)) (jm2 (List.mem_of_getElem? (i := 38) rfl)) (fun aR uR hv => ?_)
  refine jv_astore_n C [(3, .ref aR), (0, .ref x), (1, .int a), (2, .ref oa)] (jd D_La_read 8 rfl) rfl (by decide) rfl ?_
  refine jv_iconst (v := 1) C (jd D_La_read 9 rfl) (by decide) ?_
  exact jv_iretA C hr (uR, fo) (⟨rfl, hv⟩) rfl rfl (Nat.le_of_eq (Nat.zero_add _)) (Nat.le_of_eq (Nat.zero_add _)) (jd D_La_read 10 rfl)

set_option maxHeartbeats 4000000 in
set_option maxRecDepth 100000 in
theorem c_La_read_x2 {l : Launch} {D : va_G} {dA : Nat → ClassId} {zz : (Nat → Nat) × (Nat → Nat)} {S : Type} {x : Nat} {a : Int32} {X : va_W} {fs : List Value} (oa : Nat) (fo : Nat → Int64) (hx : X[0]? = some (x, .inr (5, fs))) {px : S → Prop} {w1 : S → va_W} {kL mc ms : Nat} (hM : jv_MX l D dA zz y_Sh_read b_Sh_read 4 (some (FieldType.int)) kL [.ref x, .int a] X "java/lang/UnsupportedOperationException" px w1 mc ms) : jv_MW l D dA zz y_La_read b_La_read 4 (some .int) [(0, 9, 12, 19), (0, 9, 15, 24)] (kL + 1) [.ref x, .int a, .ref oa] ((oa, .inl (dA 2, 1, .inr (.inl fo))) :: X) (jv_pi fun r (u : S × (Nat → Int64)) => r = 2 ∧ px u.1) (fun u => (oa, .inl (dA 2, 1, .inr (.inl u.2))) :: w1 u.1) mc ms := by
  refine jv_MW.of [(0, .ref x), (1, .int a), (2, .ref oa)] (by decide) (Nat.le_of_ble_eq_true rfl) rfl ?_
  intro pR eR sR mR belowR methR cR AR C hr htab
  refine jv_aload_n C (jd D_La_read 0 rfl) rfl 2 rfl ?_
  refine jv_iconst (v := 0) C (jd D_La_read 1 rfl) (by decide) ?_
  refine jv_aload_n C (jd D_La_read 2 rfl) rfl 0 rfl ?_
  refine jv_iload_n C (jd D_La_read 3 rfl) rfl 1 rfl ?_
  refine jv_catXV (name := "java/lang/UnsupportedOperationException") C htab cl_La_21 hM rfl rfl hx (fun _ => jv_noNestM (by decide)) ⟨Nat.le_refl _, (by show 8 + (4 + 11) + 64 * kL ≤ 64 * (kL + 1); omega)⟩ ⟨Nat.le_of_eq (Nat.zero_add _), Nat.le_of_eq (Nat.zero_add _)⟩ rfl rfl (Nat.le_of_ble_eq_true rfl) (jd D_La_read 4 rfl) [(⟨0, 9, 12, 19⟩ : ExceptionTableEntry)] (⟨0, 9, 15, 24⟩ : ExceptionTableEntry) [] rfl (List.forall_mem_cons.mpr ⟨⟨by decide, "java/lang/IllegalArgumentException", (jm2 (List.mem_of_getElem? (i := 31) rfl)), C.2.2.2.2.2.2.2.2.2.2.2.2.2.1⟩, (fun _ h => absurd h List.not_mem_nil)⟩) (by decide) (by decide) (jm2 (List.mem_of_getElem? (i := 58) rfl)) (jm3 (List.mem_of_getElem? (i := 25) rfl)) (fun aR uR hv => ?_)
  refine jv_astore_n C [(3, .ref aR), (0, .ref x), (1, .int a), (2, .ref oa)] (jd D_La_read 11 rfl) rfl (by decide) rfl ?_
  refine jv_iconst (v := 2) C (jd D_La_read 12 rfl) (by decide) ?_
  exact jv_iretA C hr (uR, fo) (⟨rfl, hv⟩) rfl rfl (Nat.le_of_eq (Nat.zero_add _)) (Nat.le_of_eq (Nat.zero_add _)) (jd D_La_read 13 rfl)

set_option maxHeartbeats 4000000 in
set_option maxRecDepth 100000 in
theorem c_La_print_ok {l : Launch} {D : va_G} {dA : Nat → ClassId} {zz : (Nat → Nat) × (Nat → Nat)} {S : Type} {x : Nat} {a : Int32} {X : va_W} {fs : List Value} (oa : Nat) (fo : Nat → Int64) (hx : X[0]? = some (x, .inr (5, fs))) {post : Int32 → S → Prop} {w1 : S → va_W} {kL mc ms : Nat} (hM : jv_M l D dA zz y_Sh_print b_Sh_print 3 (some (FieldType.int)) kL [.ref x, .int a] X (jv_pi post) w1 mc ms) : jv_MW l D dA zz y_La_print b_La_print 4 (some .int) [(0, 9, 12, 19), (0, 9, 15, 29)] (kL + 1) [.ref x, .int a, .ref oa] ((oa, .inl (dA 2, 1, .inr (.inl fo))) :: X) (jv_pi fun r (u : S × (Nat → Int64)) => r = 0 ∧ ∃ v, post v u.1 ∧ u.2 0 = v.toInt64) (fun u => (oa, .inl (dA 2, 1, .inr (.inl u.2))) :: w1 u.1) mc ms := by
  refine jv_MW.of [(0, .ref x), (1, .int a), (2, .ref oa)] (by decide) (Nat.le_of_ble_eq_true rfl) rfl ?_
  intro pR eR sR mR belowR methR cR AR C hr htab
  refine jv_aload_n C (jd D_La_print 0 rfl) rfl 2 rfl ?_
  refine jv_iconst (v := 0) C (jd D_La_print 1 rfl) (by decide) ?_
  refine jv_aload_n C (jd D_La_print 2 rfl) rfl 0 rfl ?_
  refine jv_iload_n C (jd D_La_print 3 rfl) rfl 1 rfl ?_
  refine jv_callXV C cl_La_26 hM rfl rfl hx ⟨Nat.le_refl _, (by show 8 + (3 + 11) + 64 * kL ≤ 64 * (kL + 1); omega)⟩ ⟨Nat.le_of_eq (Nat.zero_add _), Nat.le_of_eq (Nat.zero_add _)⟩ rfl rfl (Nat.le_of_ble_eq_true rfl) (jd D_La_print 4 rfl) (fun vR uR hv => ?_)
  obtain ⟨rR, rfl, hv⟩ := hv
  refine jv_i2l C (jd D_La_print 5 rfl) ?_
  refine jv_last C 0 ((oa, .inl (dA 2, 1, .inr (.inl (vp_updL fo (0 : Int32).toNatClampNeg rR.toInt64)))) :: w1 uR) rfl rfl (vp_in_nI (n := 0) (by decide) (by decide)) (jd D_La_print 6 rfl) ?_
  refine jv_goto (tgt := 18) C (jd D_La_print 7 rfl) (by decide) ?_
  refine jv_iconst (v := 0) C (jd D_La_print 14 rfl) (by decide) ?_
  exact jv_iretA C hr (uR, vp_updL fo (0 : Int32).toNatClampNeg rR.toInt64) (⟨rfl, rR, hv, rfl⟩) rfl rfl (Nat.le_of_eq (Nat.zero_add _)) (Nat.le_of_eq (Nat.zero_add _)) (jd D_La_print 15 rfl)

set_option maxHeartbeats 4000000 in
set_option maxRecDepth 100000 in
theorem c_La_print_x1 {l : Launch} {D : va_G} {dA : Nat → ClassId} {zz : (Nat → Nat) × (Nat → Nat)} {S : Type} {x : Nat} {a : Int32} {X : va_W} {fs : List Value} (oa : Nat) (fo : Nat → Int64) (hx : X[0]? = some (x, .inr (5, fs))) {px : S → Prop} {w1 : S → va_W} {kL mc ms : Nat} (hM : jv_MX l D dA zz y_Sh_print b_Sh_print 3 (some (FieldType.int)) kL [.ref x, .int a] X "java/lang/IllegalArgumentException" px w1 mc ms) : jv_MW l D dA zz y_La_print b_La_print 4 (some .int) [(0, 9, 12, 19), (0, 9, 15, 29)] (kL + 1) [.ref x, .int a, .ref oa] ((oa, .inl (dA 2, 1, .inr (.inl fo))) :: X) (jv_pi fun r (u : S × (Nat → Int64)) => r = 1 ∧ px u.1) (fun u => (oa, .inl (dA 2, 1, .inr (.inl u.2))) :: w1 u.1) mc ms := by
  refine jv_MW.of [(0, .ref x), (1, .int a), (2, .ref oa)] (by decide) (Nat.le_of_ble_eq_true rfl) rfl ?_
  intro pR eR sR mR belowR methR cR AR C hr htab
  refine jv_aload_n C (jd D_La_print 0 rfl) rfl 2 rfl ?_
  refine jv_iconst (v := 0) C (jd D_La_print 1 rfl) (by decide) ?_
  refine jv_aload_n C (jd D_La_print 2 rfl) rfl 0 rfl ?_
  refine jv_iload_n C (jd D_La_print 3 rfl) rfl 1 rfl ?_
  refine jv_catXV (name := "java/lang/IllegalArgumentException") C htab cl_La_26 hM rfl rfl hx (fun _ => jv_noNestM (by decide)) ⟨Nat.le_refl _, (by show 8 + (3 + 11) + 64 * kL ≤ 64 * (kL + 1); omega)⟩ ⟨Nat.le_of_eq (Nat.zero_add _), Nat.le_of_eq (Nat.zero_add _)⟩ rfl rfl (Nat.le_of_ble_eq_true rfl) (jd D_La_print 4 rfl) [] (⟨0, 9, 12, 19⟩ : ExceptionTableEntry) [(⟨0, 9, 15, 29⟩ : ExceptionTableEntry)] rfl (fun _ h => absurd h List.not_mem_nil) (by decide) (by decide) (jm2 (List.mem_of_getElem? (i := 31) rfl)) (jm2 (List.mem_of_getElem? (i := 38) rfl)) (fun aR uR hv => ?_)
  refine jv_astore_n C [(3, .ref aR), (0, .ref x), (1, .int a), (2, .ref oa)] (jd D_La_print 8 rfl) rfl (by decide) rfl ?_
  refine jv_iconst (v := 1) C (jd D_La_print 9 rfl) (by decide) ?_
  exact jv_iretA C hr (uR, fo) (⟨rfl, hv⟩) rfl rfl (Nat.le_of_eq (Nat.zero_add _)) (Nat.le_of_eq (Nat.zero_add _)) (jd D_La_print 10 rfl)

set_option maxHeartbeats 4000000 in
set_option maxRecDepth 100000 in
theorem c_La_print_x2 {l : Launch} {D : va_G} {dA : Nat → ClassId} {zz : (Nat → Nat) × (Nat → Nat)} {S : Type} {x : Nat} {a : Int32} {X : va_W} {fs : List Value} (oa : Nat) (fo : Nat → Int64) (hx : X[0]? = some (x, .inr (5, fs))) {px : S → Prop} {w1 : S → va_W} {kL mc ms : Nat} (hM : jv_MX l D dA zz y_Sh_print b_Sh_print 3 (some (FieldType.int)) kL [.ref x, .int a] X "java/lang/IllegalStateException" px w1 mc ms) : jv_MW l D dA zz y_La_print b_La_print 4 (some .int) [(0, 9, 12, 19), (0, 9, 15, 29)] (kL + 1) [.ref x, .int a, .ref oa] ((oa, .inl (dA 2, 1, .inr (.inl fo))) :: X) (jv_pi fun r (u : S × (Nat → Int64)) => r = 2 ∧ px u.1) (fun u => (oa, .inl (dA 2, 1, .inr (.inl u.2))) :: w1 u.1) mc ms := by
  refine jv_MW.of [(0, .ref x), (1, .int a), (2, .ref oa)] (by decide) (Nat.le_of_ble_eq_true rfl) rfl ?_
  intro pR eR sR mR belowR methR cR AR C hr htab
  refine jv_aload_n C (jd D_La_print 0 rfl) rfl 2 rfl ?_
  refine jv_iconst (v := 0) C (jd D_La_print 1 rfl) (by decide) ?_
  refine jv_aload_n C (jd D_La_print 2 rfl) rfl 0 rfl ?_
  refine jv_iload_n C (jd D_La_print 3 rfl) rfl 1 rfl ?_
  refine jv_catXV (name := "java/lang/IllegalStateException") C htab cl_La_26 hM rfl rfl hx (fun _ => jv_noNestM (by decide)) ⟨Nat.le_refl _, (by show 8 + (3 + 11) + 64 * kL ≤ 64 * (kL + 1); omega)⟩ ⟨Nat.le_of_eq (Nat.zero_add _), Nat.le_of_eq (Nat.zero_add _)⟩ rfl rfl (Nat.le_of_ble_eq_true rfl) (jd D_La_print 4 rfl) [(⟨0, 9, 12, 19⟩ : ExceptionTableEntry)] (⟨0, 9, 15, 29⟩ : ExceptionTableEntry) [] rfl (List.forall_mem_cons.mpr ⟨⟨by decide, "java/lang/IllegalArgumentException", (jm2 (List.mem_of_getElem? (i := 31) rfl)), C.2.2.2.2.2.2.2.2.2.2.2.2.2.2.1⟩, (fun _ h => absurd h List.not_mem_nil)⟩) (by decide) (by decide) (jm3 (List.mem_of_getElem? (i := 52) rfl)) (jm3 (List.mem_of_getElem? (i := 62) rfl)) (fun aR uR hv => ?_)
  refine jv_astore_n C [(3, .ref aR), (0, .ref x), (1, .int a), (2, .ref oa)] (jd D_La_print 11 rfl) rfl (by decide) rfl ?_
  refine jv_iconst (v := 2) C (jd D_La_print 12 rfl) (by decide) ?_
  exact jv_iretA C hr (uR, fo) (⟨rfl, hv⟩) rfl rfl (Nat.le_of_eq (Nat.zero_add _)) (Nat.le_of_eq (Nat.zero_add _)) (jd D_La_print 13 rfl)

set_option maxHeartbeats 4000000 in
set_option maxRecDepth 100000 in
theorem c_La_same_ok {l : Launch} {D : va_G} {dA : Nat → ClassId} {zz : (Nat → Nat) × (Nat → Nat)} {S : Type} {x : Nat} {a b : Int32} {X : va_W} {fs : List Value} (oa : Nat) (fo : Nat → Int64) (hx : X[0]? = some (x, .inr (5, fs))) {post : Int32 → S → Prop} {w1 : S → va_W} {kL mc ms : Nat} (hM : jv_M l D dA zz y_Sh_same b_Sh_same 5 (some (FieldType.boolean)) kL [.ref x, .int a, .int b] X (jv_pi post) w1 mc ms) : jv_MW l D dA zz y_La_same b_La_same 5 (some .int) [(0, 17, 20, 19), (0, 17, 24, 29)] (kL + 1) [.ref x, .int a, .int b, .ref oa] ((oa, .inl (dA 2, 1, .inr (.inl fo))) :: X) (jv_pi fun r (u : S × (Nat → Int64)) => r = 0 ∧ ∃ v, post v u.1 ∧ u.2 0 = (if v = 0 then 0 else 1)) (fun u => (oa, .inl (dA 2, 1, .inr (.inl u.2))) :: w1 u.1) mc ms := by
  refine jv_MW.of [(0, .ref x), (1, .int a), (2, .int b), (3, .ref oa)] (by decide) (Nat.le_of_ble_eq_true rfl) rfl ?_
  intro pR eR sR mR belowR methR cR AR C hr htab
  refine jv_aload_n C (jd D_La_same 0 rfl) rfl 3 rfl ?_
  refine jv_iconst (v := 0) C (jd D_La_same 1 rfl) (by decide) ?_
  refine jv_aload_n C (jd D_La_same 2 rfl) rfl 0 rfl ?_
  refine jv_iload_n C (jd D_La_same 3 rfl) rfl 1 rfl ?_
  refine jv_iload_n C (jd D_La_same 4 rfl) rfl 2 rfl ?_
  refine jv_callXV C cl_La_31 hM rfl rfl hx ⟨Nat.le_refl _, (by show 8 + (5 + 11) + 64 * kL ≤ 64 * (kL + 1); omega)⟩ ⟨Nat.le_of_eq (Nat.zero_add _), Nat.le_of_eq (Nat.zero_add _)⟩ rfl rfl (Nat.le_of_ble_eq_true rfl) (jd D_La_same 5 rfl) (fun vR uR hv => ?_)
  obtain ⟨rR, rfl, hv⟩ := hv
  refine jv_if_eq (tgt := 15) C (jd D_La_same 6 rfl) (by decide) (fun c8 => ?_) (fun c8 => ?_)
  · refine jv_lconst (v := 0) C (jd D_La_same 9 rfl) (by decide) ?_
    refine jv_last C 0 ((oa, .inl (dA 2, 1, .inr (.inl (vp_updL fo (0 : Int32).toNatClampNeg 0)))) :: w1 uR) rfl rfl (vp_in_nI (n := 0) (by decide) (by decide)) (jd D_La_same 10 rfl) ?_
    refine jv_goto (tgt := 28) C (jd D_La_same 11 rfl) (by decide) ?_
    refine jv_iconst (v := 0) C (jd D_La_same 18 rfl) (by decide) ?_
    exact jv_iretA C hr (uR, vp_updL fo (0 : Int32).toNatClampNeg 0) (⟨rfl, rR, hv, (if_pos c8).symm⟩) rfl rfl (Nat.le_of_eq (Nat.zero_add _)) (Nat.le_of_eq (Nat.zero_add _)) (jd D_La_same 19 rfl)
  · refine jv_lconst (v := 1) C (jd D_La_same 7 rfl) (by decide) ?_
    refine jv_goto (tgt := 16) C (jd D_La_same 8 rfl) (by decide) ?_
    refine jv_last C 0 ((oa, .inl (dA 2, 1, .inr (.inl (vp_updL fo (0 : Int32).toNatClampNeg 1)))) :: w1 uR) rfl rfl (vp_in_nI (n := 0) (by decide) (by decide)) (jd D_La_same 10 rfl) ?_
    refine jv_goto (tgt := 28) C (jd D_La_same 11 rfl) (by decide) ?_
    refine jv_iconst (v := 0) C (jd D_La_same 18 rfl) (by decide) ?_
    exact jv_iretA C hr (uR, vp_updL fo (0 : Int32).toNatClampNeg 1) (⟨rfl, rR, hv, (if_neg c8).symm⟩) rfl rfl (Nat.le_of_eq (Nat.zero_add _)) (Nat.le_of_eq (Nat.zero_add _)) (jd D_La_same 19 rfl)

set_option maxHeartbeats 4000000 in
set_option maxRecDepth 100000 in
theorem c_La_same_x1 {l : Launch} {D : va_G} {dA : Nat → ClassId} {zz : (Nat → Nat) × (Nat → Nat)} {S : Type} {x : Nat} {a b : Int32} {X : va_W} {fs : List Value} (oa : Nat) (fo : Nat → Int64) (hx : X[0]? = some (x, .inr (5, fs))) {px : S → Prop} {w1 : S → va_W} {kL mc ms : Nat} (hM : jv_MX l D dA zz y_Sh_same b_Sh_same 5 (some (FieldType.boolean)) kL [.ref x, .int a, .int b] X "java/lang/IllegalArgumentException" px w1 mc ms) : jv_MW l D dA zz y_La_same b_La_same 5 (some .int) [(0, 17, 20, 19), (0, 17, 24, 29)] (kL + 1) [.ref x, .int a, .int b, .ref oa] ((oa, .inl (dA 2, 1, .inr (.inl fo))) :: X) (jv_pi fun r (u : S × (Nat → Int64)) => r = 1 ∧ px u.1) (fun u => (oa, .inl (dA 2, 1, .inr (.inl u.2))) :: w1 u.1) mc ms := by
  refine jv_MW.of [(0, .ref x), (1, .int a), (2, .int b), (3, .ref oa)] (by decide) (Nat.le_of_ble_eq_true rfl) rfl ?_
  intro pR eR sR mR belowR methR cR AR C hr htab
  refine jv_aload_n C (jd D_La_same 0 rfl) rfl 3 rfl ?_
  refine jv_iconst (v := 0) C (jd D_La_same 1 rfl) (by decide) ?_
  refine jv_aload_n C (jd D_La_same 2 rfl) rfl 0 rfl ?_
  refine jv_iload_n C (jd D_La_same 3 rfl) rfl 1 rfl ?_
  refine jv_iload_n C (jd D_La_same 4 rfl) rfl 2 rfl ?_
  refine jv_catXV (name := "java/lang/IllegalArgumentException") C htab cl_La_31 hM rfl rfl hx (fun _ => jv_noNestM (by decide)) ⟨Nat.le_refl _, (by show 8 + (5 + 11) + 64 * kL ≤ 64 * (kL + 1); omega)⟩ ⟨Nat.le_of_eq (Nat.zero_add _), Nat.le_of_eq (Nat.zero_add _)⟩ rfl rfl (Nat.le_of_ble_eq_true rfl) (jd D_La_same 5 rfl) [] (⟨0, 17, 20, 19⟩ : ExceptionTableEntry) [(⟨0, 17, 24, 29⟩ : ExceptionTableEntry)] rfl (fun _ h => absurd h List.not_mem_nil) (by decide) (by decide) (jm2 (List.mem_of_getElem? (i := 31) rfl)) (jm2 (List.mem_of_getElem? (i := 38) rfl)) (fun aR uR hv => ?_)
  refine jv_astore C [(4, .ref aR), (0, .ref x), (1, .int a), (2, .int b), (3, .ref oa)] (jd D_La_same 12 rfl) (by decide) rfl ?_
  refine jv_iconst (v := 1) C (jd D_La_same 13 rfl) (by decide) ?_
  exact jv_iretA C hr (uR, fo) (⟨rfl, hv⟩) rfl rfl (Nat.le_of_eq (Nat.zero_add _)) (Nat.le_of_eq (Nat.zero_add _)) (jd D_La_same 14 rfl)

set_option maxHeartbeats 4000000 in
set_option maxRecDepth 100000 in
theorem c_La_same_x2 {l : Launch} {D : va_G} {dA : Nat → ClassId} {zz : (Nat → Nat) × (Nat → Nat)} {S : Type} {x : Nat} {a b : Int32} {X : va_W} {fs : List Value} (oa : Nat) (fo : Nat → Int64) (hx : X[0]? = some (x, .inr (5, fs))) {px : S → Prop} {w1 : S → va_W} {kL mc ms : Nat} (hM : jv_MX l D dA zz y_Sh_same b_Sh_same 5 (some (FieldType.boolean)) kL [.ref x, .int a, .int b] X "java/lang/IllegalStateException" px w1 mc ms) : jv_MW l D dA zz y_La_same b_La_same 5 (some .int) [(0, 17, 20, 19), (0, 17, 24, 29)] (kL + 1) [.ref x, .int a, .int b, .ref oa] ((oa, .inl (dA 2, 1, .inr (.inl fo))) :: X) (jv_pi fun r (u : S × (Nat → Int64)) => r = 2 ∧ px u.1) (fun u => (oa, .inl (dA 2, 1, .inr (.inl u.2))) :: w1 u.1) mc ms := by
  refine jv_MW.of [(0, .ref x), (1, .int a), (2, .int b), (3, .ref oa)] (by decide) (Nat.le_of_ble_eq_true rfl) rfl ?_
  intro pR eR sR mR belowR methR cR AR C hr htab
  refine jv_aload_n C (jd D_La_same 0 rfl) rfl 3 rfl ?_
  refine jv_iconst (v := 0) C (jd D_La_same 1 rfl) (by decide) ?_
  refine jv_aload_n C (jd D_La_same 2 rfl) rfl 0 rfl ?_
  refine jv_iload_n C (jd D_La_same 3 rfl) rfl 1 rfl ?_
  refine jv_iload_n C (jd D_La_same 4 rfl) rfl 2 rfl ?_
  refine jv_catXV (name := "java/lang/IllegalStateException") C htab cl_La_31 hM rfl rfl hx (fun _ => jv_noNestM (by decide)) ⟨Nat.le_refl _, (by show 8 + (5 + 11) + 64 * kL ≤ 64 * (kL + 1); omega)⟩ ⟨Nat.le_of_eq (Nat.zero_add _), Nat.le_of_eq (Nat.zero_add _)⟩ rfl rfl (Nat.le_of_ble_eq_true rfl) (jd D_La_same 5 rfl) [(⟨0, 17, 20, 19⟩ : ExceptionTableEntry)] (⟨0, 17, 24, 29⟩ : ExceptionTableEntry) [] rfl (List.forall_mem_cons.mpr ⟨⟨by decide, "java/lang/IllegalArgumentException", (jm2 (List.mem_of_getElem? (i := 31) rfl)), C.2.2.2.2.2.2.2.2.2.2.2.2.2.2.1⟩, (fun _ h => absurd h List.not_mem_nil)⟩) (by decide) (by decide) (jm3 (List.mem_of_getElem? (i := 52) rfl)) (jm3 (List.mem_of_getElem? (i := 62) rfl)) (fun aR uR hv => ?_)
  refine jv_astore C [(4, .ref aR), (0, .ref x), (1, .int a), (2, .int b), (3, .ref oa)] (jd D_La_same 15 rfl) (by decide) rfl ?_
  refine jv_iconst (v := 2) C (jd D_La_same 16 rfl) (by decide) ?_
  exact jv_iretA C hr (uR, fo) (⟨rfl, hv⟩) rfl rfl (Nat.le_of_eq (Nat.zero_add _)) (Nat.le_of_eq (Nat.zero_add _)) (jd D_La_same 17 rfl)

set_option maxHeartbeats 4000000 in
set_option maxRecDepth 100000 in
theorem c_La_about_ok {l : Launch} {D : va_G} {dA : Nat → ClassId} {zz : (Nat → Nat) × (Nat → Nat)} {S : Type} {x : Nat} {a b : Int32} {X : va_W} {fs : List Value} (oa : Nat) (fo : Nat → Int64) (hx : X[0]? = some (x, .inr (5, fs))) {post : Int64 → S → Prop} {w1 : S → va_W} {kL mc ms : Nat} (hM : jv_M l D dA zz y_Sh_about b_Sh_about 5 (some (FieldType.long)) kL [.ref x, .int a, .int b] X (jv_pl post) w1 mc ms) : jv_MW l D dA zz y_La_about b_La_about 5 (some .int) [(0, 9, 12, 19), (0, 9, 16, 29)] (kL + 1) [.ref x, .int a, .int b, .ref oa] ((oa, .inl (dA 2, 1, .inr (.inl fo))) :: X) (jv_pi fun r (u : S × (Nat → Int64)) => r = 0 ∧ ∃ v, post v u.1 ∧ u.2 0 = v) (fun u => (oa, .inl (dA 2, 1, .inr (.inl u.2))) :: w1 u.1) mc ms := by
  refine jv_MW.of [(0, .ref x), (1, .int a), (2, .int b), (3, .ref oa)] (by decide) (Nat.le_of_ble_eq_true rfl) rfl ?_
  intro pR eR sR mR belowR methR cR AR C hr htab
  refine jv_aload_n C (jd D_La_about 0 rfl) rfl 3 rfl ?_
  refine jv_iconst (v := 0) C (jd D_La_about 1 rfl) (by decide) ?_
  refine jv_aload_n C (jd D_La_about 2 rfl) rfl 0 rfl ?_
  refine jv_iload_n C (jd D_La_about 3 rfl) rfl 1 rfl ?_
  refine jv_iload_n C (jd D_La_about 4 rfl) rfl 2 rfl ?_
  refine jv_callXV C cl_La_35 hM rfl rfl hx ⟨Nat.le_refl _, (by show 8 + (5 + 11) + 64 * kL ≤ 64 * (kL + 1); omega)⟩ ⟨Nat.le_of_eq (Nat.zero_add _), Nat.le_of_eq (Nat.zero_add _)⟩ rfl rfl (Nat.le_of_ble_eq_true rfl) (jd D_La_about 5 rfl) (fun vR uR hv => ?_)
  obtain ⟨rR, rfl, hv⟩ := hv
  refine jv_last C 0 ((oa, .inl (dA 2, 1, .inr (.inl (vp_updL fo (0 : Int32).toNatClampNeg rR)))) :: w1 uR) rfl rfl (vp_in_nI (n := 0) (by decide) (by decide)) (jd D_La_about 6 rfl) ?_
  refine jv_goto (tgt := 20) C (jd D_La_about 7 rfl) (by decide) ?_
  refine jv_iconst (v := 0) C (jd D_La_about 14 rfl) (by decide) ?_
  exact jv_iretA C hr (uR, vp_updL fo (0 : Int32).toNatClampNeg rR) (⟨rfl, rR, hv, rfl⟩) rfl rfl (Nat.le_of_eq (Nat.zero_add _)) (Nat.le_of_eq (Nat.zero_add _)) (jd D_La_about 15 rfl)

set_option maxHeartbeats 4000000 in
set_option maxRecDepth 100000 in
theorem c_La_about_x1 {l : Launch} {D : va_G} {dA : Nat → ClassId} {zz : (Nat → Nat) × (Nat → Nat)} {S : Type} {x : Nat} {a b : Int32} {X : va_W} {fs : List Value} (oa : Nat) (fo : Nat → Int64) (hx : X[0]? = some (x, .inr (5, fs))) {px : S → Prop} {w1 : S → va_W} {kL mc ms : Nat} (hM : jv_MX l D dA zz y_Sh_about b_Sh_about 5 (some (FieldType.long)) kL [.ref x, .int a, .int b] X "java/lang/IllegalArgumentException" px w1 mc ms) : jv_MW l D dA zz y_La_about b_La_about 5 (some .int) [(0, 9, 12, 19), (0, 9, 16, 29)] (kL + 1) [.ref x, .int a, .int b, .ref oa] ((oa, .inl (dA 2, 1, .inr (.inl fo))) :: X) (jv_pi fun r (u : S × (Nat → Int64)) => r = 1 ∧ px u.1) (fun u => (oa, .inl (dA 2, 1, .inr (.inl u.2))) :: w1 u.1) mc ms := by
  refine jv_MW.of [(0, .ref x), (1, .int a), (2, .int b), (3, .ref oa)] (by decide) (Nat.le_of_ble_eq_true rfl) rfl ?_
  intro pR eR sR mR belowR methR cR AR C hr htab
  refine jv_aload_n C (jd D_La_about 0 rfl) rfl 3 rfl ?_
  refine jv_iconst (v := 0) C (jd D_La_about 1 rfl) (by decide) ?_
  refine jv_aload_n C (jd D_La_about 2 rfl) rfl 0 rfl ?_
  refine jv_iload_n C (jd D_La_about 3 rfl) rfl 1 rfl ?_
  refine jv_iload_n C (jd D_La_about 4 rfl) rfl 2 rfl ?_
  refine jv_catXV (name := "java/lang/IllegalArgumentException") C htab cl_La_35 hM rfl rfl hx (fun _ => jv_noNestM (by decide)) ⟨Nat.le_refl _, (by show 8 + (5 + 11) + 64 * kL ≤ 64 * (kL + 1); omega)⟩ ⟨Nat.le_of_eq (Nat.zero_add _), Nat.le_of_eq (Nat.zero_add _)⟩ rfl rfl (Nat.le_of_ble_eq_true rfl) (jd D_La_about 5 rfl) [] (⟨0, 9, 12, 19⟩ : ExceptionTableEntry) [(⟨0, 9, 16, 29⟩ : ExceptionTableEntry)] rfl (fun _ h => absurd h List.not_mem_nil) (by decide) (by decide) (jm2 (List.mem_of_getElem? (i := 31) rfl)) (jm2 (List.mem_of_getElem? (i := 38) rfl)) (fun aR uR hv => ?_)
  refine jv_astore C [(4, .ref aR), (0, .ref x), (1, .int a), (2, .int b), (3, .ref oa)] (jd D_La_about 8 rfl) (by decide) rfl ?_
  refine jv_iconst (v := 1) C (jd D_La_about 9 rfl) (by decide) ?_
  exact jv_iretA C hr (uR, fo) (⟨rfl, hv⟩) rfl rfl (Nat.le_of_eq (Nat.zero_add _)) (Nat.le_of_eq (Nat.zero_add _)) (jd D_La_about 10 rfl)

set_option maxHeartbeats 4000000 in
set_option maxRecDepth 100000 in
theorem c_La_about_x2 {l : Launch} {D : va_G} {dA : Nat → ClassId} {zz : (Nat → Nat) × (Nat → Nat)} {S : Type} {x : Nat} {a b : Int32} {X : va_W} {fs : List Value} (oa : Nat) (fo : Nat → Int64) (hx : X[0]? = some (x, .inr (5, fs))) {px : S → Prop} {w1 : S → va_W} {kL mc ms : Nat} (hM : jv_MX l D dA zz y_Sh_about b_Sh_about 5 (some (FieldType.long)) kL [.ref x, .int a, .int b] X "java/lang/IllegalStateException" px w1 mc ms) : jv_MW l D dA zz y_La_about b_La_about 5 (some .int) [(0, 9, 12, 19), (0, 9, 16, 29)] (kL + 1) [.ref x, .int a, .int b, .ref oa] ((oa, .inl (dA 2, 1, .inr (.inl fo))) :: X) (jv_pi fun r (u : S × (Nat → Int64)) => r = 2 ∧ px u.1) (fun u => (oa, .inl (dA 2, 1, .inr (.inl u.2))) :: w1 u.1) mc ms := by
  refine jv_MW.of [(0, .ref x), (1, .int a), (2, .int b), (3, .ref oa)] (by decide) (Nat.le_of_ble_eq_true rfl) rfl ?_
  intro pR eR sR mR belowR methR cR AR C hr htab
  refine jv_aload_n C (jd D_La_about 0 rfl) rfl 3 rfl ?_
  refine jv_iconst (v := 0) C (jd D_La_about 1 rfl) (by decide) ?_
  refine jv_aload_n C (jd D_La_about 2 rfl) rfl 0 rfl ?_
  refine jv_iload_n C (jd D_La_about 3 rfl) rfl 1 rfl ?_
  refine jv_iload_n C (jd D_La_about 4 rfl) rfl 2 rfl ?_
  refine jv_catXV (name := "java/lang/IllegalStateException") C htab cl_La_35 hM rfl rfl hx (fun _ => jv_noNestM (by decide)) ⟨Nat.le_refl _, (by show 8 + (5 + 11) + 64 * kL ≤ 64 * (kL + 1); omega)⟩ ⟨Nat.le_of_eq (Nat.zero_add _), Nat.le_of_eq (Nat.zero_add _)⟩ rfl rfl (Nat.le_of_ble_eq_true rfl) (jd D_La_about 5 rfl) [(⟨0, 9, 12, 19⟩ : ExceptionTableEntry)] (⟨0, 9, 16, 29⟩ : ExceptionTableEntry) [] rfl (List.forall_mem_cons.mpr ⟨⟨by decide, "java/lang/IllegalArgumentException", (jm2 (List.mem_of_getElem? (i := 31) rfl)), C.2.2.2.2.2.2.2.2.2.2.2.2.2.2.1⟩, (fun _ h => absurd h List.not_mem_nil)⟩) (by decide) (by decide) (jm3 (List.mem_of_getElem? (i := 52) rfl)) (jm3 (List.mem_of_getElem? (i := 62) rfl)) (fun aR uR hv => ?_)
  refine jv_astore C [(4, .ref aR), (0, .ref x), (1, .int a), (2, .int b), (3, .ref oa)] (jd D_La_about 11 rfl) (by decide) rfl ?_
  refine jv_iconst (v := 2) C (jd D_La_about 12 rfl) (by decide) ?_
  exact jv_iretA C hr (uR, fo) (⟨rfl, hv⟩) rfl rfl (Nat.le_of_eq (Nat.zero_add _)) (Nat.le_of_eq (Nat.zero_add _)) (jd D_La_about 13 rfl)

set_option maxHeartbeats 4000000 in
set_option maxRecDepth 100000 in
theorem c_La_take_ok {l : Launch} {D : va_G} {dA : Nat → ClassId} {zz : (Nat → Nat) × (Nat → Nat)} {S : Type} {x : Nat} {a b c : Int32} {X : va_W} {fs : List Value} (oa : Nat) (fo : Nat → Int64) (hx : X[0]? = some (x, .inr (5, fs))) {post : S → Prop} {w1 : S → va_W} {kL mc ms : Nat} (hM : jv_M l D dA zz y_Sh_take b_Sh_take 7 none kL [.ref x, .int a, .int b, .int c] X (jv_pv post) w1 mc ms) : jv_MW l D dA zz y_La_take b_La_take 5 (some .int) [(0, 7, 10, 19), (0, 7, 14, 29), (0, 7, 18, 43)] (kL + 1) [.ref x, .int a, .int b, .int c] ((oa, .inl (dA 2, 1, .inr (.inl fo))) :: X) (jv_pi fun r (u : S × (Nat → Int64)) => r = 0 ∧ post u.1) (fun u => (oa, .inl (dA 2, 1, .inr (.inl u.2))) :: w1 u.1) mc ms := by
  refine jv_MW.of [(0, .ref x), (1, .int a), (2, .int b), (3, .int c)] (by decide) (Nat.le_of_ble_eq_true rfl) rfl ?_
  intro pR eR sR mR belowR methR cR AR C hr htab
  refine jv_aload_n C (jd D_La_take 0 rfl) rfl 0 rfl ?_
  refine jv_iload_n C (jd D_La_take 1 rfl) rfl 1 rfl ?_
  refine jv_iload_n C (jd D_La_take 2 rfl) rfl 2 rfl ?_
  refine jv_iload_n C (jd D_La_take 3 rfl) rfl 3 rfl ?_
  refine jv_callXV C cl_La_39 hM rfl rfl hx ⟨Nat.le_refl _, (by show 8 + (7 + 11) + 64 * kL ≤ 64 * (kL + 1); omega)⟩ ⟨Nat.le_of_eq (Nat.zero_add _), Nat.le_of_eq (Nat.zero_add _)⟩ rfl rfl (Nat.le_of_ble_eq_true rfl) (jd D_La_take 4 rfl) (fun vR uR hv => ?_)
  obtain ⟨rfl, hv⟩ := hv
  refine jv_goto (tgt := 22) C (jd D_La_take 5 rfl) (by decide) ?_
  refine jv_iconst (v := 0) C (jd D_La_take 15 rfl) (by decide) ?_
  exact jv_iretA C hr (uR, fo) (⟨rfl, hv⟩) rfl rfl (Nat.le_of_eq (Nat.zero_add _)) (Nat.le_of_eq (Nat.zero_add _)) (jd D_La_take 16 rfl)

set_option maxHeartbeats 4000000 in
set_option maxRecDepth 100000 in
theorem c_La_take_x1 {l : Launch} {D : va_G} {dA : Nat → ClassId} {zz : (Nat → Nat) × (Nat → Nat)} {S : Type} {x : Nat} {a b c : Int32} {X : va_W} {fs : List Value} (oa : Nat) (fo : Nat → Int64) (hx : X[0]? = some (x, .inr (5, fs))) {px : S → Prop} {w1 : S → va_W} {kL mc ms : Nat} (hM : jv_MX l D dA zz y_Sh_take b_Sh_take 7 none kL [.ref x, .int a, .int b, .int c] X "java/lang/IllegalArgumentException" px w1 mc ms) : jv_MW l D dA zz y_La_take b_La_take 5 (some .int) [(0, 7, 10, 19), (0, 7, 14, 29), (0, 7, 18, 43)] (kL + 1) [.ref x, .int a, .int b, .int c] ((oa, .inl (dA 2, 1, .inr (.inl fo))) :: X) (jv_pi fun r (u : S × (Nat → Int64)) => r = 1 ∧ px u.1) (fun u => (oa, .inl (dA 2, 1, .inr (.inl u.2))) :: w1 u.1) mc ms := by
  refine jv_MW.of [(0, .ref x), (1, .int a), (2, .int b), (3, .int c)] (by decide) (Nat.le_of_ble_eq_true rfl) rfl ?_
  intro pR eR sR mR belowR methR cR AR C hr htab
  refine jv_aload_n C (jd D_La_take 0 rfl) rfl 0 rfl ?_
  refine jv_iload_n C (jd D_La_take 1 rfl) rfl 1 rfl ?_
  refine jv_iload_n C (jd D_La_take 2 rfl) rfl 2 rfl ?_
  refine jv_iload_n C (jd D_La_take 3 rfl) rfl 3 rfl ?_
  refine jv_catXV (name := "java/lang/IllegalArgumentException") C htab cl_La_39 hM rfl rfl hx (fun _ => jv_noNestM (by decide)) ⟨Nat.le_refl _, (by show 8 + (7 + 11) + 64 * kL ≤ 64 * (kL + 1); omega)⟩ ⟨Nat.le_of_eq (Nat.zero_add _), Nat.le_of_eq (Nat.zero_add _)⟩ rfl rfl (Nat.le_of_ble_eq_true rfl) (jd D_La_take 4 rfl) [] (⟨0, 7, 10, 19⟩ : ExceptionTableEntry) [(⟨0, 7, 14, 29⟩ : ExceptionTableEntry), (⟨0, 7, 18, 43⟩ : ExceptionTableEntry)] rfl (fun _ h => absurd h List.not_mem_nil) (by decide) (by decide) (jm2 (List.mem_of_getElem? (i := 31) rfl)) (jm2 (List.mem_of_getElem? (i := 38) rfl)) (fun aR uR hv => ?_)
  refine jv_astore C [(4, .ref aR), (0, .ref x), (1, .int a), (2, .int b), (3, .int c)] (jd D_La_take 6 rfl) (by decide) rfl ?_
  refine jv_iconst (v := 1) C (jd D_La_take 7 rfl) (by decide) ?_
  exact jv_iretA C hr (uR, fo) (⟨rfl, hv⟩) rfl rfl (Nat.le_of_eq (Nat.zero_add _)) (Nat.le_of_eq (Nat.zero_add _)) (jd D_La_take 8 rfl)

set_option maxHeartbeats 4000000 in
set_option maxRecDepth 100000 in
theorem c_La_take_x2 {l : Launch} {D : va_G} {dA : Nat → ClassId} {zz : (Nat → Nat) × (Nat → Nat)} {S : Type} {x : Nat} {a b c : Int32} {X : va_W} {fs : List Value} (oa : Nat) (fo : Nat → Int64) (hx : X[0]? = some (x, .inr (5, fs))) {px : S → Prop} {w1 : S → va_W} {kL mc ms : Nat} (hM : jv_MX l D dA zz y_Sh_take b_Sh_take 7 none kL [.ref x, .int a, .int b, .int c] X "java/lang/IllegalStateException" px w1 mc ms) : jv_MW l D dA zz y_La_take b_La_take 5 (some .int) [(0, 7, 10, 19), (0, 7, 14, 29), (0, 7, 18, 43)] (kL + 1) [.ref x, .int a, .int b, .int c] ((oa, .inl (dA 2, 1, .inr (.inl fo))) :: X) (jv_pi fun r (u : S × (Nat → Int64)) => r = 2 ∧ px u.1) (fun u => (oa, .inl (dA 2, 1, .inr (.inl u.2))) :: w1 u.1) mc ms := by
  refine jv_MW.of [(0, .ref x), (1, .int a), (2, .int b), (3, .int c)] (by decide) (Nat.le_of_ble_eq_true rfl) rfl ?_
  intro pR eR sR mR belowR methR cR AR C hr htab
  refine jv_aload_n C (jd D_La_take 0 rfl) rfl 0 rfl ?_
  refine jv_iload_n C (jd D_La_take 1 rfl) rfl 1 rfl ?_
  refine jv_iload_n C (jd D_La_take 2 rfl) rfl 2 rfl ?_
  refine jv_iload_n C (jd D_La_take 3 rfl) rfl 3 rfl ?_
  refine jv_catXV (name := "java/lang/IllegalStateException") C htab cl_La_39 hM rfl rfl hx (fun _ => jv_noNestM (by decide)) ⟨Nat.le_refl _, (by show 8 + (7 + 11) + 64 * kL ≤ 64 * (kL + 1); omega)⟩ ⟨Nat.le_of_eq (Nat.zero_add _), Nat.le_of_eq (Nat.zero_add _)⟩ rfl rfl (Nat.le_of_ble_eq_true rfl) (jd D_La_take 4 rfl) [(⟨0, 7, 10, 19⟩ : ExceptionTableEntry)] (⟨0, 7, 14, 29⟩ : ExceptionTableEntry) [(⟨0, 7, 18, 43⟩ : ExceptionTableEntry)] rfl (List.forall_mem_cons.mpr ⟨⟨by decide, "java/lang/IllegalArgumentException", (jm2 (List.mem_of_getElem? (i := 31) rfl)), C.2.2.2.2.2.2.2.2.2.2.2.2.2.2.1⟩, (fun _ h => absurd h List.not_mem_nil)⟩) (by decide) (by decide) (jm3 (List.mem_of_getElem? (i := 52) rfl)) (jm3 (List.mem_of_getElem? (i := 62) rfl)) (fun aR uR hv => ?_)
  refine jv_astore C [(4, .ref aR), (0, .ref x), (1, .int a), (2, .int b), (3, .int c)] (jd D_La_take 9 rfl) (by decide) rfl ?_
  refine jv_iconst (v := 2) C (jd D_La_take 10 rfl) (by decide) ?_
  exact jv_iretA C hr (uR, fo) (⟨rfl, hv⟩) rfl rfl (Nat.le_of_eq (Nat.zero_add _)) (Nat.le_of_eq (Nat.zero_add _)) (jd D_La_take 11 rfl)

set_option maxHeartbeats 4000000 in
set_option maxRecDepth 100000 in
theorem c_La_take_x3 {l : Launch} {D : va_G} {dA : Nat → ClassId} {zz : (Nat → Nat) × (Nat → Nat)} {S : Type} {x : Nat} {a b c : Int32} {X : va_W} {fs : List Value} (oa : Nat) (fo : Nat → Int64) (hx : X[0]? = some (x, .inr (5, fs))) {px : S → Prop} {w1 : S → va_W} {kL mc ms : Nat} (hM : jv_MX l D dA zz y_Sh_take b_Sh_take 7 none kL [.ref x, .int a, .int b, .int c] X "java/util/NoSuchElementException" px w1 mc ms) : jv_MW l D dA zz y_La_take b_La_take 5 (some .int) [(0, 7, 10, 19), (0, 7, 14, 29), (0, 7, 18, 43)] (kL + 1) [.ref x, .int a, .int b, .int c] ((oa, .inl (dA 2, 1, .inr (.inl fo))) :: X) (jv_pi fun r (u : S × (Nat → Int64)) => r = 3 ∧ px u.1) (fun u => (oa, .inl (dA 2, 1, .inr (.inl u.2))) :: w1 u.1) mc ms := by
  refine jv_MW.of [(0, .ref x), (1, .int a), (2, .int b), (3, .int c)] (by decide) (Nat.le_of_ble_eq_true rfl) rfl ?_
  intro pR eR sR mR belowR methR cR AR C hr htab
  refine jv_aload_n C (jd D_La_take 0 rfl) rfl 0 rfl ?_
  refine jv_iload_n C (jd D_La_take 1 rfl) rfl 1 rfl ?_
  refine jv_iload_n C (jd D_La_take 2 rfl) rfl 2 rfl ?_
  refine jv_iload_n C (jd D_La_take 3 rfl) rfl 3 rfl ?_
  refine jv_catXV (name := "java/util/NoSuchElementException") C htab cl_La_39 hM rfl rfl hx (fun _ => jv_noNestM (by decide)) ⟨Nat.le_refl _, (by show 8 + (7 + 11) + 64 * kL ≤ 64 * (kL + 1); omega)⟩ ⟨Nat.le_of_eq (Nat.zero_add _), Nat.le_of_eq (Nat.zero_add _)⟩ rfl rfl (Nat.le_of_ble_eq_true rfl) (jd D_La_take 4 rfl) [(⟨0, 7, 10, 19⟩ : ExceptionTableEntry), (⟨0, 7, 14, 29⟩ : ExceptionTableEntry)] (⟨0, 7, 18, 43⟩ : ExceptionTableEntry) [] rfl (List.forall_mem_cons.mpr ⟨⟨by decide, "java/lang/IllegalArgumentException", (jm2 (List.mem_of_getElem? (i := 31) rfl)), C.2.2.2.2.2.2.2.2.2.2.2.2.2.2.2.1⟩, (List.forall_mem_cons.mpr ⟨⟨by decide, "java/lang/IllegalStateException", (jm3 (List.mem_of_getElem? (i := 52) rfl)), C.2.2.2.2.2.2.2.2.2.2.2.2.2.2.2.2⟩, (fun _ h => absurd h List.not_mem_nil)⟩)⟩) (by decide) (by decide) (jm3 (List.mem_of_getElem? (i := 199) rfl)) (jm3 (List.mem_of_getElem? (i := 212) rfl)) (fun aR uR hv => ?_)
  refine jv_astore C [(4, .ref aR), (0, .ref x), (1, .int a), (2, .int b), (3, .int c)] (jd D_La_take 12 rfl) (by decide) rfl ?_
  refine jv_iconst (v := 3) C (jd D_La_take 13 rfl) (by decide) ?_
  exact jv_iretA C hr (uR, fo) (⟨rfl, hv⟩) rfl rfl (Nat.le_of_eq (Nat.zero_add _)) (Nat.le_of_eq (Nat.zero_add _)) (jd D_La_take 14 rfl)

set_option maxHeartbeats 4000000 in
set_option maxRecDepth 100000 in
theorem c_La_word_ok {l : Launch} {D : va_G} {dA : Nat → ClassId} {zz : (Nat → Nat) × (Nat → Nat)} {S : Type} {x : Nat} {a : Int32} {X : va_W} {fs : List Value} (oa : Nat) (fo : Nat → Int64) (hx : X[0]? = some (x, .inr (5, fs))) {post : Int64 → S → Prop} {w1 : S → va_W} {kL mc ms : Nat} (hM : jv_M l D dA zz y_Sh_word b_Sh_word 6 (some (FieldType.long)) kL [.ref x, .int a] X (jv_pl post) w1 mc ms) : jv_MW l D dA zz y_La_word b_La_word 4 (some .int) [(0, 8, 11, 13)] (kL + 1) [.ref x, .int a, .ref oa] ((oa, .inl (dA 2, 1, .inr (.inl fo))) :: X) (jv_pi fun r (u : S × (Nat → Int64)) => r = 0 ∧ ∃ v, post v u.1 ∧ u.2 0 = v) (fun u => (oa, .inl (dA 2, 1, .inr (.inl u.2))) :: w1 u.1) mc ms := by
  refine jv_MW.of [(0, .ref x), (1, .int a), (2, .ref oa)] (by decide) (Nat.le_of_ble_eq_true rfl) rfl ?_
  intro pR eR sR mR belowR methR cR AR C hr htab
  refine jv_aload_n C (jd D_La_word 0 rfl) rfl 2 rfl ?_
  refine jv_iconst (v := 0) C (jd D_La_word 1 rfl) (by decide) ?_
  refine jv_aload_n C (jd D_La_word 2 rfl) rfl 0 rfl ?_
  refine jv_iload_n C (jd D_La_word 3 rfl) rfl 1 rfl ?_
  refine jv_callXV C cl_La_45 hM rfl rfl hx ⟨Nat.le_refl _, (by show 8 + (6 + 11) + 64 * kL ≤ 64 * (kL + 1); omega)⟩ ⟨Nat.le_of_eq (Nat.zero_add _), Nat.le_of_eq (Nat.zero_add _)⟩ rfl rfl (Nat.le_of_ble_eq_true rfl) (jd D_La_word 4 rfl) (fun vR uR hv => ?_)
  obtain ⟨rR, rfl, hv⟩ := hv
  refine jv_last C 0 ((oa, .inl (dA 2, 1, .inr (.inl (vp_updL fo (0 : Int32).toNatClampNeg rR)))) :: w1 uR) rfl rfl (vp_in_nI (n := 0) (by decide) (by decide)) (jd D_La_word 5 rfl) ?_
  refine jv_goto (tgt := 14) C (jd D_La_word 6 rfl) (by decide) ?_
  refine jv_iconst (v := 0) C (jd D_La_word 10 rfl) (by decide) ?_
  exact jv_iretA C hr (uR, vp_updL fo (0 : Int32).toNatClampNeg rR) (⟨rfl, rR, hv, rfl⟩) rfl rfl (Nat.le_of_eq (Nat.zero_add _)) (Nat.le_of_eq (Nat.zero_add _)) (jd D_La_word 11 rfl)

set_option maxHeartbeats 4000000 in
set_option maxRecDepth 100000 in
theorem c_La_word_x1 {l : Launch} {D : va_G} {dA : Nat → ClassId} {zz : (Nat → Nat) × (Nat → Nat)} {S : Type} {x : Nat} {a : Int32} {X : va_W} {fs : List Value} (oa : Nat) (fo : Nat → Int64) (hx : X[0]? = some (x, .inr (5, fs))) {px : S → Prop} {w1 : S → va_W} {kL mc ms : Nat} (hM : jv_MX l D dA zz y_Sh_word b_Sh_word 6 (some (FieldType.long)) kL [.ref x, .int a] X "java/lang/IndexOutOfBoundsException" px w1 mc ms) : jv_MW l D dA zz y_La_word b_La_word 4 (some .int) [(0, 8, 11, 13)] (kL + 1) [.ref x, .int a, .ref oa] ((oa, .inl (dA 2, 1, .inr (.inl fo))) :: X) (jv_pi fun r (u : S × (Nat → Int64)) => r = 1 ∧ px u.1) (fun u => (oa, .inl (dA 2, 1, .inr (.inl u.2))) :: w1 u.1) mc ms := by
  refine jv_MW.of [(0, .ref x), (1, .int a), (2, .ref oa)] (by decide) (Nat.le_of_ble_eq_true rfl) rfl ?_
  intro pR eR sR mR belowR methR cR AR C hr htab
  refine jv_aload_n C (jd D_La_word 0 rfl) rfl 2 rfl ?_
  refine jv_iconst (v := 0) C (jd D_La_word 1 rfl) (by decide) ?_
  refine jv_aload_n C (jd D_La_word 2 rfl) rfl 0 rfl ?_
  refine jv_iload_n C (jd D_La_word 3 rfl) rfl 1 rfl ?_
  refine jv_catXV (name := "java/lang/IndexOutOfBoundsException") C htab cl_La_45 hM rfl rfl hx (fun _ => jv_noNestM (by decide)) ⟨Nat.le_refl _, (by show 8 + (6 + 11) + 64 * kL ≤ 64 * (kL + 1); omega)⟩ ⟨Nat.le_of_eq (Nat.zero_add _), Nat.le_of_eq (Nat.zero_add _)⟩ rfl rfl (Nat.le_of_ble_eq_true rfl) (jd D_La_word 4 rfl) [] (⟨0, 8, 11, 13⟩ : ExceptionTableEntry) [] rfl (fun _ h => absurd h List.not_mem_nil) (by decide) (by decide) (jm1 (List.mem_of_getElem? (i := 186) rfl)) (jm1 (List.mem_of_getElem? (i := 197) rfl)) (fun aR uR hv => ?_)
  refine jv_astore_n C [(3, .ref aR), (0, .ref x), (1, .int a), (2, .ref oa)] (jd D_La_word 7 rfl) rfl (by decide) rfl ?_
  refine jv_iconst (v := 1) C (jd D_La_word 8 rfl) (by decide) ?_
  exact jv_iretA C hr (uR, fo) (⟨rfl, hv⟩) rfl rfl (Nat.le_of_eq (Nat.zero_add _)) (Nat.le_of_eq (Nat.zero_add _)) (jd D_La_word 9 rfl)

set_option maxHeartbeats 4000000 in
set_option maxRecDepth 100000 in
theorem c_La_count_ok {l : Launch} {D : va_G} {dA : Nat → ClassId} {zz : (Nat → Nat) × (Nat → Nat)} {S : Type} {x : Nat} {a : Int32} {X : va_W} {fs : List Value} (oa : Nat) (fo : Nat → Int64) (hx : X[0]? = some (x, .inr (5, fs))) {post : Int32 → S → Prop} {w1 : S → va_W} {kL mc ms : Nat} (hM : jv_M l D dA zz y_Sh_count b_Sh_count 2 (some (FieldType.int)) kL [.ref x, .int a] X (jv_pi post) w1 mc ms) : jv_MW l D dA zz y_La_count b_La_count 4 (some .int) [(0, 9, 12, 19)] (kL + 1) [.ref x, .int a, .ref oa] ((oa, .inl (dA 2, 1, .inr (.inl fo))) :: X) (jv_pi fun r (u : S × (Nat → Int64)) => r = 0 ∧ ∃ v, post v u.1 ∧ u.2 0 = v.toInt64) (fun u => (oa, .inl (dA 2, 1, .inr (.inl u.2))) :: w1 u.1) mc ms := by
  refine jv_MW.of [(0, .ref x), (1, .int a), (2, .ref oa)] (by decide) (Nat.le_of_ble_eq_true rfl) rfl ?_
  intro pR eR sR mR belowR methR cR AR C hr htab
  refine jv_aload_n C (jd D_La_count 0 rfl) rfl 2 rfl ?_
  refine jv_iconst (v := 0) C (jd D_La_count 1 rfl) (by decide) ?_
  refine jv_aload_n C (jd D_La_count 2 rfl) rfl 0 rfl ?_
  refine jv_iload_n C (jd D_La_count 3 rfl) rfl 1 rfl ?_
  refine jv_callXV C cl_La_49 hM rfl rfl hx ⟨Nat.le_refl _, (by show 8 + (2 + 11) + 64 * kL ≤ 64 * (kL + 1); omega)⟩ ⟨Nat.le_of_eq (Nat.zero_add _), Nat.le_of_eq (Nat.zero_add _)⟩ rfl rfl (Nat.le_of_ble_eq_true rfl) (jd D_La_count 4 rfl) (fun vR uR hv => ?_)
  obtain ⟨rR, rfl, hv⟩ := hv
  refine jv_i2l C (jd D_La_count 5 rfl) ?_
  refine jv_last C 0 ((oa, .inl (dA 2, 1, .inr (.inl (vp_updL fo (0 : Int32).toNatClampNeg rR.toInt64)))) :: w1 uR) rfl rfl (vp_in_nI (n := 0) (by decide) (by decide)) (jd D_La_count 6 rfl) ?_
  refine jv_goto (tgt := 15) C (jd D_La_count 7 rfl) (by decide) ?_
  refine jv_iconst (v := 0) C (jd D_La_count 11 rfl) (by decide) ?_
  exact jv_iretA C hr (uR, vp_updL fo (0 : Int32).toNatClampNeg rR.toInt64) (⟨rfl, rR, hv, rfl⟩) rfl rfl (Nat.le_of_eq (Nat.zero_add _)) (Nat.le_of_eq (Nat.zero_add _)) (jd D_La_count 12 rfl)

set_option maxHeartbeats 4000000 in
set_option maxRecDepth 100000 in
theorem c_La_count_x1 {l : Launch} {D : va_G} {dA : Nat → ClassId} {zz : (Nat → Nat) × (Nat → Nat)} {S : Type} {x : Nat} {a : Int32} {X : va_W} {fs : List Value} (oa : Nat) (fo : Nat → Int64) (hx : X[0]? = some (x, .inr (5, fs))) {px : S → Prop} {w1 : S → va_W} {kL mc ms : Nat} (hM : jv_MX l D dA zz y_Sh_count b_Sh_count 2 (some (FieldType.int)) kL [.ref x, .int a] X "java/lang/IllegalArgumentException" px w1 mc ms) : jv_MW l D dA zz y_La_count b_La_count 4 (some .int) [(0, 9, 12, 19)] (kL + 1) [.ref x, .int a, .ref oa] ((oa, .inl (dA 2, 1, .inr (.inl fo))) :: X) (jv_pi fun r (u : S × (Nat → Int64)) => r = 1 ∧ px u.1) (fun u => (oa, .inl (dA 2, 1, .inr (.inl u.2))) :: w1 u.1) mc ms := by
  refine jv_MW.of [(0, .ref x), (1, .int a), (2, .ref oa)] (by decide) (Nat.le_of_ble_eq_true rfl) rfl ?_
  intro pR eR sR mR belowR methR cR AR C hr htab
  refine jv_aload_n C (jd D_La_count 0 rfl) rfl 2 rfl ?_
  refine jv_iconst (v := 0) C (jd D_La_count 1 rfl) (by decide) ?_
  refine jv_aload_n C (jd D_La_count 2 rfl) rfl 0 rfl ?_
  refine jv_iload_n C (jd D_La_count 3 rfl) rfl 1 rfl ?_
  refine jv_catXV (name := "java/lang/IllegalArgumentException") C htab cl_La_49 hM rfl rfl hx (fun _ => jv_noNestM (by decide)) ⟨Nat.le_refl _, (by show 8 + (2 + 11) + 64 * kL ≤ 64 * (kL + 1); omega)⟩ ⟨Nat.le_of_eq (Nat.zero_add _), Nat.le_of_eq (Nat.zero_add _)⟩ rfl rfl (Nat.le_of_ble_eq_true rfl) (jd D_La_count 4 rfl) [] (⟨0, 9, 12, 19⟩ : ExceptionTableEntry) [] rfl (fun _ h => absurd h List.not_mem_nil) (by decide) (by decide) (jm2 (List.mem_of_getElem? (i := 31) rfl)) (jm2 (List.mem_of_getElem? (i := 38) rfl)) (fun aR uR hv => ?_)
  refine jv_astore_n C [(3, .ref aR), (0, .ref x), (1, .int a), (2, .ref oa)] (jd D_La_count 8 rfl) rfl (by decide) rfl ?_
  refine jv_iconst (v := 1) C (jd D_La_count 9 rfl) (by decide) ?_
  exact jv_iretA C hr (uR, fo) (⟨rfl, hv⟩) rfl rfl (Nat.le_of_eq (Nat.zero_add _)) (Nat.le_of_eq (Nat.zero_add _)) (jd D_La_count 10 rfl)
