-- a contract: the world w0 before, w1 u behind, for some u with 'post answer u'; nothing else changed
def jv_Q {S : Type} (D : va_G) (post : Option Value → S → Prop) (w1 : S → va_W) (A : Nat → Prop) : Array Value → State → Outcome → State → Prop := fun _ st oc t => (∃ (v : Option Value) (u : S), oc = .returned v ∧ post v u ∧ va_P D jvCl (w1 u) t.heap ∧ va_D A (w1 u)) ∧ va_F A st t
abbrev jv_rm (n mc ms : Nat) : Room := { frames := n, cells := mc, slots := ms, locals := 64 * n }
def jv_Pc (D : va_G) (dA : Nat → ClassId) (zz : (Nat → Nat) × (Nat → Nat)) (av : List Value) (w0 : va_W) (sz : Nat) : Array Value → State → Prop := va_Pc av (fun U => U.heap.size = sz ∧ va_P D jvCl w0 U.heap ∧ jv_K D dA U ∧ va_D (fun _ => True) w0 ∧ jv_Z zz (va_A w0 sz) U U.heap)
def jv_M {S : Type} (l : Launch) (D : va_G) (dA : Nat → ClassId) (zz : (Nat → Nat) × (Nat → Nat)) (y : MethodName) (b : ByteArray) (nL : Nat) (ret : Option FieldType) (n : Nat) (av : List Value) (w0 : va_W) (post : Option Value → S → Prop) (w1 : S → va_W) (mc ms : Nat) : Prop :=
  ∀ sz : Nat, Met l y [.code y b nL ret] (jv_rm n mc ms) (jv_Pc D dA zz av w0 sz) (jv_Q D post w1 (va_A w0 sz)) mc ms (va_A w0 sz)
def jv_pi {S : Type} (post : Int32 → S → Prop) : Option Value → S → Prop := fun v u => ∃ r : Int32, v = some (.int r) ∧ post r u
def jv_pl {S : Type} (post : Int64 → S → Prop) : Option Value → S → Prop := fun v u => ∃ r : Int64, v = some (.long r) ∧ post r u
def jv_pv {S : Type} (post : S → Prop) : Option Value → S → Prop := fun v u => v = none ∧ post u
def jv_pr {S : Type} (post : Nat → S → Prop) : Option Value → S → Prop := fun v u => ∃ a : Nat, v = some (.ref a) ∧ post a u
abbrev jv_E {S : Type} (D : va_G) (post : Option Value → S → Prop) (w1 : S → va_W) (below : List Frame) (args : Array Value) (s : State) (A : Nat → Prop) (mc ms : Nat) : State → Prop := MQ below (jv_Q D post w1 A) args s mc ms A
theorem jv_Pc_blind {D : va_G} {dA : Nat → ClassId} {zz : (Nat → Nat) × (Nat → Nat)} {av : List Value} {w0 : va_W} {sz : Nat} : FrameBlind (jv_Pc D dA zz av w0 sz) := fun a U g mk q => by
  obtain ⟨q0, q1, qP, qK, qD, qZ⟩ := q
  exact ⟨q0, q1, qP, jv_K.same (u := U) (U := U.calling g mk a) rfl qK, qD, jv_Z.same (u := U) (U := U.calling g mk a) qZ rfl⟩
theorem jv_M.of {S : Type} {l : Launch} {D : va_G} {dA : Nat → ClassId} {zz : (Nat → Nat) × (Nat → Nat)} {y : MethodName} {b : ByteArray} {nL : Nat} {ret : Option FieldType} {n : Nat} {av : List Value} {w0 : va_W} {post : Option Value → S → Prop} {w1 : S → va_W} {mc ms : Nat} (lv : List (Nat × Value)) (hy : plainName y.cls = true) (hlen : (lg_sl av).length ≤ nL) (hlv : lv_args 0 av = lv)
    (body : ∀ (p : Program) (e : Env) (s : State) (m : MethodId) (below : List Frame) (meth : Method) (c : Code) (A : Nat → Prop), jv_C p s m av.toArray meth c b y.cls nL D dA zz A → meth.sig.returnType = ret → meth.name = y.name →
      jv_V p l e (jv_rm n mc ms) s m av.toArray below meth c 0 0 (jv_E D post w1 below av.toArray s A mc ms) D A nL w0 lv 0 []) : jv_M l D dA zz y b nL ret n av w0 post w1 mc ms := by
  intro sz
  refine Met.ofW (cc := b) (maxL := nL) (ret := ret) hy rfl ?_
  intro p e s m args below meth c s₁ B hml hv
  obtain ⟨rfl, hsz, hP, hK, hD0, hZ⟩ := hv
  subst hsz
  have hD := hD0.self (sz := s.heap.size)
  have hl := lv_entry av (n := nL) hlen
  rw [hlv] at hl
  rw [lg_entry_eq]
  exact body p e s m below meth c (va_A w0 s.heap.size) ⟨B.exec, B.bytes, hml, findClass_of_methodNamed B.named, hK, fun q h => Or.inr h, B.notSynchronized, hZ⟩ B.returns (name_of_methodNamed B.named B.method).1 s.heap [] _ hP hD va_S.rf hl
section JVC
variable {p : Program} {l : Launch} {e : Env} {R : Room} {s : State} {m : MethodId} {args : Array Value} {below : List Frame} {meth : Method} {c : Code} {cells slots : Nat} {Q : State → Prop} {cc : ByteArray} {own : String} {nL : Nat} {D : va_G} {dA : Nat → ClassId} {zz : (Nat → Nat) × (Nat → Nat)} {A : Nat → Prop} {ws : va_W} {lv : List (Nat × Value)} {pc : Nat} {rest : List Value}
-- returns
theorem jv_pick {D : va_G} {A : Nat → Prop} {ws ws' : va_W} {H : Heap} (hP : va_P D jvCl ws H) (hD : va_D A ws) (is : List Nat) (hn : va_nd is = true) (hs : is.map (fun i => ws[i]?) = ws'.map some) : va_P D jvCl ws' H ∧ va_D A ws' := by
  refine ⟨hP.sub is ?_, hD.sub is hn hs⟩
  have e : is.filterMap (fun i => ws[i]?) = (is.map (fun i => ws[i]?)).filterMap id := by rw [List.filterMap_map]; rfl
  rw [e, hs, List.filterMap_map]
  exact List.filterMap_some
theorem jv_iret {S : Type} {post : Int32 → S → Prop} {w1 : S → va_W} {mc ms : Nat} (C : jv_C p s m args meth c cc own nL D dA zz A) {ty : FieldType} (hr : meth.sig.returnType = some ty) {x : Int32} (u : S) (hp : post x u) (hty : narrow ty (.int x) = .int x) (is : List Nat) (hn : va_nd is = true) (hs : is.map (fun i => ws[i]?) = (w1 u).map some) (h1 : cells ≤ mc) (h2 : slots ≤ ms) (hdg : decode cc pc = .ok (.ireturn, 1)) :
    jv_V p l e R s m args below meth c cells slots (jv_E D (jv_pi post) w1 below args s A mc ms) D A nL ws lv pc [.int x] := fun H locs ls hP hD hS h =>
  W.widen h1 h2 (W.zret C.1 C.2.1 hr hty (fun t ht hW => ⟨⟨some (.int x), u, rfl, ⟨x, rfl, hp⟩, by rw [ht]; exact (jv_pick hP hD is hn hs).1, (jv_pick hP hD is hn hs).2⟩, hS.F ht⟩) hS.2.2 hdg C.2.2.2.2.2.2.1)
theorem jv_lret {S : Type} {post : Int64 → S → Prop} {w1 : S → va_W} {mc ms : Nat} (C : jv_C p s m args meth c cc own nL D dA zz A) (hr : meth.sig.returnType = some .long) {x : Int64} (u : S) (hp : post x u) (is : List Nat) (hn : va_nd is = true) (hs : is.map (fun i => ws[i]?) = (w1 u).map some) (h1 : cells ≤ mc) (h2 : slots ≤ ms) (hdg : decode cc pc = .ok (.lreturn, 1)) :
    jv_V p l e R s m args below meth c cells slots (jv_E D (jv_pl post) w1 below args s A mc ms) D A nL ws lv pc [.long x] := fun H locs ls hP hD hS h =>
  W.widen h1 h2 (W.lret C.1 C.2.1 hr (fun t ht hW => ⟨⟨some (.long x), u, rfl, ⟨x, rfl, hp⟩, by rw [ht]; exact (jv_pick hP hD is hn hs).1, (jv_pick hP hD is hn hs).2⟩, hS.F ht⟩) hS.2.2 hdg C.2.2.2.2.2.2.1)
theorem jv_vret {S : Type} {post : S → Prop} {w1 : S → va_W} {mc ms : Nat} (C : jv_C p s m args meth c cc own nL D dA zz A) (hr : meth.sig.returnType = none) (u : S) (hp : post u) (is : List Nat) (hn : va_nd is = true) (hs : is.map (fun i => ws[i]?) = (w1 u).map some) (h1 : cells ≤ mc) (h2 : slots ≤ ms) (hdg : decode cc pc = .ok (.return_, 1)) :
    jv_V p l e R s m args below meth c cells slots (jv_E D (jv_pv post) w1 below args s A mc ms) D A nL ws lv pc [] := fun H locs ls hP hD hS h =>
  W.widen h1 h2 (W.vret C.1 C.2.1 hr (fun t ht hW => ⟨⟨none, u, rfl, ⟨rfl, hp⟩, by rw [ht]; exact (jv_pick hP hD is hn hs).1, (jv_pick hP hD is hn hs).2⟩, hS.F ht⟩) hS.2.2 hdg C.2.2.2.2.2.2.1)
theorem jv_aret {S : Type} {post : Nat → S → Prop} {w1 : S → va_W} {mc ms : Nat} (C : jv_C p s m args meth c cc own nL D dA zz A) {rt : FieldType} (hr : meth.sig.returnType = some rt) (hrt : (∃ n, rt = .object n) ∨ ∃ t, rt = .array t) {a : Nat} (u : S) (hp : post a u) (is : List Nat) (hn : va_nd is = true) (hs : is.map (fun i => ws[i]?) = (w1 u).map some) (h1 : cells ≤ mc) (h2 : slots ≤ ms) (hdg : decode cc pc = .ok (.areturn, 1)) :
    jv_V p l e R s m args below meth c cells slots (jv_E D (jv_pr post) w1 below args s A mc ms) D A nL ws lv pc [.ref a] := fun H locs ls hP hD hS h =>
  W.widen h1 h2 (W.aret C.1 C.2.1 hr hrt (Or.inr ⟨a, rfl⟩) (fun t ht hW => ⟨⟨some (.ref a), u, rfl, ⟨a, rfl, hp⟩, by rw [ht]; exact (jv_pick hP hD is hn hs).1, (jv_pick hP hD is hn hs).2⟩, hS.F ht⟩) hS.2.2 hdg C.2.2.2.2.2.2.1)
-- calls
theorem jv_goon {S : Type} {post : Option Value → S → Prop} {w1 : S → va_W} {wc wr : va_W} {H : Heap} {locs : List Loc} {ls : Array Slot} {st : List Value} {mc ms : Nat} {av : Array Value} (hA : ∀ q : Nat, s.heap.size ≤ q → A q) (hP : va_P D jvCl ws H) (hD : va_D A ws) (hS : va_S A s.heap H locs) (h : lv_has ls nL lv) (isC isR : List Nat) (hC : isC.map (fun i => ws[i]?) = wc.map some) (hR : isR.map (fun i => ws[i]?) = wr.map some) (hn : va_nd isR = true) (hdis : ∀ i ∈ isR, i ∉ isC)
    (hr : va_Run p l e R s m args below meth c H locs cells slots mc ms (F0 m pc ls st) rest (jv_Q D post w1 (va_A wc H.size) av) (va_A wc H.size))
    (kk : ∀ (v : Option Value) (u : S), post v u → jv_V p l e R s m args below meth c (cells + mc) (slots + ms) Q D A nL (wr ++ w1 u) lv (pc + 3) (v.toList ++ rest)) : W p l e R s m args below meth c H locs cells slots Q (F0 m pc ls st) := by
  have hF := va_free (wc := wc) hD hS hA isC hC
  intro T hT X
  obtain ⟨v, st₀, t, T', L, h0, X', hL, e1, e2, ⟨⟨v', u, hv, hp, hP1, hD1⟩, hz, hk⟩, st⟩ := hr T hT X
  cases hv
  rw [h0] at hz hk
  obtain ⟨hP2, hD2⟩ := va_join (wr := wr) (w1 := w1 u) hP hD isC isR hC hR hn hdis hk hF hP1 hD1
  obtain ⟨t2, a1, b1⟩ := kk v u hp T'.heap (locs ++ L) ls (by rw [e1]; exact hP2) hD2
    ⟨Nat.le_trans hS.1 (by rw [e1]; exact hz), fun q h1 h2 => by rw [e1, hk q (Nat.lt_of_lt_of_le h1 hS.1) (fun z => h2 (hF q z))]; exact hS.2.1 q h1 h2, fun q hq => by
      rcases List.mem_append.mp hq with h | h
      · exact hS.2.2 q h
      · exact hF _ (hL q h)⟩ h T' rfl X'
  exact ⟨t2, st t2 a1, b1⟩
/-- a call's words: the callee's code, its class, how it is linked -/
def jv_L (own : String) (index : Nat) (y : MethodName) (b : ByteArray) (nL : Nat) (ret : Option FieldType) (n : Nat) : Prop :=
  Cond.code y b nL ret ∈ lw_tbl ∧ Cond.initialized y.cls ∈ lw_tbl ∧ (y.cls ≠ "java/lang/invoke/MethodHandle" ∧ y.cls ≠ "java/lang/invoke/VarHandle") ∧ (parseMethodDescriptor y.desc).map (fun d => d.parameters.length) = some n ∧
  (Cond.methodLink own index y ∈ lw_tbl ∨ ∃ host : String, Cond.methodLinkNest own index y host ∈ lw_tbl)
def jv_LV (own : String) (index : Nat) (y : MethodName) (b : ByteArray) (nL : Nat) (ret : Option FieldType) (n : Nat) : Prop := jv_L own index y b nL ret n ∧ Cond.instanceMethod y ∈ lw_tbl ∧ Cond.selects y.cls y y ∈ lw_tbl
def jv_LS (own : String) (index : Nat) (y : MethodName) (b : ByteArray) (nL : Nat) (ret : Option FieldType) (n : Nat) : Prop := jv_L own index y b nL ret n ∧ Cond.static y ∈ lw_tbl
def jv_LI (own : String) (index : Nat) (y : MethodName) (b : ByteArray) (nL : Nat) (n : Nat) : Prop := jv_L own index y b nL none n ∧ Cond.instanceMethod y ∈ lw_tbl ∧ y.name = "<init>"
theorem jv_Lws (hT : jv_T s) {own : String} {index : Nat} {y : MethodName} {b : ByteArray} {nL : Nat} {ret : Option FieldType} {n : Nat} (L : jv_L own index y b nL ret n) : ∀ w ∈ [Cond.code y b nL ret], ∀ (a' : Array Value) (U : State), s.WarmedH U.vm → w.before a' U = true := by
  intro w hw a' U hW
  rw [List.mem_singleton.mp hw]
  exact word_at hW (Or.inl rfl) (hT _ L.1 rfl #[])
theorem jv_Llen {own : String} {index : Nat} {y : MethodName} {b : ByteArray} {nL : Nat} {ret : Option FieldType} {n : Nat} (L : jv_L own index y b nL ret n) : ∀ sig, parseMethodDescriptor y.desc = some sig → n = sig.parameters.length := by
  intro sig h
  have h2 := L.2.2.2.1
  rw [h] at h2
  exact (Option.some.inj h2).symm
theorem jv_callV {S : Type} {post : Option Value → S → Prop} {w1 : S → va_W} {wc wr : va_W} {mc ms n k index ml : Nat} {y : MethodName} {b : ByteArray} {ret : Option FieldType} {o ci : Nat} {As st : List Value} {fs : List Value} {q : vw_C} (C : jv_C p s m args meth c cc own nL D dA zz A) (L : jv_LV own index y b ml ret n) (hM : jv_M l D dA zz y b ml ret k (.ref o :: As) wc post w1 mc ms)
    (isC isR : List Nat) (hC : isC.map (fun i => ws[i]?) = wc.map some) (hR : isR.map (fun i => ws[i]?) = wr.map some) (hnC : va_nd isC = true) (hn : va_nd isR = true) (hdis : ∀ i ∈ isR, i ∉ isC) (hc : jvCl[ci]? = some q) (hq : q.1 = y.cls) (q0 : Nat) (he : wc[q0]? = some (o, .inr (ci, fs)))
    (hR2 : k + 1 ≤ R.frames ∧ 8 + (ml + 11) + 64 * k ≤ R.locals) (hf : cells + mc ≤ R.cells ∧ slots + ms ≤ R.slots) (hnA : As.length = n) (hst : st = As.reverse ++ .ref o :: rest) (hcat : (rest.map fun v => v.category).sum ≤ 8) (hdg : decode cc pc = .ok (.invokevirtual index, 3))
    (kk : ∀ (v : Option Value) (u : S), post v u → jv_V p l e R s m args below meth c (cells + mc) (slots + ms) Q D A nL (wr ++ w1 u) lv (pc + 3) (v.toList ++ rest)) : jv_V p l e R s m args below meth c cells slots Q D A nL ws lv pc st := by
  intro H locs ls hP hD hS h
  obtain ⟨L0, hin, hsel⟩ := L
  obtain ⟨hx, hb, hml, hown, ⟨hK, hT⟩, hA, hlk, hZ⟩ := C
  obtain ⟨hPc, hDc⟩ := jv_pick hP hD isC hnC hC
  have S0 : CallFix p m c cc nL s args ([] : List Cond) own := ⟨hx, hb, hml, hown, fun w h => by cases h⟩
  have hp : PreV s H y.cls o (jv_Pc D dA zz (.ref o :: As) wc H.size) As := ⟨jv_Pc_blind, by rw [← hq]; exact va_recv hK hPc hc he, fun U hU hW => ⟨rfl, by rw [hU], by rw [hU]; exact hPc, jv_K.moved hW ⟨hK, hT⟩, hDc.weaken (fun _ _ _ _ => trivial), by rw [hU]; exact hZ.to hS.2.1 hW (va_free hD hS hA isC hC)⟩⟩
  rcases id L0.2.2.2.2 with hl | ⟨host, hl⟩
  · exact jv_goon hA hP hD hS h isC isR hC hR hn hdis (va_runV (As := As) (rest := rest) S0 (hM H.size) ⟨⟨rfl, rfl, hR2.1, hR2.2, jv_Lws hT L0, List.mem_cons_self, hT _ L0.1 rfl args, hT _ L0.2.1 rfl args, L0.2.2.1, jv_Llen L0, hT _ hl rfl args⟩, hT _ hin rfl args, hT _ hsel rfl args⟩ hp rfl hnA h.1 hst (lv_room hcat) hdg hf) kk
  · exact jv_goon hA hP hD hS h isC isR hC hR hn hdis (va_runVN (As := As) (rest := rest) (host := host) S0 (hM H.size) ⟨⟨⟨rfl, rfl, hR2.1, hR2.2, jv_Lws hT L0, List.mem_cons_self⟩, hT _ L0.1 rfl args, hT _ L0.2.1 rfl args, L0.2.2.1, jv_Llen L0, hT _ hl rfl args⟩, hT _ hin rfl args, hT _ hsel rfl args⟩ hp rfl hnA h.1 hst (lv_room hcat) hdg hf) kk
theorem jv_callS {S : Type} {post : Option Value → S → Prop} {w1 : S → va_W} {wc wr : va_W} {mc ms n k index ml : Nat} {y : MethodName} {b : ByteArray} {ret : Option FieldType} {As st : List Value} (C : jv_C p s m args meth c cc own nL D dA zz A) (L : jv_LS own index y b ml ret n) (hM : jv_M l D dA zz y b ml ret k As wc post w1 mc ms)
    (isC isR : List Nat) (hC : isC.map (fun i => ws[i]?) = wc.map some) (hR : isR.map (fun i => ws[i]?) = wr.map some) (hnC : va_nd isC = true) (hn : va_nd isR = true) (hdis : ∀ i ∈ isR, i ∉ isC)
    (hR2 : k + 1 ≤ R.frames ∧ 8 + (ml + 11) + 64 * k ≤ R.locals) (hf : cells + mc ≤ R.cells ∧ slots + ms ≤ R.slots) (hnA : As.length = n) (hst : st = As.reverse ++ rest) (hcat : (rest.map fun v => v.category).sum ≤ 8) (hdg : decode cc pc = .ok (.invokestatic index, 3))
    (kk : ∀ (v : Option Value) (u : S), post v u → jv_V p l e R s m args below meth c (cells + mc) (slots + ms) Q D A nL (wr ++ w1 u) lv (pc + 3) (v.toList ++ rest)) : jv_V p l e R s m args below meth c cells slots Q D A nL ws lv pc st := by
  intro H locs ls hP hD hS h
  obtain ⟨L0, hstt⟩ := L
  obtain ⟨hx, hb, hml, hown, ⟨hK, hT⟩, hA, hlk, hZ⟩ := C
  obtain ⟨hPc, hDc⟩ := jv_pick hP hD isC hnC hC
  have S0 : CallFix p m c cc nL s args ([] : List Cond) own := ⟨hx, hb, hml, hown, fun w h => by cases h⟩
  have hp : PreS s H (jv_Pc D dA zz As wc H.size) As := ⟨jv_Pc_blind, fun U hU hW => ⟨rfl, by rw [hU], by rw [hU]; exact hPc, jv_K.moved hW ⟨hK, hT⟩, hDc.weaken (fun _ _ _ _ => trivial), by rw [hU]; exact hZ.to hS.2.1 hW (va_free hD hS hA isC hC)⟩⟩
  rcases id L0.2.2.2.2 with hl | ⟨host, hl⟩
  · exact jv_goon hA hP hD hS h isC isR hC hR hn hdis (va_runS (As := As) (rest := rest) S0 (hM H.size) ⟨⟨rfl, rfl, hR2.1, hR2.2, jv_Lws hT L0, List.mem_cons_self, hT _ L0.1 rfl args, hT _ L0.2.1 rfl args, L0.2.2.1, jv_Llen L0, hT _ hl rfl args⟩, hT _ hstt rfl args⟩ hp rfl hnA h.1 hst (lv_room hcat) hdg hf) kk
  · exact jv_goon hA hP hD hS h isC isR hC hR hn hdis (va_runSN (As := As) (rest := rest) (host := host) S0 (hM H.size) ⟨⟨⟨rfl, rfl, hR2.1, hR2.2, jv_Lws hT L0, List.mem_cons_self⟩, hT _ L0.1 rfl args, hT _ L0.2.1 rfl args, L0.2.2.1, jv_Llen L0, hT _ hl rfl args⟩, hT _ hstt rfl args, trivial⟩ hp rfl hnA h.1 hst (lv_room hcat) hdg hf) kk
theorem jv_callI {S : Type} {post : Option Value → S → Prop} {w1 : S → va_W} {wc wr : va_W} {mc ms n k index ml : Nat} {y : MethodName} {b : ByteArray} {o : Nat} {As st : List Value} (C : jv_C p s m args meth c cc own nL D dA zz A) (L : jv_LI own index y b ml n) (hM : jv_M l D dA zz y b ml none k (.ref o :: As) wc post w1 mc ms)
    (isC isR : List Nat) (hC : isC.map (fun i => ws[i]?) = wc.map some) (hR : isR.map (fun i => ws[i]?) = wr.map some) (hnC : va_nd isC = true) (hn : va_nd isR = true) (hdis : ∀ i ∈ isR, i ∉ isC)
    (hR2 : k + 1 ≤ R.frames ∧ 8 + (ml + 11) + 64 * k ≤ R.locals) (hf : cells + mc ≤ R.cells ∧ slots + ms ≤ R.slots) (hnA : As.length = n) (hst : st = As.reverse ++ .ref o :: rest) (hcat : (rest.map fun v => v.category).sum ≤ 8) (hdg : decode cc pc = .ok (.invokespecial index, 3))
    (kk : ∀ (v : Option Value) (u : S), post v u → jv_V p l e R s m args below meth c (cells + mc) (slots + ms) Q D A nL (wr ++ w1 u) lv (pc + 3) (v.toList ++ rest)) : jv_V p l e R s m args below meth c cells slots Q D A nL ws lv pc st := by
  intro H locs ls hP hD hS h
  obtain ⟨L0, hin, hy1⟩ := L
  obtain ⟨hx, hb, hml, hown, ⟨hK, hT⟩, hA, hlk, hZ⟩ := C
  obtain ⟨hPc, hDc⟩ := jv_pick hP hD isC hnC hC
  have S0 : CallFix p m c cc nL s args ([] : List Cond) own := ⟨hx, hb, hml, hown, fun w h => by cases h⟩
  have hp : PreS s H (jv_Pc D dA zz (.ref o :: As) wc H.size) (.ref o :: As) := ⟨jv_Pc_blind, fun U hU hW => ⟨rfl, by rw [hU], by rw [hU]; exact hPc, jv_K.moved hW ⟨hK, hT⟩, hDc.weaken (fun _ _ _ _ => trivial), by rw [hU]; exact hZ.to hS.2.1 hW (va_free hD hS hA isC hC)⟩⟩
  rcases id L0.2.2.2.2 with hl | ⟨host, hl⟩
  · exact jv_goon hA hP hD hS h isC isR hC hR hn hdis (va_runI (As := As) (rest := rest) S0 (hM H.size) ⟨⟨rfl, rfl, hR2.1, hR2.2, jv_Lws hT L0, List.mem_cons_self, hT _ L0.1 rfl args, hT _ L0.2.1 rfl args, L0.2.2.1, jv_Llen L0, hT _ hl rfl args⟩, hy1, hT _ hin rfl args⟩ hp rfl hnA h.1 hst (lv_room hcat) hdg hf) kk
  · exact jv_goon hA hP hD hS h isC isR hC hR hn hdis (va_runIN (As := As) (rest := rest) (host := host) S0 (hM H.size) ⟨⟨⟨rfl, rfl, hR2.1, hR2.2, jv_Lws hT L0, List.mem_cons_self⟩, hT _ L0.1 rfl args, hT _ L0.2.1 rfl args, L0.2.2.1, jv_Llen L0, hT _ hl rfl args⟩, hy1, hT _ hin rfl args⟩ hp rfl hnA h.1 hst (lv_room hcat) hdg hf) kk
end JVC
