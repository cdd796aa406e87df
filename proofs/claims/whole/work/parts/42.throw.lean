-- ===== methods that throw: the class, and the world they leave =====
def jv_XQ {S : Type} (D : va_G) (E : String) (px : S → Prop) (w1 : S → va_W) (A : Nat → Prop) : String → State → State → Prop := fun E' st t => E' = E ∧ (∃ u : S, px u ∧ va_P D jvCl (w1 u) t.heap ∧ va_D A (w1 u)) ∧ va_F A st t
def jv_X0 : Array Value → State → Outcome → State → Prop := fun _ _ _ _ => False
def jv_MX {S : Type} (l : Launch) (D : va_G) (dA : Nat → ClassId) (zz : (Nat → Nat) × (Nat → Nat)) (y : MethodName) (b : ByteArray) (nL : Nat) (ret : Option FieldType) (n : Nat) (av : List Value) (w0 : va_W) (E : String) (px : S → Prop) (w1 : S → va_W) (mc ms : Nat) : Prop :=
  ∀ sz : Nat, vx_Met l y [.code y b nL ret] (jv_rm n mc ms) (jv_Pc D dA zz av w0 sz) jv_X0 (jv_XQ D E px w1 (va_A w0 sz)) mc ms (va_A w0 sz)
abbrev jv_EX {S : Type} (D : va_G) (E : String) (px : S → Prop) (w1 : S → va_W) (below : List Frame) (args : Array Value) (s : State) (A : Nat → Prop) (mc ms : Nat) : State → Prop := vx_MQ below jv_X0 (jv_XQ D E px w1 A) args s mc ms A
theorem jv_MX.of {S : Type} {l : Launch} {D : va_G} {dA : Nat → ClassId} {zz : (Nat → Nat) × (Nat → Nat)} {y : MethodName} {b : ByteArray} {nL : Nat} {ret : Option FieldType} {n : Nat} {av : List Value} {w0 : va_W} {E : String} {px : S → Prop} {w1 : S → va_W} {mc ms : Nat} (lv : List (Nat × Value)) (hy : plainName y.cls = true) (hlen : (lg_sl av).length ≤ nL) (hlv : lv_args 0 av = lv)
    (body : ∀ (p : Program) (e : Env) (s : State) (m : MethodId) (below : List Frame) (meth : Method) (c : Code) (A : Nat → Prop), jv_C p s m av.toArray meth c b y.cls nL D dA zz A → (∀ x ∈ c.exceptionTable.toList, False) →
      jv_V p l e (jv_rm n mc ms) s m av.toArray below meth c 0 0 (jv_EX D E px w1 below av.toArray s A mc ms) D A nL w0 lv 0 []) : jv_MX l D dA zz y b nL ret n av w0 E px w1 mc ms := by
  intro sz
  refine vx_ofW (cc := b) (maxL := nL) (ret := ret) hy rfl ?_
  intro p e s m args below meth c s₁ B hml ht hv
  obtain ⟨rfl, hsz, hP, hK, hD0, hZ⟩ := hv
  subst hsz
  have hD := hD0.self (sz := s.heap.size)
  have hl := lv_entry av (n := nL) hlen
  rw [hlv] at hl
  rw [lg_entry_eq]
  exact body p e s m below meth c (va_A w0 s.heap.size) ⟨B.exec, B.bytes, hml, findClass_of_methodNamed B.named, hK, fun q h => Or.inr h, B.notSynchronized, hZ⟩ ht s.heap [] _ hP hD va_S.rf hl
/-- the words of 'throw new E()' -/
def jv_TW (own : String) (ik ic : Nat) (cls : String) (names : List String) : Prop := Bundle.fit cls = true ∧ (∀ n ∈ names, Bundle.fit n = true) ∧ Cond.classLink own ik cls ∈ lw_tbl ∧ Cond.initialized cls ∈ lw_tbl ∧ (∀ w ∈ vx_at0 own ic cls names, w ∈ lw_tbl) ∧ (∀ w ∈ vx_at0 own ic cls names, jv_ok w = true) ∧ (∀ w ∈ Cond.classLink own ik cls :: Cond.initialized cls :: vx_at0 own ic cls names, vx_ot w = true)
section JVX
variable {p : Program} {l : Launch} {e : Env} {R : Room} {s : State} {m : MethodId} {args : Array Value} {below : List Frame} {meth : Method} {c : Code} {cells slots : Nat} {Q : State → Prop} {cc : ByteArray} {own : String} {nL : Nat} {D : va_G} {dA : Nat → ClassId} {zz : (Nat → Nat) × (Nat → Nat)} {A : Nat → Prop} {ws : va_W} {lv : List (Nat × Value)} {pc : Nat} {rest : List Value}
theorem jv_throw0 {S : Type} {px : S → Prop} {w1 : S → va_W} {mc ms ik ic : Nat} {cls : String} {names : List String} (C : jv_C p s m args meth c cc own nL D dA zz A) (hT0 : ∀ x ∈ c.exceptionTable.toList, False) (hlt : l.stackTraces = false) (J : jv_TW own ik ic cls names) (u : S) (hpx : px u) (is : List Nat) (hn : va_nd is = true) (hs : is.map (fun i => ws[i]?) = (w1 u).map some) (h1 : cells + 1 ≤ mc) (h2 : slots + 6 ≤ ms)
    (hfr : names.length + 3 < R.frames) (hlo : (rest.map fun v => v.category).sum + (13 * (names.length + 1) + 42) ≤ R.locals) (hrc : cells + 1 ≤ R.cells) (hrs : slots + 6 ≤ R.slots)
    (d0 : decode cc pc = .ok (.new ik, 3)) (d3 : decode cc (pc + 3) = .ok (.dup, 1)) (d4 : decode cc (pc + 4) = .ok (.invokespecial ic, 3)) (d7 : decode cc (pc + 7) = .ok (.athrow, 1)) :
    jv_V p l e R s m args below meth c cells slots (jv_EX D cls px w1 below args s A mc ms) D A nL ws lv pc rest := by
  intro H locs ls hP hD hS h
  obtain ⟨hf, hfn, hk, hini, hat, hok, hot⟩ := J
  obtain ⟨hx, hb, hml, hown, ⟨hK, hT⟩, hA, hlk, hZ⟩ := C
  obtain ⟨hP1, hD1⟩ := jv_pick hP hD is hn hs
  refine vx_throw0 (A := A) hx hb hlt hown hf hfn (hT _ hk rfl args) (hT _ hini rfl args) (fun w hw => hT w (hat w hw) (hok w hw) args) hot hZ.2.2.2.1 hZ.2.2.2.2.1 hS (h.1.trans hml.symm) d0 d3 d4 d7 (fun x hx => (hT0 x hx).elim) hfr hlo hrc hrs hlk ?_ hS.2.2 h1 h2
  intro t hal hsz hkp
  refine ⟨rfl, ⟨u, hpx, hP1.kept (fun k q hk => hkp q.1 (vx_lt hP1 hk)), hD1⟩, Nat.le_trans hS.1 hsz, fun q h1 h2 => ?_⟩
  rw [hkp q (Nat.lt_of_lt_of_le h1 hS.1)]
  exact hS.2.1 q h1 h2
theorem jv_goonX {S : Type} {E : String} {px : S → Prop} {w1 : S → va_W} {wc wr : va_W} {H : Heap} {locs : List Loc} {ls : Array Slot} {st : List Value} {mc ms : Nat} {av : Array Value} (hA : ∀ q : Nat, s.heap.size ≤ q → A q) (hP : va_P D jvCl ws H) (hD : va_D A ws) (hS : va_S A s.heap H locs) (isC isR : List Nat) (hC : isC.map (fun i => ws[i]?) = wc.map some) (hR : isR.map (fun i => ws[i]?) = wr.map some) (hn : va_nd isR = true) (hdis : ∀ i ∈ isR, i ∉ isC)
    (hr : vx_Run p l e R s m args below meth c H locs cells slots mc ms (F0 m pc ls st) rest (jv_X0 av) (jv_XQ D E px w1 (va_A wc H.size)) (va_A wc H.size))
    (kk : ∀ (q : Addr) (ce : Cell) (u : S) (H1 : Heap) (locs1 : List Loc), px u → va_P D jvCl (wr ++ w1 u) H1 → va_D A (wr ++ w1 u) → va_S A s.heap H1 locs1 → H1[q]? = some ce → ce.vm = .none → s.vm.findClass E = some ce.cls → vx_W p l e R s m args below meth c H1 locs1 (cells + mc) (slots + ms) Q (F0 m pc ls rest) q) : W p l e R s m args below meth c H locs cells slots Q (F0 m pc ls st) := by
  have hF := va_free (wc := wc) hD hS hA isC hC
  intro T hT X
  rcases hr T hT X with ⟨v, st₀, t, T', L, h0, X', hL, e1, e2, hv, st⟩ | ⟨q, st₀, t, T', L, E', ce, h0, X', hL, e1, e2, ⟨hE, ⟨u, hp, hP1, hD1⟩, hz, hk⟩, hce, hcv, hcl, st⟩
  · exact hv.elim
  · subst hE
    rw [h0] at hz hk
    obtain ⟨hP2, hD2⟩ := va_join (wr := wr) (w1 := w1 u) hP hD isC isR hC hR hn hdis hk hF hP1 hD1
    obtain ⟨t2, a1, b1⟩ := kk q ce u T'.heap (locs ++ L) hp (by rw [e1]; exact hP2) hD2
      ⟨Nat.le_trans hS.1 (by rw [e1]; exact hz), fun q h1 h2 => by rw [e1, hk q (Nat.lt_of_lt_of_le h1 hS.1) (fun z => h2 (hF q z))]; exact hS.2.1 q h1 h2, fun q hq => by
        rcases List.mem_append.mp hq with h | h
        · exact hS.2.2 q h
        · exact hF _ (hL q h)⟩ (by rw [e1]; exact hce) hcv hcl T' rfl X'
    exact ⟨t2, st.trans a1, b1⟩
theorem jv_xout {S : Type} {E : String} {px : S → Prop} {w1 : S → va_W} {mc ms : Nat} (C : jv_C p s m args meth c cc own nL D dA zz A) (hT0 : ∀ x ∈ c.exceptionTable.toList, False) (u : S) (hpx : px u) (is : List Nat) (hn : va_nd is = true) {H : Heap} {locs : List Loc} {ls : Array Slot} {q : Addr} {ce : Cell} (hP : va_P D jvCl ws H) (hD : va_D A ws) (hS : va_S A s.heap H locs) (hq : H[q]? = some ce) (hv : ce.vm = .none) (hcl : s.vm.findClass E = some ce.cls)
    (hs : is.map (fun i => ws[i]?) = (w1 u).map some) (h1 : cells ≤ mc) (h2 : slots ≤ ms) : vx_W p l e R s m args below meth c H locs cells slots (jv_EX D E px w1 below args s A mc ms) (F0 m pc ls rest) q := by
  obtain ⟨hP1, hD1⟩ := jv_pick hP hD is hn hs
  exact vx_out (fun x hx => (hT0 x hx).elim) C.2.2.2.2.2.2.1 hq hv hcl (fun t ht hal => ⟨rfl, ⟨u, hpx, by rw [ht]; exact hP1, hD1⟩, hS.F ht⟩) hS.2.2 h1 h2
/-- the run of a virtual call whose callee throws -/
theorem jv_runVX {S : Type} {E : String} {px : S → Prop} {w1 : S → va_W} {wc : va_W} {mc ms n k index ml : Nat} {y : MethodName} {b : ByteArray} {ret : Option FieldType} {o ci : Nat} {As st : List Value} {fs : List Value} {q : vw_C} {H : Heap} {locs : List Loc} {ls : Array Slot} (C : jv_C p s m args meth c cc own nL D dA zz A) (L : jv_LV own index y b ml ret n) (hM : jv_MX l D dA zz y b ml ret k (.ref o :: As) wc E px w1 mc ms)
    (hP : va_P D jvCl ws H) (hD : va_D A ws) (hS : va_S A s.heap H locs) (h : lv_has ls nL lv)
    (isC : List Nat) (hC : isC.map (fun i => ws[i]?) = wc.map some) (hnC : va_nd isC = true) (hc : jvCl[ci]? = some q) (hq : q.1 = y.cls) (q0 : Nat) (he : wc[q0]? = some (o, .inr (ci, fs)))
    (hno : ∀ host : String, ¬ Cond.methodLinkNest own index y host ∈ lw_tbl)
    (hR2 : k + 1 ≤ R.frames ∧ 8 + (ml + 11) + 64 * k ≤ R.locals) (hf : cells + mc ≤ R.cells ∧ slots + ms ≤ R.slots) (hnA : As.length = n) (hst : st = As.reverse ++ .ref o :: rest) (hcat : (rest.map fun v => v.category).sum ≤ 8) (hdg : decode cc pc = .ok (.invokevirtual index, 3)) :
    vx_Run p l e R s m args below meth c H locs cells slots mc ms (F0 m pc ls st) rest (jv_X0 (Value.ref o :: As).toArray) (jv_XQ D E px w1 (va_A wc H.size)) (va_A wc H.size) := by
  obtain ⟨L0, hin, hsel⟩ := L
  obtain ⟨hx, hb, hml, hown, ⟨hK, hT⟩, hA, hlk, hZ⟩ := C
  obtain ⟨hPc, hDc⟩ := jv_pick hP hD isC hnC hC
  have S0 : CallFix p m c cc nL s args ([] : List Cond) own := ⟨hx, hb, hml, hown, fun w h => by cases h⟩
  have hp : PreV s H y.cls o (jv_Pc D dA zz (.ref o :: As) wc H.size) As := ⟨jv_Pc_blind, by rw [← hq]; exact va_recv hK hPc hc he, fun U hU hW => ⟨rfl, by rw [hU], by rw [hU]; exact hPc, jv_K.moved hW ⟨hK, hT⟩, hDc.weaken (fun _ _ _ _ => trivial), by rw [hU]; exact hZ.to hS.2.1 hW (va_free hD hS hA isC hC)⟩⟩
  rcases id L0.2.2.2.2 with hl | ⟨host, hl⟩
  · exact vx_runV (As := As) (rest := rest) S0 (hM H.size) ⟨⟨rfl, rfl, hR2.1, hR2.2, jv_Lws hT L0, List.mem_cons_self, hT _ L0.1 rfl args, hT _ L0.2.1 rfl args, L0.2.2.1, jv_Llen L0, hT _ hl rfl args⟩, hT _ hin rfl args, hT _ hsel rfl args⟩ hp rfl hnA h.1 hst (lv_room hcat) hdg hf
  · exact absurd hl (hno host)
theorem jv_runSX {S : Type} {E : String} {px : S → Prop} {w1 : S → va_W} {wc : va_W} {mc ms n k index ml : Nat} {y : MethodName} {b : ByteArray} {ret : Option FieldType} {As st : List Value} {H : Heap} {locs : List Loc} {ls : Array Slot} (C : jv_C p s m args meth c cc own nL D dA zz A) (L : jv_LS own index y b ml ret n) (hM : jv_MX l D dA zz y b ml ret k As wc E px w1 mc ms)
    (hP : va_P D jvCl ws H) (hD : va_D A ws) (hS : va_S A s.heap H locs) (h : lv_has ls nL lv)
    (isC : List Nat) (hC : isC.map (fun i => ws[i]?) = wc.map some) (hnC : va_nd isC = true)
    (hno : ∀ host : String, ¬ Cond.methodLinkNest own index y host ∈ lw_tbl)
    (hR2 : k + 1 ≤ R.frames ∧ 8 + (ml + 11) + 64 * k ≤ R.locals) (hf : cells + mc ≤ R.cells ∧ slots + ms ≤ R.slots) (hnA : As.length = n) (hst : st = As.reverse ++ rest) (hcat : (rest.map fun v => v.category).sum ≤ 8) (hdg : decode cc pc = .ok (.invokestatic index, 3)) :
    vx_Run p l e R s m args below meth c H locs cells slots mc ms (F0 m pc ls st) rest (jv_X0 As.toArray) (jv_XQ D E px w1 (va_A wc H.size)) (va_A wc H.size) := by
  obtain ⟨L0, hstt⟩ := L
  obtain ⟨hx, hb, hml, hown, ⟨hK, hT⟩, hA, hlk, hZ⟩ := C
  obtain ⟨hPc, hDc⟩ := jv_pick hP hD isC hnC hC
  have S0 : CallFix p m c cc nL s args ([] : List Cond) own := ⟨hx, hb, hml, hown, fun w h => by cases h⟩
  have hp : PreS s H (jv_Pc D dA zz As wc H.size) As := ⟨jv_Pc_blind, fun U hU hW => ⟨rfl, by rw [hU], by rw [hU]; exact hPc, jv_K.moved hW ⟨hK, hT⟩, hDc.weaken (fun _ _ _ _ => trivial), by rw [hU]; exact hZ.to hS.2.1 hW (va_free hD hS hA isC hC)⟩⟩
  rcases id L0.2.2.2.2 with hl | ⟨host, hl⟩
  · exact vx_runS (As := As) (rest := rest) S0 (hM H.size) ⟨⟨rfl, rfl, hR2.1, hR2.2, jv_Lws hT L0, List.mem_cons_self, hT _ L0.1 rfl args, hT _ L0.2.1 rfl args, L0.2.2.1, jv_Llen L0, hT _ hl rfl args⟩, hT _ hstt rfl args⟩ hp rfl hnA h.1 hst (lv_room hcat) hdg hf
  · exact absurd hl (hno host)
/-- a virtual call whose callee throws: so does this method -/
theorem jv_outV {S S2 : Type} {E : String} {px : S → Prop} {w1 : S → va_W} {px2 : S2 → Prop} {w2 : S2 → va_W} {wc wr : va_W} {mc ms MC MS n k index ml : Nat} {y : MethodName} {b : ByteArray} {ret : Option FieldType} {o ci : Nat} {As st : List Value} {fs : List Value} {q : vw_C} (C : jv_C p s m args meth c cc own nL D dA zz A) (hT0 : ∀ x ∈ c.exceptionTable.toList, False) (L : jv_LV own index y b ml ret n) (hM : jv_MX l D dA zz y b ml ret k (.ref o :: As) wc E px w1 mc ms)
    (isC isR : List Nat) (hC : isC.map (fun i => ws[i]?) = wc.map some) (hR : isR.map (fun i => ws[i]?) = wr.map some) (hnC : va_nd isC = true) (hn : va_nd isR = true) (hdis : ∀ i ∈ isR, i ∉ isC) (hc : jvCl[ci]? = some q) (hq : q.1 = y.cls) (q0 : Nat) (he : wc[q0]? = some (o, .inr (ci, fs)))
    (hno : ∀ host : String, ¬ Cond.methodLinkNest own index y host ∈ lw_tbl)
    (hR2 : k + 1 ≤ R.frames ∧ 8 + (ml + 11) + 64 * k ≤ R.locals) (hf : cells + mc ≤ R.cells ∧ slots + ms ≤ R.slots) (hnA : As.length = n) (hst : st = As.reverse ++ .ref o :: rest) (hcat : (rest.map fun v => v.category).sum ≤ 8) (hdg : decode cc pc = .ok (.invokevirtual index, 3))
    (is : List Nat) (hnd : va_nd is = true) (kk : ∀ u : S, px u → ∃ u2 : S2, px2 u2 ∧ is.map (fun i => (wr ++ w1 u)[i]?) = (w2 u2).map some) (h1 : cells + mc ≤ MC) (h2 : slots + ms ≤ MS) : jv_V p l e R s m args below meth c cells slots (jv_EX D E px2 w2 below args s A MC MS) D A nL ws lv pc st := by
  intro H locs ls hP hD hS h
  refine jv_goonX (wr := wr) C.2.2.2.2.2.1 hP hD hS isC isR hC hR hn hdis (jv_runVX C L hM hP hD hS h isC hC hnC hc hq q0 he hno hR2 hf hnA hst hcat hdg) ?_
  intro q9 ce u H1 locs1 hpx hP1 hD1 hS1 hq9 hcv hcl
  obtain ⟨u2, hpx2, hs⟩ := kk u hpx
  exact jv_xout C hT0 u2 hpx2 is hnd hP1 hD1 hS1 hq9 hcv hcl hs h1 h2
theorem jv_outS {S S2 : Type} {E : String} {px : S → Prop} {w1 : S → va_W} {px2 : S2 → Prop} {w2 : S2 → va_W} {wc wr : va_W} {mc ms MC MS n k index ml : Nat} {y : MethodName} {b : ByteArray} {ret : Option FieldType} {As st : List Value} (C : jv_C p s m args meth c cc own nL D dA zz A) (hT0 : ∀ x ∈ c.exceptionTable.toList, False) (L : jv_LS own index y b ml ret n) (hM : jv_MX l D dA zz y b ml ret k As wc E px w1 mc ms)
    (isC isR : List Nat) (hC : isC.map (fun i => ws[i]?) = wc.map some) (hR : isR.map (fun i => ws[i]?) = wr.map some) (hnC : va_nd isC = true) (hn : va_nd isR = true) (hdis : ∀ i ∈ isR, i ∉ isC)
    (hno : ∀ host : String, ¬ Cond.methodLinkNest own index y host ∈ lw_tbl)
    (hR2 : k + 1 ≤ R.frames ∧ 8 + (ml + 11) + 64 * k ≤ R.locals) (hf : cells + mc ≤ R.cells ∧ slots + ms ≤ R.slots) (hnA : As.length = n) (hst : st = As.reverse ++ rest) (hcat : (rest.map fun v => v.category).sum ≤ 8) (hdg : decode cc pc = .ok (.invokestatic index, 3))
    (is : List Nat) (hnd : va_nd is = true) (kk : ∀ u : S, px u → ∃ u2 : S2, px2 u2 ∧ is.map (fun i => (wr ++ w1 u)[i]?) = (w2 u2).map some) (h1 : cells + mc ≤ MC) (h2 : slots + ms ≤ MS) : jv_V p l e R s m args below meth c cells slots (jv_EX D E px2 w2 below args s A MC MS) D A nL ws lv pc st := by
  intro H locs ls hP hD hS h
  refine jv_goonX (wr := wr) C.2.2.2.2.2.1 hP hD hS isC isR hC hR hn hdis (jv_runSX C L hM hP hD hS h isC hC hnC hno hR2 hf hnA hst hcat hdg) ?_
  intro q9 ce u H1 locs1 hpx hP1 hD1 hS1 hq9 hcv hcl
  obtain ⟨u2, hpx2, hs⟩ := kk u hpx
  exact jv_xout C hT0 u2 hpx2 is hnd hP1 hD1 hS1 hq9 hcv hcl hs h1 h2
end JVX
theorem jv_noNestM {a : String} {i : Nat} {y : MethodName} {h : String} (hy : y.name ≠ "<init>") : ¬ (Cond.methodLinkNest a i y h) ∈ lw_tbl := by
  intro hm
  have hall : lw_tbl.all (fun w => match w with | .methodLinkNest _ _ y _ => y.name == "<init>" | _ => true) = true := by decide +kernel
  have := List.all_eq_true.mp hall _ hm
  exact hy (beq_iff_eq.mp this)
set_option maxRecDepth 100000 in
theorem tw_58 : jv_TW "JsonShelf" 58 60 "java/lang/IndexOutOfBoundsException" ["java/lang/RuntimeException", "java/lang/Exception"] := ⟨by decide +kernel, by decide +kernel, by decide +kernel, by decide +kernel, by decide +kernel, by decide +kernel, by decide +kernel⟩
set_option maxRecDepth 100000 in
theorem tw_64 : jv_TW "JsonShelf" 64 66 "java/lang/IllegalArgumentException" ["java/lang/RuntimeException", "java/lang/Exception"] := ⟨by decide +kernel, by decide +kernel, by decide +kernel, by decide +kernel, by decide +kernel, by decide +kernel, by decide +kernel⟩
set_option maxRecDepth 100000 in
theorem tw_77 : jv_TW "JsonShelf" 77 79 "java/lang/UnsupportedOperationException" ["java/lang/RuntimeException", "java/lang/Exception"] := ⟨by decide +kernel, by decide +kernel, by decide +kernel, by decide +kernel, by decide +kernel, by decide +kernel, by decide +kernel⟩
set_option maxRecDepth 100000 in
theorem tw_117 : jv_TW "JsonShelf" 117 119 "java/util/NoSuchElementException" ["java/lang/RuntimeException", "java/lang/Exception"] := ⟨by decide +kernel, by decide +kernel, by decide +kernel, by decide +kernel, by decide +kernel, by decide +kernel, by decide +kernel⟩
set_option maxRecDepth 100000 in
theorem tw_129 : jv_TW "JsonShelf" 129 131 "java/lang/IllegalStateException" ["java/lang/RuntimeException", "java/lang/Exception"] := ⟨by decide +kernel, by decide +kernel, by decide +kernel, by decide +kernel, by decide +kernel, by decide +kernel, by decide +kernel⟩
