-- rows of Texts
section JVQ
variable {p : Program} {l : Launch} {e : Env} {R : Room} {s : State} {m : MethodId} {args : Array Value} {below : List Frame} {meth : Method} {c : Code} {cells slots : Nat} {Q : State → Prop} {cc : ByteArray} {own : String} {nL : Nat} {D : va_G} {dA : Nat → ClassId} {zz : (Nat → Nat) × (Nat → Nat)} {A : Nat → Prop} {ws : va_W} {lv : List (Nat × Value)} {pc : Nat} {rest : List Value}
theorem jv_aldq (C : jv_C p s m args meth c cc own nL D dA zz A) (q0 : Nat) {a n h : Nat} {f : Nat → Option Nat} {i : Int32} (ha : ws[q0]? = some (a, .inl (dA 5, n, .inr (.inr (.inr (.inr f)))))) (hin : vp_in i n) (hv : f i.toNatClampNeg = some h) (hdg : decode cc pc = .ok (.aaload, 1))
    (kk : jv_V p l e R s m args below meth c cells slots Q D A nL ws lv (pc + 1) (.ref h :: rest)) : jv_V p l e R s m args below meth c cells slots Q D A nL ws lv pc (.int i :: .ref a :: rest) := fun H locs ls hP hD hS hl =>
  va_aldq C.1 C.2.1 C.2.2.2.2.1.1 hP q0 5 ha rfl hin hdg (by rw [hv]; exact kk H locs ls hP hD hS hl)
theorem jv_astq (C : jv_C p s m args meth c cc own nL D dA zz A) (q0 qk : Nat) (ws' : va_W) {a n v : Nat} {vs : List Value} {f : Nat → Option Nat} {i : Int32} (ha : ws[q0]? = some (a, .inl (dA 5, n, .inr (.inr (.inr (.inr f)))))) (hv : ws[qk]? = some (v, .inr (0, vs))) (e2 : ws.set q0 (a, .inl (dA 5, n, .inr (.inr (.inr (.inr (va_up f i.toNatClampNeg (some v))))))) = ws') (hin : vp_in i n) (hdg : decode cc pc = .ok (.aastore, 1))
    (kk : jv_V p l e R s m args below meth c cells slots Q D A nL ws' lv (pc + 1) rest) : jv_V p l e R s m args below meth c cells slots Q D A nL ws lv pc (.ref v :: .int i :: .ref a :: rest) := by
  subst e2
  exact fun H locs ls hP hD hS hl => va_astq C.1 C.2.1 C.2.2.2.2.1.1 hP hD hS q0 5 qk 0 ha rfl hv rfl hin hdg (fun H1 locs1 hP hD hS => kk H1 locs1 ls hP hD hS hl)
theorem jv_newq (C : jv_C p s m args meth c cc own nL D dA zz A) {index : Nat} (hw : Cond.classLink own index "JsonShelf$Text" ∈ lw_tbl) (ho : Cond.arrayOver (.object "JsonShelf$Text") ∈ lw_tbl)
    {n : Int32} (N : Nat) (hn : ¬ n < 0) (hN : n.toNatClampNeg = N) (hbytes : N * 4 ≤ 536870912) (hcells : cells + 1 ≤ R.cells) (hslots : slots + N ≤ R.slots) (hdg : decode cc pc = .ok (.anewarray index, 3))
    (kk : ∀ q : Nat, jv_V p l e R s m args below meth c (cells + 1) (slots + N) Q D A nL (ws ++ [(q, .inl (dA 5, N, .inr (.inr (.inr (.inr (fun _ => none))))))]) lv (pc + 3) (.ref q :: rest)) : jv_V p l e R s m args below meth c cells slots Q D A nL ws lv pc (.int n :: rest) := by
  intro H locs ls hP hD hS h
  refine va_newq C.1 C.2.1 C.2.2.2.1 (C.2.2.2.2.1.2 _ hw rfl args) (va_AO.of (C.2.2.2.2.1.2 _ ho rfl #[])) C.2.2.2.2.1.1 hP hD hS C.2.2.2.2.2.1 hn hN hbytes hcells hslots hdg (fun q cA H1 hK1 hP1 hD1 hS1 => ?_)
  obtain ⟨k1, c1, -, -, -, e1⟩ := (C.2.2.2.2.1.1.2 5 _ rfl).2
  obtain ⟨k2, c2, -, -, -, e2⟩ := (hK1.2 7 (cA, .object "JsonShelf$Text") rfl).2
  cases e1.symm.trans e2
  exact kk q H1 locs ls hP1 hD1 hS1 h
end JVQ
