-- a contract in a larger world
theorem jv_A_sub {ws wc : va_W} {isC : List Nat} {sz : Nat} (hC : isC.map (fun i => ws[i]?) = wc.map some) : ∀ q, va_A wc sz q → va_A ws sz q := by
  rintro q (⟨k, e, h⟩ | h)
  · have hk : k < isC.length := by
      have h1 := (List.getElem?_eq_some_iff.mp h).1
      have h2 : isC.length = wc.length := by have := congrArg List.length hC; simpa using this
      omega
    have h3 : (isC.map (fun i => ws[i]?))[k]? = (wc.map some)[k]? := by rw [hC]
    rw [List.getElem?_map, List.getElem?_map, h, List.getElem?_eq_getElem hk] at h3
    exact Or.inl ⟨isC[k], e, Option.some.inj h3⟩
  · exact Or.inr h
theorem jv_Pc_sub {D : va_G} {dA : Nat → ClassId} {zz : (Nat → Nat) × (Nat → Nat)} {av : List Value} {ws wc : va_W} {sz : Nat} {isC : List Nat} (hC : isC.map (fun i => ws[i]?) = wc.map some) (hnC : va_nd isC = true) (a : Array Value) (s : State) (h : jv_Pc D dA zz av ws sz a s) : jv_Pc D dA zz av wc sz a s := by
  obtain ⟨q0, q1, qP, qK, qD, qZ⟩ := h
  obtain ⟨hPc, hDc⟩ := jv_pick qP qD isC hnC hC
  exact ⟨q0, q1, hPc, qK, hDc, qZ.to (fun _ _ _ => rfl) (State.WarmedH.refl s) (jv_A_sub hC)⟩
theorem jv_M.frame {S : Type} {l : Launch} {D : va_G} {dA : Nat → ClassId} {zz : (Nat → Nat) × (Nat → Nat)} {y : MethodName} {b : ByteArray} {nL : Nat} {ret : Option FieldType} {n : Nat} {av : List Value} {ws wc wr : va_W} {post : Option Value → S → Prop} {w1 w2 : S → va_W} {mc ms : Nat} (h : jv_M l D dA zz y b nL ret n av wc post w1 mc ms)
    (isC isR : List Nat) (hC : isC.map (fun i => ws[i]?) = wc.map some) (hR : isR.map (fun i => ws[i]?) = wr.map some) (hnC : va_nd isC = true) (hn : va_nd isR = true) (hdis : ∀ i ∈ isR, i ∉ isC) (pl : List Nat) (hpn : va_nd pl = true) (hpl : ∀ u, pl.map (fun i => (wr ++ w1 u)[i]?) = (w2 u).map some) : jv_M l D dA zz y b nL ret n av ws post w2 mc ms := by
  intro sz
  refine MetFree.mono (h sz) (fun a s hp => jv_Pc_sub hC hnC a s hp) (fun _ _ _ _ _ z => z) ?_
  rintro a s o t hp ⟨⟨⟨v, u, ho, hpo, hP1, hD1⟩, hF⟩, L, hL, hLf⟩
  obtain ⟨q0, q1, qP, qK, qD, qZ⟩ := hp
  have hD := qD.self (sz := sz)
  have hk : ∀ q : Nat, q < s.heap.size → ¬ va_A wc s.heap.size q → t.heap[q]? = s.heap[q]? := by rw [q1]; exact fun q a b => hF.2 q (by rw [q1]; exact a) b
  obtain ⟨hP2, hD2⟩ := va_join (A0 := va_A ws sz) (wr := wr) (w1 := w1 u) qP hD isC isR hC hR hn hdis hk (by rw [q1]; exact jv_A_sub hC) hP1 (by rw [q1]; exact hD1)
  obtain ⟨hP3, hD3⟩ := jv_pick hP2 hD2 pl hpn (hpl u)
  exact ⟨⟨⟨v, u, ho, hpo, hP3, hD3⟩, hF.1, fun q a b => hF.2 q a (fun z => b (jv_A_sub hC q z))⟩, L, hL, fun q hq => jv_A_sub hC _ (hLf q hq)⟩
theorem jv_MX.frame {S : Type} {l : Launch} {D : va_G} {dA : Nat → ClassId} {zz : (Nat → Nat) × (Nat → Nat)} {y : MethodName} {b : ByteArray} {nL : Nat} {ret : Option FieldType} {n : Nat} {av : List Value} {ws wc wr : va_W} {E : String} {px : S → Prop} {w1 w2 : S → va_W} {mc ms : Nat} (h : jv_MX l D dA zz y b nL ret n av wc E px w1 mc ms)
    (isC isR : List Nat) (hC : isC.map (fun i => ws[i]?) = wc.map some) (hR : isR.map (fun i => ws[i]?) = wr.map some) (hnC : va_nd isC = true) (hn : va_nd isR = true) (hdis : ∀ i ∈ isR, i ∉ isC) (pl : List Nat) (hpn : va_nd pl = true) (hpl : ∀ u, pl.map (fun i => (wr ++ w1 u)[i]?) = (w2 u).map some) : jv_MX l D dA zz y b nL ret n av ws E px w2 mc ms := by
  intro sz
  refine MetFree.mono (h sz) (fun a s hp => jv_Pc_sub hC hnC a s hp) (fun _ _ _ _ _ z => z) ?_
  rintro a s o t hp (⟨hx, -⟩ | ⟨q9, ho, E', ce, L, ⟨hE, ⟨u, hpo, hP1, hD1⟩, hF⟩, hce, hcv, hcl, hW, hsm, hLf⟩)
  · exact hx.elim
  obtain ⟨q0, q1, qP, qK, qD, qZ⟩ := hp
  have hD := qD.self (sz := sz)
  have hk : ∀ q : Nat, q < s.heap.size → ¬ va_A wc s.heap.size q → t.heap[q]? = s.heap[q]? := by rw [q1]; exact fun q a b => hF.2 q (by rw [q1]; exact a) b
  obtain ⟨hP2, hD2⟩ := va_join (A0 := va_A ws sz) (wr := wr) (w1 := w1 u) qP hD isC isR hC hR hn hdis hk (by rw [q1]; exact jv_A_sub hC) hP1 (by rw [q1]; exact hD1)
  obtain ⟨hP3, hD3⟩ := jv_pick hP2 hD2 pl hpn (hpl u)
  exact Or.inr ⟨q9, ho, E', ce, L, ⟨hE, ⟨u, hpo, hP3, hD3⟩, hF.1, fun q a b => hF.2 q a (fun z => b (jv_A_sub hC q z))⟩, hce, hcv, hcl, hW, hsm, fun q hq => jv_A_sub hC _ (hLf q hq)⟩
/-- a contract with a weaker post -/
theorem jv_M.weak {S S' : Type} {l : Launch} {D : va_G} {dA : Nat → ClassId} {zz : (Nat → Nat) × (Nat → Nat)} {y : MethodName} {b : ByteArray} {nL : Nat} {ret : Option FieldType} {n : Nat} {av : List Value} {w0 : va_W} {post : Option Value → S → Prop} {post' : Option Value → S' → Prop} {w1 : S → va_W} {w1' : S' → va_W} {mc ms : Nat} (h : jv_M l D dA zz y b nL ret n av w0 post w1 mc ms) (g : ∀ v u, post v u → ∃ u', post' v u' ∧ w1' u' = w1 u) : jv_M l D dA zz y b nL ret n av w0 post' w1' mc ms := by
  intro sz
  refine MetFree.mono (h sz) (fun a s hp => hp) (fun _ _ _ _ _ z => z) ?_
  rintro a s o t hp ⟨⟨⟨v, u, ho, hpo, hP1, hD1⟩, hF⟩, L, hL, hLf⟩
  obtain ⟨u', hp', e⟩ := g v u hpo
  exact ⟨⟨⟨v, u', ho, hp', by rw [e]; exact hP1, by rw [e]; exact hD1⟩, hF⟩, L, hL, hLf⟩
/-- a contract whose world behind is one of many -/
theorem jv_M.at {S : Type} {l : Launch} {D : va_G} {dA : Nat → ClassId} {zz : (Nat → Nat) × (Nat → Nat)} {y : MethodName} {b : ByteArray} {nL : Nat} {ret : Option FieldType} {n : Nat} {av : List Value} {w0 : va_W} {P : Int32 → Prop} {w1 : S → va_W} {mc ms : Nat} (s : S) (h : jv_M l D dA zz y b nL ret n av w0 (jv_pi fun r (_ : Unit) => P r) (fun _ => w1 s) mc ms) : jv_M l D dA zz y b nL ret n av w0 (jv_pi fun r (_ : S) => P r) w1 mc ms := h.weak (fun v u hp => ⟨s, hp, rfl⟩)
