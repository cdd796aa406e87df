-- a contract in a larger world, by the places of its cells
def jc_up {α : Type} (f : Nat → α) (i : Nat) (x : α) : Nat → α := fun j => if j = i then x else f j
def jw_put : va_W → List Nat → va_W → va_W
  | ws, i :: is, c :: cs => jw_put (ws.set i c) is cs
  | ws, _, _ => ws
theorem jw_put_at : ∀ (is : List Nat) (ws cs : va_W), va_nd is = true → (∀ i ∈ is, i < ws.length) → cs.length = is.length → ∀ k, (jw_put ws is cs)[k]? = if k ∈ is then cs[is.idxOf k]? else ws[k]?
  | [], ws, cs, _, _, _, k => by
    unfold jw_put
    rw [if_neg List.not_mem_nil]
  | i :: is, ws, [], _, _, h, k => by cases h
  | i :: is, ws, c :: cs, hn, hb, hl, k => by
    simp only [va_nd, Bool.and_eq_true, decide_eq_true_eq] at hn
    have ih := jw_put_at is (ws.set i c) cs hn.2 (fun j hj => by rw [List.length_set]; exact hb j (List.mem_cons_of_mem _ hj)) (by simpa using hl) k
    show (jw_put (ws.set i c) is cs)[k]? = _
    rw [ih]
    by_cases e : k = i
    · subst e
      rw [if_neg hn.1, if_pos List.mem_cons_self, List.idxOf_cons_self, List.getElem?_cons_zero, List.getElem?_set_self (hb k List.mem_cons_self)]
    · by_cases h2 : k ∈ is
      · have e2 : (i :: is).idxOf k = is.idxOf k + 1 := by
          rw [List.idxOf_cons, beq_eq_false_iff_ne.mpr (fun z => e z.symm)]
          rfl
        rw [if_pos h2, if_pos (List.mem_cons_of_mem _ h2), e2, List.getElem?_cons_succ]
      · rw [if_neg h2, if_neg (fun z => (List.mem_cons.mp z).elim e h2), List.getElem?_set_ne (fun z => e z.symm)]
theorem jw_put_len : ∀ (is : List Nat) (ws cs : va_W), (jw_put ws is cs).length = ws.length
  | [], ws, cs => by unfold jw_put; rfl
  | i :: is, ws, [] => by unfold jw_put; rfl
  | i :: is, ws, c :: cs => by
    show (jw_put (ws.set i c) is cs).length = _
    rw [jw_put_len is (ws.set i c) cs, List.length_set]
def jv_co (isC : List Nat) (n : Nat) : List Nat := (List.range n).filter (fun k => decide (k ∉ isC))
theorem jv_nd_of : ∀ {l : List Nat}, l.Nodup → va_nd l = true
  | [], _ => rfl
  | a :: l, h => by
    rw [List.nodup_cons] at h
    simp only [va_nd, Bool.and_eq_true, decide_eq_true_eq]
    exact ⟨h.1, jv_nd_of h.2⟩
theorem jv_co_nd (isC : List Nat) (n : Nat) : va_nd (jv_co isC n) = true := jv_nd_of (List.Pairwise.filter _ List.nodup_range)
theorem jv_co_mem {isC : List Nat} {n k : Nat} : k ∈ jv_co isC n ↔ k < n ∧ k ∉ isC := by
  unfold jv_co
  rw [List.mem_filter, List.mem_range, decide_eq_true_eq]
theorem jv_fm : ∀ (is : List Nat) (ws : va_W), (∀ i ∈ is, i < ws.length) → is.map (fun i => ws[i]?) = (is.filterMap (fun i => ws[i]?)).map some
  | [], ws, _ => rfl
  | i :: is, ws, h => by
    have hi := h i List.mem_cons_self
    rw [List.map_cons, List.filterMap_cons, List.getElem?_eq_getElem hi, List.map_cons, jv_fm is ws (fun j hj => h j (List.mem_cons_of_mem _ hj))]
theorem jv_idx_lt {l : List Nat} {k : Nat} (h : k ∈ l) : l.idxOf k < l.length := List.idxOf_lt_length_of_mem h
theorem jv_idx_get {l : List Nat} {k : Nat} (h : k ∈ l) : l[l.idxOf k]? = some k := by
  rw [List.getElem?_eq_getElem (jv_idx_lt h), List.getElem_idxOf]
theorem jw_put_join {D : va_G} {A : Nat → Prop} {ws w1 : va_W} {H : Heap} (isC : List Nat) (hnC : va_nd isC = true) (hb : ∀ i ∈ isC, i < ws.length) (hl : w1.length = isC.length) (hP : va_P D jvCl ((jv_co isC ws.length).filterMap (fun i => ws[i]?) ++ w1) H) (hD : va_D A ((jv_co isC ws.length).filterMap (fun i => ws[i]?) ++ w1)) : va_P D jvCl (jw_put ws isC w1) H ∧ va_D A (jw_put ws isC w1) := by
  have hR := jv_fm (jv_co isC ws.length) ws (fun i hi => (jv_co_mem.mp hi).1)
  have hRl : ((jv_co isC ws.length).filterMap (fun i => ws[i]?)).length = (jv_co isC ws.length).length := by
    have := congrArg List.length hR
    simpa using this.symm
  have hg : ∀ (k : Nat) (q : Nat × va_E), (jw_put ws isC w1)[k]? = some q → ((jv_co isC ws.length).filterMap (fun i => ws[i]?) ++ w1)[if k ∈ isC then (jv_co isC ws.length).length + isC.idxOf k else (jv_co isC ws.length).idxOf k]? = some q := by
    intro k q hk
    rw [jw_put_at isC ws w1 hnC hb hl k] at hk
    by_cases h : k ∈ isC
    · rw [if_pos h] at hk ⊢
      rw [← hRl, List.getElem?_append_right (Nat.le_add_right _ _), Nat.add_sub_cancel_left]
      exact hk
    · rw [if_neg h] at hk ⊢
      have hkl := (List.getElem?_eq_some_iff.mp hk).1
      have hm : k ∈ jv_co isC ws.length := jv_co_mem.mpr ⟨hkl, h⟩
      have hi := jv_idx_get hm
      have hlt := jv_idx_lt hm
      rw [List.getElem?_append_left (by rw [hRl]; exact hlt)]
      have h3 : ((jv_co isC ws.length).map (fun i => ws[i]?))[(jv_co isC ws.length).idxOf k]? = (((jv_co isC ws.length).filterMap (fun i => ws[i]?)).map some)[(jv_co isC ws.length).idxOf k]? := by rw [hR]
      rw [List.getElem?_map, List.getElem?_map, hi] at h3
      cases h4 : ((jv_co isC ws.length).filterMap (fun i => ws[i]?))[(jv_co isC ws.length).idxOf k]? with
      | none => rw [h4] at h3; cases h3
      | some x =>
        rw [h4] at h3
        have h5 := Option.some.inj h3
        dsimp only at h5
        rw [hk] at h5
        exact h5.symm
  refine ⟨hP.by _ hg, hD.by _ hg ?_⟩
  intro i j hi hj hij
  rw [jw_put_len] at hi hj
  by_cases h1 : i ∈ isC
  · by_cases h2 : j ∈ isC
    · rw [if_pos h1, if_pos h2] at hij
      have h3 := jv_idx_get h1
      rw [show isC.idxOf i = isC.idxOf j by omega, jv_idx_get h2] at h3
      exact (Option.some.inj h3).symm
    · rw [if_pos h1, if_neg h2] at hij
      have := jv_idx_lt (jv_co_mem.mpr ⟨hj, h2⟩)
      omega
  · by_cases h2 : j ∈ isC
    · rw [if_neg h1, if_pos h2] at hij
      have := jv_idx_lt (jv_co_mem.mpr ⟨hi, h1⟩)
      omega
    · rw [if_neg h1, if_neg h2] at hij
      have h3 := jv_idx_get (jv_co_mem.mpr ⟨hi, h1⟩)
      rw [hij, jv_idx_get (jv_co_mem.mpr ⟨hj, h2⟩)] at h3
      exact (Option.some.inj h3).symm
theorem jv_in_lt {ws wc : va_W} {isC : List Nat} (hC : isC.map (fun i => ws[i]?) = wc.map some) : ∀ i ∈ isC, i < ws.length := by
  intro i hi
  have h1 : ws[i]? ∈ isC.map (fun i => ws[i]?) := List.mem_map.mpr ⟨i, hi, rfl⟩
  rw [hC] at h1
  obtain ⟨q, -, h2⟩ := List.mem_map.mp h1
  exact (List.getElem?_eq_some_iff.mp h2.symm).1
theorem jv_M.put {S : Type} {l : Launch} {D : va_G} {dA : Nat → ClassId} {zz : (Nat → Nat) × (Nat → Nat)} {y : MethodName} {b : ByteArray} {nL : Nat} {ret : Option FieldType} {n : Nat} {av : List Value} {wc : va_W} {post : Option Value → S → Prop} {w1 : S → va_W} {mc ms : Nat} (h : jv_M l D dA zz y b nL ret n av wc post w1 mc ms) (ws : va_W)
    (isC : List Nat) (hC : isC.map (fun i => ws[i]?) = wc.map some) (hnC : va_nd isC = true) (hl : ∀ u, (w1 u).length = isC.length) : jv_M l D dA zz y b nL ret n av ws post (fun u => jw_put ws isC (w1 u)) mc ms := by
  intro sz
  refine MetFree.mono (h sz) (fun a s hp => jv_Pc_sub hC hnC a s hp) (fun _ _ _ _ _ z => z) ?_
  rintro a s o t hp ⟨⟨⟨v, u, ho, hpo, hP1, hD1⟩, hF⟩, L, hL, hLf⟩
  obtain ⟨q0, q1, qP, qK, qD, qZ⟩ := hp
  have hD := qD.self (sz := sz)
  have hk : ∀ q : Nat, q < s.heap.size → ¬ va_A wc s.heap.size q → t.heap[q]? = s.heap[q]? := by rw [q1]; exact fun q a b => hF.2 q (by rw [q1]; exact a) b
  obtain ⟨hP2, hD2⟩ := va_join (A0 := va_A ws sz) (wr := (jv_co isC ws.length).filterMap (fun i => ws[i]?)) (w1 := w1 u) qP hD isC (jv_co isC ws.length) hC (jv_fm _ ws (fun i hi => (jv_co_mem.mp hi).1)) (jv_co_nd _ _) (fun i hi => (jv_co_mem.mp hi).2) hk (by rw [q1]; exact jv_A_sub hC) hP1 (by rw [q1]; exact hD1)
  obtain ⟨hP3, hD3⟩ := jw_put_join isC hnC (jv_in_lt hC) (hl u) hP2 hD2
  exact ⟨⟨⟨v, u, ho, hpo, hP3, hD3⟩, hF.1, fun q a b => hF.2 q a (fun z => b (jv_A_sub hC q z))⟩, L, hL, fun q hq => jv_A_sub hC _ (hLf q hq)⟩
theorem jv_MX.put {S : Type} {l : Launch} {D : va_G} {dA : Nat → ClassId} {zz : (Nat → Nat) × (Nat → Nat)} {y : MethodName} {b : ByteArray} {nL : Nat} {ret : Option FieldType} {n : Nat} {av : List Value} {wc : va_W} {E : String} {px : S → Prop} {w1 : S → va_W} {mc ms : Nat} (h : jv_MX l D dA zz y b nL ret n av wc E px w1 mc ms) (ws : va_W)
    (isC : List Nat) (hC : isC.map (fun i => ws[i]?) = wc.map some) (hnC : va_nd isC = true) (hl : ∀ u, (w1 u).length = isC.length) : jv_MX l D dA zz y b nL ret n av ws E px (fun u => jw_put ws isC (w1 u)) mc ms := by
  intro sz
  refine MetFree.mono (h sz) (fun a s hp => jv_Pc_sub hC hnC a s hp) (fun _ _ _ _ _ z => z) ?_
  rintro a s o t hp (⟨hx, -⟩ | ⟨q9, ho, E', ce, L, ⟨hE, ⟨u, hpo, hP1, hD1⟩, hF⟩, hce, hcv, hcl, hW, hsm, hLf⟩)
  · exact hx.elim
  obtain ⟨q0, q1, qP, qK, qD, qZ⟩ := hp
  have hD := qD.self (sz := sz)
  have hk : ∀ q : Nat, q < s.heap.size → ¬ va_A wc s.heap.size q → t.heap[q]? = s.heap[q]? := by rw [q1]; exact fun q a b => hF.2 q (by rw [q1]; exact a) b
  obtain ⟨hP2, hD2⟩ := va_join (A0 := va_A ws sz) (wr := (jv_co isC ws.length).filterMap (fun i => ws[i]?)) (w1 := w1 u) qP hD isC (jv_co isC ws.length) hC (jv_fm _ ws (fun i hi => (jv_co_mem.mp hi).1)) (jv_co_nd _ _) (fun i hi => (jv_co_mem.mp hi).2) hk (by rw [q1]; exact jv_A_sub hC) hP1 (by rw [q1]; exact hD1)
  obtain ⟨hP3, hD3⟩ := jw_put_join isC hnC (jv_in_lt hC) (hl u) hP2 hD2
  exact Or.inr ⟨q9, ho, E', ce, L, ⟨hE, ⟨u, hpo, hP3, hD3⟩, hF.1, fun q a b => hF.2 q a (fun z => b (jv_A_sub hC q z))⟩, hce, hcv, hcl, hW, hsm, fun q hq => jv_A_sub hC _ (hLf q hq)⟩
theorem jv_MX.weak {S S' : Type} {l : Launch} {D : va_G} {dA : Nat → ClassId} {zz : (Nat → Nat) × (Nat → Nat)} {y : MethodName} {b : ByteArray} {nL : Nat} {ret : Option FieldType} {n : Nat} {av : List Value} {w0 : va_W} {E : String} {px : S → Prop} {px' : S' → Prop} {w1 : S → va_W} {w1' : S' → va_W} {mc ms : Nat} (h : jv_MX l D dA zz y b nL ret n av w0 E px w1 mc ms) (g : ∀ u, px u → ∃ u', px' u' ∧ w1' u' = w1 u) : jv_MX l D dA zz y b nL ret n av w0 E px' w1' mc ms := by
  intro sz
  refine MetFree.mono (h sz) (fun a s hp => hp) (fun _ _ _ _ _ z => z) ?_
  rintro a s o t hp (⟨hx, -⟩ | ⟨q9, ho, E', ce, L, ⟨hE, ⟨u, hpo, hP1, hD1⟩, hF⟩, hce, hcv, hcl, hW, hsm, hLf⟩)
  · exact hx.elim
  obtain ⟨u', hp', e⟩ := g u hpo
  exact Or.inr ⟨q9, ho, E', ce, L, ⟨hE, ⟨u', hp', by rw [e]; exact hP1, by rw [e]; exact hD1⟩, hF⟩, hce, hcv, hcl, hW, hsm, hLf⟩
