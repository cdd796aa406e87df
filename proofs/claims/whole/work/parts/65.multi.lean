-- ===== rows of rows of bytes =====
theorem jv_outer (cA : ClassId) (N h0 : Nat) : Jvm.Free.Multi.outerC cA N h0 N = arrV cA N (fun j => .ref (h0 + 1 + j)) := by
  obtain ⟨a, b, d⟩ := Jvm.Free.Multi.outerC_facts cA N h0 N
  obtain ⟨m1, m2⟩ := Jvm.Free.Multi.outerC_plain cA N h0 N
  have hs : (Jvm.Free.Multi.outerC cA N h0 N).slots = (arrV cA N (fun j => .ref (h0 + 1 + j))).slots := by
    apply Array.ext_getElem?
    intro j
    by_cases hj : j < N
    · rw [Jvm.Free.Multi.outerC_slot cA N h0 N j hj, if_pos hj, arrV_read cA _ hj]
    · rw [Array.getElem?_eq_none (by rw [d]; omega), Array.getElem?_eq_none (by rw [arrV_size]; omega)]
  cases hc : Jvm.Free.Multi.outerC cA N h0 N with
  | mk c1 c2 c3 c4 c5 =>
    rw [hc] at a b hs m1 m2
    simp only at a b hs m1 m2
    subst a b hs m1 m2
    rfl
section JVB
variable {p : Program} {l : Launch} {e : Env} {R : Room} {s : State} {m : MethodId} {args : Array Value} {below : List Frame} {meth : Method} {c : Code} {cells slots : Nat} {Q : State → Prop} {cc : ByteArray} {own : String} {nL : Nat} {D : va_G} {dA : Nat → ClassId} {zz : (Nat → Nat) × (Nat → Nat)} {A : Nat → Prop} {ws : va_W} {lv : List (Nat × Value)} {pc : Nat} {rest : List Value}
theorem jv_aldb (C : jv_C p s m args meth c cc own nL D dA zz A) (q0 : Nat) {a n h : Nat} {f : Nat → Option Nat} {i : Int32} (ha : ws[q0]? = some (a, .inl (dA 6, n, .inr (.inr (.inr (.inr f)))))) (hin : vp_in i n) (hv : f i.toNatClampNeg = some h) (hdg : decode cc pc = .ok (.aaload, 1))
    (kk : jv_V p l e R s m args below meth c cells slots Q D A nL ws lv (pc + 1) (.ref h :: rest)) : jv_V p l e R s m args below meth c cells slots Q D A nL ws lv pc (.int i :: .ref a :: rest) := fun H locs ls hP hD hS hl => by
  have hlt : i.toNatClampNeg < n := Nat.not_le.mp fun q => hin (Or.inr q)
  exact W.aald (v := va_rf (f i.toNatClampNeg)) (ty := .array .byte) C.1 C.2.1 (hP q0 _ ha) ((C.2.2.2.2.1.1.2 6 _ rfl).1 n (fun j => va_rf (f j))) rfl (fun q => by cases q) (by show ¬ (i < 0 ∨ (arrV _ _ _).slots.size ≤ _); rw [arrV_size]; exact hin) (by show (arrV _ _ _).slots[_]? = _; rw [arrV_read _ _ hlt]) rfl rfl hdg (by rw [hv]; exact kk H locs ls hP hD hS hl)
/-- the nine cells of new byte[8][4096] -/
def jv_mw (dA : Nat → ClassId) (h : Nat) : va_W := [(h, .inl (dA 6, 8, .inr (.inr (.inr (.inr (fun j => if j < 8 then some (h + 1 + j) else none)))))), (h + 1, .inl (dA 0, 4096, .inl (fun _ => 0))), (h + 2, .inl (dA 0, 4096, .inl (fun _ => 0))), (h + 3, .inl (dA 0, 4096, .inl (fun _ => 0))), (h + 4, .inl (dA 0, 4096, .inl (fun _ => 0))), (h + 5, .inl (dA 0, 4096, .inl (fun _ => 0))), (h + 6, .inl (dA 0, 4096, .inl (fun _ => 0))), (h + 7, .inl (dA 0, 4096, .inl (fun _ => 0))), (h + 8, .inl (dA 0, 4096, .inl (fun _ => 0)))]
theorem jv_multi (C : jv_C p s m args meth c cc own nL D dA zz A) {index : Nat} (hw : Cond.classLink own index "[[B" ∈ lw_tbl) (ho : Cond.arrayOver (.array .byte) ∈ lw_tbl) (hb : Cond.arrayClass .byte ∈ lw_tbl) (hcells : cells + (1 + 8) ≤ R.cells) (hslots : slots + (8 + 8 * 4096) ≤ R.slots) (hdg : decode cc pc = .ok (.multianewarray index 2, 4))
    (kk : ∀ h : Nat, jv_V p l e R s m args below meth c (cells + 1 + 8) (slots + 8 + 8 * 4096) Q D A nL (ws ++ jv_mw dA h) lv (pc + 4) (.ref h :: rest)) : jv_V p l e R s m args below meth c cells slots Q D A nL ws lv pc (.int 4096 :: .int 8 :: rest) := by
  intro H locs ls hP hD hS h T hT X
  subst hT
  have hcb := C.2.1
  have e8 : (8 : Int32).toNatClampNeg = 8 := by decide
  have e4 : (4096 : Int32).toNatClampNeg = 4096 := by decide
  obtain ⟨vm₁, cA, comp, hW, hfA, hfC, -, -, X1, st⟩ := X.multianewarray2F (ty := .byte) (g := F0 m pc ls (.int 4096 :: .int 8 :: rest)) (n := 8) (k := 4096) C.1 C.2.2.2.1 (C.2.2.2.2.1.2 _ hw rfl args) (C.2.2.2.2.1.2 _ ho rfl args) (C.2.2.2.2.1.2 _ hb rfl args) rfl (by rw [hcb]; exact hdg) rfl (by decide) (by decide) (by rw [e8]; decide) (by rw [e4]; decide) (by rw [e4]; decide) (by decide) (by decide) (by rw [e8]; exact hcells) (by rw [e8, e4]; exact hslots)
  rw [e8, e4] at X1 st
  have eA : cA = dA 6 := Option.some.inj (hfA.symm.trans (C.2.2.2.2.1.1.2 6 _ rfl).2)
  have eC : comp = dA 0 := Option.some.inj (hfC.symm.trans (C.2.2.2.2.1.1.2 0 _ rfl).2)
  subst eA eC
  obtain ⟨f1, f2, -, -⟩ := Jvm.Free.Multi.fill_facts (T.setVm vm₁) (dA 6) (dA 0) 8 4096 (defaultValue .byte) 8
  have f3 := fun (q : Addr) (hq : q < T.heap.size) => Jvm.Free.Multi.fill_old (T.setVm vm₁) (dA 6) (dA 0) 8 4096 (defaultValue .byte) (a := q) hq 8
  have f4 := fun (j : Nat) (hj : j < 8) => Jvm.Free.Multi.fill_inner (T.setVm vm₁) (dA 6) (dA 0) 8 4096 (defaultValue .byte) 8 j hj
  obtain ⟨H1, hH1⟩ : ∃ H1, H1 = (Jvm.Free.Multi.fill (T.setVm vm₁) (dA 6) (dA 0) 8 4096 (defaultValue .byte) 8).heap := ⟨_, rfl⟩
  rw [← hH1] at f1 f2 f4
  have f1 : H1.size = T.heap.size + 9 := f1
  have f2 : H1[T.heap.size]? = some (Jvm.Free.Multi.outerC (dA 6) 8 T.heap.size 8) := f2
  have f3 : ∀ q : Nat, q < T.heap.size → H1[q]? = T.heap[q]? := fun q hq => by rw [hH1]; exact f3 q hq
  have f4 : ∀ j : Nat, j < 8 → H1[T.heap.size + 1 + j]? = some (Jvm.Free.Multi.innerC (dA 0) 4096 (defaultValue .byte)) := f4
  have hin : ∀ j : Nat, j < 8 → H1[T.heap.size + 1 + j]? = some (vp_cell (dA 0) (4096, .inl (fun _ => 0))) := fun j hj => by
    rw [f4 j hj]
    exact congrArg some (arrV_new (dA 0) 4096 (.int 0))
  have hout : H1[T.heap.size]? = some (vp_cell (dA 6) (8, .inr (.inr (.inr (.inr (fun j => if j < 8 then some (T.heap.size + 1 + j) else none)))))) := by
    have ev : vp_cell (dA 6) (8, .inr (.inr (.inr (.inr (fun j => if j < 8 then some (T.heap.size + 1 + j) else none))))) = arrV (dA 6) 8 (fun j => va_rf (if j < 8 then some (T.heap.size + 1 + j) else none)) := rfl
    rw [f2, jv_outer, ev]
    refine congrArg some ?_
    unfold arrV
    congr 1
  have hold : ∀ (k : Nat) (x : Nat × va_E), ws[k]? = some x → H1[x.1]? = T.heap[x.1]? := fun k x hx => f3 x.1 ((hP k x hx).lt)
  have hPn : va_P D jvCl (jv_mw dA T.heap.size) H1 := by
    intro k x hx
    have hk : k < 9 := (List.getElem?_eq_some_iff.mp hx).1
    match k, hk, hx with
    | 0, _, hx => cases hx; exact hout
    | 1, _, hx => cases hx; exact hin 0 (by decide)
    | 2, _, hx => cases hx; exact hin 1 (by decide)
    | 3, _, hx => cases hx; exact hin 2 (by decide)
    | 4, _, hx => cases hx; exact hin 3 (by decide)
    | 5, _, hx => cases hx; exact hin 4 (by decide)
    | 6, _, hx => cases hx; exact hin 5 (by decide)
    | 7, _, hx => cases hx; exact hin 6 (by decide)
    | 8, _, hx => cases hx; exact hin 7 (by decide)
  have haddr : ∀ (k : Nat) (x : Nat × va_E), (jv_mw dA T.heap.size)[k]? = some x → x.1 = T.heap.size + k := by
    intro k x hx
    have hk : k < 9 := (List.getElem?_eq_some_iff.mp hx).1
    match k, hk, hx with
    | 0, _, hx => cases hx; rfl
    | 1, _, hx => cases hx; rfl
    | 2, _, hx => cases hx; rfl
    | 3, _, hx => cases hx; rfl
    | 4, _, hx => cases hx; rfl
    | 5, _, hx => cases hx; rfl
    | 6, _, hx => cases hx; rfl
    | 7, _, hx => cases hx; rfl
    | 8, _, hx => cases hx; rfl
  have hDn : va_D A (ws ++ jv_mw dA T.heap.size) := by
    have key : ∀ (k : Nat) (x : Nat × va_E), (ws ++ jv_mw dA T.heap.size)[k]? = some x → (ws[k]? = some x ∧ x.1 < T.heap.size) ∨ (ws.length ≤ k ∧ x.1 = T.heap.size + (k - ws.length)) := by
      intro k x hx
      by_cases hl : k < ws.length
      · rw [List.getElem?_append_left hl] at hx
        exact Or.inl ⟨hx, (hP k x hx).lt⟩
      · rw [List.getElem?_append_right (by omega)] at hx
        exact Or.inr ⟨by omega, haddr _ x hx⟩
    refine ⟨fun i j a b ha hb2 hab => ?_, fun k x hx => ?_⟩
    · rcases key i a ha with ⟨a1, a2⟩ | ⟨a1, a2⟩
      · rcases key j b hb2 with ⟨b1, b2⟩ | ⟨b1, b2⟩
        · exact hD.1 i j a b a1 b1 hab
        · omega
      · rcases key j b hb2 with ⟨b1, b2⟩ | ⟨b1, b2⟩
        · omega
        · omega
    · rcases key k x hx with ⟨a1, a2⟩ | ⟨a1, a2⟩
      · exact hD.2 k x a1
      · exact C.2.2.2.2.2.1 _ (by have := hS.1; omega)
  obtain ⟨t, a1, b1⟩ := kk T.heap.size H1 locs ls ((hP.kept hold).app hPn) hDn ⟨Nat.le_trans hS.1 (by omega), fun x h1 h2 => (f3 x (Nat.lt_of_lt_of_le h1 hS.1)).trans (hS.2.1 x h1 h2), hS.2.2⟩ h _ hH1.symm X1
  exact ⟨t, st t a1, b1⟩
end JVB
