-- the start: the classes' and the rows' numbers, the tables' words
theorem jz_cls {args : Array Value} {s : State} {own : String} {idx ci N : Nat} (F : jv_N own idx ci N) (hts : ∀ w ∈ lw_tbl, w.before args s = true) : ∃ x : ClassId × (Nat → Nat), ∀ q : vw_C, jvCl[ci]? = some q → u_Kn s q.1 q.2.1 q.2.2 x.1 x.2 := by
  obtain ⟨q, hc, -, hin, -, hinst, -⟩ := F
  obtain ⟨cC, iS, h⟩ := u_known hts hin (hts _ hinst)
  exact ⟨(cC, iS), fun q2 h2 => by cases hc.symm.trans h2; exact h⟩
def jz_tys : List FieldType := [.byte, .int, .long, .char, .boolean, .object "JsonShelf$Text", .array .byte]
theorem jz_prim {args : Array Value} {s : State} {ty : FieldType} (h : (Cond.arrayClass ty).before args s = true) : ∃ cA : ClassId, ArrOfT s cA ty ∧ s.vm.findClass ("[" ++ ty.toString) = some cA := by
  obtain ⟨c, k, comp, h1, h2, h3⟩ := Cond.arrayClass_spec h
  exact ⟨c, fun n z => ⟨(fun k h => by cases h), k, h2, comp, h3⟩, h1⟩
theorem jz_K {args : Array Value} {s : State} (hts : ∀ w ∈ lw_tbl, w.before args s = true) : ∃ (D : va_G) (dA : Nat → ClassId), jv_K D dA s := by
  have h1 : ∀ k : Nat, ∃ x : ClassId × (Nat → Nat), ∀ q : vw_C, jvCl[k]? = some q → u_Kn s q.1 q.2.1 q.2.2 x.1 x.2 := by
    intro k
    match k with
    | 0 => exact jz_cls nw_Sh_7 hts
    | 1 => exact jz_cls nw_Rd_23 hts
    | 2 => exact jz_cls nw_Sh_25 hts
    | 3 => exact jz_cls nw_Sh_34 hts
    | 4 => exact jz_cls nw_Sh_41 hts
    | 5 => exact jz_cls nw_La_8 hts
    | 6 => exact jz_cls nw_Md_36 hts
    | 7 => exact jz_cls nw_La_53 hts
    | k + 8 => exact ⟨(0, fun _ => 0), fun q h => by simp [jvCl] at h⟩
  have h2 : ∀ k : Nat, ∃ cA : ClassId, ∀ ty : FieldType, jz_tys[k]? = some ty → ArrOfT s cA ty ∧ va_RA s cA ty := by
    intro k
    match k with
    | 0 =>
      obtain ⟨cA, h3, h4⟩ := jz_prim (hts _ (jm1 (List.mem_of_getElem? (i := 45) rfl)))
      exact ⟨cA, fun ty h => by cases h; exact ⟨h3, h4⟩⟩
    | 1 =>
      obtain ⟨cA, h3, h4⟩ := jz_prim (hts _ (jm1 (List.mem_of_getElem? (i := 77) rfl)))
      exact ⟨cA, fun ty h => by cases h; exact ⟨h3, h4⟩⟩
    | 2 =>
      obtain ⟨cA, h3, h4⟩ := jz_prim (hts _ (jm4 (List.mem_of_getElem? (i := 66) rfl)))
      exact ⟨cA, fun ty h => by cases h; exact ⟨h3, h4⟩⟩
    | 3 =>
      obtain ⟨cA, h3, h4⟩ := jz_prim (hts _ (jm4 (List.mem_of_getElem? (i := 67) rfl)))
      exact ⟨cA, fun ty h => by cases h; exact ⟨h3, h4⟩⟩
    | 4 =>
      obtain ⟨cA, h3, h4⟩ := jz_prim (hts _ (jm4 (List.mem_of_getElem? (i := 65) rfl)))
      exact ⟨cA, fun ty h => by cases h; exact ⟨h3, h4⟩⟩
    | 5 =>
      obtain ⟨comp, c, k, e1, e2, e3, e4, e5⟩ := Cond.arrayOver_spec (hts _ (jm1 (List.mem_of_getElem? (i := 46) rfl)))
      exact ⟨c, fun ty h => by cases h; exact ⟨fun n z => ⟨(fun k h => by cases h), k, e3, comp, e4⟩, k, comp, e3, e4, e1, e5⟩⟩
    | 6 =>
      obtain ⟨comp, c, k, e1, e2, e3, e4⟩ := Cond.arrayOver_specA (hts _ (jm4 (List.mem_of_getElem? (i := 8) rfl)))
      exact ⟨c, fun ty h => by cases h; exact ⟨fun n z => ⟨(fun k h => by cases h), k, e2, comp, e3⟩, e4⟩⟩
    | k + 7 => exact ⟨0, fun ty h => by simp [jz_tys] at h⟩
  obtain ⟨f, hf⟩ := Classical.axiomOfChoice h1
  obtain ⟨dA, hd⟩ := Classical.axiomOfChoice h2
  refine ⟨(fun k => (f k).1, fun k => (f k).2), dA, ⟨fun k q h => hf k q h, fun k q h => ?_⟩, fun w hw hok a => jv_ok_move hok (State.WarmedH.refl s) (hts w hw)⟩
  match k, h with
  | 0, h => cases h; exact hd 0 _ rfl
  | 1, h => cases h; exact hd 1 _ rfl
  | 2, h => cases h; exact hd 2 _ rfl
  | 3, h => cases h; exact hd 3 _ rfl
  | 4, h => cases h; exact hd 4 _ rfl
  | 5, h => cases h; exact hd 5 _ rfl
  | 6, h => cases h; exact hd 6 _ rfl
  | k + 7, h => simp [jv_tys] at h
