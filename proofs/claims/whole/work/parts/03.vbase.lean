-- the tables' words, at any state whose tables are warmer: what every method of the system may use
def jv_ok (w : Cond) : Bool := (w.onTables && w.keeps) || (match w with | .arrayClass _ => true | .fieldLinkNest .. => true | .methodLinkNest .. => true | .castable .. => true | .arrayOver _ => true | .declares _ => true | _ => false)
theorem jv_over {ty : FieldType} {a a' : Array Value} {u U : State} (hvm : u.vm.Alike U.vm) (h : (Cond.arrayOver ty).before a u = true) : (Cond.arrayOver ty).before a' U = true := by
  cases ty with
  | object n => exact va_AO.use (va_AO.moved hvm (va_AO.of h))
  | array t =>
    simp only [Cond.before, Cond.holds, Cond.value, beq_iff_eq] at h ⊢
    rw [hvm.findClass]
    cases hc : u.vm.findClass (FieldType.array t).toString with
    | none => simp [hc] at h
    | some comp =>
      simp only [hc, Option.bind_some, Option.bind_eq_some_iff, Option.map_eq_some_iff] at h ⊢
      obtain ⟨c, hi, k, hk, hb⟩ := h
      obtain ⟨k', hk', he⟩ := hvm.2.2 _ _ hk
      have e1 := va_idx_bare U.vm comp
      have e2 := va_idx_bare u.vm comp
      first | rw [hvm.bare_eq] at e1 | rw [← hvm.bare_eq] at e1
      refine ⟨c, (e1.symm.trans e2).trans hi, k', hk', ?_⟩
      have hkind : k'.kind = k.kind := by rw [he]
      rw [hkind, hvm.findClass]
      exact hb
  | _ => simp [Cond.before, Cond.holds, Cond.value] at h
def jv_T (U : State) : Prop := ∀ w ∈ lw_tbl, jv_ok w = true → ∀ a : Array Value, w.before a U = true
theorem jv_ok_move {w : Cond} (hw : jv_ok w = true) {s U : State} (hW : s.WarmedH U.vm) {a a' : Array Value} (h : w.before a s = true) : w.before a' U = true := by
  by_cases hg : (w.onTables && w.keeps) = true
  · exact word_at hW (Or.inl hg) h
  · unfold jv_ok at hw
    rw [Bool.eq_false_iff.mpr hg, Bool.false_or] at hw
    split at hw
    · exact word_at hW (Or.inr ⟨_, rfl⟩) h
    · exact va_Nw.use rfl (va_Nw.warmF hW (va_Nw.of rfl h))
    · exact va_Nw.use rfl (va_Nw.warmM hW (va_Nw.of rfl h))
    · exact va_Nw.use rfl (va_Nw.warmC hW (va_Nw.of rfl h))
    · exact jv_over hW.alike h
    · exact va_tabs rfl (rfl : (s.setVm U.vm).vm = U.vm) (by rw [Cond.declares_setVm hW.alike]; exact h)
    · cases hw
theorem jv_T.moved {s U : State} (hW : s.WarmedH U.vm) (h : jv_T s) : jv_T U := fun w hw hok _ => jv_ok_move hok hW (h w hw hok #[])
theorem jv_ok_same {w : Cond} (hw : jv_ok w = true) {u U : State} (h : u.vm = U.vm) (hb : ∀ a : Array Value, w.before a u = true) (a' : Array Value) : w.before a' U = true := by
  cases w with
  | arrayClass ty => 
    have h1 := hb a'
    simp only [Cond.before, Cond.holds, Cond.value, h] at h1 ⊢
    exact h1
  | arrayOver ty => exact jv_over (by rw [h]; exact Vm.Alike.refl U.vm) (hb a')
  | _ => first | exact va_tabs rfl h (hb #[]) | (simp [jv_ok, Cond.onTables] at hw)
theorem jv_T.same {u U : State} (h : u.vm = U.vm) (hT : jv_T u) : jv_T U := fun w hw hok a' => jv_ok_same hok h (fun a => hT w hw hok a) a'
abbrev jv_tys (dA : Nat → ClassId) : List (ClassId × FieldType) := [(dA 0, .byte), (dA 1, .int), (dA 2, .long), (dA 3, .char), (dA 4, .boolean), (dA 5, .object "JsonShelf$Text"), (dA 6, .array .byte)]
def jv_K (D : va_G) (dA : Nat → ClassId) (U : State) : Prop := va_K D jvCl (jv_tys dA) U ∧ jv_T U
theorem jv_K.moved {D : va_G} {dA : Nat → ClassId} {s U : State} (hW : s.WarmedH U.vm) (h : jv_K D dA s) : jv_K D dA U := ⟨va_K.moved hW.alike h.1, h.2.moved hW⟩
theorem jv_K.same {D : va_G} {dA : Nat → ClassId} {u U : State} (hv : u.vm = U.vm) (h : jv_K D dA u) : jv_K D dA U := ⟨va_K.moved (by rw [hv]; exact Vm.Alike.refl U.vm) h.1, h.2.same hv⟩
-- what lies outside every world: the String constants, a static of String's, two of Throwable's
def jz_len : List Nat := [4, 5, 4, 5, 5, 2, 16]
def jz_byt : List (List Int32) := [[110, 117, 108, 108], [102, 97, 108, 115, 101], [116, 114, 117, 101], [98, 102, 110, 114, 116], [98, 116, 110, 102, 114], [92, 117], [48, 49, 50, 51, 52, 53, 54, 55, 56, 57, 97, 98, 99, 100, 101, 102]]
def jz_ref : List (String × Nat × String × Nat) := [("JsonShelf$Reader", 89, "null", 0), ("JsonShelf$Reader", 95, "false", 1), ("JsonShelf$Reader", 97, "true", 2), ("JsonShelfModel", 151, "bfnrt", 3), ("JsonShelfModel", 169, "null", 0), ("JsonShelfModel", 171, "true", 2), ("JsonShelfModel", 173, "false", 1), ("JsonShelfModel", 226, "btnfr", 4), ("JsonShelfModel", 228, "\\u", 5), ("JsonShelfModel", 233, "0123456789abcdef", 6)]
def jv_Nc (U : State) : Prop := va_Nc "java/lang/UnsupportedOperationException" "java/lang/IllegalArgumentException" U ∧ va_Nc "java/lang/IllegalStateException" "java/lang/IllegalArgumentException" U ∧ va_Nc "java/util/NoSuchElementException" "java/lang/IllegalArgumentException" U ∧ va_Nc "java/util/NoSuchElementException" "java/lang/IllegalStateException" U
theorem jv_Nc.moved {u U : State} (hvm : u.vm.Alike U.vm) (h : jv_Nc u) : jv_Nc U := ⟨h.1.moved hvm, h.2.1.moved hvm, h.2.2.1.moved hvm, h.2.2.2.moved hvm⟩
def jv_Z (zz : (Nat → Nat) × (Nat → Nat)) (A : Nat → Prop) (U : State) (H : Heap) : Prop := vk_S 7 jz_len jz_byt zz.1 zz.2 A U H ∧ (∀ q ∈ jz_ref, vk_R q.1 q.2.1 q.2.2.1 (zz.1 q.2.2.2) U) ∧ va_Z "java/lang/String" "COMPACT_STRINGS" "Z" (.int 1) A U H ∧ vx_Zq "java/lang/Throwable" "UNASSIGNED_STACK" "[Ljava/lang/StackTraceElement;" A U H ∧ vx_Zq "java/lang/Throwable" "SUPPRESSED_SENTINEL" "Ljava/util/List;" A U H ∧ va_Zq "jdk/internal/util/Preconditions" "SIOOBE_FORMATTER" "Ljava/util/function/BiFunction;" A U H ∧ jv_Nc U
theorem jv_Z.to {zz : (Nat → Nat) × (Nat → Nat)} {A B : Nat → Prop} {s U : State} {H H1 : Heap} (h : jv_Z zz A s H) (hk : ∀ a : Nat, a < H.size → ¬ A a → H1[a]? = H[a]?) (hW : s.WarmedH U.vm) (hB : ∀ q, B q → A q) : jv_Z zz B U H1 :=
  ⟨((h.1.kept hk).moved hW.alike).narrow hB, fun q hq => vk_R.warm hW (h.2.1 q hq), ((h.2.2.1.kept hk).moved hW.alike).narrow hB, ((h.2.2.2.1.kept hk).moved hW.alike).narrow hB, ((h.2.2.2.2.1.kept hk).moved hW.alike).narrow hB, ((h.2.2.2.2.2.1.kept hk).moved hW.alike).narrow hB, h.2.2.2.2.2.2.moved hW.alike⟩
theorem jv_Z.same {zz : (Nat → Nat) × (Nat → Nat)} {A : Nat → Prop} {u U : State} {H : Heap} (h : jv_Z zz A u H) (hv : u.vm = U.vm) : jv_Z zz A U H :=
  have ha : u.vm.Alike U.vm := by rw [hv]; exact Vm.Alike.refl U.vm
  ⟨h.1.moved ha, fun q hq => vk_R.same hv.symm (h.2.1 q hq), h.2.2.1.moved ha, h.2.2.2.1.moved ha, h.2.2.2.2.1.moved ha, h.2.2.2.2.2.1.moved ha, h.2.2.2.2.2.2.moved ha⟩
-- the context of a walk, and the judgement
def jv_C (p : Program) (s : State) (m : MethodId) (args : Array Value) (meth : Method) (c : Code) (cc : ByteArray) (own : String) (nL : Nat) (D : va_G) (dA : Nat → ClassId) (zz : (Nat → Nat) × (Nat → Nat)) (A : Nat → Prop) : Prop :=
  p.tables.exec = Jvm.exec ∧ c.code = cc ∧ c.maxLocals = nL ∧ s.vm.findClass own = some m.cls ∧ jv_K D dA s ∧ (∀ q : Nat, s.heap.size ≤ q → A q) ∧ meth.locks = false ∧ jv_Z zz A s s.heap
def jv_V (p : Program) (l : Launch) (e : Env) (R : Room) (s : State) (m : MethodId) (args : Array Value) (below : List Frame) (meth : Method) (c : Code) (cells slots : Nat) (Q : State → Prop) (D : va_G) (A : Nat → Prop) (nL : Nat) (ws : va_W) (lv : List (Nat × Value)) (pc : Nat) (st : List Value) : Prop :=
  ∀ (H : Heap) (locs : List Loc) (ls : Array Slot), va_P D jvCl ws H → va_D A ws → va_S A s.heap H locs → lv_has ls nL lv → W p l e R s m args below meth c H locs cells slots Q (F0 m pc ls st)
