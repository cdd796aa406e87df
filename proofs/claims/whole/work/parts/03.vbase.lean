-- the tables' words, at any state whose tables are warmer: what every method of the system may use
def jv_ok (w : Cond) : Bool := (w.onTables && w.keeps) || (match w with | .arrayClass _ => true | .fieldLinkNest .. => true | .methodLinkNest .. => true | _ => false)
def jv_T (U : State) : Prop := ∀ w ∈ lw_tbl, jv_ok w = true → ∀ a : Array Value, w.before a U = true
theorem jv_ok_move {w : Cond} (hw : jv_ok w = true) {s U : State} (hW : s.WarmedH U.vm) {a a' : Array Value} (h : w.before a s = true) : w.before a' U = true := by
  by_cases hg : (w.onTables && w.keeps) = true
  · exact word_at hW (Or.inl hg) h
  · unfold jv_ok at hw
    rw [Bool.eq_false_iff.mpr hg, Bool.false_or] at hw
    split at hw
    · exact word_at hW (Or.inr ⟨_, rfl⟩) h
    · exact va_Nw.use rfl (va_Nw.warmF hW (va_Nw.of rfl h))
    · exact va_Nw.use rfl (va_Nw.warmM hW (va_Nw.of rfl h))
    · cases hw
theorem jv_T.moved {s U : State} (hW : s.WarmedH U.vm) (h : jv_T s) : jv_T U := fun w hw hok _ => jv_ok_move hok hW (h w hw hok #[])
theorem jv_ok_same {w : Cond} (hw : jv_ok w = true) {u U : State} (h : u.vm = U.vm) (hb : ∀ a : Array Value, w.before a u = true) (a' : Array Value) : w.before a' U = true := by
  cases w with
  | arrayClass ty => 
    have h1 := hb a'
    simp only [Cond.before, Cond.holds, Cond.value, h] at h1 ⊢
    exact h1
  | _ => first | exact va_tabs rfl h (hb #[]) | (simp [jv_ok, Cond.onTables] at hw)
theorem jv_T.same {u U : State} (h : u.vm = U.vm) (hT : jv_T u) : jv_T U := fun w hw hok a' => jv_ok_same hok h (fun a => hT w hw hok a) a'
abbrev jv_tys (dA : Nat → ClassId) : List (ClassId × FieldType) := [(dA 0, .byte), (dA 1, .int), (dA 2, .long), (dA 3, .char), (dA 4, .boolean), (dA 5, .object "JsonShelf$Text"), (dA 6, .array .byte)]
def jv_K (D : va_G) (dA : Nat → ClassId) (U : State) : Prop := va_K D jvCl (jv_tys dA) U ∧ jv_T U
theorem jv_K.moved {D : va_G} {dA : Nat → ClassId} {s U : State} (hW : s.WarmedH U.vm) (h : jv_K D dA s) : jv_K D dA U := ⟨va_K.moved hW.alike h.1, h.2.moved hW⟩
theorem jv_K.same {D : va_G} {dA : Nat → ClassId} {u U : State} (hv : u.vm = U.vm) (h : jv_K D dA u) : jv_K D dA U := ⟨va_K.moved (by rw [hv]; exact Vm.Alike.refl U.vm) h.1, h.2.same hv⟩
-- the context of a walk, and the judgement
def jv_C (p : Program) (s : State) (m : MethodId) (args : Array Value) (meth : Method) (c : Code) (cc : ByteArray) (own : String) (nL : Nat) (D : va_G) (dA : Nat → ClassId) (A : Nat → Prop) : Prop :=
  p.tables.exec = Jvm.exec ∧ c.code = cc ∧ c.maxLocals = nL ∧ s.vm.findClass own = some m.cls ∧ jv_K D dA s ∧ (∀ q : Nat, s.heap.size ≤ q → A q) ∧ meth.locks = false
def jv_V (p : Program) (l : Launch) (e : Env) (R : Room) (s : State) (m : MethodId) (args : Array Value) (below : List Frame) (meth : Method) (c : Code) (cells slots : Nat) (Q : State → Prop) (D : va_G) (A : Nat → Prop) (nL : Nat) (ws : va_W) (lv : List (Nat × Value)) (pc : Nat) (st : List Value) : Prop :=
  ∀ (H : Heap) (locs : List Loc) (ls : Array Slot), va_P D jvCl ws H → va_D A ws → va_S A s.heap H locs → lv_has ls nL lv → W p l e R s m args below meth c H locs cells slots Q (F0 m pc ls st)
