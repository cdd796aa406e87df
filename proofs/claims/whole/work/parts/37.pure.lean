-- ===== values: a leaf, or members; by depth =====
/-- a leaf: a word (0 null, 1 false, 2 true), a number's text, a string's units -/
abbrev js_L : Type := Nat ⊕ (List Nat ⊕ List Nat)
def js_J : Nat → Type
  | 0 => js_L
  | n + 1 => js_L ⊕ (Bool × List (List Nat × js_J n))
/-- units between quotes, as they are printed -/
def js_pq (us : List Nat) : List Nat := 34 :: (us.flatMap js_pu ++ [34])
def js_pl : js_L → List Nat
  | .inl k => js_wd k
  | .inr (.inl ds) => ds
  | .inr (.inr us) => js_pq us
/-- texts with commas between them -/
def js_cm : List (List Nat) → List Nat
  | [] => []
  | x :: l => x ++ (if l.length = 0 then [] else 44 :: js_cm l)
def js_mp (b : Bool) (nm x : List Nat) : List Nat := if b = true then js_pq nm ++ 58 :: x else x
def js_opn (b : Bool) : Nat := if b = true then 123 else 91
def js_cls2 (b : Bool) : Nat := if b = true then 125 else 93
/-- a value as it is printed -/
def js_pr : (n : Nat) → js_J n → List Nat
  | 0, x => js_pl x
  | _ + 1, Sum.inl x => js_pl x
  | n + 1, Sum.inr (b, l) => js_opn b :: (js_cm (l.map fun q => js_mp b q.1 (js_pr n q.2)) ++ [js_cls2 b])
/-- are two values the same -/
def js_same : (n : Nat) → js_J n → js_J n → Prop
  | 0, x, y => js_pl x = js_pl y
  | _ + 1, Sum.inl x, Sum.inl y => js_pl x = js_pl y
  | n + 1, Sum.inr (b, l), Sum.inr (b2, l2) => b = b2 ∧ l.length = l2.length ∧ (b = true → ∀ q ∈ l, ∃ q2 ∈ l2, js_pq q.1 = js_pq q2.1 ∧ js_same n q.2 q2.2) ∧ (b = false → ∀ (i : Nat) (q q2 : List Nat × js_J n), l[i]? = some q → l2[i]? = some q2 → js_same n q.2 q2.2)
  | _ + 1, _, _ => False
-- ===== an outline holds a value =====
def js_en (vs : List js_E) (k : Nat) : js_E := vs.getD k (0, 0, 0, 0, 0, 0)
/-- entry k is the text x -/
def js_ent (t : List Nat) (vs : List js_E) (k : Nat) (x : List Nat) : Prop := k < vs.length ∧ (js_en vs k).1 < (js_en vs k).2.1 ∧ (js_en vs k).2.1 ≤ t.length ∧ js_sl t (js_en vs k).1 ((js_en vs k).2.1 - (js_en vs k).1) = x
/-- entry k has the name x, printed -/
def js_onm (t : List Nat) (vs : List js_E) (k : Nat) (x : List Nat) : Prop := ∃ a, a + 1 ≤ (js_en vs k).1 ∧ (js_en vs k).1 ≤ t.length ∧ (js_en vs k).2.2.2.2.1 = nI a ∧ (js_en vs k).2.2.2.2.2 = js_hash t a ((js_en vs k).1 - 1 - a) ∧ js_sl t a ((js_en vs k).1 - 1 - a) = x
def js_kid (vs : List js_E) (k : Nat) : Nat → Nat
  | 0 => k + 1
  | i + 1 => (js_en vs (js_kid vs k i)).2.2.1
def js_ORl (t : List Nat) (vs : List js_E) (k : Nat) (x : js_L) : Prop := js_ent t vs k (js_pl x) ∧ (js_en vs k).2.2.2.1 = 0 ∧ ¬ js_b t (js_en vs k).1 = 91 ∧ ¬ js_b t (js_en vs k).1 = 123
def js_OR (t : List Nat) (vs : List js_E) : (n : Nat) → js_J n → Nat → Prop
  | 0, x, k => js_ORl t vs k x
  | _ + 1, Sum.inl x, k => js_ORl t vs k x
  | n + 1, Sum.inr (b, l), k => js_ent t vs k (js_pr (n + 1) (Sum.inr (b, l))) ∧ (js_en vs k).2.2.2.1 = l.length ∧ js_b t (js_en vs k).1 = nI (js_opn b) ∧ (js_en vs k).2.2.1 ≤ vs.length ∧ l.length ≤ 2048 ∧ js_kid vs k l.length = (js_en vs k).2.2.1 ∧
    ∀ (i : Nat) (q : List Nat × js_J n), l[i]? = some q → js_kid vs k i < (js_en vs k).2.2.1 ∧ js_OR t vs n q.2 (js_kid vs k i) ∧ (b = true → js_onm t vs (js_kid vs k i) (js_pq q.1))
theorem js_OL.en {vs : List js_E} {ob : List Nat} {fS fE fF fC fN fH fO : Nat → Int32} (h : js_OL vs ob fS fE fF fC fN fH fO) {k : Nat} (hk : k < vs.length) : fS k = nI (js_en vs k).1 ∧ fE k = nI (js_en vs k).2.1 ∧ fF k = nI (js_en vs k).2.2.1 ∧ fC k = nI (js_en vs k).2.2.2.1 ∧ fN k = (js_en vs k).2.2.2.2.1 ∧ fH k = (js_en vs k).2.2.2.2.2 := by
  have e : js_en vs k = vs[k] := by rw [js_en, List.getD_eq_getElem?_getD, List.getElem?_eq_getElem hk]; rfl
  rw [e]
  exact h.2.2.1 k hk
theorem js_ent_of {t : List Nat} {vs : List js_E} : ∀ {n : Nat} {v : js_J n} {k : Nat}, js_OR t vs n v k → js_ent t vs k (js_pr n v)
  | 0, _, _, h => h.1
  | _ + 1, Sum.inl _, _, h => h.1
  | _ + 1, Sum.inr (_, _), _, h => h.1
-- slices
theorem js_sl_get {t : List Nat} {a n i : Nat} (h : i < n) : (js_sl t a n)[i]? = t[a + i]? := by
  unfold js_sl
  rw [List.getElem?_take, if_pos h, List.getElem?_drop]
theorem js_bI {t t2 : List Nat} (hb : js_by t) (hb2 : js_by t2) {i j : Nat} (hi : i < t.length) (hj : j < t2.length) : js_b t i = js_b t2 j ↔ t[i]? = t2[j]? := by
  rcases js_b_cases hb i with ⟨q, -⟩ | ⟨b, b1, b2, b3⟩
  · omega
  · rcases js_b_cases hb2 j with ⟨q, -⟩ | ⟨c, c1, c2, c3⟩
    · omega
    · rw [b2, b3, c2, c3]
      constructor
      · intro e; rw [(nI_eq (by omega) (by omega)).mp e]
      · intro e; rw [Option.some.inj e]
theorem js_eqb_sl {t t2 : List Nat} (hb : js_by t) (hb2 : js_by t2) {a n c m : Nat} (ha : a + n ≤ t.length) (hc : c + m ≤ t2.length) : (n = m ∧ js_eqb t a t2 c n) ↔ js_sl t a n = js_sl t2 c m := by
  constructor
  · rintro ⟨rfl, h⟩
    apply List.ext_getElem?
    intro i
    rcases Nat.lt_or_ge i n with q | q
    · rw [js_sl_get q, js_sl_get q]
      exact (js_bI hb hb2 (by omega) (by omega)).mp (h i q)
    · rw [List.getElem?_eq_none (by rw [js_sl_len ha]; exact q), List.getElem?_eq_none (by rw [js_sl_len hc]; exact q)]
  · intro h
    have e : n = m := by rw [← js_sl_len ha, ← js_sl_len hc, h]
    subst e
    refine ⟨rfl, fun i hi => (js_bI hb hb2 (by omega) (by omega)).mpr ?_⟩
    rw [← js_sl_get hi, ← js_sl_get hi, h]
theorem js_bool_iff {P Q : Prop} {r : Int32} (h : P ↔ Q) (hp : js_bool P r) : js_bool Q r := by
  rcases hp with ⟨e, p⟩ | ⟨e, p⟩
  · exact Or.inl ⟨e, h.mp p⟩
  · exact Or.inr ⟨e, fun q => p (h.mpr q)⟩
