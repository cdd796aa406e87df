-- the outline: a value is (start, end, follower, children, name, hash)
abbrev js_E : Type := Nat × Nat × Nat × Nat × Int32 × Int32
def js_inc (e : js_E) : js_E := (e.1, e.2.1, e.2.2.1, e.2.2.2.1 + 1, e.2.2.2.2)
def js_cls (z n : Nat) (e : js_E) : js_E := (e.1, z, n, e.2.2.2)
def js_nmi : Option Nat → Int32
  | none => -1
  | some a => nI a
def js_nmh (t : List Nat) (s : Nat) : Option Nat → Int32
  | none => 0
  | some a => js_hash t a (s - 1 - a)
def js_par (vs : List js_E) (ob : List Nat) : List js_E := match ob.getLast? with
  | none => vs
  | some k => vs.modify k js_inc
def js_oadd (t : List Nat) (vs : List js_E) (ob : List Nat) (s z : Nat) (nm : Option Nat) : List js_E := if 2048 ≤ vs.length then vs else js_par vs ob ++ [(s, z, vs.length + 1, 0, js_nmi nm, js_nmh t s nm)]
def js_oop (vs : List js_E) (ob : List Nat) (deep : Nat) : List Nat × Nat := if ob.length < 32 ∧ 0 < vs.length then (ob ++ [vs.length - 1], max deep (ob.length + 1)) else (ob, deep)
def js_ocl (vs : List js_E) (ob : List Nat) (z : Nat) : List js_E × List Nat := match ob.getLast? with
  | none => (vs, ob)
  | some k => (vs.modify k (js_cls z vs.length), ob.dropLast)
/-- how the outline's rows hold it -/
def js_OL (vs : List js_E) (ob : List Nat) (fS fE fF fC fN fH fO : Nat → Int32) : Prop :=
  vs.length ≤ 2048 ∧ ob.length ≤ 32 ∧ (∀ (j : Nat) (h : j < vs.length), fS j = nI vs[j].1 ∧ fE j = nI vs[j].2.1 ∧ fF j = nI vs[j].2.2.1 ∧ fC j = nI vs[j].2.2.2.1 ∧ fN j = vs[j].2.2.2.2.1 ∧ fH j = vs[j].2.2.2.2.2) ∧ (∀ (j : Nat) (h : j < ob.length), fO j = nI ob[j] ∧ ob[j] < vs.length)
theorem js_OL.push {vs : List js_E} {ob : List Nat} {fS fE fF fC fN fH fO : Nat → Int32} (h : js_OL vs ob fS fE fF fC fN fH fO) (hl : vs.length < 2048) (s z n c : Nat) (a b : Int32) : js_OL (vs ++ [(s, z, n, c, a, b)]) ob (upd fS vs.length (nI s)) (upd fE vs.length (nI z)) (upd fF vs.length (nI n)) (upd fC vs.length (nI c)) (upd fN vs.length a) (upd fH vs.length b) fO := by
  obtain ⟨h1, h2, h3, h4⟩ := h
  refine ⟨by rw [List.length_append]; exact hl, h2, fun j hj => ?_, fun j hj => ?_⟩
  · rcases Nat.lt_or_ge j vs.length with q | q
    · rw [List.getElem_append_left q, pk_un (by omega), pk_un (by omega), pk_un (by omega), pk_un (by omega), pk_un (by omega), pk_un (by omega)]
      exact h3 j q
    · have e : j = vs.length := by
        rw [List.length_append] at hj
        have : [(s, z, n, c, a, b)].length = 1 := rfl
        omega
      subst e
      rw [List.getElem_append_right (Nat.le_refl _)]
      simp only [Nat.sub_self, List.getElem_cons_zero]
      exact ⟨pk_us, pk_us, pk_us, pk_us, pk_us, pk_us⟩
  · have := h4 j hj
    exact ⟨this.1, by rw [List.length_append]; omega⟩
theorem js_OL.inc {vs : List js_E} {ob : List Nat} {fS fE fF fC fN fH fO : Nat → Int32} (h : js_OL vs ob fS fE fF fC fN fH fO) {k : Nat} (hk : k < vs.length) : js_OL (vs.modify k js_inc) ob fS fE fF (upd fC k (fC k + 1)) fN fH fO := by
  obtain ⟨h1, h2, h3, h4⟩ := h
  refine ⟨by rw [List.length_modify]; exact h1, h2, fun j hj => ?_, fun j hj => ?_⟩
  · rw [List.length_modify] at hj
    rw [List.getElem_modify]
    obtain ⟨a1, a2, a3, a4, a5, a6⟩ := h3 j hj
    by_cases e : k = j
    · subst e
      rw [if_pos rfl]
      exact ⟨a1, a2, a3, by rw [pk_us, a4]; exact nI_1 _, a5, a6⟩
    · rw [if_neg e, pk_un (Ne.symm e)]
      exact ⟨a1, a2, a3, a4, a5, a6⟩
  · rw [List.length_modify]; exact h4 j hj
theorem js_OL.cls {vs : List js_E} {ob : List Nat} {fS fE fF fC fN fH fO : Nat → Int32} {k : Nat} (h : js_OL vs (ob ++ [k]) fS fE fF fC fN fH fO) (z : Nat) : js_OL (vs.modify k (js_cls z vs.length)) ob fS (upd fE k (nI z)) (upd fF k (nI vs.length)) fC fN fH fO ∧ fO ob.length = nI k ∧ k < vs.length := by
  obtain ⟨h1, h2, h3, h4⟩ := h
  have hlast := h4 ob.length (by rw [List.length_append]; exact Nat.lt_succ_self _)
  rw [List.getElem_append_right (Nat.le_refl _)] at hlast
  simp only [Nat.sub_self, List.getElem_cons_zero] at hlast
  refine ⟨⟨by rw [List.length_modify]; exact h1, by rw [List.length_append] at h2; exact Nat.le_of_succ_le h2, fun j hj => ?_, fun j hj => ?_⟩, hlast.1, hlast.2⟩
  · rw [List.length_modify] at hj
    rw [List.getElem_modify]
    obtain ⟨a1, a2, a3, a4, a5, a6⟩ := h3 j hj
    by_cases e : k = j
    · subst e
      rw [if_pos rfl]
      exact ⟨a1, pk_us, pk_us, a4, a5, a6⟩
    · rw [if_neg e, pk_un (Ne.symm e), pk_un (Ne.symm e)]
      exact ⟨a1, a2, a3, a4, a5, a6⟩
  · have := h4 j (by rw [List.length_append]; exact Nat.lt_succ_of_lt hj)
    rw [List.getElem_append_left hj] at this
    rw [List.length_modify]
    exact this
theorem js_OL.opn {vs : List js_E} {ob : List Nat} {fS fE fF fC fN fH fO : Nat → Int32} (h : js_OL vs ob fS fE fF fC fN fH fO) (h0 : 0 < vs.length) (hs : ob.length < 32) : js_OL vs (ob ++ [vs.length - 1]) fS fE fF fC fN fH (upd fO ob.length (nI (vs.length - 1))) := by
  obtain ⟨h1, h2, h3, h4⟩ := h
  refine ⟨h1, by rw [List.length_append]; exact hs, h3, fun j hj => ?_⟩
  rcases Nat.lt_or_ge j ob.length with q | q
  · rw [List.getElem_append_left q, pk_un (by omega)]
    exact h4 j q
  · have e : j = ob.length := by
      rw [List.length_append] at hj
      have : [vs.length - 1].length = 1 := rfl
      omega
    subst e
    rw [List.getElem_append_right (Nat.le_refl _)]
    simp only [Nat.sub_self, List.getElem_cons_zero]
    exact ⟨pk_us, by omega⟩
theorem js_OL.last {vs : List js_E} {ob : List Nat} {fS fE fF fC fN fH fO : Nat → Int32} {k : Nat} (h : js_OL vs (ob ++ [k]) fS fE fF fC fN fH fO) : fO ob.length = nI k ∧ k < vs.length := (h.cls 0).2
/-- the end of a string whose characters begin at i -/
def js_es (t : List Nat) : Nat → Nat → Nat
  | 0, _ => t.length
  | n + 1, i => if t.length ≤ i then t.length else if js_b t i = 34 then i + 1 else if js_b t i = 92 then js_es t n (i + 2) else js_es t n (i + 1)
def js_et (t : List Nat) : Nat → Nat → Nat
  | 0, e => e
  | n + 1, e => if fn_Ol_isMark (js_b t e) = 0 then js_et t n (e + 1) else e
/-- the end of the sign at p -/
def js_eos (t : List Nat) (p : Nat) : Nat := if js_b t p = 34 then js_es t (t.length + 2 - (p + 1)) (p + 1) else if fn_Ol_isMark (js_b t p) = 0 then js_et t (t.length - (p + 1)) (p + 1) else p + 1
theorem js_es_le {t : List Nat} : ∀ (n i : Nat), js_es t n i ≤ t.length
  | 0, i => Nat.le_refl _
  | n + 1, i => by
    rw [js_es]
    split
    · exact Nat.le_refl _
    · split
      · omega
      · split
        · exact js_es_le n (i + 2)
        · exact js_es_le n (i + 1)
theorem js_et_le {t : List Nat} : ∀ (n e : Nat), e ≤ js_et t n e ∧ js_et t n e ≤ e + n
  | 0, e => ⟨Nat.le_refl _, by rw [js_et]; omega⟩
  | n + 1, e => by
    rw [js_et]
    split
    · have := js_et_le (t := t) n (e + 1); omega
    · omega
theorem js_eos_le {t : List Nat} {p : Nat} (hp : p < t.length) : js_eos t p ≤ t.length := by
  rw [js_eos]
  split
  · exact js_es_le _ _
  · split
    · have := js_et_le (t := t) (t.length - (p + 1)) (p + 1); omega
    · omega
/-- the outline of a text, sign by sign: (values, the open ones, how deep) -/
def js_dr (t : List Nat) : Nat → Nat → Option Nat → List js_E → List Nat → Nat → List js_E × List Nat × Nat
  | 0, _, _, vs, ob, deep => (vs, ob, deep)
  | n + 1, p, nm, vs, ob, deep =>
    if t.length ≤ p then (vs, ob, deep)
    else if js_b t p = 93 ∨ js_b t p = 125 then js_dr t n (max (js_eos t p) (p + 1)) nm (js_ocl vs ob (max (js_eos t p) (p + 1))).1 (js_ocl vs ob (max (js_eos t p) (p + 1))).2 deep
    else if js_b t p = 34 ∧ js_b t (max (js_eos t p) (p + 1)) = 58 then js_dr t n (max (js_eos t p) (p + 1)) (some p) vs ob deep
    else if js_b t p = 44 ∨ js_b t p = 58 then js_dr t n (max (js_eos t p) (p + 1)) nm vs ob deep
    else if js_b t p = 91 ∨ js_b t p = 123 then js_dr t n (max (js_eos t p) (p + 1)) none (js_oadd t vs ob p (max (js_eos t p) (p + 1)) nm) (js_oop (js_oadd t vs ob p (max (js_eos t p) (p + 1)) nm) ob deep).1 (js_oop (js_oadd t vs ob p (max (js_eos t p) (p + 1)) nm) ob deep).2
    else js_dr t n (max (js_eos t p) (p + 1)) none (js_oadd t vs ob p (max (js_eos t p) (p + 1)) nm) ob deep
