/-- the name printed from a on was there among those from n0 on -/
def js_dup (pr2 : List Nat) (ns : List (Nat × Nat)) (n0 a : Nat) : Prop := ∃ k, n0 ≤ k ∧ k < ns.length ∧ (ns.getD k (0, 0)).2 - (ns.getD k (0, 0)).1 = pr2.length - a ∧ js_eqb pr2 (ns.getD k (0, 0)).1 pr2 a ((ns.getD k (0, 0)).2 - (ns.getD k (0, 0)).1)
theorem js_R.hS {t pr : List Nat} {i : Nat} {sk ns : List (Nat × Nat)} {g fS fE fH fO fB : Nat → Int32} (hR : js_R t i pr sk ns g fS fE fH fO fB) (h4 : t.length ≤ 4096) : ∀ j, j < ns.length → (ns.getD j (0, 0)).1 ≤ (ns.getD j (0, 0)).2 ∧ (ns.getD j (0, 0)).2 < 2 ^ 30 ∧ fS j = nI (ns.getD j (0, 0)).1 ∧ fE j = nI (ns.getD j (0, 0)).2 ∧ fH j = js_hash pr (ns.getD j (0, 0)).1 ((ns.getD j (0, 0)).2 - (ns.getD j (0, 0)).1) := by
  intro j hj
  have e : ns.getD j (0, 0) = ns[j] := by rw [List.getD_eq_getElem?_getD, List.getElem?_eq_getElem hj]; rfl
  rw [e]
  obtain ⟨a1, a2, a3, a4, a5, a6, a7⟩ := hR
  obtain ⟨b1, b2, b3, b4, b5⟩ := a6 j hj
  exact ⟨b1, by omega, b3, b4, b5⟩
