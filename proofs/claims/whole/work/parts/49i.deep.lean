theorem js_mx_snoc : ∀ (l : List Nat) (x : Nat), js_mx (l ++ [x]) = max (js_mx l) x
  | [], x => by show max x 0 = max 0 x; omega
  | y :: l, x => by
    show max y (js_mx (l ++ [x])) = max (max y (js_mx l)) x
    rw [js_mx_snoc l x]; omega
theorem js_mx_le {l : List Nat} {m : Nat} (h : ∀ x ∈ l, x ≤ m) : js_mx l ≤ m := by
  induction l with
  | nil => exact Nat.zero_le _
  | cons x l ih =>
    have h1 := h x (List.mem_cons_self ..)
    have h2 := ih (fun y hy => h y (List.mem_cons_of_mem _ hy))
    show max x (js_mx l) ≤ m
    omega
theorem js_dep_le : ∀ (n : Nat) (v : js_J n), js_dep n v ≤ n
  | 0, _ => Nat.le_refl _
  | _ + 1, Sum.inl _ => Nat.zero_le _
  | n + 1, Sum.inr (b, l) => by
    show 1 + js_mx (l.map fun q => js_dep n q.2) ≤ n + 1
    have := js_mx_le (l := l.map fun q => js_dep n q.2) (m := n) (fun x hx => by
      obtain ⟨q, -, rfl⟩ := List.mem_map.mp hx
      exact js_dep_le n q.2)
    omega
/-- the deepest of the first i -/
def js_mt {n : Nat} (l : List (List Nat × js_J n)) (i : Nat) : Nat := js_mx ((l.take i).map fun q => js_dep n q.2)
theorem js_mt_s {n : Nat} {l : List (List Nat × js_J n)} {i : Nat} (hi : i < l.length) : js_mt l (i + 1) = max (js_mt l i) (js_dep n l[i].2) := by
  unfold js_mt
  rw [List.take_add_one, List.getElem?_eq_getElem hi]
  simp only [Option.toList_some, List.map_append, List.map_singleton]
  exact js_mx_snoc _ _
theorem js_mt_le {n : Nat} (l : List (List Nat × js_J n)) (i : Nat) : js_mt l i ≤ n := js_mx_le (fun x hx => by
  obtain ⟨q, -, rfl⟩ := List.mem_map.mp hx
  exact js_dep_le n q.2)
theorem js_mt_all {n : Nat} {b : Bool} {l : List (List Nat × js_J n)} {i : Nat} (hi : l.length ≤ i) : js_dep (n + 1) (Sum.inr (b, l)) = js_mt l i + 1 := by
  unfold js_mt
  rw [List.take_of_length_le hi]
  show 1 + _ = _
  omega
theorem js_TL_lf {F : Nat → Nat → Int32} {G : Nat → Int64} {u k : Nat} {x : js_L} (hx : js_okl x) (h : js_TL F G u k x) : F 4 k = -1 ∧ ∃ kk, kk < 5 ∧ F 0 k = nI kk := by
  match x, hx, h with
  | .inl w, hx, h => exact ⟨h.2, _, Nat.lt_of_lt_of_le (js_kind_b w hx) (by decide), h.1⟩
  | .inr (.inl ds), hx, h => exact ⟨h.2.1, 3, by decide, h.1⟩
  | .inr (.inr us), hx, h => exact ⟨h.2.1, 4, by decide, h.1⟩
