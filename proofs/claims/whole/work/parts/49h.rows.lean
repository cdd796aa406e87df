-- ===== rows of a tree =====
def js_setr {α : Type} (F : Nat → α) (r : Nat) (g : α) : Nat → α := fun i => if i = r then g else F i
def js_rows {α : Type} (L : List α) (d : α) : Nat → α := fun i => L.getD i d
/-- a node was added -/
def js_AD (F F' : Nat → Nat → Int32) (G G' : Nat → Int64) (c u : Nat) (k : Int32) : Prop :=
  (∀ j, j < c → F' 0 j = F 0 j ∧ F' 2 j = F 2 j ∧ F' 3 j = F 3 j ∧ F' 4 j = F 4 j ∧ F' 5 j = F 5 j ∧ F' 6 j = F 6 j ∧ F' 7 j = F 7 j ∧ G' j = G j) ∧ F' 10 = F 10 ∧ F' 0 c = k ∧ F' 2 c = nI u ∧ F' 3 c = 0 ∧ F' 4 c = -1 ∧ F' 5 c = -1
/-- a unit was added -/
def js_AU (F F' : Nat → Nat → Int32) (u x : Nat) : Prop := (∀ i, i ≠ 10 → F' i = F i) ∧ (∀ j, j < u → F' 10 j = F 10 j) ∧ F' 10 u = nI x
/-- the i-th kid, or -1 -/
def js_kx {n : Nat} (l : List (List Nat × js_J n)) (k i : Nat) : Int32 := if l.length ≤ i then -1 else nI (js_pos l (k + 1) i)
theorem js_kx_0 {n : Nat} (l : List (List Nat × js_J n)) (k : Nat) : (if l = [] then -1 else nI (k + 1)) = js_kx l k 0 := by
  unfold js_kx
  cases l with
  | nil => rfl
  | cons q l => rw [if_neg (by simp), if_neg (by simp), js_pos_0]
theorem js_kx_s {n : Nat} {l : List (List Nat × js_J n)} {k i : Nat} (hi : i < l.length) : (if i + 1 = l.length then -1 else nI (js_pos l (k + 1) (i + 1))) = js_kx l k (i + 1) := by
  unfold js_kx
  by_cases q : i + 1 = l.length
  · rw [if_pos q, if_pos (by omega)]
  · rw [if_neg q, if_neg (by omega)]
theorem js_kx_in {n : Nat} {l : List (List Nat × js_J n)} {k i : Nat} (hi : i < l.length) : js_kx l k i = nI (js_pos l (k + 1) i) := if_neg (by omega)
theorem js_kx_pos {n : Nat} {l : List (List Nat × js_J n)} {k i : Nat} (h : ¬ js_kx l k i < 0) : i < l.length := by
  rcases Nat.lt_or_ge i l.length with q | q
  · exact q
  · exact absurd (by rw [js_kx, if_pos q]; decide) h
theorem js_kx_neg {n : Nat} {l : List (List Nat × js_J n)} {k i : Nat} (h : js_kx l k i < 0) (hp : js_pos l (k + 1) i < 2 ^ 31) : l.length ≤ i := by
  rcases Nat.lt_or_ge i l.length with q | q
  · exact absurd (by rw [js_kx_in q] at h; exact h) (nI_pos hp)
  · exact q
/-- where the kids of a node lie -/
theorem js_pos_b {n : Nat} {b : Bool} {l : List (List Nat × js_J n)} {k i : Nat} (hi : i < l.length) : k < js_pos l (k + 1) i ∧ js_pos l (k + 1) i + js_cnt n l[i].2 ≤ k + js_cnt (n + 1) (Sum.inr (b, l)) := by
  have h1 := js_pos_ge (l := l) (j := k + 1) (i := i) (by omega)
  have h2 := js_pos_le (l := l) (j := k + 1) (i := i + 1) hi
  have h3 := js_pos_s (j := k + 1) (List.getElem?_eq_getElem hi)
  rw [js_cnt_inr]
  omega
theorem js_TV_kid {F : Nat → Nat → Int32} {G : Nat → Int64} {u n : Nat} {b : Bool} {l : List (List Nat × js_J n)} {k i : Nat} (h : js_TV F G u (n + 1) (Sum.inr (b, l)) k) (hi : i < l.length) : js_TV F G u n l[i].2 (js_pos l (k + 1) i) ∧ F 5 (js_pos l (k + 1) i) = js_kx l k (i + 1) ∧ (b = true → js_TN F u (js_pos l (k + 1) i) l[i].1) := by
  obtain ⟨h1, h2, h3⟩ := h.2.2 i l[i] (List.getElem?_eq_getElem hi)
  exact ⟨h1, by rw [h2]; exact js_kx_s hi, h3⟩
theorem js_TV_k0 {F : Nat → Nat → Int32} {G : Nat → Int64} {u n : Nat} {b : Bool} {l : List (List Nat × js_J n)} {k : Nat} (h : js_TV F G u (n + 1) (Sum.inr (b, l)) k) : F 4 k = js_kx l k 0 := by rw [h.2.1]; exact js_kx_0 l k
theorem js_TU_at {F : Nat → Nat → Int32} {u s : Nat} {us : List Nat} (h : js_TU F u s us) {i : Nat} (hi : i < us.length) : F 10 (s + i) = nI us[i] := h.2 i us[i] (List.getElem?_eq_getElem hi)
theorem js_kind_b : ∀ w, w < 3 → js_rk w < 3 := by decide
/-- the kind that a node has -/
def js_kr : (n : Nat) → js_J n → Nat
  | 0, .inl w => js_rk w
  | 0, .inr (.inl _) => 3
  | 0, .inr (.inr _) => 4
  | _ + 1, Sum.inl (.inl w) => js_rk w
  | _ + 1, Sum.inl (.inr (.inl _)) => 3
  | _ + 1, Sum.inl (.inr (.inr _)) => 4
  | _ + 1, Sum.inr (b, _) => if b = true then 6 else 5
theorem js_TV_kr {F : Nat → Nat → Int32} {G : Nat → Int64} {u : Nat} : ∀ {n : Nat} {v : js_J n} {k : Nat}, js_TV F G u n v k → F 0 k = nI (js_kr n v)
  | 0, .inl _, _, h => h.1
  | 0, .inr (.inl _), _, h => h.1
  | 0, .inr (.inr _), _, h => h.1
  | _ + 1, Sum.inl (.inl _), _, h => h.1
  | _ + 1, Sum.inl (.inr (.inl _)), _, h => h.1
  | _ + 1, Sum.inl (.inr (.inr _)), _, h => h.1
  | _ + 1, Sum.inr (b, _), _, h => by rw [h.1, js_kr]; split <;> rfl
