theorem js_es_fuel {t : List Nat} : ∀ {n m i : Nat}, t.length + 1 ≤ i + n → t.length + 1 ≤ i + m → js_es t n i = js_es t m i
  | 0, m, i, h, _ => by
    cases m with
    | zero => rfl
    | succ m => rw [js_es, js_es, if_pos (by omega)]
  | n + 1, 0, i, _, h => by rw [js_es, js_es, if_pos (by omega)]
  | n + 1, m + 1, i, h1, h2 => by
    rw [js_es, js_es]
    split
    · rfl
    · split
      · rfl
      · split
        · exact js_es_fuel (by omega) (by omega)
        · exact js_es_fuel (by omega) (by omega)
theorem js_par_len (vs : List js_E) (ob : List Nat) : (js_par vs ob).length = vs.length := by
  unfold js_par
  split
  · rfl
  · exact List.length_modify ..
theorem js_par_app (vs : List js_E) (ob : List Nat) (k : Nat) : js_par vs (ob ++ [k]) = vs.modify k js_inc := by
  unfold js_par
  rw [List.getLast?_append]
  rfl
theorem js_OL_pushp {vs : List js_E} {ob : List Nat} {fS fE fF fC fN fH fO : Nat → Int32} {L : Nat} (h : js_OL vs ob fS fE fF fC fN fH fO) (hl : vs.length < 2048) (hL : vs.length = L) (s z n c : Nat) (a b : Int32) : js_OL (vs ++ [(s, z, n, c, a, b)]) ob (upd fS L (nI s)) (upd fE L (nI z)) (upd fF L (nI n)) (upd fC L (nI c)) (upd fN L a) (upd fH L b) fO := by
  subst hL
  exact h.push hl s z n c a b
theorem js_maxI (a b : Nat) (ha : a < 2 ^ 31) (hb : b < 2 ^ 31) : (if nI a < nI b then nI b else nI a) = nI (max a b) := by
  by_cases h : a < b
  · rw [if_pos (nI_lt h hb), Nat.max_eq_right (by omega)]
  · rw [if_neg (nI_nlt (by omega) ha), Nat.max_eq_left (by omega)]
theorem js_ocl_app {vs : List js_E} {ob : List Nat} {k z : Nat} : js_ocl vs (ob ++ [k]) z = (vs.modify k (js_cls z vs.length), ob) := by
  unfold js_ocl
  rw [List.getLast?_append]
  simp
