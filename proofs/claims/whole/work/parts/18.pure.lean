theorem js_hok_len {t : List Nat} : ∀ (k p : Nat), js_hok t k p = true → k = 0 ∨ p + k ≤ t.length
  | 0, p, _ => Or.inl rfl
  | k + 1, p, h => by
    rw [js_hok] at h
    split at h
    · cases h
    · rename_i h1
      split at h
      · cases h
      · have hp : p < t.length := by
          rcases Nat.lt_or_ge p t.length with q | q
          · exact q
          · exact absurd (by rw [js_b, List.getElem?_eq_none q]) h1
        rcases js_hok_len k (p + 1) h with q | q
        · exact Or.inr (by omega)
        · exact Or.inr (by omega)
theorem js_b_lt {t : List Nat} {p : Nat} (h : ¬ js_b t p = -1) : p < t.length := by
  rcases Nat.lt_or_ge p t.length with q | q
  · exact q
  · exact absurd (by rw [js_b, List.getElem?_eq_none q]) h
theorem js_ua_len {t : List Nat} {p : Nat} (h : ¬ js_ua t p < 0) : p + js_ub t p ≤ t.length := by
  have e := js_ua.eq_def t p
  rw [js_ub]
  by_cases h0 : js_b t p = -1
  · rw [if_pos h0] at e
    exact absurd (by rw [e]; decide) h
  · have hp := js_b_lt h0
    rw [if_neg h0] at e ⊢
    split
    · rename_i h92
      rw [if_pos h92] at e
      by_cases h1 : js_b t (p + 1) = -1
      · rw [if_pos h1] at e
        exact absurd (by rw [e]; decide) h
      · have hp1 := js_b_lt h1
        rw [if_neg h1] at e ⊢
        split
        · rename_i h117
          rw [if_pos h117] at e
          split
          · rename_i hok
            rcases js_hok_len 4 (p + 2) hok with q | q
            · cases q
            · omega
          · omega
        · omega
    · omega
theorem js_ch_len {t : List Nat} (hb : js_by t) {p n : Nat} {us : List Nat} (h : js_ch t p = .inr (us, n)) : p + n ≤ t.length ∧ 1 ≤ n ∧ (us.flatMap js_pu).length ≤ n := by
  rw [js_ch] at h
  split at h
  · split at h
    · cases h
    · rename_i hn
      split at h
      · cases h
        have h1 := js_ua_len hn
        have h2 := js_pu_len hb hn
        have h3 := js_ub_pos t p
        simp only [List.flatMap_cons, List.flatMap_nil, List.append_nil]
        omega
      · cases h
  · rename_i hf
    split at h
    · cases h
    · rename_i hs
      cases h
      have h1 := js_ua_len (js_first hf).1
      have h2 := js_pu_len hb (js_first hf).1
      have h3 := js_ub_pos t p
      have h4 := js_ua_len (js_second hs).1
      have h5 := js_pu_len hb (js_second hs).1
      have h6 := js_ub_pos t (p + js_ub t p)
      simp only [List.flatMap_cons, List.flatMap_nil, List.append_nil, List.length_append]
      omega
/-- the characters of a string from p on, up to its quote -/
def js_st (t : List Nat) : Nat → Nat → List Nat → Nat ⊕ (List Nat × Nat)
  | 0, _, _ => .inl t.length
  | n + 1, p, us => if t.length ≤ p then .inl t.length else if js_b t p = 34 then .inr (us, p + 1) else match js_ch t p with
    | .inl q => .inl q
    | .inr (u, k) => js_st t n (p + k) (us ++ u)
/-- the end of the digits from p on -/
def js_dg (t : List Nat) : Nat → Nat → Nat
  | 0, p => p
  | n + 1, p => if fn_Rd_isDigit (js_b t p) = 0 then p else js_dg t n (p + 1)
/-- the number that the digits are, no further once it is too great -/
def js_tg (t : List Nat) : Nat → Nat → Int64 → Int64
  | 0, _, s => s
  | n + 1, p, s => if 9007199254740991 < s then s else js_tg t n (p + 1) (s * 10 + (js_b t p - 48).toInt64)
def js_nd (t : List Nat) (i : Nat) : Nat := if js_b t i = 45 then i + 1 else i
def js_ne (t : List Nat) (i : Nat) : Nat := if js_b t (js_nd t i) = 48 then js_nd t i + 1 else js_dg t (t.length - js_nd t i) (js_nd t i)
def js_ns (t : List Nat) (i : Nat) : Nat := if js_b t (js_nd t i) = 48 then js_nd t i else i
/-- a NUMBER at i: none (the place), or its end -/
def js_nu (t : List Nat) (i : Nat) : Nat ⊕ Nat :=
  if fn_Rd_isDigit (js_b t (js_nd t i)) = 0 then .inl (js_nd t i)
  else if 9007199254740991 < js_tg t (js_ne t i - js_nd t i) (js_nd t i) 0 then .inl i
  else if fn_Rd_isFraction (js_b t (js_ne t i)) = 0 then .inr (js_ne t i) else .inl i
theorem js_st_end {t : List Nat} {n p : Nat} {us : List Nat} (h : t.length ≤ p) : js_st t n p us = .inl t.length := by
  cases n with
  | zero => rfl
  | succ n => rw [js_st, if_pos h]
theorem js_st_quote {t : List Nat} {n p : Nat} {us : List Nat} (h : ¬ t.length ≤ p) (hq : js_b t p = 34) : js_st t (n + 1) p us = .inr (us, p + 1) := by rw [js_st, if_neg h, if_pos hq]
theorem js_st_no {t : List Nat} {n p q : Nat} {us : List Nat} (h : ¬ t.length ≤ p) (hq : ¬ js_b t p = 34) (hc : js_ch t p = .inl q) : js_st t (n + 1) p us = .inl q := by rw [js_st, if_neg h, if_neg hq, hc]
theorem js_st_ok {t : List Nat} {n p k : Nat} {us u : List Nat} (h : ¬ t.length ≤ p) (hq : ¬ js_b t p = 34) (hc : js_ch t p = .inr (u, k)) : js_st t (n + 1) p us = js_st t n (p + k) (us ++ u) := by rw [js_st, if_neg h, if_neg hq, hc]

theorem js_dg_ge {t : List Nat} : ∀ (n p : Nat), p ≤ js_dg t n p ∧ js_dg t n p ≤ p + n
  | 0, p => ⟨Nat.le_refl _, by rw [js_dg]; omega⟩
  | n + 1, p => by
    rw [js_dg]
    split
    · omega
    · have := js_dg_ge (t := t) n (p + 1)
      omega
theorem js_dg_lt {t : List Nat} {n p : Nat} (hd : ¬ fn_Rd_isDigit (js_b t p) = 0) (hn : 1 ≤ n) : p + 1 ≤ js_dg t n p := by
  cases n with
  | zero => omega
  | succ n =>
    rw [js_dg, if_neg hd]
    exact (js_dg_ge n (p + 1)).1
theorem js_dig_lt {t : List Nat} {p : Nat} (h : ¬ fn_Rd_isDigit (js_b t p) = 0) : p < t.length := js_b_lt (fun e => h (by rw [e]; decide))
theorem js_ne_le {t : List Nat} {i : Nat} (h : ¬ fn_Rd_isDigit (js_b t (js_nd t i)) = 0) : js_nd t i + 1 ≤ js_ne t i ∧ js_ne t i ≤ t.length := by
  have h1 := js_dig_lt h
  rw [js_ne]
  split
  · omega
  · have h2 := js_dg_ge (t := t) (t.length - js_nd t i) (js_nd t i)
    have h3 := js_dg_lt (n := t.length - js_nd t i) h (by omega)
    omega
theorem js_nd_ge (t : List Nat) (i : Nat) : i ≤ js_nd t i ∧ js_nd t i ≤ i + 1 := by rw [js_nd]; split <;> omega
theorem js_ns_ge (t : List Nat) (i : Nat) : i ≤ js_ns t i ∧ js_ns t i ≤ js_nd t i := by
  have := js_nd_ge t i
  rw [js_ns]; split <;> omega
/-- the bytes from a on, so many -/
def js_sl (t : List Nat) (a n : Nat) : List Nat := (t.drop a).take n
theorem js_sl_s {t : List Nat} {a n b : Nat} (h : t[a + n]? = some b) : js_sl t a (n + 1) = js_sl t a n ++ [b] := by
  have hl : a + n < t.length := (List.getElem?_eq_some_iff.mp h).1
  have e : b = t[a + n] := (List.getElem?_eq_some_iff.mp h).2.symm
  unfold js_sl
  rw [List.take_add_one, List.getElem?_drop, h]
  rfl
theorem js_sl_0 (t : List Nat) (a : Nat) : js_sl t a 0 = [] := by unfold js_sl; simp
theorem js_sl_len {t : List Nat} {a n : Nat} (h : a + n ≤ t.length) : (js_sl t a n).length = n := by unfold js_sl; rw [List.length_take, List.length_drop]; omega
