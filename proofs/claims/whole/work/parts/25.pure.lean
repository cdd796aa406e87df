/-- a VALUE's beginning at i: the place that is told, or what comes next, where, what is printed, the signs that are open, the names -/
def js_val (t : List Nat) (i : Nat) (pr : List Nat) (sk ns : List (Nat × Nat)) : Nat ⊕ (Nat × Nat × List Nat × List (Nat × Nat) × List (Nat × Nat)) :=
  if js_b t i = 34 then (match js_st t 4096 (i + 1) [] with
    | .inl q => .inl q
    | .inr (us, z) => .inr (5, z, pr ++ [34] ++ us.flatMap js_pu ++ [34], sk, ns))
  else if js_b t i = 91 then (if 32 ≤ sk.length then .inl i else .inr (1, i + 1, pr ++ [91], sk ++ [(91, ns.length)], ns))
  else if js_b t i = 102 then (match js_li t 1 5 0 i with
    | .inl q => .inl q
    | .inr z => .inr (5, z, pr ++ js_wd 1, sk, ns))
  else if js_b t i = 110 then (match js_li t 0 4 0 i with
    | .inl q => .inl q
    | .inr z => .inr (5, z, pr ++ js_wd 0, sk, ns))
  else if js_b t i = 116 then (match js_li t 2 4 0 i with
    | .inl q => .inl q
    | .inr z => .inr (5, z, pr ++ js_wd 2, sk, ns))
  else if js_b t i = 123 then (if 32 ≤ sk.length then .inl i else .inr (3, i + 1, pr ++ [123], sk ++ [(123, ns.length)], ns))
  else (match js_nu t i with
    | .inl q => .inl q
    | .inr z => .inr (5, z, pr ++ js_sl t (js_ns t i) (z - js_ns t i), sk, ns))
theorem js_li_len {t : List Nat} {k : Nat} (hk : k < 7) : ∀ {n j i z : Nat}, j + n ≤ jz_len.getD k 0 → js_li t k n j i = .inr z → z = i + n ∧ (n = 0 ∨ z ≤ t.length)
  | 0, j, i, z, _, h => by cases h; exact ⟨rfl, Or.inl rfl⟩
  | n + 1, j, i, z, hj, h => by
    rw [js_li] at h
    split at h
    · rename_i hb
      have hi : i < t.length := js_b_lt (fun e => js_sc_nn k hk j (by omega) (by rw [← hb]; exact e))
      obtain ⟨e, q⟩ := js_li_len hk (by omega) h
      refine ⟨by omega, Or.inr ?_⟩
      rcases q with q | q
      · omega
      · exact q
    · cases h
theorem js_st_len {t : List Nat} (hb : js_by t) : ∀ {n p z : Nat} {us us2 : List Nat}, js_st t n p us = .inr (us2, z) → z ≤ t.length ∧ p + 1 ≤ z ∧ (us2.flatMap js_pu).length + p + 1 ≤ (us.flatMap js_pu).length + z
  | 0, p, z, us, us2, h => by cases h
  | n + 1, p, z, us, us2, h => by
    rw [js_st] at h
    split at h
    · cases h
    · rename_i hp
      split at h
      · cases h
        omega
      · split at h
        · cases h
        · rename_i u k hc
          have h1 := js_ch_len hb hc
          have h2 := js_st_len hb h
          rw [List.flatMap_append, List.length_append] at h2
          omega
theorem js_R_str {t pr us : List Nat} {i z : Nat} {sk ns : List (Nat × Nat)} {g g2 fS fE fH fO fB : Nat → Int32} (hb : js_by t) (hR : js_R t i pr sk ns g fS fE fH fO fB) (hx : js_tx g2 (pr ++ [34] ++ us.flatMap js_pu ++ [34])) (h : js_st t 4096 (i + 1) [] = .inr (us, z)) : js_R t z (pr ++ [34] ++ us.flatMap js_pu ++ [34]) sk ns g2 fS fE fH fO fB := by
  have h1 := js_st_len hb h
  have h2 := hR.2.1
  rw [List.append_assoc, List.append_assoc] at hx ⊢
  refine hR.more hx h1.1 ?_
  simp only [List.length_append, List.length_cons, List.length_nil, List.flatMap_nil] at h1 ⊢
  omega
theorem js_R_num {t pr : List Nat} {i z : Nat} {sk ns : List (Nat × Nat)} {g g2 fS fE fH fO fB : Nat → Int32} (hR : js_R t i pr sk ns g fS fE fH fO fB) (hx : js_tx g2 (pr ++ js_sl t (js_ns t i) (z - js_ns t i))) (h : js_nu t i = .inr z) : js_R t z (pr ++ js_sl t (js_ns t i) (z - js_ns t i)) sk ns g2 fS fE fH fO fB := by
  rw [js_nu] at h
  split at h
  · cases h
  · rename_i hd
    split at h
    · cases h
    · split at h
      · cases h
        have h1 := js_ne_le hd
        have h2 := js_ns_ge t i
        have h3 := hR.2.1
        refine hR.more hx h1.2 ?_
        rw [List.length_append, js_sl_len (by omega)]
        omega
      · cases h
