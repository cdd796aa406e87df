-- ===== numbers, as the reference reads them =====
theorem js_tgn_snoc : ∀ (l : List Nat) (d s : Nat), js_tgn (l ++ [d]) s = if js_M < js_tgn l s then js_tgn l s else js_tgn l s * 10 + (d - 48)
  | [], d, s => rfl
  | x :: l, d, s => by
    rw [List.cons_append, js_tgn, js_tgn]
    by_cases q : js_M < s
    · rw [if_pos q, if_pos q, if_pos q]
    · rw [if_neg q, if_neg q]
      exact js_tgn_snoc l d _
theorem js_dg_end {t : List Nat} : ∀ (n p : Nat), t.length ≤ p + n → fn_Rd_isDigit (js_b t (js_dg t n p)) = 0
  | 0, p, h => by rw [js_dg, js_b, List.getElem?_eq_none (by omega)]; decide
  | n + 1, p, h => by
    rw [js_dg]
    split
    · assumption
    · exact js_dg_end n (p + 1) (by omega)
/-- the number, no further once it is too great, of the digits up to i -/
def js_S (t : List Nat) (p i : Nat) : Nat := js_tgn (js_sl t (js_nd t p) (i - js_nd t p)) 0
theorem js_ne_dig {t : List Nat} {p j : Nat} (hd : ¬ fn_Rd_isDigit (js_b t (js_nd t p)) = 0) (h1 : js_nd t p ≤ j) (h2 : j < js_ne t p) : ¬ fn_Rd_isDigit (js_b t j) = 0 := by
  by_cases e : j = js_nd t p
  · rw [e]; exact hd
  · rw [js_ne] at h2
    split at h2
    · omega
    · exact js_dg_dig _ _ j h1 h2
theorem js_ne_end {t : List Nat} {p : Nat} (h48 : ¬ js_b t (js_nd t p) = 48) : fn_Rd_isDigit (js_b t (js_ne t p)) = 0 := by
  rw [js_ne, if_neg h48]
  exact js_dg_end _ _ (by omega)
theorem js_S_dig {t : List Nat} (hb : js_by t) {p i : Nat} (hd : ¬ fn_Rd_isDigit (js_b t (js_nd t p)) = 0) (hi : i ≤ js_ne t p) : js_dig (js_sl t (js_nd t p) (i - js_nd t p)) := js_sl_dig hb (fun j h1 h2 => js_ne_dig hd h1 (by omega))
theorem js_S_b {t : List Nat} (hb : js_by t) {p i : Nat} (hd : ¬ fn_Rd_isDigit (js_b t (js_nd t p)) = 0) (hi : i ≤ js_ne t p) : js_S t p i ≤ 10 * js_M + 9 := js_tgn_le _ _ (js_S_dig hb hd hi) (by omega)
theorem js_S_s {t : List Nat} {p i d : Nat} (h1 : js_nd t p ≤ i) (h : t[i]? = some d) : js_S t p (i + 1) = if js_M < js_S t p i then js_S t p i else js_S t p i * 10 + (d - 48) := by
  unfold js_S
  rw [show i + 1 - js_nd t p = (i - js_nd t p) + 1 by omega, js_sl_s (b := d) (by rw [show js_nd t p + (i - js_nd t p) = i by omega]; exact h), js_tgn_snoc]
theorem js_nu_cases {t : List Nat} (hb : js_by t) {p : Nat} {R : Nat ⊕ Nat} (h : js_nu t p = R) : (fn_Rd_isDigit (js_b t (js_nd t p)) = 0 ∧ R = .inl (js_nd t p)) ∨ (¬ fn_Rd_isDigit (js_b t (js_nd t p)) = 0 ∧ ((js_M < js_S t p (js_ne t p) ∧ R = .inl p) ∨ (js_S t p (js_ne t p) ≤ js_M ∧ ¬ fn_Rd_isFraction (js_b t (js_ne t p)) = 0 ∧ R = .inl p) ∨ (js_S t p (js_ne t p) ≤ js_M ∧ fn_Rd_isFraction (js_b t (js_ne t p)) = 0 ∧ R = .inr (js_ne t p)))) := by
  rw [js_nu] at h
  by_cases hd : fn_Rd_isDigit (js_b t (js_nd t p)) = 0
  · rw [if_pos hd] at h
    exact Or.inl ⟨hd, h.symm⟩
  · rw [if_neg hd] at h
    have h1 := js_ne_le hd
    have e0 : (0 : Int64) = js_l 0 := rfl
    have htg := js_tg_sl (t := t) (p := js_nd t p) (n := js_ne t p - js_nd t p) (s := 0) (by omega) (js_S_dig hb hd (Nat.le_refl _)) (by omega)
    have hle := js_S_b hb hd (Nat.le_refl _)
    rw [e0, htg] at h
    refine Or.inr ⟨hd, ?_⟩
    have hlt : (9007199254740991 < js_l (js_tgn (js_sl t (js_nd t p) (js_ne t p - js_nd t p)) 0)) ↔ js_M < js_S t p (js_ne t p) := js_l_lt (a := js_M) (by decide) (by unfold js_M at hle; show js_S t p (js_ne t p) < _; omega)
    by_cases q : js_M < js_S t p (js_ne t p)
    · rw [if_pos (hlt.mpr q)] at h
      exact Or.inl ⟨q, h.symm⟩
    · rw [if_neg (fun z => q (hlt.mp z))] at h
      by_cases w : fn_Rd_isFraction (js_b t (js_ne t p)) = 0
      · rw [if_pos w] at h
        exact Or.inr (Or.inr ⟨by omega, w, h.symm⟩)
      · rw [if_neg w] at h
        exact Or.inr (Or.inl ⟨by omega, w, h.symm⟩)
theorem js_l_step {s d : Nat} (h1 : 48 ≤ d) (h2 : d ≤ 57) : (10 : Int64) * js_l s + (nI d).toInt64 - 48 = js_l (s * 10 + (d - 48)) := by
  have e : ∀ d, d < 58 → 48 ≤ d → (nI d).toInt64 - 48 = js_l (d - 48) := by decide +kernel
  rw [← js_l_s, ← e d (by omega) h1, Int64.sub_eq_add_neg, Int64.sub_eq_add_neg, Int64.add_assoc, Int64.mul_comm]
theorem js_fr {x : Int32} (h : fn_Rd_isFraction x = 0) : ¬ x = 46 ∧ ¬ x = 101 ∧ ¬ x = 69 := by
  refine ⟨fun e => ?_, fun e => ?_, fun e => ?_⟩ <;> rw [e] at h <;> exact absurd h (by decide)
theorem js_fr2 {x : Int32} (h : ¬ fn_Rd_isFraction x = 0) (h1 : ¬ x = 46) (h2 : ¬ x = 101) : x = 69 := by
  unfold fn_Rd_isFraction at h
  rw [if_neg h1, if_neg h2] at h
  by_cases q : x = 69
  · exact q
  · rw [if_pos q] at h; exact absurd rfl h
theorem js_S0 {t : List Nat} (hb : js_by t) {p : Nat} (h48 : js_b t (js_nd t p) = 48) : js_ne t p = js_nd t p + 1 ∧ js_S t p (js_nd t p + 1) = 0 := by
  refine ⟨by rw [js_ne, if_pos h48], ?_⟩
  rcases js_b_cases hb (js_nd t p) with ⟨-, q⟩ | ⟨b, hb2, q0, q⟩
  · rw [q] at h48; exact absurd h48 (by decide)
  · have e : b = 48 := (nI_eq (b := 48) (by omega) (by decide)).mp (q.symm.trans h48)
    rw [js_S_s (Nat.le_refl _) q0, e]
    unfold js_S
    rw [Nat.sub_self, js_sl_0]
    rfl
theorem js_Snd {t : List Nat} (p : Nat) : js_S t p (js_nd t p) = 0 := by
  unfold js_S
  rw [Nat.sub_self, js_sl_0]
  rfl
/-- what was read, and what a node then holds -/
theorem js_nu_v {t : List Nat} (hb : js_by t) {p z : Nat} (h : js_nu t p = .inr z) : z = js_ne t p ∧ p + 1 ≤ z ∧ z ≤ t.length ∧ ∃ (neg : Bool) (v : Nat), v ≤ js_M ∧ (neg = true → 0 < v) ∧ js_sl t (js_ns t p) (z - js_ns t p) = js_sg neg ++ js_dec v ∧ (if js_b t p = 45 then - js_l (js_S t p (js_ne t p)) else js_l (js_S t p (js_ne t p))) = js_nvi neg v := by
  obtain ⟨h1, h2, h3, v, h4, h5, h6⟩ := js_nu_ok hb h
  have hs : js_l (js_S t p (js_ne t p)) = js_l v := by
    rcases js_nu_cases hb h with ⟨-, q⟩ | ⟨hd, -⟩
    · cases q
    · have e0 : (0 : Int64) = js_l 0 := rfl
      have hle := js_ne_le hd
      have htg := js_tg_sl (t := t) (p := js_nd t p) (n := js_ne t p - js_nd t p) (s := 0) (by omega) (js_S_dig hb hd (Nat.le_refl _)) (by omega)
      rw [e0, htg] at h5
      exact h5
  refine ⟨h1, h2, h3, ?_⟩
  rw [hs]
  rcases h6 with ⟨a, b, c⟩ | ⟨a, c⟩
  · exact ⟨true, v, h4, fun _ => b, c, by rw [if_pos a]; rfl⟩
  · refine ⟨false, v, h4, fun q => absurd q (by decide), c, ?_⟩
    by_cases q : js_b t p = 45
    · rw [if_pos q, a q]; rfl
    · rw [if_neg q]; rfl
