
-- ===== the reader's own functions, as its code has them =====
/-- four hex digits: the unit, or -1 (the text ends), or -2 (no digit) -/
def js_hx (t : List Nat) : Nat → Nat → Int32 → Int32
  | 0, _, acc => acc
  | k + 1, p, acc => if js_b t p = -1 then -1 else if fn_Rd_hexDigit (js_b t p) = -1 then -2 else js_hx t k (p + 1) (acc * 16 + fn_Rd_hexDigit (js_b t p))
def js_hok (t : List Nat) : Nat → Nat → Bool
  | 0, _ => true
  | k + 1, p => if js_b t p = -1 then false else if fn_Rd_hexDigit (js_b t p) = -1 then false else js_hok t k (p + 1)
def js_ua (t : List Nat) (p : Nat) : Int32 :=
  if js_b t p = -1 then -1
  else if js_b t p = 92 then
    if js_b t (p + 1) = -1 then -1 else if js_b t (p + 1) = 117 then js_hx t 4 (p + 2) 0 else fn_Rd_unitOfSign (js_b t (p + 1))
  else if js_b t p < 32 then -2 else if 126 < js_b t p then -2 else if js_b t p = 34 then -2 else js_b t p
def js_ub (t : List Nat) (p : Nat) : Nat :=
  if js_b t p = -1 then 1
  else if js_b t p = 92 then
    if js_b t (p + 1) = -1 then 2 else if js_b t (p + 1) = 117 then (if js_hok t 4 (p + 2) = true then 6 else 2) else 2
  else 1
/-- blanks from p on -/
def js_skip (t : List Nat) : Nat → Nat → Nat
  | 0, p => p
  | n + 1, p => if fn_Rd_isBlank (js_b t p) = 0 then p else js_skip t n (p + 1)

def js_hexc (d : Nat) : Nat := if d < 10 then 48 + d else 87 + d
/-- a UNIT as it is printed -/
def js_pu (u : Nat) : List Nat := if fn_Rd_signOfUnit (nI u) = -1 then (if u < 32 ∨ 126 < u then [92, 117, js_hexc (u / 4096 % 16), js_hexc (u / 256 % 16), js_hexc (u / 16 % 16), js_hexc (u % 16)] else [u]) else [92, (fn_Rd_signOfUnit (nI u)).toBitVec.toNat % 256]
theorem js_hexc_lo {d : Nat} (h : d < 10) : (48 : Int32) + nI d = nI (js_hexc d) := by rw [js_hexc, if_pos h]; exact nI_add 48 d
theorem js_hexc_hi {d : Nat} (h : ¬ d < 10) : (97 : Int32) + nI d - 10 = nI (js_hexc d) := by
  rw [js_hexc, if_neg h, show (97 : Int32) = nI 97 from rfl, nI_add, show (10 : Int32) = nI 10 from rfl, pk_sub (by omega)]
  congr 1
  omega
theorem js_hexc_lt {d : Nat} (h : d < 16) : js_hexc d < 256 := by unfold js_hexc; split <;> omega
theorem js_nib {u : Nat} (hu : u < 65536) (s : Int32) (k : Nat) (hs : ((s &&& 31).toBitVec.smod 32).toNat = k) : (nI u >>> (s &&& 31)) &&& 15 = nI (u / 2 ^ k % 16) := by
  rw [pk_shrN (by omega) _ k hs]
  exact pk_andN (by have := Nat.div_le_self u (2 ^ k); omega) 4 (by decide)
theorem js_tn {n : Nat} (h : n < 256) : (nI n).toBitVec.toNat % 256 = n := by rw [pk_tn (by omega)]; omega

def js_by (t : List Nat) : Prop := ∀ x ∈ t, x < 256
theorem js_tx.by {f : Nat → Int32} {t : List Nat} (h : js_tx f t) : js_by t := fun x hx => by
  obtain ⟨j, hj, rfl⟩ := List.getElem_of_mem hx
  exact (h j hj).1
theorem js_b_cases {t : List Nat} (hb : js_by t) (p : Nat) : (t.length ≤ p ∧ js_b t p = -1) ∨ ∃ b, b < 256 ∧ t[p]? = some b ∧ js_b t p = nI b := by
  rcases Nat.lt_or_ge p t.length with q | q
  · exact Or.inr ⟨t[p], hb _ (List.getElem_mem q), List.getElem?_eq_getElem q, by rw [js_b, List.getElem?_eq_getElem q]⟩
  · exact Or.inl ⟨q, by rw [js_b, List.getElem?_eq_none q]⟩
theorem js_hd : ∀ b, b < 256 → (fn_Rd_hexDigit (nI b) = -1 ∨ ∃ d, d < 16 ∧ fn_Rd_hexDigit (nI b) = nI d) := by decide +kernel
theorem js_us : ∀ b, b < 256 → (fn_Rd_unitOfSign (nI b) = -2 ∨ ∃ d, d < 128 ∧ fn_Rd_unitOfSign (nI b) = nI d) := by decide +kernel
theorem js_hx_cases {t : List Nat} (hb : js_by t) : ∀ (k p a : Nat), js_hx t k p (nI a) = -1 ∨ js_hx t k p (nI a) = -2 ∨ ∃ u, u < (a + 1) * 16 ^ k ∧ js_hx t k p (nI a) = nI u
  | 0, p, a => Or.inr (Or.inr ⟨a, by omega, rfl⟩)
  | k + 1, p, a => by
    rw [js_hx]
    rcases js_b_cases hb p with ⟨-, h⟩ | ⟨b, hb256, -, h⟩
    · rw [if_pos h]; exact Or.inl rfl
    · rw [h, if_neg (by intro q; have := (nI_of (x := nI b) (nI_pos (by omega))); rw [q] at this; obtain ⟨j, hj, e⟩ := this; exact absurd e (by
        intro e2
        have h2 := nI_pos (n := j) hj
        rw [← e2] at h2
        exact h2 (by decide)))]
      rcases js_hd b hb256 with h2 | ⟨d, hd, h2⟩
      · rw [h2, if_pos rfl]; exact Or.inr (Or.inl rfl)
      · rw [h2]
        by_cases hm : nI d = -1
        · rw [if_pos hm]; exact Or.inr (Or.inl rfl)
        · rw [if_neg hm, show (16 : Int32) = nI 16 from rfl, pk_mul, nI_add]
          rcases js_hx_cases hb k (p + 1) (a * 16 + d) with q | q | ⟨u, hu, q⟩
          · exact Or.inl q
          · exact Or.inr (Or.inl q)
          · refine Or.inr (Or.inr ⟨u, Nat.lt_of_lt_of_le hu ?_, q⟩)
            rw [Nat.pow_succ, Nat.mul_comm (16 ^ k) 16, ← Nat.mul_assoc]
            exact Nat.mul_le_mul_right _ (by omega)
theorem js_nm1 {b : Nat} (h : b < 2 ^ 31) : ¬ nI b = -1 := fun e => nI_pos h (by rw [e]; decide)
theorem js_nm2 {b : Nat} (h : b < 2 ^ 31) : ¬ nI b = -2 := fun e => nI_pos h (by rw [e]; decide)
/-- a unit, or -1, or -2 -/
theorem js_ua_cases {t : List Nat} (hb : js_by t) (p : Nat) : js_ua t p = -1 ∨ js_ua t p = -2 ∨ ∃ u, u < 65536 ∧ js_ua t p = nI u := by
  rw [js_ua]
  rcases js_b_cases hb p with ⟨-, h⟩ | ⟨b, hb256, -, h⟩
  · rw [if_pos h]; exact Or.inl rfl
  · rw [h, if_neg (js_nm1 (by omega))]
    split
    · rcases js_b_cases hb (p + 1) with ⟨-, h1⟩ | ⟨b1, hb1, -, h1⟩
      · rw [if_pos h1]; exact Or.inl rfl
      · rw [h1, if_neg (js_nm1 (by omega))]
        split
        · rcases js_hx_cases hb 4 (p + 2) 0 with q | q | ⟨u, hu, q⟩
          · exact Or.inl q
          · exact Or.inr (Or.inl q)
          · exact Or.inr (Or.inr ⟨u, by omega, q⟩)
        · rcases js_us b1 hb1 with q | ⟨d, hd, q⟩
          · exact Or.inr (Or.inl q)
          · exact Or.inr (Or.inr ⟨d, by omega, q⟩)
    · split
      · exact Or.inr (Or.inl rfl)
      · split
        · exact Or.inr (Or.inl rfl)
        · split
          · exact Or.inr (Or.inl rfl)
          · exact Or.inr (Or.inr ⟨b, by omega, rfl⟩)
theorem js_ua_nat {t : List Nat} (hb : js_by t) {p : Nat} (h : ¬ js_ua t p < 0) : ∃ u, u < 65536 ∧ js_ua t p = nI u ∧ (js_ua t p).toNatClampNeg = u := by
  rcases js_ua_cases hb p with q | q | ⟨u, hu, q⟩
  · exact absurd (by rw [q]; decide) h
  · exact absurd (by rw [q]; decide) h
  · exact ⟨u, hu, q, by rw [q]; exact nI_clamp (by omega)⟩
theorem js_second {x : Int32} (h : ¬ fn_Rd_isSecondOfTwo x = 0) : ¬ x < 0 ∧ ¬ x = -1 := by
  unfold fn_Rd_isSecondOfTwo at h
  split at h
  · exact absurd rfl h
  · rename_i q
    refine ⟨fun z => q (Int32.lt_trans z (by decide)), fun z => q (by rw [z]; decide)⟩
theorem js_first {x : Int32} (h : ¬ fn_Rd_isFirstOfTwo x = 0) : ¬ x < 0 ∧ ¬ x = -1 := by
  unfold fn_Rd_isFirstOfTwo at h
  split at h
  · exact absurd rfl h
  · rename_i q
    refine ⟨fun z => q (Int32.lt_trans z (by decide)), fun z => q (by rw [z]; decide)⟩
theorem js_ub_pos (t : List Nat) (p : Nat) : 1 ≤ js_ub t p ∧ js_ub t p ≤ 6 := by
  unfold js_ub
  repeat' split
  all_goals omega
theorem js_hx_hok {t : List Nat} : ∀ (k p : Nat) (a : Int32), ¬ js_hok t k p = true → js_hx t k p a = -1 ∨ js_hx t k p a = -2
  | 0, p, a, h => absurd rfl h
  | k + 1, p, a, h => by
    rw [js_hx]
    rw [js_hok] at h
    split
    · exact Or.inl rfl
    · rename_i h1
      rw [if_neg h1] at h
      split
      · exact Or.inr rfl
      · rename_i h2
        rw [if_neg h2] at h
        exact js_hx_hok k (p + 1) _ h
/-- printing a unit takes no more bytes than it had -/
theorem js_pu_16 : ∀ u, u < 128 → (js_pu u).length ≤ 6 := by decide +kernel
theorem js_pu_6 (u : Nat) : (js_pu u).length ≤ 6 := by
  unfold js_pu
  repeat' split
  all_goals simp
theorem js_pu_1 : ∀ b, b < 256 → ¬ nI b < 32 → ¬ 126 < nI b → ¬ nI b = 34 → ¬ nI b = 92 → (js_pu b).length ≤ 1 := by decide +kernel
theorem js_pu_2 : ∀ b, b < 256 → fn_Rd_unitOfSign (nI b) = -2 ∨ (js_pu (fn_Rd_unitOfSign (nI b)).toNatClampNeg).length ≤ 2 := by decide +kernel
theorem js_pu_len {t : List Nat} (hb : js_by t) {p : Nat} (h : ¬ js_ua t p < 0) : (js_pu (js_ua t p).toNatClampNeg).length ≤ js_ub t p := by
  rw [js_ub]
  rcases js_b_cases hb p with ⟨-, h0⟩ | ⟨b, hb256, -, h0⟩
  · exact absurd (by rw [js_ua, if_pos h0]; decide) h
  · rw [h0, if_neg (js_nm1 (by omega))]
    have e := js_ua.eq_def t p
    rw [h0, if_neg (js_nm1 (by omega))] at e
    split
    · rename_i h92
      rw [if_pos h92] at e
      rcases js_b_cases hb (p + 1) with ⟨-, h1⟩ | ⟨b1, hb1, -, h1⟩
      · rw [if_pos h1] at e
        exact absurd (by rw [e]; decide) h
      · rw [h1, if_neg (js_nm1 (by omega))] at e ⊢
        split
        · rename_i h117
          rw [if_pos h117] at e
          split
          · exact js_pu_6 _
          · rename_i hno
            exfalso
            apply h
            rw [e]
            rcases js_hx_hok 4 (p + 2) 0 hno with q | q <;> rw [q] <;> decide
        · rename_i h117
          rw [if_neg h117] at e
          rw [e] at h ⊢
          rcases js_pu_2 b1 hb1 with q | q
          · rw [q] at h; exact absurd (by decide) h
          · exact q
    · rename_i h92
      rw [if_neg h92] at e
      split at e
      · exact absurd (by rw [e]; decide) h
      · split at e
        · exact absurd (by rw [e]; decide) h
        · split at e
          · exact absurd (by rw [e]; decide) h
          · rw [e, nI_clamp (by omega)]
            exact js_pu_1 b hb256 (by assumption) (by assumption) (by assumption) h92
/-- what a CHARACTER at p is: none (the place that is told), or its units and how many bytes it has -/
def js_ch (t : List Nat) (p : Nat) : Nat ⊕ (List Nat × Nat) :=
  if fn_Rd_isFirstOfTwo (js_ua t p) = 0 then
    if js_ua t p < 0 then .inl (if js_ua t p = -1 then t.length else p)
    else if fn_Rd_isSecondOfTwo (js_ua t p) = 0 then .inr ([(js_ua t p).toNatClampNeg], js_ub t p) else .inl p
  else if fn_Rd_isSecondOfTwo (js_ua t (p + js_ub t p)) = 0 then .inl (if js_ua t (p + js_ub t p) = -1 then t.length else p)
  else .inr ([(js_ua t p).toNatClampNeg, (js_ua t (p + js_ub t p)).toNatClampNeg], js_ub t p + js_ub t (p + js_ub t p))
