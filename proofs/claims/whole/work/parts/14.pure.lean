
-- ===== the reader's own functions, as its code has them =====
/-- four hex digits: the unit, or -1 (the text ends), or -2 (no digit) -/
def js_hx (t : List Nat) : Nat → Nat → Int32 → Int32
  | 0, _, acc => acc
  | k + 1, p, acc => if js_b t p = -1 then -1 else if fn_Rd_hexDigit (js_b t p) = -1 then -2 else js_hx t k (p + 1) (acc * 16 + fn_Rd_hexDigit (js_b t p))
def js_hok (t : List Nat) : Nat → Nat → Bool
  | 0, _ => true
  | k + 1, p => if js_b t p = -1 then false else if fn_Rd_hexDigit (js_b t p) = -1 then false else js_hok t k (p + 1)
def js_ua (t : List Nat) (p : Nat) : Int32 :=
  if js_b t p = -1 then -1
  else if js_b t p = 92 then
    if js_b t (p + 1) = -1 then -1 else if js_b t (p + 1) = 117 then js_hx t 4 (p + 2) 0 else fn_Rd_unitOfSign (js_b t (p + 1))
  else if js_b t p < 32 then -2 else if 126 < js_b t p then -2 else if js_b t p = 34 then -2 else js_b t p
def js_ub (t : List Nat) (p : Nat) : Nat :=
  if js_b t p = -1 then 1
  else if js_b t p = 92 then
    if js_b t (p + 1) = -1 then 2 else if js_b t (p + 1) = 117 then (if js_hok t 4 (p + 2) = true then 6 else 2) else 2
  else 1
/-- blanks from p on -/
def js_skip (t : List Nat) : Nat → Nat → Nat
  | 0, p => p
  | n + 1, p => if fn_Rd_isBlank (js_b t p) = 0 then p else js_skip t n (p + 1)

def js_hexc (d : Nat) : Nat := if d < 10 then 48 + d else 87 + d
/-- a UNIT as it is printed -/
def js_pu (u : Nat) : List Nat := if fn_Rd_signOfUnit (nI u) = -1 then (if u < 32 ∨ 126 < u then [92, 117, js_hexc (u / 4096 % 16), js_hexc (u / 256 % 16), js_hexc (u / 16 % 16), js_hexc (u % 16)] else [u]) else [92, (fn_Rd_signOfUnit (nI u)).toBitVec.toNat % 256]
theorem js_hexc_lo {d : Nat} (h : d < 10) : (48 : Int32) + nI d = nI (js_hexc d) := by rw [js_hexc, if_pos h]; exact nI_add 48 d
theorem js_hexc_hi {d : Nat} (h : ¬ d < 10) : (97 : Int32) + nI d - 10 = nI (js_hexc d) := by
  rw [js_hexc, if_neg h, show (97 : Int32) = nI 97 from rfl, nI_add, show (10 : Int32) = nI 10 from rfl, pk_sub (by omega)]
  congr 1
  omega
theorem js_hexc_lt {d : Nat} (h : d < 16) : js_hexc d < 256 := by unfold js_hexc; split <;> omega
theorem js_nib {u : Nat} (hu : u < 65536) (s : Int32) (k : Nat) (hs : ((s &&& 31).toBitVec.smod 32).toNat = k) : (nI u >>> (s &&& 31)) &&& 15 = nI (u / 2 ^ k % 16) := by
  rw [pk_shrN (by omega) _ k hs]
  exact pk_andN (by have := Nat.div_le_self u (2 ^ k); omega) 4 (by decide)
theorem js_tn {n : Nat} (h : n < 256) : (nI n).toBitVec.toNat % 256 = n := by rw [pk_tn (by omega)]; omega
