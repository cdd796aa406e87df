
-- ===== the reader's own functions, as its code has them =====
/-- four hex digits: the unit, or -1 (the text ends), or -2 (no digit) -/
def js_hx (t : List Nat) : Nat → Nat → Int32 → Int32
  | 0, _, acc => acc
  | k + 1, p, acc => if js_b t p = -1 then -1 else if fn_Rd_hexDigit (js_b t p) = -1 then -2 else js_hx t k (p + 1) (acc * 16 + fn_Rd_hexDigit (js_b t p))
def js_hok (t : List Nat) : Nat → Nat → Bool
  | 0, _ => true
  | k + 1, p => if js_b t p = -1 then false else if fn_Rd_hexDigit (js_b t p) = -1 then false else js_hok t k (p + 1)
def js_ua (t : List Nat) (p : Nat) : Int32 :=
  if js_b t p = -1 then -1
  else if js_b t p = 92 then
    if js_b t (p + 1) = -1 then -1 else if js_b t (p + 1) = 117 then js_hx t 4 (p + 2) 0 else fn_Rd_unitOfSign (js_b t (p + 1))
  else if js_b t p < 32 then -2 else if 126 < js_b t p then -2 else if js_b t p = 34 then -2 else js_b t p
def js_ub (t : List Nat) (p : Nat) : Nat :=
  if js_b t p = -1 then 1
  else if js_b t p = 92 then
    if js_b t (p + 1) = -1 then 2 else if js_b t (p + 1) = 117 then (if js_hok t 4 (p + 2) = true then 6 else 2) else 2
  else 1
/-- blanks from p on -/
def js_skip (t : List Nat) : Nat → Nat → Nat
  | 0, p => p
  | n + 1, p => if fn_Rd_isBlank (js_b t p) = 0 then p else js_skip t n (p + 1)
