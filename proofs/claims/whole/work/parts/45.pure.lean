-- ===== what JsonShelf's own methods reckon =====
def js_kd (b : Int32) : Int32 := if b = 34 then 4 else if b = 91 then 5 else if b = 102 then 1 else if b = 110 then 0 else if b = 116 then 2 else if b = 123 then 6 else 3
/-- is it the second unit of two that begins at i -/
def js_sec (t : List Nat) (i : Nat) : Prop := js_b t i = 92 ∧ js_b t (i + 1) = 117 ∧ js_b t (i + 2) = 100 ∧ ¬ js_b t (i + 3) < 99
def js_stp (t : List Nat) (i : Nat) : Nat := if js_b t i = 92 then (if js_b t (i + 1) = 117 then 6 else 2) else 1
noncomputable def js_cc (t : List Nat) : Nat → Nat → Nat → Nat
  | 0, _, c => c
  | n + 1, i, c => if t.length - 1 ≤ i then c else js_cc t n (i + js_stp t i) (js_ifp (js_sec t i) c (c + 1))
theorem js_cc_end {t : List Nat} {n i c : Nat} (h : t.length - 1 ≤ i) : js_cc t n i c = c := by
  cases n with
  | zero => rfl
  | succ n => rw [js_cc, if_pos h]
def js_nf (t : List Nat) : Nat → Nat → Int64 → Int64
  | 0, _, a => a
  | n + 1, i, a => js_nf t n (i + 1) (a * 10 + (js_b t i - 48).toInt64)
def js_nof (t : List Nat) : Int64 := if js_kd (js_b t 0) = 3 then (if js_b t 0 = 45 then - js_nf t (t.length - 1) 1 0 else js_nf t t.length 0 0) else 0
def js_w8 (t : List Nat) (k : Nat) : Nat → Int64
  | 0 => 0
  | j + 1 => (js_w8 t k j <<< ((8 : Int32).toInt64 &&& 63)) ||| (if js_b t (k + j) = -1 then 0 else js_b t (k + j)).toInt64
theorem js_i4_len (v : Int32) : (js_i4 v).length = 4 := rfl
