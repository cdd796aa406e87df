-- ===== printing, as the reference does it =====
theorem js_pu_h {u : Nat} (h8 : u ≠ 8) (h9 : u ≠ 9) (h10 : u ≠ 10) (h12 : u ≠ 12) (h13 : u ≠ 13) (h34 : u ≠ 34) (h92 : u ≠ 92) (hu : u < 65536) : fn_Rd_signOfUnit (nI u) = -1 := by
  have g : ∀ c, c < 128 → u ≠ c → ¬ nI u = nI c := fun c hc h e => h ((nI_eq (by omega) (by omega)).mp e)
  unfold fn_Rd_signOfUnit
  rw [if_neg (show ¬ nI u = 8 from g 8 (by decide) h8), if_neg (show ¬ nI u = 9 from g 9 (by decide) h9), if_neg (show ¬ nI u = 10 from g 10 (by decide) h10), if_neg (show ¬ nI u = 12 from g 12 (by decide) h12), if_neg (show ¬ nI u = 13 from g 13 (by decide) h13), if_neg (show ¬ nI u = 34 from g 34 (by decide) h34), if_neg (show ¬ nI u = 92 from g 92 (by decide) h92)]
theorem js_pu_x {u : Nat} (h : fn_Rd_signOfUnit (nI u) = -1) (h2 : u < 32 ∨ 126 < u) : js_pu u = [92, 117, js_hexc (u / 4096 % 16), js_hexc (u / 256 % 16), js_hexc (u / 16 % 16), js_hexc (u % 16)] := by rw [js_pu, if_pos h, if_pos h2]
theorem js_pu_p {u : Nat} (h : fn_Rd_signOfUnit (nI u) = -1) (h2 : ¬ (u < 32 ∨ 126 < u)) : js_pu u = [u] := by rw [js_pu, if_pos h, if_neg h2]
theorem js_pu_c : js_pu 8 = [92, 98] ∧ js_pu 9 = [92, 116] ∧ js_pu 10 = [92, 110] ∧ js_pu 12 = [92, 102] ∧ js_pu 13 = [92, 114] ∧ js_pu 34 = [92, 34] ∧ js_pu 92 = [92, 92] := by decide +kernel
theorem js_sc6 : ∀ d, d < 16 → js_sc 6 d = nI (js_hexc d) := by decide +kernel
theorem js_sc_b : ∀ k, k < 7 → ∀ j, j < jz_len.getD k 0 → ∃ b, b < 256 ∧ js_sc k j = nI b ∧ (js_wd k)[j]? = some b := by decide +kernel
theorem js_wd_len : ∀ k, k < 7 → (js_wd k).length = jz_len.getD k 0 := by decide +kernel
-- the powers of ten
def js_tp : Nat → Nat
  | 0 => 0
  | j + 1 => 10 ^ j
def js_dm : Nat → Nat → List Nat
  | 0, _ => []
  | j + 1, x => js_dl j x
theorem js_tp_d : ∀ s, js_tp (s + 1) / 10 = js_tp s
  | 0 => rfl
  | j + 1 => by
    show 10 ^ (j + 1) / 10 = 10 ^ j
    rw [Nat.pow_succ]; omega
theorem js_dm_s (s x : Nat) : js_dm (s + 1) x = (48 + x / js_tp (s + 1) % 10) :: js_dm s x := by
  cases s with
  | zero => show js_dl 0 x = _; rw [js_dl]; show [48 + x % 10] = [48 + x / 1 % 10]; rw [Nat.div_one]
  | succ s => rfl
theorem js_tp_b {s : Nat} (h : s ≤ 16) : js_tp s ≤ 10 ^ 15 := by
  cases s with
  | zero => exact Nat.zero_le _
  | succ j => exact Nat.pow_le_pow_right (by decide) (by omega)
theorem js_l_10 (a : Nat) : js_l a * 10 = js_l (a * 10) := by
  unfold js_l
  rw [Int64.ofNat_mul]
  rfl
theorem js_nvi_toInt {neg : Bool} {a : Nat} (h : a < 2 ^ 62) : (js_nvi neg a).toInt = if neg = true then - (a : Int) else (a : Int) := by
  cases neg with
  | false => exact js_l_toInt (by omega)
  | true =>
    show (- js_l a).toInt = _
    rw [Int64.toInt_neg, js_l_toInt (by omega), Int.bmod_eq_of_le (by omega) (by omega)]
    rfl
theorem js_nvi_rem {neg : Bool} {a : Nat} (h : a < 2 ^ 60) : js_nvi neg a - js_nvi neg a / 10 * 10 = js_nvi neg (a % 10) := by
  have e10 : (10 : Int64) = js_l 10 := rfl
  rw [e10, js_nvi_div (by omega) (by decide), ← e10]
  apply Int64.toInt_inj.mp
  rw [Int64.toInt_sub, Int64.toInt_mul, js_nvi_toInt (by omega), js_nvi_toInt (by omega), js_nvi_toInt (by omega)]
  have e : (10 : Int64).toInt = 10 := rfl
  rw [e]
  cases neg with
  | false =>
    show (((a : Int) - (((a / 10 : Nat) : Int) * 10).bmod (2 ^ 64)).bmod (2 ^ 64)) = ((a % 10 : Nat) : Int)
    rw [Int.bmod_eq_of_le (n := ((a / 10 : Nat) : Int) * 10) (by omega) (by omega), Int.bmod_eq_of_le (by omega) (by omega)]
    omega
  | true =>
    show ((-(a : Int) - ((-((a / 10 : Nat) : Int)) * 10).bmod (2 ^ 64)).bmod (2 ^ 64)) = -((a % 10 : Nat) : Int)
    rw [Int.bmod_eq_of_le (n := (-((a / 10 : Nat) : Int)) * 10) (by omega) (by omega), Int.bmod_eq_of_le (by omega) (by omega)]
    omega
theorem js_l_i {y : Nat} (h : y < 10) : (js_l y).toInt32 = nI y := by
  have : ∀ y, y < 10 → (js_l y).toInt32 = nI y := by decide +kernel
  exact this y h
theorem js_nvi_abs {neg : Bool} {y : Nat} (h : y < 10) : (js_nvi neg y < 0 → - js_nvi neg y = js_l y) ∧ (¬ js_nvi neg y < 0 → js_nvi neg y = js_l y) := by
  have : ∀ neg : Bool, ∀ y, y < 10 → (js_nvi neg y < 0 → - js_nvi neg y = js_l y) ∧ (¬ js_nvi neg y < 0 → js_nvi neg y = js_l y) := by decide +kernel
  exact this neg y h
theorem js_nvi_ge {neg : Bool} {a : Nat} (h : a < 2 ^ 60) : (10 ≤ js_nvi neg a ↔ neg = false ∧ 10 ≤ a) ∧ (js_nvi neg a ≤ -10 ↔ neg = true ∧ 10 ≤ a) ∧ (js_nvi neg a < 0 ↔ neg = true ∧ 0 < a) := by
  have h1 : (10 : Int64).toInt = 10 := rfl
  have h2 : (-10 : Int64).toInt = -10 := rfl
  have h3 : (0 : Int64).toInt = 0 := rfl
  rw [Int64.le_iff_toInt_le, Int64.le_iff_toInt_le, Int64.lt_iff_toInt_lt, js_nvi_toInt (by omega), h1, h2, h3]
  cases neg with
  | false => simp; omega
  | true => simp; omega
theorem js_fm_le : ∀ (us : List Nat) (i : Nat), ((us.take i).flatMap js_pu).length ≤ (us.flatMap js_pu).length
  | [], i => by simp
  | u :: us, 0 => by simp
  | u :: us, i + 1 => by
    have := js_fm_le us i
    rw [List.take_succ_cons, List.flatMap_cons, List.flatMap_cons, List.length_append, List.length_append]
    omega
theorem js_fm_s {us : List Nat} {i : Nat} (h : i < us.length) : (us.take (i + 1)).flatMap js_pu = (us.take i).flatMap js_pu ++ js_pu us[i] := by
  rw [List.take_add_one, List.getElem?_eq_getElem h, List.flatMap_append]
  simp
theorem js_cm_snoc (l : List (List Nat)) (x : List Nat) : js_cm (l ++ [x]) = js_cm l ++ ((if l.length = 0 then [] else [44]) ++ x) := by
  induction l with
  | nil => simp [js_cm]
  | cons y l ih =>
    rw [List.cons_append, js_cm_cons _ _ (by simp), ih]
    by_cases q : l = []
    · rw [q]; simp [js_cm]
    · rw [js_cm_cons y l q]
      have hl : ¬ l.length = 0 := fun e => q (List.eq_nil_of_length_eq_zero e)
      rw [if_neg hl, if_neg (by simp)]
      simp
/-- the first i members, as they are printed -/
def js_ci {n : Nat} (b : Bool) (l : List (List Nat × js_J n)) (i : Nat) : List Nat := js_cm ((l.take i).map fun q => js_mp b q.1 (js_pr n q.2))
theorem js_ci_s {n : Nat} {b : Bool} {l : List (List Nat × js_J n)} {i : Nat} (h : i < l.length) : js_ci b l (i + 1) = js_ci b l i ++ ((if i = 0 then [] else [44]) ++ js_mp b l[i].1 (js_pr n l[i].2)) := by
  unfold js_ci
  rw [List.take_add_one, List.getElem?_eq_getElem h]
  simp only [Option.toList_some, List.map_append, List.map_singleton]
  rw [js_cm_snoc, List.length_map, List.length_take]
  rw [Nat.min_eq_left (Nat.le_of_lt h)]
theorem js_ci_0 {n : Nat} (b : Bool) (l : List (List Nat × js_J n)) : js_ci b l 0 = [] := by
  unfold js_ci
  rw [List.take_zero]
  rfl
theorem js_ci_le {n : Nat} (b : Bool) (l : List (List Nat × js_J n)) : ∀ (j i : Nat), i + j = l.length → (js_ci b l i).length ≤ (js_ci b l l.length).length
  | 0, i, h => by rw [show i = l.length by omega]; exact Nat.le_refl _
  | j + 1, i, h => by
    have h1 := js_ci_le b l j (i + 1) (by omega)
    rw [js_ci_s (by omega), List.length_append] at h1
    omega
theorem js_ci_all {n : Nat} (b : Bool) (l : List (List Nat × js_J n)) : js_pr (n + 1) (Sum.inr (b, l)) = js_opn b :: (js_ci b l l.length ++ [js_cls2 b]) := by
  unfold js_ci
  rw [List.take_length]
  rfl
