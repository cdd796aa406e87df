-- ===== characters of units =====
def js_cv : List Nat → Nat
  | [] => 0
  | [x] => x
  | x :: y :: _ => if 55296 ≤ x ∧ x ≤ 56319 then 65536 + (x - 55296) * 1024 + (y - 56320) else x
def js_cw : List Nat → Nat
  | x :: _ => if 55296 ≤ x ∧ x ≤ 56319 then 2 else 1
  | [] => 1
/-- the first character of units in pairs -/
theorem js_pa_c {l : List Nat} (h : js_pa false l) (hne : l ≠ []) : (∃ x r, l = x :: r ∧ ¬ js_hi x ∧ ¬ js_lo x ∧ x < 65536 ∧ js_pa false r) ∨ (∃ x y r, l = x :: y :: r ∧ js_hi x ∧ js_lo y ∧ js_pa false r) := by
  cases l with
  | nil => exact absurd rfl hne
  | cons x r =>
    by_cases hh : js_hi x
    · have h2 := h.2.2 true ⟨fun _ => rfl, fun _ => hh⟩
      cases r with
      | nil => cases h2
      | cons y r =>
        have hl : js_lo y := h2.2.1.mpr rfl
        exact Or.inr ⟨x, y, r, rfl, hh, hl, h2.2.2 false ⟨fun q => by unfold js_hi at q; unfold js_lo at hl; omega, fun q => by cases q⟩⟩
    · exact Or.inl ⟨x, r, rfl, hh, fun q => absurd (h.2.1.mp q) (by decide), h.1, h.2.2 false ⟨fun q => absurd q hh, fun q => by cases q⟩⟩
theorem js_cv_1 {x : Nat} {r : List Nat} (h : ¬ js_hi x) : js_cv (x :: r) = x ∧ js_cw (x :: r) = 1 := by
  constructor
  · cases r with
    | nil => rfl
    | cons y r => rw [js_cv, if_neg (show ¬ (55296 ≤ x ∧ x ≤ 56319) from h)]
  · rw [js_cw, if_neg (show ¬ (55296 ≤ x ∧ x ≤ 56319) from h)]
theorem js_cv_2 {x y : Nat} {r : List Nat} (h : js_hi x) : js_cv (x :: y :: r) = 65536 + (x - 55296) * 1024 + (y - 56320) ∧ js_cw (x :: y :: r) = 2 := by
  constructor
  · rw [js_cv, if_pos (show 55296 ≤ x ∧ x ≤ 56319 from h)]
  · rw [js_cw, if_pos (show 55296 ≤ x ∧ x ≤ 56319 from h)]
theorem js_cv_w {l : List Nat} (h : js_pa false l) (hne : l ≠ []) : js_cv l < 2 ^ 30 ∧ 1 ≤ js_cw l ∧ js_cw l ≤ l.length ∧ js_pa false (l.drop (js_cw l)) ∧ (65535 < js_cv l ↔ js_cw l = 2) ∧ js_cw l ≤ 2 := by
  rcases js_pa_c h hne with ⟨x, r, rfl, h1, h2, h3, h4⟩ | ⟨x, y, r, rfl, h1, h2, h3⟩
  · have e := js_cv_1 (r := r) h1
    rw [e.1, e.2]
    exact ⟨by omega, by omega, by simp, h4, by omega, by omega⟩
  · have e := js_cv_2 (y := y) (r := r) h1
    rw [e.1, e.2]
    unfold js_hi at h1
    unfold js_lo at h2
    exact ⟨by omega, by omega, by simp, h3, by omega, by omega⟩
/-- one character is one -/
theorem js_cv_inj {l m : List Nat} (hl : js_pa false l) (hm : js_pa false m) (h1 : l ≠ []) (h2 : m ≠ []) (h : js_cv l = js_cv m) : l.take (js_cw l) = m.take (js_cw m) ∧ js_cw l = js_cw m := by
  rcases js_pa_c hl h1 with ⟨x, r, rfl, a1, a2, a3, a4⟩ | ⟨x, y, r, rfl, a1, a2, a3⟩
  · rcases js_pa_c hm h2 with ⟨x2, r2, rfl, b1, b2, b3, b4⟩ | ⟨x2, y2, r2, rfl, b1, b2, b3⟩
    · have e := js_cv_1 (r := r) a1
      have f := js_cv_1 (r := r2) b1
      rw [e.1, f.1] at h
      rw [e.2, f.2, h]
      exact ⟨rfl, rfl⟩
    · have e := js_cv_1 (r := r) a1
      have f := js_cv_2 (y := y2) (r := r2) b1
      rw [e.1, f.1] at h
      omega
  · rcases js_pa_c hm h2 with ⟨x2, r2, rfl, b1, b2, b3, b4⟩ | ⟨x2, y2, r2, rfl, b1, b2, b3⟩
    · have e := js_cv_2 (y := y) (r := r) a1
      have f := js_cv_1 (r := r2) b1
      rw [e.1, f.1] at h
      omega
    · have e := js_cv_2 (y := y) (r := r) a1
      have f := js_cv_2 (y := y2) (r := r2) b1
      rw [e.1, f.1] at h
      rw [e.2, f.2]
      unfold js_hi at a1 b1
      unfold js_lo at a2 b2
      have hx : x = x2 := by omega
      have hy : y = y2 := by omega
      rw [hx, hy]
      exact ⟨rfl, rfl⟩
theorem js_chn_w {l : List Nat} (h : js_pa false l) (hne : l ≠ []) : js_chn l = 1 + js_chn (l.drop (js_cw l)) := by
  rcases js_pa_c h hne with ⟨x, r, rfl, h1, h2, h3, h4⟩ | ⟨x, y, r, rfl, h1, h2, h3⟩
  · rw [(js_cv_1 (r := r) h1).2]
    show (if 56320 ≤ x ∧ x ≤ 57343 then 0 else 1) + js_chn r = 1 + js_chn r
    rw [if_neg (show ¬ (56320 ≤ x ∧ x ≤ 57343) from h2)]
  · rw [(js_cv_2 (y := y) (r := r) h1).2]
    show (if 56320 ≤ x ∧ x ≤ 57343 then 0 else 1) + ((if 56320 ≤ y ∧ y ≤ 57343 then 0 else 1) + js_chn r) = 1 + js_chn r
    unfold js_hi at h1
    rw [if_neg (by omega), if_pos (show 56320 ≤ y ∧ y ≤ 57343 from h2)]
    omega
/-- the code of two units, as it is reckoned -/
theorem js_cv_i {x y : Nat} (hx : js_hi x) (hy : js_lo y) : (65536 : Int32) + ((nI x - 55296) <<< ((10 : Int32) &&& 31)) + nI y - 56320 = nI (65536 + (x - 55296) * 1024 + (y - 56320)) := by
  unfold js_hi at hx
  unfold js_lo at hy
  have e1 : nI x - 55296 = nI (x - 55296) := pk_sub (b := 55296) hx.1
  have e2 : nI (x - 55296) <<< ((10 : Int32) &&& 31) = nI ((x - 55296) * 1024) := by
    exact pk_shlN _ 10 (by decide) (by omega)
  have e3 : (65536 : Int32) + nI ((x - 55296) * 1024) + nI y - 56320 = nI (65536 + (x - 55296) * 1024 + (y - 56320)) := by
    rw [show (65536 : Int32) = nI 65536 from rfl, show (56320 : Int32) = nI 56320 from rfl, nI_add, nI_add, pk_sub (by omega)]
    exact congrArg nI (by omega)
  rw [e1, e2, e3]
-- ===== when two values are the same =====
theorem js_rk_inj : ∀ a, a < 3 → ∀ b, b < 3 → js_rk a = js_rk b → a = b := by decide
theorem js_same_kr : ∀ {n : Nat} {v w : js_J n}, js_ok n v → js_ok n w → js_same n v w → js_kr n v = js_kr n w
  | 0, x, y, hx, hy, h => by
    have e : x = y := js_pl_inj hx hy h
    rw [e]
  | _ + 1, Sum.inl x, Sum.inl y, hx, hy, h => by
    have e : x = y := js_pl_inj hx hy h
    rw [e]
  | _ + 1, Sum.inr (b, l), Sum.inr (b2, l2), hx, hy, h => by
    rw [h.1]; rfl
  | _ + 1, Sum.inl _, Sum.inr _, _, _, h => h.elim
  | _ + 1, Sum.inr _, Sum.inl _, _, _, h => h.elim
