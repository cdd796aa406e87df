-- ===== the reference's trees =====
/-- how many nodes, how many units a tree has room for, when it once held so many -/
def js_cp (m : Nat) : Nat := if m ≤ 256 then 256 else if m ≤ 512 then 512 else if m ≤ 1024 then 1024 else if m ≤ 2048 then 2048 else 4096
def js_cu (m : Nat) : Nat := if m ≤ 512 then 512 else if m ≤ 1024 then 1024 else if m ≤ 2048 then 2048 else 4096
theorem js_cp_b (m : Nat) : 256 ≤ js_cp m ∧ js_cp m ≤ 4096 ∧ (m ≤ 4096 → m ≤ js_cp m) := by unfold js_cp; (repeat' split) <;> omega
theorem js_cu_b (m : Nat) : 512 ≤ js_cu m ∧ js_cu m ≤ 4096 ∧ (m ≤ 4096 → m ≤ js_cu m) := by unfold js_cu; (repeat' split) <;> omega
theorem js_cp_mono {a b : Nat} (h : a ≤ b) : js_cp a ≤ js_cp b := by unfold js_cp; (repeat' split) <;> omega
theorem js_cu_mono {a b : Nat} (h : a ≤ b) : js_cu a ≤ js_cu b := by unfold js_cu; (repeat' split) <;> omega
theorem js_cp_in {m c : Nat} (h : c < js_cp m) : js_cp (max m (c + 1)) = js_cp m := by unfold js_cp at *; (repeat' split at h) <;> (repeat' split) <;> omega
theorem js_cp_at {m c : Nat} (h : c = js_cp m) (hc : c + 1 ≤ 4096) : js_cp (max m (c + 1)) = 2 * js_cp m := by unfold js_cp at *; (repeat' split at h) <;> (repeat' split) <;> omega
theorem js_cu_in {m c : Nat} (h : c < js_cu m) : js_cu (max m (c + 1)) = js_cu m := by unfold js_cu at *; (repeat' split at h) <;> (repeat' split) <;> omega
theorem js_cu_at {m c : Nat} (h : c = js_cu m) (hc : c + 1 ≤ 4096) : js_cu (max m (c + 1)) = 2 * js_cu m := by unfold js_cu at *; (repeat' split at h) <;> (repeat' split) <;> omega
/-- units from s on, so many, below u -/
def js_TU (F : Nat → Nat → Int32) (u s : Nat) (us : List Nat) : Prop := s + us.length ≤ u ∧ ∀ (i : Nat) (x : Nat), us[i]? = some x → F 10 (s + i) = nI x
def js_rk (w : Nat) : Nat := if w = 1 then 2 else if w = 2 then 1 else w
def js_TL (F : Nat → Nat → Int32) (G : Nat → Int64) (u k : Nat) : js_L → Prop
  | .inl w => F 0 k = nI (js_rk w) ∧ F 4 k = -1
  | .inr (.inl ds) => F 0 k = 3 ∧ F 4 k = -1 ∧ ∃ (neg : Bool) (v : Nat), v ≤ js_M ∧ (neg = true → 0 < v) ∧ ds = js_sg neg ++ js_dec v ∧ G k = js_nvi neg v
  | .inr (.inr us) => F 0 k = 4 ∧ F 4 k = -1 ∧ ∃ s, F 2 k = nI s ∧ F 3 k = nI us.length ∧ js_TU F u s us
def js_TN (F : Nat → Nat → Int32) (u k : Nat) (us : List Nat) : Prop := ∃ s, F 6 k = nI s ∧ F 7 k = nI us.length ∧ js_TU F u s us
/-- node k holds a value -/
def js_TV (F : Nat → Nat → Int32) (G : Nat → Int64) (u : Nat) : (n : Nat) → js_J n → Nat → Prop
  | 0, x, k => js_TL F G u k x
  | _ + 1, Sum.inl x, k => js_TL F G u k x
  | n + 1, Sum.inr (b, l), k => F 0 k = (if b = true then 6 else 5) ∧ F 4 k = (if l = [] then -1 else nI (k + 1)) ∧ ∀ (i : Nat) (q : List Nat × js_J n), l[i]? = some q → js_TV F G u n q.2 (js_pos l (k + 1) i) ∧ F 5 (js_pos l (k + 1) i) = (if i + 1 = l.length then -1 else nI (js_pos l (k + 1) (i + 1))) ∧ (b = true → js_TN F u (js_pos l (k + 1) i) q.1)
theorem js_pos_s {n : Nat} : ∀ {l : List (List Nat × js_J n)} {j i : Nat} {q : List Nat × js_J n}, l[i]? = some q → js_pos l j (i + 1) = js_pos l j i + js_cnt n q.2
  | [], j, i, q, h => by simp at h
  | x :: l, j, 0, q, h => by
    cases h
    show js_pos l (j + js_cnt n x.2) 0 = js_pos (x :: l) j 0 + _
    cases l <;> rfl
  | x :: l, j, i + 1, q, h => by
    rw [List.getElem?_cons_succ] at h
    show js_pos l (j + js_cnt n x.2) (i + 1) = js_pos l (j + js_cnt n x.2) i + _
    exact js_pos_s h
theorem js_pos_0 {n : Nat} (l : List (List Nat × js_J n)) (j : Nat) : js_pos l j 0 = j := by cases l <;> rfl
theorem js_pos_mono {n : Nat} {l : List (List Nat × js_J n)} {j : Nat} : ∀ {i2 i : Nat}, i < i2 → i2 ≤ l.length → js_pos l j i < js_pos l j i2
  | 0, i, h, _ => by omega
  | i2 + 1, i, h, hl => by
    have e := js_pos_s (j := j) (List.getElem?_eq_getElem (show i2 < l.length by omega))
    have hp := js_cnt_pos n l[i2].2
    rcases Nat.lt_or_ge i i2 with q | q
    · have := js_pos_mono (j := j) q (show i2 ≤ l.length by omega)
      omega
    · have : i = i2 := by omega
      subst this
      omega
theorem js_pos_le {n : Nat} {l : List (List Nat × js_J n)} {j i : Nat} (h : i ≤ l.length) : js_pos l j i ≤ j + (l.map fun q => js_cnt n q.2).sum := by
  rw [← js_pos_len]
  rcases Nat.lt_or_ge i l.length with q | q
  · exact Nat.le_of_lt (js_pos_mono q (Nat.le_refl _))
  · have : i = l.length := by omega
    rw [this]; exact Nat.le_refl _
theorem js_pos_ge {n : Nat} {l : List (List Nat × js_J n)} {j i : Nat} (h : i ≤ l.length) : j ≤ js_pos l j i := by
  cases i with
  | zero => rw [js_pos_0]; exact Nat.le_refl _
  | succ i =>
    have := js_pos_mono (l := l) (j := j) (show 0 < i + 1 by omega) h
    rw [js_pos_0] at this
    omega
theorem js_pos_app {n : Nat} : ∀ (l m : List (List Nat × js_J n)) (j i : Nat), i ≤ l.length → js_pos (l ++ m) j i = js_pos l j i
  | l, m, j, 0, _ => by rw [js_pos_0, js_pos_0]
  | [], m, j, i + 1, h => by simp at h
  | x :: l, m, j, i + 1, h => js_pos_app l m _ i (by simp at h; omega)
theorem js_cnt_inr {n : Nat} (b : Bool) (l : List (List Nat × js_J n)) : js_cnt (n + 1) (Sum.inr (b, l)) = 1 + (l.map fun q => js_cnt n q.2).sum := rfl
theorem js_TU_congr {F F' : Nat → Nat → Int32} {u u' s : Nat} {us : List Nat} (hu : ∀ j, j < u → F' 10 j = F 10 j) (hl : u ≤ u') (h : js_TU F u s us) : js_TU F' u' s us := by
  refine ⟨by have := h.1; omega, fun i x hi => ?_⟩
  have hil : i < us.length := (List.getElem?_eq_some_iff.mp hi).1
  rw [hu _ (by have := h.1; omega)]
  exact h.2 i x hi
theorem js_TV_congr {F F' : Nat → Nat → Int32} {G G' : Nat → Int64} {u u' : Nat} (hu : ∀ j, j < u → F' 10 j = F 10 j) (hl : u ≤ u') : ∀ {n : Nat} {v : js_J n} {k : Nat}, (∀ j, k ≤ j → j < k + js_cnt n v → F' 0 j = F 0 j ∧ F' 2 j = F 2 j ∧ F' 3 j = F 3 j ∧ F' 4 j = F 4 j ∧ G' j = G j) → (∀ j, k < j → j < k + js_cnt n v → F' 5 j = F 5 j ∧ F' 6 j = F 6 j ∧ F' 7 j = F 7 j) → js_TV F G u n v k → js_TV F' G' u' n v k := by
  have leaf : ∀ {x : js_L} {k : Nat}, F' 0 k = F 0 k ∧ F' 2 k = F 2 k ∧ F' 3 k = F 3 k ∧ F' 4 k = F 4 k ∧ G' k = G k → js_TL F G u k x → js_TL F' G' u' k x := by
    intro x k hk h
    obtain ⟨h0, h2, h3, h4, hG⟩ := hk
    match x, h with
    | .inl w, h => exact ⟨by rw [h0]; exact h.1, by rw [h4]; exact h.2⟩
    | .inr (.inl ds), h =>
      refine ⟨by rw [h0]; exact h.1, by rw [h4]; exact h.2.1, ?_⟩
      obtain ⟨neg, v, a1, a2, a3, a4⟩ := h.2.2
      exact ⟨neg, v, a1, a2, a3, by rw [hG]; exact a4⟩
    | .inr (.inr us), h =>
      refine ⟨by rw [h0]; exact h.1, by rw [h4]; exact h.2.1, ?_⟩
      obtain ⟨s, a1, a2, a3⟩ := h.2.2
      exact ⟨s, by rw [h2]; exact a1, by rw [h3]; exact a2, js_TU_congr hu hl a3⟩
  intro n
  induction n with
  | zero =>
    intro x k h1 h2 h
    exact leaf (x := x) (h1 k (Nat.le_refl _) (by have := js_cnt_pos 0 x; omega)) h
  | succ n ih =>
    intro v k h1 h2 h
    match v, h1, h2, h with
    | Sum.inl x, h1, h2, h => exact leaf (x := x) (h1 k (Nat.le_refl _) (Nat.lt_succ_self _)) h
    | Sum.inr (b, l), h1, h2, h =>
      obtain ⟨a1, a2, a3⟩ := h
      rw [js_cnt_inr] at h1 h2
      have hk := h1 k (Nat.le_refl _) (by omega)
      refine ⟨by rw [hk.1]; exact a1, by rw [hk.2.2.2.1]; exact a2, fun i q hi => ?_⟩
      have hil : i < l.length := (List.getElem?_eq_some_iff.mp hi).1
      obtain ⟨b1, b2, b3⟩ := a3 i q hi
      have p1 := js_pos_ge (l := l) (j := k + 1) (i := i) (by omega)
      have p2 := js_pos_le (l := l) (j := k + 1) (i := i + 1) hil
      have p3 := js_pos_s (j := k + 1) hi
      have hc := js_cnt_pos n q.2
      have hx := h2 (js_pos l (k + 1) i) (by omega) (by omega)
      refine ⟨ih (fun j j1 j2 => h1 j (by omega) (by omega)) (fun j j1 j2 => h2 j (by omega) (by omega)) b1, by rw [hx.1]; exact b2, fun e => ?_⟩
      obtain ⟨s, c1, c2, c3⟩ := b3 e
      exact ⟨s, by rw [hx.2.1]; exact c1, by rw [hx.2.2]; exact c2, js_TU_congr hu hl c3⟩
/-- one more member -/
theorem js_TV_snoc {F F' : Nat → Nat → Int32} {G G' : Nat → Int64} {u u' n : Nat} {b : Bool} {acc : List (List Nat × js_J n)} {nm : List Nat} {v : js_J n} {k c : Nat} (h : js_TV F G u (n + 1) (Sum.inr (b, acc)) k) (hc : c = k + js_cnt (n + 1) (Sum.inr (b, acc))) (hv : js_TV F' G' u' n v c) (hu : ∀ j, j < u → F' 10 j = F 10 j) (hl : u ≤ u')
    (h0 : F' 0 k = F 0 k) (h1 : ∀ j, k < j → j < c → F' 0 j = F 0 j ∧ F' 2 j = F 2 j ∧ F' 3 j = F 3 j ∧ F' 4 j = F 4 j ∧ G' j = G j ∧ F' 6 j = F 6 j ∧ F' 7 j = F 7 j)
    (h4 : F' 4 k = nI (k + 1)) (h5 : ∀ j, k < j → j < c → (acc ≠ [] → j ≠ js_pos acc (k + 1) (acc.length - 1)) → F' 5 j = F 5 j) (h5b : acc ≠ [] → F' 5 (js_pos acc (k + 1) (acc.length - 1)) = nI c) (h5c : F' 5 c = -1) (hn : b = true → js_TN F' u' c nm) : js_TV F' G' u' (n + 1) (Sum.inr (b, acc ++ [(nm, v)])) k := by
  obtain ⟨a1, a2, a3⟩ := h
  rw [js_cnt_inr] at hc
  have hlast : js_pos acc (k + 1) acc.length = c := by rw [js_pos_len]; omega
  refine ⟨by rw [h0]; exact a1, by rw [if_neg (by simp)]; exact h4, fun i q hi => ?_⟩
  have hil : i < (acc ++ [(nm, v)]).length := (List.getElem?_eq_some_iff.mp hi).1
  rw [List.length_append] at hil
  have hil2 : i < acc.length + 1 := hil
  rw [js_pos_app _ _ _ _ (by omega)]
  rcases Nat.lt_or_ge i acc.length with w | w
  · rw [List.getElem?_append_left w] at hi
    obtain ⟨b1, b2, b3⟩ := a3 i q hi
    have p1 := js_pos_ge (l := acc) (j := k + 1) (i := i) (by omega)
    have p2 := js_pos_le (l := acc) (j := k + 1) (i := i + 1) w
    have p3 := js_pos_s (j := k + 1) hi
    have hcn := js_cnt_pos n q.2
    have hne : acc ≠ [] := fun e => by rw [e] at w; simp at w
    have p4 : ∀ j, js_pos acc (k + 1) i < j → j < js_pos acc (k + 1) i + js_cnt n q.2 → j ≠ js_pos acc (k + 1) (acc.length - 1) := by
      intro j j1 j2 e
      rcases Nat.lt_or_ge i (acc.length - 1) with y | y
      · have hm : js_pos acc (k + 1) (i + 1) ≤ js_pos acc (k + 1) (acc.length - 1) := by
          rcases Nat.lt_or_ge (i + 1) (acc.length - 1) with z | z
          · exact Nat.le_of_lt (js_pos_mono z (by omega))
          · rw [show i + 1 = acc.length - 1 by omega]; exact Nat.le_refl _
        omega
      · rw [show acc.length - 1 = i by omega] at e
        omega
    have hj := h1 (js_pos acc (k + 1) i) (by omega) (by omega)
    refine ⟨js_TV_congr hu hl (fun j j1 j2 => ?_) (fun j j1 j2 => ?_) b1, ?_, fun e => ?_⟩
    · have := h1 j (by omega) (by omega)
      exact ⟨this.1, this.2.1, this.2.2.1, this.2.2.2.1, this.2.2.2.2.1⟩
    · have := h1 j (by omega) (by omega)
      exact ⟨h5 j (by omega) (by omega) (fun _ => p4 j j1 j2), this.2.2.2.2.2.1, this.2.2.2.2.2.2⟩
    · have hlen : ¬ i + 1 = (acc ++ [(nm, v)]).length := by rw [List.length_append]; show ¬ i + 1 = acc.length + 1; omega
      rw [if_neg hlen, js_pos_app _ _ _ _ (by omega)]
      rcases Nat.lt_or_ge i (acc.length - 1) with y | y
      · have hne2 : js_pos acc (k + 1) i ≠ js_pos acc (k + 1) (acc.length - 1) := Nat.ne_of_lt (js_pos_mono y (by omega))
        rw [h5 _ (by omega) (by omega) (fun _ => hne2), b2, if_neg (by omega)]
      · have e : i = acc.length - 1 := by omega
        have e2 : i + 1 = acc.length := by omega
        rw [e2, hlast, e]
        exact h5b hne
    · obtain ⟨s, c1, c2, c3⟩ := b3 e
      exact ⟨s, by rw [hj.2.2.2.2.2.1]; exact c1, by rw [hj.2.2.2.2.2.2]; exact c2, js_TU_congr hu hl c3⟩
  · have e : i = acc.length := by omega
    subst e
    rw [List.getElem?_append_right (Nat.le_refl _), Nat.sub_self] at hi
    cases hi
    rw [hlast]
    refine ⟨hv, ?_, hn⟩
    rw [h5c, if_pos (by rw [List.length_append]; rfl)]
/-- an empty one -/
theorem js_TV_nil {F : Nat → Nat → Int32} {G : Nat → Int64} {u n k : Nat} {b : Bool} (h0 : F 0 k = (if b = true then 6 else 5)) (h4 : F 4 k = -1) : js_TV F G u (n + 1) (Sum.inr (b, [])) k := ⟨h0, h4, fun i q hi => by simp at hi⟩
-- ===== printing a number =====
theorem js_l_div {a b : Nat} (ha : a < 2 ^ 63) (hb : b < 2 ^ 63) : js_l a / js_l b = js_l (a / b) := by
  apply Int64.toInt_inj.mp
  have h3 : a / b < 2 ^ 63 := Nat.lt_of_le_of_lt (Nat.div_le_self a b) ha
  rw [Int64.toInt_div, js_l_toInt ha, js_l_toInt hb, js_l_toInt h3]
  rw [← Int.ofNat_tdiv]
  generalize a / b = q at h3 ⊢
  rw [Int.bmod_eq_of_le (by omega) (by omega)]
theorem js_nvi_div {neg : Bool} {a b : Nat} (ha : a < 2 ^ 62) (hb : b < 2 ^ 63) : js_nvi neg a / js_l b = js_nvi neg (a / b) := by
  cases neg with
  | false => exact js_l_div (by omega) hb
  | true =>
    apply Int64.toInt_inj.mp
    have h3 : a / b < 2 ^ 62 := Nat.lt_of_le_of_lt (Nat.div_le_self a b) ha
    have hn : ∀ x : Nat, x < 2 ^ 62 → (js_nvi true x).toInt = - (x : Int) := by
      intro x hx
      show (- js_l x).toInt = _
      rw [Int64.toInt_neg, js_l_toInt (by omega), Int.bmod_eq_of_le (by omega) (by omega)]
    rw [Int64.toInt_div, hn a ha, js_l_toInt hb, hn _ h3, Int.neg_tdiv, ← Int.ofNat_tdiv]
    generalize a / b = q at h3 ⊢
    rw [Int.bmod_eq_of_le (by omega) (by omega)]
/-- the digits of x from the k-th down -/
def js_dl : Nat → Nat → List Nat
  | 0, x => [48 + x % 10]
  | k + 1, x => (48 + x / 10 ^ (k + 1) % 10) :: js_dl k x
theorem js_dl_s : ∀ (k x : Nat), js_dl (k + 1) x = js_dl k (x / 10) ++ [48 + x % 10]
  | 0, x => rfl
  | k + 1, x => by
    rw [js_dl, js_dl_s k x, js_dl, List.cons_append]
    congr 2
    rw [Nat.div_div_eq_div_mul]
    congr 2
    rw [Nat.pow_succ 10 (k + 1), Nat.mul_comm]
theorem js_dl_dec : ∀ (k f x : Nat), k ≤ f → (k = 0 ∨ 10 ^ k ≤ x) → x < 10 ^ (k + 1) → js_dcf f x = js_dl k x
  | 0, f, x, _, _, h => by
    have : x < 10 := by simpa using h
    cases f with
    | zero => rfl
    | succ f => rw [js_dcf, if_pos this, js_dl, Nat.mod_eq_of_lt this]
  | k + 1, 0, x, h, _, _ => by omega
  | k + 1, f + 1, x, hf, h1, h2 => by
    have h1 : 10 ^ (k + 1) ≤ x := by
      rcases h1 with q | q
      · omega
      · exact q
    have hp : 0 < 10 ^ k := Nat.pow_pos (by decide)
    rw [Nat.pow_succ] at h1 h2
    rw [js_dcf, if_neg (by omega), js_dl_s, js_dl_dec k f (x / 10) (by omega) (Or.inr (by omega)) (by rw [Nat.pow_succ] at h2 ⊢; omega)]
theorem js_dec_dl {k x : Nat} (hk : k ≤ 15) (h1 : k = 0 ∨ 10 ^ k ≤ x) (h2 : x < 10 ^ (k + 1)) : js_dec x = js_dl k x := js_dl_dec k 15 x hk h1 h2
