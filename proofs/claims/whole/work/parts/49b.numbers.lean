-- ===== numbers =====
abbrev js_M : Nat := 9007199254740991
def js_dcf : Nat → Nat → List Nat
  | 0, v => [48 + v % 10]
  | f + 1, v => if v < 10 then [48 + v] else js_dcf f (v / 10) ++ [48 + v % 10]
/-- the digits of a number -/
def js_dec (v : Nat) : List Nat := js_dcf 15 v
def js_sg (neg : Bool) : List Nat := if neg = true then [45] else []
def js_okn (ds : List Nat) : Prop := ∃ (neg : Bool) (v : Nat), v ≤ js_M ∧ (neg = true → 0 < v) ∧ ds = js_sg neg ++ js_dec v
def js_dig (ds : List Nat) : Prop := ∀ d ∈ ds, 48 ≤ d ∧ d ≤ 57
/-- the number that digits are -/
def js_nv : List Nat → Nat → Nat
  | [], s => s
  | d :: l, s => js_nv l (s * 10 + (d - 48))
/-- the same, no further once it is too great -/
def js_tgn : List Nat → Nat → Nat
  | [], s => s
  | d :: l, s => if js_M < s then s else js_tgn l (s * 10 + (d - 48))
theorem js_dcf_fuel : ∀ {f g v : Nat}, v < 10 ^ (f + 1) → v < 10 ^ (g + 1) → js_dcf f v = js_dcf g v
  | 0, 0, v, _, _ => rfl
  | 0, g + 1, v, h, _ => by
    have : v < 10 := by simpa using h
    rw [js_dcf, js_dcf, if_pos this, Nat.mod_eq_of_lt this]
  | f + 1, 0, v, _, h => by
    have : v < 10 := by simpa using h
    rw [js_dcf, js_dcf, if_pos this, Nat.mod_eq_of_lt this]
  | f + 1, g + 1, v, h1, h2 => by
    rw [js_dcf, js_dcf]
    split
    · rfl
    · rw [js_dcf_fuel (f := f) (g := g)]
      · rw [Nat.pow_succ] at h1; omega
      · rw [Nat.pow_succ] at h2; omega
theorem js_dec_s {v d : Nat} (hv : 0 < v) (hd : d < 10) (h : v * 10 + d ≤ js_M) : js_dec (v * 10 + d) = js_dec v ++ [48 + d] := by
  unfold js_dec
  rw [js_dcf, if_neg (by omega), show (v * 10 + d) / 10 = v by omega, show (v * 10 + d) % 10 = d by omega]
  rw [js_dcf_fuel (f := 14) (g := 15)]
  · unfold js_M at h; omega
  · unfold js_M at h; omega
theorem js_dec_1 {d : Nat} (hd : d < 10) : js_dec d = [48 + d] := by
  unfold js_dec
  rw [js_dcf, if_pos hd]
theorem js_dcf_dig : ∀ (f v : Nat), js_dig (js_dcf f v)
  | 0, v => fun d hd => by rw [js_dcf] at hd; rw [List.mem_singleton.mp hd]; omega
  | f + 1, v => fun d hd => by
    rw [js_dcf] at hd
    split at hd
    · rw [List.mem_singleton.mp hd]; omega
    · rcases List.mem_append.mp hd with q | q
      · exact js_dcf_dig f _ d q
      · rw [List.mem_singleton.mp q]; omega
theorem js_dcf_head : ∀ (f v : Nat), v < 10 ^ (f + 1) → ∃ d l, js_dcf f v = d :: l ∧ (d = 48 ↔ v = 0) ∧ (v = 0 → l = [])
  | 0, v, h => by
    have : v < 10 := by simpa using h
    exact ⟨_, _, rfl, by omega, fun _ => rfl⟩
  | f + 1, v, h => by
    rw [js_dcf]
    split
    · exact ⟨_, _, rfl, by omega, fun _ => rfl⟩
    · obtain ⟨d, l, e, h1, h2⟩ := js_dcf_head f (v / 10) (by rw [Nat.pow_succ] at h; omega)
      exact ⟨d, l ++ [48 + v % 10], by rw [e]; rfl, by omega, fun q => by omega⟩
theorem js_dec_head {v : Nat} (h : v ≤ js_M) : ∃ d l, js_dec v = d :: l ∧ (d = 48 ↔ v = 0) ∧ (v = 0 → l = []) := js_dcf_head 15 v (by unfold js_M at h; omega)
theorem js_dec_dig (v : Nat) : js_dig (js_dec v) := js_dcf_dig 15 v
theorem js_nv_app : ∀ (l m : List Nat) (s : Nat), js_nv (l ++ m) s = js_nv m (js_nv l s)
  | [], _, _ => rfl
  | d :: l, m, s => js_nv_app l m _
theorem js_nv_dcf : ∀ (f v : Nat), v < 10 ^ (f + 1) → js_nv (js_dcf f v) 0 = v
  | 0, v, h => by
    have : v < 10 := by simpa using h
    rw [js_dcf, js_nv, js_nv]; omega
  | f + 1, v, h => by
    rw [js_dcf]
    split
    · rw [js_nv, js_nv]; omega
    · rw [js_nv_app, js_nv_dcf f (v / 10) (by rw [Nat.pow_succ] at h; omega), js_nv, js_nv]
      omega
theorem js_nv_dec {v : Nat} (h : v ≤ js_M) : js_nv (js_dec v) 0 = v := js_nv_dcf 15 v (by unfold js_M at h; omega)
theorem js_nv_ge : ∀ (l : List Nat) (s : Nat), s ≤ js_nv l s
  | [], s => Nat.le_refl _
  | d :: l, s => by
    rw [js_nv]
    have := js_nv_ge l (s * 10 + (d - 48))
    omega
theorem js_tgn_ge : ∀ (l : List Nat) (s : Nat), s ≤ js_tgn l s
  | [], s => Nat.le_refl _
  | d :: l, s => by
    rw [js_tgn]
    split
    · exact Nat.le_refl _
    · have := js_tgn_ge l (s * 10 + (d - 48))
      omega
theorem js_tgn_le : ∀ (l : List Nat) (s : Nat), js_dig l → s ≤ 10 * js_M + 9 → js_tgn l s ≤ 10 * js_M + 9
  | [], s, _, h => h
  | d :: l, s, hd, h => by
    rw [js_tgn]
    split
    · exact h
    · have := hd d (List.mem_cons_self ..)
      exact js_tgn_le l _ (fun x hx => hd x (List.mem_cons_of_mem _ hx)) (by unfold js_M at *; omega)
theorem js_tgn_nv : ∀ (l : List Nat) (s : Nat), js_nv l s ≤ js_M ∨ js_tgn l s ≤ js_M → js_tgn l s = js_nv l s
  | [], s, _ => rfl
  | d :: l, s, h => by
    rw [js_tgn, js_nv] at *
    split
    · rename_i q
      rw [if_pos q] at h
      have := js_nv_ge l (s * 10 + (d - 48))
      omega
    · rename_i q
      rw [if_neg q] at h
      exact js_tgn_nv l _ h
/-- the digits behind a number that is not 0 are the digits of the whole -/
theorem js_dec_app : ∀ (l : List Nat) (v : Nat), 0 < v → js_dig l → js_nv l v ≤ js_M → js_dec v ++ l = js_dec (js_nv l v)
  | [], v, _, _, _ => by rw [js_nv, List.append_nil]
  | d :: l, v, hv, hd, h => by
    rw [js_nv] at h ⊢
    have h1 := hd d (List.mem_cons_self ..)
    have h2 := js_nv_ge l (v * 10 + (d - 48))
    rw [← js_dec_app l (v * 10 + (d - 48)) (by omega) (fun x hx => hd x (List.mem_cons_of_mem _ hx)) h, js_dec_s hv (by omega) (by omega), List.append_assoc]
    congr 1
    show d :: l = (48 + (d - 48)) :: l
    rw [show 48 + (d - 48) = d by omega]
-- Int64
def js_l (n : Nat) : Int64 := Int64.ofNat n
theorem js_l_toInt {n : Nat} (h : n < 2 ^ 63) : (js_l n).toInt = (n : Int) := Int64.toInt_ofNat_of_lt h
theorem js_l_lt {a b : Nat} (ha : a < 2 ^ 63) (hb : b < 2 ^ 63) : js_l a < js_l b ↔ a < b := by
  rw [Int64.lt_iff_toInt_lt, js_l_toInt ha, js_l_toInt hb]; omega
theorem js_l_d {d : Nat} (h1 : 48 ≤ d) (h2 : d ≤ 57) : (nI d - 48).toInt64 = js_l (d - 48) := by
  have : ∀ d, d < 58 → 48 ≤ d → (nI d - 48).toInt64 = js_l (d - 48) := by decide +kernel
  exact this d (by omega) h1
theorem js_l_s (s d : Nat) : js_l s * 10 + js_l d = js_l (s * 10 + d) := by
  unfold js_l
  rw [Int64.ofNat_add, Int64.ofNat_mul]
  rfl
theorem js_tg_n : ∀ (l a z : List Nat) (s : Nat), js_dig l → s ≤ 10 * js_M + 9 → js_tg (a ++ (l ++ z)) l.length a.length (js_l s) = js_l (js_tgn l s)
  | [], a, z, s, _, _ => rfl
  | d :: l, a, z, s, hd, hs => by
    have h1 := hd d (List.mem_cons_self ..)
    rw [List.length_cons, js_tg, js_tgn]
    have e : js_l js_M = 9007199254740991 := rfl
    rw [← e]
    by_cases q : js_M < s
    · rw [if_pos q, if_pos ((js_l_lt (by decide) (by unfold js_M at hs; omega)).mpr q)]
    · rw [if_neg q, if_neg (fun w => q ((js_l_lt (by decide) (by unfold js_M at hs; omega)).mp w))]
      have r := js_tg_n l (a ++ [d]) z (s * 10 + (d - 48)) (fun x hx => hd x (List.mem_cons_of_mem _ hx)) (by unfold js_M at *; omega)
      rw [List.append_assoc, List.length_append] at r
      rw [js_b_off0]
      show js_tg (a ++ (d :: (l ++ z))) l.length (a.length + 1) (js_l s * 10 + (nI d - 48).toInt64) = _
      rw [js_l_d h1.1 h1.2, js_l_s]
      exact r
theorem js_dgI : ∀ b, b < 256 → (fn_Rd_isDigit (nI b) = 0 ↔ ¬ (48 ≤ b ∧ b ≤ 57)) := by decide +kernel
/-- what stands behind a value that was printed -/
def js_zc (z : List Nat) : Prop := z = [] ∨ ∃ b y, z = b :: y ∧ (b = 44 ∨ b = 93 ∨ b = 125)
theorem js_zc_b {a z : List Nat} (h : js_zc z) : fn_Rd_isDigit (js_b (a ++ z) a.length) = 0 ∧ fn_Rd_isFraction (js_b (a ++ z) a.length) = 0 ∧ fn_Rd_isBlank (js_b (a ++ z) a.length) = 0 := by
  rw [js_b_off0]
  rcases h with e | ⟨b, y, e, h⟩
  · rw [e]; decide
  · rw [e]
    rcases h with q | q | q <;> rw [q] <;> exact ⟨(by decide : fn_Rd_isDigit (nI _) = 0), (by decide : fn_Rd_isFraction (nI _) = 0), (by decide : fn_Rd_isBlank (nI _) = 0)⟩
theorem js_dg_rt : ∀ (l a z : List Nat) (n : Nat), js_dig l → js_zc z → l.length ≤ n → js_dg (a ++ (l ++ z)) n a.length = a.length + l.length
  | [], a, z, n, _, hz, _ => by
    cases n with
    | zero => rfl
    | succ n => rw [List.nil_append, js_dg, if_pos (js_zc_b (a := a) hz).1]; rfl
  | d :: l, a, z, 0, _, _, h => by simp at h
  | d :: l, a, z, n + 1, hd, hz, h => by
    have h1 := hd d (List.mem_cons_self ..)
    have hn : ¬ fn_Rd_isDigit (js_b (a ++ ((d :: l) ++ z)) a.length) = 0 := by
      rw [js_b_off0]
      exact fun q => (js_dgI d (by omega)).mp q h1
    rw [js_dg, if_neg hn]
    have r := js_dg_rt l (a ++ [d]) z n (fun x hx => hd x (List.mem_cons_of_mem _ hx)) hz (by simp at h; omega)
    rw [List.append_assoc, List.length_append] at r
    rw [List.length_cons]
    have e : a.length + [d].length + l.length = a.length + (l.length + 1) := by simp; omega
    rw [← e]
    exact r
theorem js_sl_mid {a x z : List Nat} : js_sl (a ++ (x ++ z)) a.length x.length = x := by
  unfold js_sl
  rw [List.drop_left, List.take_left]
/-- a number that was printed is read as it was -/
theorem js_nu_rt {ds a z : List Nat} (hd : js_okn ds) (hz : js_zc z) : js_nu (a ++ (ds ++ z)) a.length = .inr (a.length + ds.length) ∧ js_ns (a ++ (ds ++ z)) a.length = a.length := by
  obtain ⟨neg, v, hv, hn, rfl⟩ := hd
  obtain ⟨d, l, e, h1, h2⟩ := js_dec_head hv
  have hdig := js_dec_dig v
  have hd1 := hdig d (by rw [e]; exact List.mem_cons_self ..)
  have key : js_nd (a ++ (js_sg neg ++ js_dec v ++ z)) a.length = (a ++ js_sg neg).length := by
    rw [js_nd, js_b_off0]
    cases neg with
    | true => rw [if_pos (by rfl), List.length_append]; rfl
    | false =>
      have : ¬ js_b (js_sg false ++ js_dec v ++ z) 0 = 45 := by
        rw [e]
        exact fun q => absurd ((nI_eq (b := 45) (by omega) (by decide)).mp q) (by omega)
      rw [if_neg this, List.length_append]; rfl
  have et : a ++ (js_sg neg ++ js_dec v ++ z) = (a ++ js_sg neg) ++ (js_dec v ++ z) := by simp
  have hb : js_b (a ++ (js_sg neg ++ js_dec v ++ z)) (a ++ js_sg neg).length = nI d := by rw [et, js_b_off0, e]; rfl
  have hne : js_ne (a ++ (js_sg neg ++ js_dec v ++ z)) a.length = (a ++ js_sg neg).length + (js_dec v).length := by
    rw [js_ne, key, hb]
    by_cases q : d = 48
    · rw [if_pos (by rw [q]; rfl), e, h2 (h1.mp q)]
      rfl
    · rw [if_neg (show ¬ nI d = 48 from fun w => q ((nI_eq (b := 48) (by omega) (by decide)).mp w)), et]
      exact js_dg_rt _ _ _ _ hdig hz (by rw [List.length_append (as := a ++ js_sg neg), List.length_append (as := js_dec v)]; omega)
  have hzb := js_zc_b (a := (a ++ js_sg neg) ++ js_dec v) hz
  have ht : js_tg (a ++ (js_sg neg ++ js_dec v ++ z)) (js_dec v).length (a ++ js_sg neg).length 0 = js_l v := by
    rw [et]
    have := js_tg_n (js_dec v) (a ++ js_sg neg) z 0 hdig (by omega)
    rw [js_tgn_nv _ _ (Or.inl (by rw [js_nv_dec hv]; exact hv)), js_nv_dec hv] at this
    exact this
  constructor
  · rw [js_nu, hne, key, hb, if_neg (fun q => (js_dgI d (by omega)).mp q hd1), Nat.add_sub_cancel_left, ht]
    rw [if_neg (show ¬ 9007199254740991 < js_l v from fun q => absurd ((js_l_lt (a := js_M) (by decide) (by unfold js_M at hv; omega)).mp q) (by omega))]
    have : (a ++ js_sg neg).length + (js_dec v).length = ((a ++ js_sg neg) ++ js_dec v).length := by rw [List.length_append (as := a ++ js_sg neg)]
    rw [this, et, ← List.append_assoc, if_pos hzb.2.1]
    simp
  · rw [js_ns, key, hb]
    by_cases q : d = 48
    · rw [if_pos (by rw [q]; rfl)]
      have hv0 := h1.mp q
      cases neg with
      | true => have := hn rfl; omega
      | false => simp [js_sg]
    · rw [if_neg (show ¬ nI d = 48 from fun w => q ((nI_eq (b := 48) (by omega) (by decide)).mp w))]
theorem js_dg_dig {t : List Nat} : ∀ (n p j : Nat), p ≤ j → j < js_dg t n p → ¬ fn_Rd_isDigit (js_b t j) = 0
  | 0, p, j, h1, h2 => by rw [js_dg] at h2; omega
  | n + 1, p, j, h1, h2 => by
    rw [js_dg] at h2
    split at h2
    · omega
    · rename_i q
      by_cases e : j = p
      · rw [e]; exact q
      · exact js_dg_dig n (p + 1) j (by omega) h2
theorem js_sl_dig {t : List Nat} (hb : js_by t) {p n : Nat} (h : ∀ j, p ≤ j → j < p + n → ¬ fn_Rd_isDigit (js_b t j) = 0) : js_dig (js_sl t p n) := by
  intro d hd
  obtain ⟨i, hi⟩ := List.getElem?_of_mem hd
  have hin : i < n := by
    rcases Nat.lt_or_ge i n with q | q
    · exact q
    · rw [List.getElem?_eq_none] at hi
      · cases hi
      · unfold js_sl; rw [List.length_take]; omega
  rw [js_sl_get hin] at hi
  have h3 := h (p + i) (by omega) (by omega)
  have hd256 : d < 256 := hb d (List.mem_of_getElem? hi)
  rw [js_b, hi] at h3
  exact Classical.not_not.mp (fun q => h3 ((js_dgI d hd256).mpr q))
theorem js_split {t : List Nat} {p n : Nat} (h : p + n ≤ t.length) : t = t.take p ++ (js_sl t p n ++ t.drop (p + n)) ∧ (t.take p).length = p := by
  unfold js_sl
  refine ⟨?_, by rw [List.length_take]; omega⟩
  rw [← List.drop_drop, List.take_append_drop, List.take_append_drop]
theorem js_tg_sl {t : List Nat} {p n s : Nat} (h : p + n ≤ t.length) (hd : js_dig (js_sl t p n)) (hs : s ≤ 10 * js_M + 9) : js_tg t n p (js_l s) = js_l (js_tgn (js_sl t p n) s) := by
  obtain ⟨e, el⟩ := js_split h
  have r := js_tg_n (js_sl t p n) (t.take p) (t.drop (p + n)) s hd hs
  rw [← e, el, js_sl_len h] at r
  exact r
/-- what a number that was read is -/
theorem js_nu_ok {t : List Nat} (hb : js_by t) {i z : Nat} (h : js_nu t i = .inr z) : z = js_ne t i ∧ i + 1 ≤ z ∧ z ≤ t.length ∧ ∃ v, v ≤ js_M ∧ js_tg t (js_ne t i - js_nd t i) (js_nd t i) 0 = js_l v ∧ ((js_b t i = 45 ∧ 0 < v ∧ js_sl t (js_ns t i) (z - js_ns t i) = js_sg true ++ js_dec v) ∨ ((js_b t i = 45 → v = 0) ∧ js_sl t (js_ns t i) (z - js_ns t i) = js_dec v)) := by
  rw [js_nu] at h
  split at h
  · cases h
  · rename_i hd
    split at h
    · cases h
    · rename_i hg
      split at h
      · cases h
        have h1 := js_ne_le hd
        have h2 := js_nd_ge t i
        have hdig : js_dig (js_sl t (js_nd t i) (js_ne t i - js_nd t i)) := by
          apply js_sl_dig hb
          intro j hj1 hj2
          by_cases e : j = js_nd t i
          · rw [e]; exact hd
          · rw [js_ne] at hj2
            split at hj2
            · omega
            · exact js_dg_dig (t.length - js_nd t i) (js_nd t i) j hj1 (by have := js_dg_ge (t := t) (t.length - js_nd t i) (js_nd t i); omega)
        have htg := js_tg_sl (s := 0) (by omega) hdig (by omega)
        have hle := js_tgn_le _ 0 hdig (by omega)
        have hM : js_tgn (js_sl t (js_nd t i) (js_ne t i - js_nd t i)) 0 ≤ js_M := by
          apply Nat.le_of_not_lt
          intro q
          apply hg
          have e0 : (0 : Int64) = js_l 0 := rfl
          rw [e0, htg]
          exact (js_l_lt (a := js_M) (by decide) (by unfold js_M at hle; omega)).mpr q
        have hnv := js_tgn_nv _ 0 (Or.inr hM)
        refine ⟨rfl, by omega, h1.2, _, hM, htg, ?_⟩
        rw [hnv]
        rw [hnv] at hM
        have hlt : js_nd t i < t.length := by omega
        have hs : js_sl t (js_nd t i) (js_ne t i - js_nd t i) = t[js_nd t i] :: js_sl t (js_nd t i + 1) (js_ne t i - js_nd t i - 1) := by
          unfold js_sl
          rw [List.drop_eq_getElem_cons hlt, show js_ne t i - js_nd t i = (js_ne t i - js_nd t i - 1) + 1 by omega, List.take_succ_cons]
          rfl
        have hbn : js_b t (js_nd t i) = nI t[js_nd t i] := by rw [js_b, List.getElem?_eq_getElem hlt]
        have hh := hdig t[js_nd t i] (by rw [hs]; exact List.mem_cons_self ..)
        by_cases q : js_b t (js_nd t i) = 48
        · have ens : js_ns t i = js_nd t i := by rw [js_ns, if_pos q]
          have ene : js_ne t i = js_nd t i + 1 := by rw [js_ne, if_pos q]
          have e48 : t[js_nd t i] = 48 := (nI_eq (b := 48) (by omega) (by decide)).mp (hbn.symm.trans q)
          have e1 : js_sl t (js_nd t i) (js_ne t i - js_nd t i) = [48] := by rw [hs, e48, show js_ne t i - js_nd t i - 1 = 0 by omega, js_sl_0]
          rw [ens, e1]
          exact Or.inr ⟨fun _ => rfl, rfl⟩
        · have ens : js_ns t i = i := by rw [js_ns, if_neg q]
          have hne48 : t[js_nd t i] ≠ 48 := fun w => q (by rw [hbn, w]; rfl)
          have hdec : js_sl t (js_nd t i) (js_ne t i - js_nd t i) = js_dec (js_nv (js_sl t (js_nd t i) (js_ne t i - js_nd t i)) 0) := by
            rw [hs] at hM ⊢
            rw [js_nv] at hM ⊢
            have hdd := js_dec_app (js_sl t (js_nd t i + 1) (js_ne t i - js_nd t i - 1)) (0 * 10 + (t[js_nd t i] - 48)) (by omega) (fun x hx => hdig x (by rw [hs]; exact List.mem_cons_of_mem _ hx)) hM
            rw [← hdd, js_dec_1 (by omega)]
            show _ :: _ = (48 + (0 * 10 + (t[js_nd t i] - 48))) :: _
            rw [show 48 + (0 * 10 + (t[js_nd t i] - 48)) = t[js_nd t i] by omega]
            rfl
          have hpos : 0 < js_nv (js_sl t (js_nd t i) (js_ne t i - js_nd t i)) 0 := by
            have := js_nv_ge (js_sl t (js_nd t i + 1) (js_ne t i - js_nd t i - 1)) (0 * 10 + (t[js_nd t i] - 48))
            rw [hs, js_nv]
            omega
          rw [ens]
          by_cases w : js_b t i = 45
          · refine Or.inl ⟨w, hpos, ?_⟩
            have end' : js_nd t i = i + 1 := by rw [js_nd, if_pos w]
            rw [← hdec]
            have hi : i < t.length := by omega
            have e45 : t[i] = 45 := by
              have : js_b t i = nI t[i] := by rw [js_b, List.getElem?_eq_getElem hi]
              have h256 := hb _ (List.getElem_mem hi)
              exact (nI_eq (b := 45) (by omega) (by decide)).mp (this.symm.trans w)
            rw [end']
            unfold js_sl
            rw [List.drop_eq_getElem_cons hi, show js_ne t i - i = (js_ne t i - (i + 1)) + 1 by omega, List.take_succ_cons, e45]
            rfl
          · refine Or.inr ⟨fun x => absurd x w, ?_⟩
            have end' : js_nd t i = i := by rw [js_nd, if_neg w]
            rw [end'] at hdec
            rw [end', ← hdec]
      · cases h
theorem js_nu_okn {t : List Nat} (hb : js_by t) {i z : Nat} (h : js_nu t i = .inr z) : js_okn (js_sl t (js_ns t i) (z - js_ns t i)) := by
  obtain ⟨-, -, -, v, hv, -, ⟨-, h2, h3⟩ | ⟨-, h3⟩⟩ := js_nu_ok hb h
  · exact ⟨true, v, hv, fun _ => h2, h3⟩
  · exact ⟨false, v, hv, fun q => absurd q (by decide), h3⟩
theorem js_okn_by {ds : List Nat} (h : js_okn ds) : (∀ x ∈ ds, x < 128) ∧ ∃ b l, ds = b :: l ∧ (b = 45 ∨ (48 ≤ b ∧ b ≤ 57)) := by
  obtain ⟨neg, v, hv, hn, rfl⟩ := h
  obtain ⟨d, l, e, h1, h2⟩ := js_dec_head hv
  constructor
  · intro x hx
    rcases List.mem_append.mp hx with q | q
    · cases neg with
      | true => rw [List.mem_singleton.mp q]; decide
      | false => exact absurd q List.not_mem_nil
    · have := js_dec_dig v x q; omega
  · cases neg with
    | true => exact ⟨45, _, rfl, Or.inl rfl⟩
    | false => exact ⟨d, l, e, Or.inr (js_dec_dig v d (by rw [e]; exact List.mem_cons_self ..))⟩
