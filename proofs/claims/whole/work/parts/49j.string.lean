-- ===== a string, sign by sign, as the reference reads it =====
theorem js_ua_small {t : List Nat} (hb : js_by t) {i : Nat} (h : js_ua t i = -1 ∨ js_ua t i = -2 ∨ ∃ u, u < 256 ∧ js_ua t i = nI u) : fn_Rd_isSecondOfTwo (js_ua t i) = 0 := by
  rcases h with h | h | ⟨u, hu, h⟩
  · rw [h]; decide
  · rw [h]; decide
  · rw [h]
    refine (js_f2 (by omega)).mpr (fun q => ?_)
    unfold js_lo at q
    omega
theorem js_ua_plain {t : List Nat} {i b : Nat} (h : js_b t i = nI b) (h1 : 32 ≤ b) (h2 : b ≤ 126) (h3 : b ≠ 34) (h4 : b ≠ 92) : js_ua t i = nI b ∧ js_ub t i = 1 := by
  have n : ∀ c, c < 2 ^ 31 → b ≠ c → ¬ nI b = nI c := fun c hc h q => h ((nI_eq (by omega) hc).mp q)
  have n92 : ¬ nI b = 92 := n 92 (by decide) h4
  have n34 : ¬ nI b = 34 := n 34 (by decide) h3
  have n32 : ¬ nI b < 32 := nI_nlt (b := 32) h1 (by omega)
  have n126 : ¬ 126 < nI b := nI_nlt (a := 126) h2 (by decide)
  rw [js_ua, js_ub, h, if_neg (js_nm1 (by omega)), if_neg n92, if_neg n32, if_neg n126, if_neg n34, if_neg (js_nm1 (by omega)), if_neg n92]
  exact ⟨rfl, rfl⟩
/-- a unit that is the second of two comes from \u -/
theorem js_ua_lo {t : List Nat} (hb : js_by t) {i : Nat} (h : ¬ fn_Rd_isSecondOfTwo (js_ua t i) = 0) : js_b t i = 92 ∧ js_b t (i + 1) = 117 := by
  have e := js_ua.eq_def t i
  rcases js_b_cases hb i with ⟨-, h0⟩ | ⟨b, hb256, -, h0⟩
  · rw [if_pos h0] at e
    exact absurd (js_ua_small hb (Or.inl e)) h
  · rw [h0, if_neg (js_nm1 (by omega))] at e
    by_cases h92 : nI b = 92
    · rw [if_pos h92] at e
      refine ⟨by rw [h0]; exact h92, ?_⟩
      rcases js_b_cases hb (i + 1) with ⟨-, h1⟩ | ⟨b1, hb1, -, h1⟩
      · rw [if_pos h1] at e
        exact absurd (js_ua_small hb (Or.inl e)) h
      · rw [h1, if_neg (js_nm1 (by omega))] at e
        by_cases h117 : nI b1 = 117
        · rw [h1]; exact h117
        · rw [if_neg h117] at e
          rcases js_us b1 hb1 with q | ⟨d, hd, q⟩
          · exact absurd (js_ua_small hb (Or.inr (Or.inl (e.trans q)))) h
          · exact absurd (js_ua_small hb (Or.inr (Or.inr ⟨d, by omega, e.trans q⟩))) h
    · rw [if_neg h92] at e
      split at e
      · exact absurd (js_ua_small hb (Or.inr (Or.inl e))) h
      · split at e
        · exact absurd (js_ua_small hb (Or.inr (Or.inl e))) h
        · split at e
          · exact absurd (js_ua_small hb (Or.inr (Or.inl e))) h
          · exact absurd (js_ua_small hb (Or.inr (Or.inr ⟨b, hb256, e⟩))) h
/-- the ways in which a string goes on, or ends -/
theorem js_st_cases {t : List Nat} (hb : js_by t) {n i : Nat} {ys : List Nat} {R : Nat ⊕ (List Nat × Nat)} (hi : i ≤ t.length) (h : js_st t (n + 1) i ys = R) :
    (js_b t i = 34 ∧ R = .inr (ys, i + 1)) ∨
    (∃ b, js_b t i = nI b ∧ 32 ≤ b ∧ b ≤ 126 ∧ b ≠ 34 ∧ b ≠ 92 ∧ i < t.length ∧ js_st t n (i + 1) (ys ++ [b]) = R) ∨
    (∃ v, js_b t i = 92 ∧ v < 65536 ∧ js_ua t i = nI v ∧ ¬ js_hi v ∧ ¬ js_lo v ∧ js_st t n (i + js_ub t i) (ys ++ [v]) = R) ∨
    (∃ v w, js_b t i = 92 ∧ js_hi v ∧ js_ua t i = nI v ∧ js_b t (i + js_ub t i) = 92 ∧ js_b t (i + js_ub t i + 1) = 117 ∧ js_lo w ∧ js_ua t (i + js_ub t i) = nI w ∧ js_st t n (i + (js_ub t i + js_ub t (i + js_ub t i))) (ys ++ [v, w]) = R) ∨
    (∃ q, R = .inl q ∧ ((js_b t i = -1 ∧ t.length ≤ i ∧ q = t.length) ∨ (∃ b, b < 256 ∧ js_b t i = nI b ∧ (b < 32 ∨ 126 < b) ∧ i < t.length ∧ q = i) ∨
      (js_b t i = 92 ∧ js_ua t i < 0 ∧ q = (if js_ua t i = -1 then t.length else i)) ∨
      (∃ v, js_b t i = 92 ∧ js_lo v ∧ js_ua t i = nI v ∧ q = i) ∨
      (∃ v, js_b t i = 92 ∧ js_hi v ∧ js_ua t i = nI v ∧ fn_Rd_isSecondOfTwo (js_ua t (i + js_ub t i)) = 0 ∧ q = (if js_ua t (i + js_ub t i) = -1 then t.length else i)))) := by
  rw [js_st] at h
  rcases js_b_cases hb i with ⟨h0, h1⟩ | ⟨b, hb256, h0, h1⟩
  · rw [if_pos h0] at h
    exact Or.inr (Or.inr (Or.inr (Or.inr ⟨t.length, h.symm, Or.inl ⟨h1, h0, rfl⟩⟩)))
  · have hlt : i < t.length := (List.getElem?_eq_some_iff.mp h0).1
    rw [if_neg (by omega)] at h
    by_cases q34 : js_b t i = 34
    · rw [if_pos q34] at h
      exact Or.inl ⟨q34, h.symm⟩
    · rw [if_neg q34] at h
      have b34 : b ≠ 34 := fun e => q34 (by rw [h1, e]; rfl)
      by_cases q92 : js_b t i = 92
      · cases hc : js_ch t i with
        | inl q =>
          rw [hc] at h
          refine Or.inr (Or.inr (Or.inr (Or.inr ⟨q, h.symm, Or.inr (Or.inr ?_)⟩)))
          rw [js_ch] at hc
          split at hc
          · rename_i hf
            split at hc
            · rename_i hneg
              exact Or.inl ⟨q92, hneg, (Sum.inl.inj hc).symm⟩
            · rename_i hneg
              obtain ⟨v, hv, e1, e2⟩ := js_ua_nat hb hneg
              split at hc
              · cases hc
              · rename_i hs
                rw [e1] at hs
                exact Or.inr (Or.inl ⟨v, q92, Classical.not_not.mp (fun z => hs ((js_f2 hv).mpr z)), e1, (Sum.inl.inj hc).symm⟩)
          · rename_i hf
            obtain ⟨v, hv, e1, e2⟩ := js_ua_nat hb (js_first hf).1
            split at hc
            · rename_i hs
              rw [e1] at hf
              exact Or.inr (Or.inr ⟨v, q92, Classical.not_not.mp (fun z => hf ((js_f1 hv).mpr z)), e1, hs, (Sum.inl.inj hc).symm⟩)
            · cases hc
        | inr r =>
          obtain ⟨us, k⟩ := r
          rw [hc] at h
          have h : js_st t n (i + k) (ys ++ us) = R := h
          rw [js_ch] at hc
          split at hc
          · rename_i hf
            split at hc
            · cases hc
            · rename_i hneg
              obtain ⟨v, hv, e1, e2⟩ := js_ua_nat hb hneg
              split at hc
              · rename_i hs
                cases hc
                rw [e1] at hf hs
                rw [e2] at h
                exact Or.inr (Or.inr (Or.inl ⟨v, q92, hv, e1, (js_f1 hv).mp hf, (js_f2 hv).mp hs, h⟩))
              · cases hc
          · rename_i hf
            obtain ⟨v, hv, e1, e2⟩ := js_ua_nat hb (js_first hf).1
            split at hc
            · cases hc
            · rename_i hs
              cases hc
              obtain ⟨w, hw, f1, f2⟩ := js_ua_nat hb (js_second hs).1
              have hlo := js_ua_lo hb hs
              rw [e1] at hf
              rw [f1] at hs
              rw [e2, f2] at h
              exact Or.inr (Or.inr (Or.inr (Or.inl ⟨v, w, q92, Classical.not_not.mp (fun z => hf ((js_f1 hv).mpr z)), e1, hlo.1, hlo.2, Classical.not_not.mp (fun z => hs ((js_f2 hw).mpr z)), f1, h⟩)))
      · have b92 : b ≠ 92 := fun e => q92 (by rw [h1, e]; rfl)
        by_cases hr : b < 32 ∨ 126 < b
        · refine Or.inr (Or.inr (Or.inr (Or.inr ⟨i, ?_, Or.inr (Or.inl ⟨b, hb256, h1, hr, hlt, rfl⟩)⟩)))
          have e := js_ua.eq_def t i
          rw [h1, if_neg (js_nm1 (by omega)), if_neg (show ¬ nI b = 92 from fun z => b92 ((nI_eq (b := 92) (by omega) (by decide)).mp z))] at e
          have e2 : js_ua t i = -2 := by
            rw [e]
            rcases hr with z | z
            · rw [if_pos (show nI b < 32 from nI_lt (b := 32) z (by decide))]
            · rw [if_neg (show ¬ nI b < 32 from nI_nlt (b := 32) (by omega) (by omega)), if_pos (show 126 < nI b from nI_lt (a := 126) z (by omega))]
          rw [js_ch, e2, if_pos (by decide), if_pos (by decide), if_neg (by decide)] at h
          exact h.symm
        · have hp := js_ua_plain h1 (by omega) (by omega) b34 b92
          have hc : js_ch t i = .inr ([b], 1) := by
            rw [js_ch, hp.1, hp.2, if_pos ((js_f1 (by omega)).mpr (fun z => by unfold js_hi at z; omega)), if_neg (nI_pos (by omega)), if_pos ((js_f2 (by omega)).mpr (fun z => by unfold js_lo at z; omega)), nI_clamp (by omega)]
          rw [hc] at h
          exact Or.inr (Or.inl ⟨b, h1, by omega, by omega, b34, b92, hlt, h⟩)
theorem js_hx_pos {t : List Nat} (hb : js_by t) : ∀ (k p a : Nat), js_hok t k p = true → ∃ x, x < (a + 1) * 16 ^ k ∧ js_hx t k p (nI a) = nI x
  | 0, p, a, _ => ⟨a, by omega, rfl⟩
  | k + 1, p, a, h => by
    rw [js_hok] at h
    split at h
    · cases h
    · rename_i h1
      split at h
      · cases h
      · rename_i h2
        rcases js_b_cases hb p with ⟨-, e⟩ | ⟨b, hb256, -, e⟩
        · exact absurd e h1
        · rw [js_hx, if_neg h1, if_neg h2]
          rw [e] at h2 ⊢
          rcases js_hd b hb256 with q | ⟨d, hd, q⟩
          · exact absurd q h2
          · rw [q, show (16 : Int32) = nI 16 from rfl, pk_mul, nI_add]
            obtain ⟨x, hx, e2⟩ := js_hx_pos hb k (p + 1) (a * 16 + d) h
            refine ⟨x, Nat.lt_of_lt_of_le hx ?_, e2⟩
            rw [Nat.pow_succ, Nat.mul_comm (16 ^ k) 16, ← Nat.mul_assoc]
            exact Nat.mul_le_mul_right _ (by omega)
theorem js_f3 {t : List Nat} (hb : js_by t) {i : Nat} (h : fn_Rd_isSecondOfTwo (js_ua t i) = 0) :
    (t.length ≤ i ∧ js_ua t i = -1) ∨ (i < t.length ∧ ¬ js_b t i = 92 ∧ ¬ js_ua t i = -1) ∨ (i < t.length ∧ js_b t i = 92 ∧ t.length ≤ i + 1 ∧ js_ua t i = -1) ∨ (js_b t i = 92 ∧ i + 1 < t.length ∧ ¬ js_b t (i + 1) = 117 ∧ ¬ js_ua t i = -1) ∨ (js_b t i = 92 ∧ i + 1 < t.length ∧ js_b t (i + 1) = 117 ∧ js_ua t i < 0) ∨ (js_b t i = 92 ∧ i + 1 < t.length ∧ js_b t (i + 1) = 117 ∧ ∃ w, w < 65536 ∧ js_ua t i = nI w ∧ ¬ js_lo w) := by
  have e := js_ua.eq_def t i
  rcases js_b_cases hb i with ⟨h0, h1⟩ | ⟨b, hb256, h0, h1⟩
  · rw [if_pos h1] at e
    exact Or.inl ⟨h0, e⟩
  · have hlt : i < t.length := (List.getElem?_eq_some_iff.mp h0).1
    rw [if_neg (by rw [h1]; exact js_nm1 (by omega))] at e
    by_cases h92 : js_b t i = 92
    · rw [if_pos h92] at e
      rcases js_b_cases hb (i + 1) with ⟨g0, g1⟩ | ⟨b1, hb1, g0, g1⟩
      · rw [if_pos g1] at e
        exact Or.inr (Or.inr (Or.inl ⟨hlt, h92, g0, e⟩))
      · have hlt1 : i + 1 < t.length := (List.getElem?_eq_some_iff.mp g0).1
        rw [if_neg (by rw [g1]; exact js_nm1 (by omega))] at e
        by_cases h117 : js_b t (i + 1) = 117
        · rcases js_ua_cases hb i with q | q | ⟨w, hw, q⟩
          · exact Or.inr (Or.inr (Or.inr (Or.inr (Or.inl ⟨h92, hlt1, h117, by rw [q]; decide⟩))))
          · exact Or.inr (Or.inr (Or.inr (Or.inr (Or.inl ⟨h92, hlt1, h117, by rw [q]; decide⟩))))
          · rw [q] at h
            exact Or.inr (Or.inr (Or.inr (Or.inr (Or.inr ⟨h92, hlt1, h117, w, hw, q, (js_f2 hw).mp h⟩))))
        · rw [if_neg h117, g1] at e
          refine Or.inr (Or.inr (Or.inr (Or.inl ⟨h92, hlt1, h117, ?_⟩)))
          rw [e]
          rcases js_us b1 hb1 with q | ⟨d, hd, q⟩
          · rw [q]; decide
          · rw [q]; exact js_nm1 (by omega)
    · rw [if_neg h92] at e
      refine Or.inr (Or.inl ⟨hlt, h92, ?_⟩)
      rw [e]
      split
      · decide
      · split
        · decide
        · split
          · decide
          · rw [h1]; exact js_nm1 (by omega)
theorem js_st_ext {t : List Nat} : ∀ {n p z : Nat} {us us2 : List Nat}, js_st t n p us = .inr (us2, z) → us.length ≤ us2.length
  | 0, p, z, us, us2, h => by cases h
  | n + 1, p, z, us, us2, h => by
    rw [js_st] at h
    split at h
    · cases h
    · split at h
      · cases h; exact Nat.le_refl _
      · split at h
        · cases h
        · have := js_st_ext h
          rw [List.length_append] at this
          omega
/-- what holds while units are added -/
def js_QI (F F1 : Nat → Nat → Int32) (u : Nat) (ys : List Nat) : Prop := (∀ i, i ≠ 10 → F1 i = F i) ∧ (∀ j, j < u → F1 10 j = F 10 j) ∧ js_TU F1 (u + ys.length) u ys ∧ (∀ j, j < u + ys.length → ∃ x, x < 65536 ∧ F1 10 j = nI x)
theorem js_QI.s {F F1 F2 : Nat → Nat → Int32} {u x : Nat} {ys : List Nat} (h : js_QI F F1 u ys) (hx : x < 65536) (ha : js_AU F1 F2 (u + ys.length) x) : js_QI F F2 u (ys ++ [x]) := by
  obtain ⟨a1, a2, a3, a4⟩ := h
  obtain ⟨b1, b2, b3⟩ := ha
  refine ⟨fun i hi => (b1 i hi).trans (a1 i hi), fun j hj => (b2 j (by omega)).trans (a2 j hj), ⟨Nat.le_refl _, fun i y hi => ?_⟩, fun j hj => ?_⟩
  · rcases Nat.lt_or_ge i ys.length with q | q
    · rw [List.getElem?_append_left q] at hi
      rw [b2 _ (by omega)]
      exact a3.2 i y hi
    · have hl := (List.getElem?_eq_some_iff.mp hi).1
      rw [List.length_append] at hl
      have e : i = ys.length := by
        have : [x].length = 1 := rfl
        omega
      subst e
      rw [List.getElem?_append_right (Nat.le_refl _), Nat.sub_self] at hi
      cases hi
      exact b3
  · rw [List.length_append] at hj
    have hj : j < u + (ys.length + 1) := hj
    rcases Nat.lt_or_ge j (u + ys.length) with q | q
    · rw [b2 j q]; exact a4 j q
    · have : j = u + ys.length := by omega
      rw [this]; exact ⟨x, hx, b3⟩
theorem js_f117 {f : Nat → Int32} {t : List Nat} (ht : js_tx f t) {j : Nat} (hj : j < t.length) : (f j = 117 ↔ js_b t j = 117) := by
  have h := ht j hj
  have e : js_b t j = nI t[j] := by rw [js_b, List.getElem?_eq_getElem hj]
  have k : ∀ b, b < 256 → (sb_b b = 117 ↔ nI b = 117) := by decide +kernel
  rw [h.2, e]
  exact k _ h.1
theorem js_st_u {t : List Nat} : ∀ {n p z : Nat} {us us2 : List Nat}, js_st t n p us = .inr (us2, z) → us2.length + p + 1 ≤ us.length + z
  | 0, p, z, us, us2, h => by cases h
  | n + 1, p, z, us, us2, h => by
    rw [js_st] at h
    split at h
    · cases h
    · split at h
      · cases h; omega
      · split at h
        · cases h
        · rename_i u k hc
          have h1 := js_st_u h
          have h2 : u.length ≤ k := by
            rw [js_ch] at hc
            split at hc
            · split at hc
              · cases hc
              · split at hc
                · cases hc
                  have := js_ub_pos t p
                  show 1 ≤ _
                  omega
                · cases hc
            · split at hc
              · cases hc
              · cases hc
                have := js_ub_pos t p
                have := js_ub_pos t (p + js_ub t p)
                show 2 ≤ _
                omega
          rw [List.length_append] at h1
          omega
