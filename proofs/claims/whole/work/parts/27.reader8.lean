set_option maxHeartbeats 4000000 in
set_option maxRecDepth 100000 in
/-- Reader.value(b) -/
theorem c_Rd_value_ok {l : Launch} {D : va_G} {dA : Nat → ClassId} {zz : (Nat → Nat) × (Nat → Nat)} (o tp pp nn ob nb tb pb s1 s2 s3 : Nat) (f g fS fE fH fO fB : Nat → Int32) (t pr : List Nat) (sk ns : List (Nat × Nat)) (i : Nat) (ub pl : Int32) (nx i2 : Nat) (pr2 : List Nat) (sk2 ns2 : List (Nat × Nat)) (ht : js_tx f t) (h4 : t.length ≤ 4096) (hR : js_R t i pr sk ns g fS fE fH fO fB) (hval : js_val t i pr sk ns = .inr (nx, i2, pr2, sk2, ns2)) : jv_M l D dA zz y_Rd_value b_Rd_value 2 (some (FieldType.int)) 6 [.ref o, .int (js_b t i)] [(o, .inr (2, [.ref tp, .ref pp, .ref nn, .ref ob, .ref nb, .int (nI sk.length), .int (nI i), .int ub, .int pl])), (tp, .inr (0, [.ref tb, .int (nI t.length)])), (tb, .inl (dA 0, 4096, .inl f)), (pp, .inr (0, [.ref pb, .int (nI pr.length)])), (pb, .inl (dA 0, 4096, .inl g)), (nn, .inr (1, [.ref pp, .ref s1, .ref s2, .ref s3, .int (nI ns.length)])), (s1, .inl (dA 1, 1024, .inl fS)), (s2, .inl (dA 1, 1024, .inl fE)), (s3, .inl (dA 1, 1024, .inl fH)), (ob, .inl (dA 0, 32, .inl fO)), (nb, .inl (dA 1, 32, .inl fB))] (jv_pi fun r (u : Int32 × (Nat → Int32) × (Nat → Int32) × (Nat → Int32)) => r = nI nx ∧ js_R t i2 pr2 sk2 ns2 u.2.1 fS fE fH u.2.2.1 u.2.2.2) (fun u => [(o, .inr (2, [.ref tp, .ref pp, .ref nn, .ref ob, .ref nb, .int (nI sk2.length), .int (nI i2), .int u.1, .int pl])), (tp, .inr (0, [.ref tb, .int (nI t.length)])), (tb, .inl (dA 0, 4096, .inl f)), (pp, .inr (0, [.ref pb, .int (nI pr2.length)])), (pb, .inl (dA 0, 4096, .inl u.2.1)), (nn, .inr (1, [.ref pp, .ref s1, .ref s2, .ref s3, .int (nI ns2.length)])), (s1, .inl (dA 1, 1024, .inl fS)), (s2, .inl (dA 1, 1024, .inl fE)), (s3, .inl (dA 1, 1024, .inl fH)), (ob, .inl (dA 0, 32, .inl u.2.2.1)), (nb, .inl (dA 1, 32, .inl u.2.2.2))]) 0 0 := by
  refine jv_M.of [(0, .ref o), (1, .int (js_b t i))] (by decide) (Nat.le_of_ble_eq_true rfl) rfl ?_
  intro pR eR sR mR belowR methR cR AR C hr hin
  obtain ⟨QR, hQ⟩ : ∃ QR, QR = jv_E D (jv_pi fun r (u : Int32 × (Nat → Int32) × (Nat → Int32) × (Nat → Int32)) => r = nI nx ∧ js_R t i2 pr2 sk2 ns2 u.2.1 fS fE fH u.2.2.1 u.2.2.2) (fun u => [(o, .inr (2, [.ref tp, .ref pp, .ref nn, .ref ob, .ref nb, .int (nI sk2.length), .int (nI i2), .int u.1, .int pl])), (tp, .inr (0, [.ref tb, .int (nI t.length)])), (tb, .inl (dA 0, 4096, .inl f)), (pp, .inr (0, [.ref pb, .int (nI pr2.length)])), (pb, .inl (dA 0, 4096, .inl u.2.1)), (nn, .inr (1, [.ref pp, .ref s1, .ref s2, .ref s3, .int (nI ns2.length)])), (s1, .inl (dA 1, 1024, .inl fS)), (s2, .inl (dA 1, 1024, .inl fE)), (s3, .inl (dA 1, 1024, .inl fH)), (ob, .inl (dA 0, 32, .inl u.2.2.1)), (nb, .inl (dA 1, 32, .inl u.2.2.2))]) belowR ([.ref o, .int (js_b t i)] : List Value).toArray sR AR 0 0 := ⟨_, rfl⟩
  rw [← hQ]
  refine jv_iload_n C (jd D_Rd_value 0 rfl) rfl 1 rfl ?_
  by_cases s1_34 : (js_b t i) = 34
  · refine jv_lookup (tgt := 81) (off := 80) C (jd D_Rd_value 1 rfl) (by decide) (by rw [s1_34] <;> rfl) (by decide) ?_
    rw [js_val, if_pos s1_34] at hval
    rcases hE : js_st t 4096 (i + 1) [] with qq | ⟨us, zq⟩ <;> rw [hE] at hval
    · cases hval
    · cases hval
      refine jv_aload_n C (jd D_Rd_value 14 rfl) rfl 0 rfl ?_
      have hit : i < t.length := js_b_lt (by rw [s1_34]; decide)
      refine jv_iconst (v := 5) C (jd D_Rd_value 15 rfl) (by decide) ?_
      refine jv_callV (wr := [(nn, .inr (1, [.ref pp, .ref s1, .ref s2, .ref s3, .int (nI ns.length)])), (s1, .inl (dA 1, 1024, .inl fS)), (s2, .inl (dA 1, 1024, .inl fE)), (s3, .inl (dA 1, 1024, .inl fH)), (ob, .inl (dA 0, 32, .inl fO)), (nb, .inl (dA 1, 32, .inl fB))]) C cl_Rd_99 (c_Rd_string_ok o tp pp nn ob nb (nI sk.length) ub pl i tb 4096 f t pb 4096 g pr 5 us i2 h4 (by decide) ht (by decide) hR.2.2.2.2.1 hit hR.2.1 (Nat.le_refl _) (by decide) hE) [0, 1, 2, 3, 4] [5, 6, 7, 8, 9, 10] rfl rfl rfl rfl (by decide) rfl rfl 0 rfl ⟨Nat.le_of_ble_eq_true rfl, Nat.le_of_ble_eq_true rfl⟩ ⟨Nat.le_of_ble_eq_true rfl, Nat.le_of_ble_eq_true rfl⟩ rfl rfl (Nat.le_of_ble_eq_true rfl) (jd D_Rd_value 16 rfl) (fun v1 v k1 => ?_)
      obtain ⟨r1, rfl, k1⟩ := k1
      refine jv_fix [6, 7, 8, 9, 10, 0, 1, 2, 3, 4, 5] [(o, .inr (2, [.ref tp, .ref pp, .ref nn, .ref ob, .ref nb, .int (nI sk.length), .int (nI i2), .int v.1, .int pl])), (tp, .inr (0, [.ref tb, .int (nI t.length)])), (tb, .inl (dA 0, 4096, .inl f)), (pp, .inr (0, [.ref pb, .int (nI (pr ++ [34] ++ us.flatMap js_pu ++ [34]).length)])), (pb, .inl (dA 0, 4096, .inl v.2)), (nn, .inr (1, [.ref pp, .ref s1, .ref s2, .ref s3, .int (nI ns.length)])), (s1, .inl (dA 1, 1024, .inl fS)), (s2, .inl (dA 1, 1024, .inl fE)), (s3, .inl (dA 1, 1024, .inl fH)), (ob, .inl (dA 0, 32, .inl fO)), (nb, .inl (dA 1, 32, .inl fB))] [.int r1] 0 0 rfl rfl rfl (Nat.le_refl _) (Nat.le_refl _) ?_
      obtain ⟨k1a, k1⟩ := k1
      subst k1a
      rw [hQ]
      exact jv_iret C hr (v.1, v.2, fO, fB) (⟨rfl, js_R_str ht.by hR k1 hE⟩) rfl [0, 1, 2, 3, 4, 5, 6, 7, 8, 9, 10] rfl rfl (Nat.le_of_ble_eq_true rfl) (Nat.le_of_ble_eq_true rfl) (jd D_Rd_value 17 rfl)
  by_cases s1_91 : (js_b t i) = 91
  · refine jv_lookup (tgt := 87) (off := 86) C (jd D_Rd_value 1 rfl) (by decide) (by rw [s1_91] <;> rfl) (by decide) ?_
    rw [js_val, if_neg s1_34, if_pos s1_91] at hval
    by_cases hE : 32 ≤ sk.length
    
    · rw [if_pos hE] at hval
      cases hval
    · rw [if_neg hE] at hval
      cases hval
      refine jv_aload_n C (jd D_Rd_value 18 rfl) rfl 0 rfl ?_
      have hit : i < t.length := js_b_lt (by rw [s1_91]; decide)
      refine jv_lveq (lv' := [(0, .ref o), (1, .int (nI 91))]) (by rw [s1_91]; rfl) ?_
      refine jv_iload_n C (jd D_Rd_value 19 rfl) rfl 1 rfl ?_
      refine jv_iconst (v := 1) C (jd D_Rd_value 20 rfl) (by decide) ?_
      refine jv_callV (wr := []) C cl_Rd_102 (c_Rd_open_ok o tp pp nn ob nb tb pb s1 s2 s3 f g fS fE fH fO fB t pr sk ns i ub pl 91 1 ht h4 hR hit (by decide) (by omega)) [0, 1, 2, 3, 4, 5, 6, 7, 8, 9, 10] [] rfl rfl rfl rfl (by decide) rfl rfl 0 rfl ⟨Nat.le_of_ble_eq_true rfl, Nat.le_of_ble_eq_true rfl⟩ ⟨Nat.le_of_ble_eq_true rfl, Nat.le_of_ble_eq_true rfl⟩ rfl rfl (Nat.le_of_ble_eq_true rfl) (jd D_Rd_value 21 rfl) (fun v2 g2 k1 => ?_)
      obtain ⟨r1, rfl, k1⟩ := k1
      refine jv_fix [0, 1, 2, 3, 4, 5, 6, 7, 8, 9, 10] [(o, .inr (2, [.ref tp, .ref pp, .ref nn, .ref ob, .ref nb, .int (nI ((sk ++ [(91, ns.length)]).length)), .int (nI (i + 1)), .int ub, .int pl])), (tp, .inr (0, [.ref tb, .int (nI t.length)])), (tb, .inl (dA 0, 4096, .inl f)), (pp, .inr (0, [.ref pb, .int (nI (pr ++ [91]).length)])), (pb, .inl (dA 0, 4096, .inl g2)), (nn, .inr (1, [.ref pp, .ref s1, .ref s2, .ref s3, .int (nI ns.length)])), (s1, .inl (dA 1, 1024, .inl fS)), (s2, .inl (dA 1, 1024, .inl fE)), (s3, .inl (dA 1, 1024, .inl fH)), (ob, .inl (dA 0, 32, .inl (upd fO sk.length (nI 91)))), (nb, .inl (dA 1, 32, .inl (upd fB sk.length (nI ns.length))))] [.int r1] 0 0 rfl rfl rfl (Nat.le_refl _) (Nat.le_refl _) ?_
      obtain ⟨k1a, k1⟩ := k1
      subst k1a
      rw [hQ]
      exact jv_iret C hr (ub, g2, upd fO sk.length (nI 91), upd fB sk.length (nI ns.length)) (⟨rfl, k1⟩) rfl [0, 1, 2, 3, 4, 5, 6, 7, 8, 9, 10] rfl rfl (Nat.le_of_ble_eq_true rfl) (Nat.le_of_ble_eq_true rfl) (jd D_Rd_value 22 rfl)
  by_cases s1_102 : (js_b t i) = 102
  · refine jv_lookup (tgt := 67) (off := 66) C (jd D_Rd_value 1 rfl) (by decide) (by rw [s1_102] <;> rfl) (by decide) ?_
    rw [js_val, if_neg s1_34, if_neg s1_91, if_pos s1_102] at hval
    rcases hE : js_li t 1 5 0 i with qq | zq <;> rw [hE] at hval
    · cases hval
    · cases hval
      refine jv_aload_n C (jd D_Rd_value 6 rfl) rfl 0 rfl ?_
      refine jv_ldcS C 1 rfl (jd D_Rd_value 7 rfl) ?_
      refine jv_callV (wr := []) C cl_Rd_91 (c_Rd_literal_ok o tp pp nn ob nb tb pb s1 s2 s3 f g fS fE fH fO fB t pr sk ns i ub pl 1 i2 ht h4 hR (by decide) (by decide) hE) [0, 1, 2, 3, 4, 5, 6, 7, 8, 9, 10] [] rfl rfl rfl rfl (by decide) rfl rfl 0 rfl ⟨Nat.le_of_ble_eq_true rfl, Nat.le_of_ble_eq_true rfl⟩ ⟨Nat.le_of_ble_eq_true rfl, Nat.le_of_ble_eq_true rfl⟩ rfl rfl (Nat.le_of_ble_eq_true rfl) (jd D_Rd_value 8 rfl) (fun v3 g2 k1 => ?_)
      obtain ⟨r1, rfl, k1⟩ := k1
      refine jv_fix [0, 1, 2, 3, 4, 5, 6, 7, 8, 9, 10] [(o, .inr (2, [.ref tp, .ref pp, .ref nn, .ref ob, .ref nb, .int (nI sk.length), .int (nI i2), .int ub, .int pl])), (tp, .inr (0, [.ref tb, .int (nI t.length)])), (tb, .inl (dA 0, 4096, .inl f)), (pp, .inr (0, [.ref pb, .int (nI (pr ++ js_wd 1).length)])), (pb, .inl (dA 0, 4096, .inl g2)), (nn, .inr (1, [.ref pp, .ref s1, .ref s2, .ref s3, .int (nI ns.length)])), (s1, .inl (dA 1, 1024, .inl fS)), (s2, .inl (dA 1, 1024, .inl fE)), (s3, .inl (dA 1, 1024, .inl fH)), (ob, .inl (dA 0, 32, .inl fO)), (nb, .inl (dA 1, 32, .inl fB))] [.int r1] 0 0 rfl rfl rfl (Nat.le_refl _) (Nat.le_refl _) ?_
      obtain ⟨k1a, k1⟩ := k1
      subst k1a
      rw [hQ]
      exact jv_iret C hr (ub, g2, fO, fB) (⟨rfl, k1⟩) rfl [0, 1, 2, 3, 4, 5, 6, 7, 8, 9, 10] rfl rfl (Nat.le_of_ble_eq_true rfl) (Nat.le_of_ble_eq_true rfl) (jd D_Rd_value 9 rfl)
  by_cases s1_110 : (js_b t i) = 110
  · refine jv_lookup (tgt := 60) (off := 59) C (jd D_Rd_value 1 rfl) (by decide) (by rw [s1_110] <;> rfl) (by decide) ?_
    rw [js_val, if_neg s1_34, if_neg s1_91, if_neg s1_102, if_pos s1_110] at hval
    rcases hE : js_li t 0 4 0 i with qq | zq <;> rw [hE] at hval
    · cases hval
    · cases hval
      refine jv_aload_n C (jd D_Rd_value 2 rfl) rfl 0 rfl ?_
      refine jv_ldcS C 0 rfl (jd D_Rd_value 3 rfl) ?_
      refine jv_callV (wr := []) C cl_Rd_91 (c_Rd_literal_ok o tp pp nn ob nb tb pb s1 s2 s3 f g fS fE fH fO fB t pr sk ns i ub pl 0 i2 ht h4 hR (by decide) (by decide) hE) [0, 1, 2, 3, 4, 5, 6, 7, 8, 9, 10] [] rfl rfl rfl rfl (by decide) rfl rfl 0 rfl ⟨Nat.le_of_ble_eq_true rfl, Nat.le_of_ble_eq_true rfl⟩ ⟨Nat.le_of_ble_eq_true rfl, Nat.le_of_ble_eq_true rfl⟩ rfl rfl (Nat.le_of_ble_eq_true rfl) (jd D_Rd_value 4 rfl) (fun v4 g2 k1 => ?_)
      obtain ⟨r1, rfl, k1⟩ := k1
      refine jv_fix [0, 1, 2, 3, 4, 5, 6, 7, 8, 9, 10] [(o, .inr (2, [.ref tp, .ref pp, .ref nn, .ref ob, .ref nb, .int (nI sk.length), .int (nI i2), .int ub, .int pl])), (tp, .inr (0, [.ref tb, .int (nI t.length)])), (tb, .inl (dA 0, 4096, .inl f)), (pp, .inr (0, [.ref pb, .int (nI (pr ++ js_wd 0).length)])), (pb, .inl (dA 0, 4096, .inl g2)), (nn, .inr (1, [.ref pp, .ref s1, .ref s2, .ref s3, .int (nI ns.length)])), (s1, .inl (dA 1, 1024, .inl fS)), (s2, .inl (dA 1, 1024, .inl fE)), (s3, .inl (dA 1, 1024, .inl fH)), (ob, .inl (dA 0, 32, .inl fO)), (nb, .inl (dA 1, 32, .inl fB))] [.int r1] 0 0 rfl rfl rfl (Nat.le_refl _) (Nat.le_refl _) ?_
      obtain ⟨k1a, k1⟩ := k1
      subst k1a
      rw [hQ]
      exact jv_iret C hr (ub, g2, fO, fB) (⟨rfl, k1⟩) rfl [0, 1, 2, 3, 4, 5, 6, 7, 8, 9, 10] rfl rfl (Nat.le_of_ble_eq_true rfl) (Nat.le_of_ble_eq_true rfl) (jd D_Rd_value 5 rfl)
  by_cases s1_116 : (js_b t i) = 116
  · refine jv_lookup (tgt := 74) (off := 73) C (jd D_Rd_value 1 rfl) (by decide) (by rw [s1_116] <;> rfl) (by decide) ?_
    rw [js_val, if_neg s1_34, if_neg s1_91, if_neg s1_102, if_neg s1_110, if_pos s1_116] at hval
    rcases hE : js_li t 2 4 0 i with qq | zq <;> rw [hE] at hval
    · cases hval
    · cases hval
      refine jv_aload_n C (jd D_Rd_value 10 rfl) rfl 0 rfl ?_
      refine jv_ldcS C 2 rfl (jd D_Rd_value 11 rfl) ?_
      refine jv_callV (wr := []) C cl_Rd_91 (c_Rd_literal_ok o tp pp nn ob nb tb pb s1 s2 s3 f g fS fE fH fO fB t pr sk ns i ub pl 2 i2 ht h4 hR (by decide) (by decide) hE) [0, 1, 2, 3, 4, 5, 6, 7, 8, 9, 10] [] rfl rfl rfl rfl (by decide) rfl rfl 0 rfl ⟨Nat.le_of_ble_eq_true rfl, Nat.le_of_ble_eq_true rfl⟩ ⟨Nat.le_of_ble_eq_true rfl, Nat.le_of_ble_eq_true rfl⟩ rfl rfl (Nat.le_of_ble_eq_true rfl) (jd D_Rd_value 12 rfl) (fun v5 g2 k1 => ?_)
      obtain ⟨r1, rfl, k1⟩ := k1
      refine jv_fix [0, 1, 2, 3, 4, 5, 6, 7, 8, 9, 10] [(o, .inr (2, [.ref tp, .ref pp, .ref nn, .ref ob, .ref nb, .int (nI sk.length), .int (nI i2), .int ub, .int pl])), (tp, .inr (0, [.ref tb, .int (nI t.length)])), (tb, .inl (dA 0, 4096, .inl f)), (pp, .inr (0, [.ref pb, .int (nI (pr ++ js_wd 2).length)])), (pb, .inl (dA 0, 4096, .inl g2)), (nn, .inr (1, [.ref pp, .ref s1, .ref s2, .ref s3, .int (nI ns.length)])), (s1, .inl (dA 1, 1024, .inl fS)), (s2, .inl (dA 1, 1024, .inl fE)), (s3, .inl (dA 1, 1024, .inl fH)), (ob, .inl (dA 0, 32, .inl fO)), (nb, .inl (dA 1, 32, .inl fB))] [.int r1] 0 0 rfl rfl rfl (Nat.le_refl _) (Nat.le_refl _) ?_
      obtain ⟨k1a, k1⟩ := k1
      subst k1a
      rw [hQ]
      exact jv_iret C hr (ub, g2, fO, fB) (⟨rfl, k1⟩) rfl [0, 1, 2, 3, 4, 5, 6, 7, 8, 9, 10] rfl rfl (Nat.le_of_ble_eq_true rfl) (Nat.le_of_ble_eq_true rfl) (jd D_Rd_value 13 rfl)
  by_cases s1_123 : (js_b t i) = 123
  · refine jv_lookup (tgt := 94) (off := 93) C (jd D_Rd_value 1 rfl) (by decide) (by rw [s1_123] <;> rfl) (by decide) ?_
    rw [js_val, if_neg s1_34, if_neg s1_91, if_neg s1_102, if_neg s1_110, if_neg s1_116, if_pos s1_123] at hval
    by_cases hE : 32 ≤ sk.length
    
    · rw [if_pos hE] at hval
      cases hval
    · rw [if_neg hE] at hval
      cases hval
      refine jv_aload_n C (jd D_Rd_value 23 rfl) rfl 0 rfl ?_
      have hit : i < t.length := js_b_lt (by rw [s1_123]; decide)
      refine jv_lveq (lv' := [(0, .ref o), (1, .int (nI 123))]) (by rw [s1_123]; rfl) ?_
      refine jv_iload_n C (jd D_Rd_value 24 rfl) rfl 1 rfl ?_
      refine jv_iconst (v := 3) C (jd D_Rd_value 25 rfl) (by decide) ?_
      refine jv_callV (wr := []) C cl_Rd_102 (c_Rd_open_ok o tp pp nn ob nb tb pb s1 s2 s3 f g fS fE fH fO fB t pr sk ns i ub pl 123 3 ht h4 hR hit (by decide) (by omega)) [0, 1, 2, 3, 4, 5, 6, 7, 8, 9, 10] [] rfl rfl rfl rfl (by decide) rfl rfl 0 rfl ⟨Nat.le_of_ble_eq_true rfl, Nat.le_of_ble_eq_true rfl⟩ ⟨Nat.le_of_ble_eq_true rfl, Nat.le_of_ble_eq_true rfl⟩ rfl rfl (Nat.le_of_ble_eq_true rfl) (jd D_Rd_value 26 rfl) (fun v6 g2 k1 => ?_)
      obtain ⟨r1, rfl, k1⟩ := k1
      refine jv_fix [0, 1, 2, 3, 4, 5, 6, 7, 8, 9, 10] [(o, .inr (2, [.ref tp, .ref pp, .ref nn, .ref ob, .ref nb, .int (nI ((sk ++ [(123, ns.length)]).length)), .int (nI (i + 1)), .int ub, .int pl])), (tp, .inr (0, [.ref tb, .int (nI t.length)])), (tb, .inl (dA 0, 4096, .inl f)), (pp, .inr (0, [.ref pb, .int (nI (pr ++ [123]).length)])), (pb, .inl (dA 0, 4096, .inl g2)), (nn, .inr (1, [.ref pp, .ref s1, .ref s2, .ref s3, .int (nI ns.length)])), (s1, .inl (dA 1, 1024, .inl fS)), (s2, .inl (dA 1, 1024, .inl fE)), (s3, .inl (dA 1, 1024, .inl fH)), (ob, .inl (dA 0, 32, .inl (upd fO sk.length (nI 123)))), (nb, .inl (dA 1, 32, .inl (upd fB sk.length (nI ns.length))))] [.int r1] 0 0 rfl rfl rfl (Nat.le_refl _) (Nat.le_refl _) ?_
      obtain ⟨k1a, k1⟩ := k1
      subst k1a
      rw [hQ]
      exact jv_iret C hr (ub, g2, upd fO sk.length (nI 123), upd fB sk.length (nI ns.length)) (⟨rfl, k1⟩) rfl [0, 1, 2, 3, 4, 5, 6, 7, 8, 9, 10] rfl rfl (Nat.le_of_ble_eq_true rfl) (Nat.le_of_ble_eq_true rfl) (jd D_Rd_value 27 rfl)
  refine jv_lookup (tgt := 101) (off := 100) C (jd D_Rd_value 1 rfl) (by decide) (by rw [lv_osw s1_34 (by decide), lv_osw s1_91 (by decide), lv_osw s1_102 (by decide), lv_osw s1_110 (by decide), lv_osw s1_116 (by decide), lv_osw s1_123 (by decide)] <;> rfl) (by decide) ?_
  rw [js_val, if_neg s1_34, if_neg s1_91, if_neg s1_102, if_neg s1_110, if_neg s1_116, if_neg s1_123] at hval
  rcases hE : js_nu t i with qq | zq <;> rw [hE] at hval
  · cases hval
  · cases hval
    refine jv_aload_n C (jd D_Rd_value 28 rfl) rfl 0 rfl ?_
    refine jv_iload_n C (jd D_Rd_value 29 rfl) rfl 1 rfl ?_
    refine jv_callV (wr := [(nn, .inr (1, [.ref pp, .ref s1, .ref s2, .ref s3, .int (nI ns.length)])), (s1, .inl (dA 1, 1024, .inl fS)), (s2, .inl (dA 1, 1024, .inl fE)), (s3, .inl (dA 1, 1024, .inl fH)), (ob, .inl (dA 0, 32, .inl fO)), (nb, .inl (dA 1, 32, .inl fB))]) C cl_Rd_106 (c_Rd_number_ok o tp pp nn ob nb (nI sk.length) ub pl i tb 4096 f t pb 4096 g pr i2 h4 (by decide) ht (by decide) hR.2.2.2.2.1 hR.1 hR.2.1 (Nat.le_refl _) (by decide) hE) [0, 1, 2, 3, 4] [5, 6, 7, 8, 9, 10] rfl rfl rfl rfl (by decide) rfl rfl 0 rfl ⟨Nat.le_of_ble_eq_true rfl, Nat.le_of_ble_eq_true rfl⟩ ⟨Nat.le_of_ble_eq_true rfl, Nat.le_of_ble_eq_true rfl⟩ rfl rfl (Nat.le_of_ble_eq_true rfl) (jd D_Rd_value 30 rfl) (fun v7 g2 k1 => ?_)
    obtain ⟨r1, rfl, k1⟩ := k1
    refine jv_fix [6, 7, 8, 9, 10, 0, 1, 2, 3, 4, 5] [(o, .inr (2, [.ref tp, .ref pp, .ref nn, .ref ob, .ref nb, .int (nI sk.length), .int (nI i2), .int ub, .int pl])), (tp, .inr (0, [.ref tb, .int (nI t.length)])), (tb, .inl (dA 0, 4096, .inl f)), (pp, .inr (0, [.ref pb, .int (nI (pr ++ js_sl t (js_ns t i) (i2 - js_ns t i)).length)])), (pb, .inl (dA 0, 4096, .inl g2)), (nn, .inr (1, [.ref pp, .ref s1, .ref s2, .ref s3, .int (nI ns.length)])), (s1, .inl (dA 1, 1024, .inl fS)), (s2, .inl (dA 1, 1024, .inl fE)), (s3, .inl (dA 1, 1024, .inl fH)), (ob, .inl (dA 0, 32, .inl fO)), (nb, .inl (dA 1, 32, .inl fB))] [.int r1] 0 0 rfl rfl rfl (Nat.le_refl _) (Nat.le_refl _) ?_
    obtain ⟨k1a, k1⟩ := k1
    subst k1a
    rw [hQ]
    exact jv_iret C hr (ub, g2, fO, fB) (⟨rfl, js_R_num hR k1 hE⟩) rfl [0, 1, 2, 3, 4, 5, 6, 7, 8, 9, 10] rfl rfl (Nat.le_of_ble_eq_true rfl) (Nat.le_of_ble_eq_true rfl) (jd D_Rd_value 31 rfl)

set_option maxHeartbeats 4000000 in
set_option maxRecDepth 100000 in
/-- Reader.value(b), where it breaks -/
theorem c_Rd_value_no {l : Launch} {D : va_G} {dA : Nat → ClassId} {zz : (Nat → Nat) × (Nat → Nat)} (o tp pp nn ob nb tb pb s1 s2 s3 : Nat) (f g fS fE fH fO fB : Nat → Int32) (t pr : List Nat) (sk ns : List (Nat × Nat)) (i : Nat) (ub pl : Int32) (q0 : Nat) (ht : js_tx f t) (h4 : t.length ≤ 4096) (hR : js_R t i pr sk ns g fS fE fH fO fB) (hval : js_val t i pr sk ns = .inl q0) : jv_M l D dA zz y_Rd_value b_Rd_value 2 (some (FieldType.int)) 6 [.ref o, .int (js_b t i)] [(o, .inr (2, [.ref tp, .ref pp, .ref nn, .ref ob, .ref nb, .int (nI sk.length), .int (nI i), .int ub, .int pl])), (tp, .inr (0, [.ref tb, .int (nI t.length)])), (tb, .inl (dA 0, 4096, .inl f)), (pp, .inr (0, [.ref pb, .int (nI pr.length)])), (pb, .inl (dA 0, 4096, .inl g)), (nn, .inr (1, [.ref pp, .ref s1, .ref s2, .ref s3, .int (nI ns.length)])), (s1, .inl (dA 1, 1024, .inl fS)), (s2, .inl (dA 1, 1024, .inl fE)), (s3, .inl (dA 1, 1024, .inl fH)), (ob, .inl (dA 0, 32, .inl fO)), (nb, .inl (dA 1, 32, .inl fB))] (jv_pi fun r (u : Nat × Int32 × (Nat → Int32) × List Nat) => r = 6 ∧ js_tx u.2.2.1 u.2.2.2 ∧ u.2.2.2.length ≤ 4096 ∧ u.1 ≤ t.length) (fun u => [(o, .inr (2, [.ref tp, .ref pp, .ref nn, .ref ob, .ref nb, .int (nI sk.length), .int (nI u.1), .int u.2.1, .int (nI q0)])), (tp, .inr (0, [.ref tb, .int (nI t.length)])), (tb, .inl (dA 0, 4096, .inl f)), (pp, .inr (0, [.ref pb, .int (nI u.2.2.2.length)])), (pb, .inl (dA 0, 4096, .inl u.2.2.1)), (nn, .inr (1, [.ref pp, .ref s1, .ref s2, .ref s3, .int (nI ns.length)])), (s1, .inl (dA 1, 1024, .inl fS)), (s2, .inl (dA 1, 1024, .inl fE)), (s3, .inl (dA 1, 1024, .inl fH)), (ob, .inl (dA 0, 32, .inl fO)), (nb, .inl (dA 1, 32, .inl fB))]) 0 0 := by
  refine jv_M.of [(0, .ref o), (1, .int (js_b t i))] (by decide) (Nat.le_of_ble_eq_true rfl) rfl ?_
  intro pR eR sR mR belowR methR cR AR C hr hin
  obtain ⟨QR, hQ⟩ : ∃ QR, QR = jv_E D (jv_pi fun r (u : Nat × Int32 × (Nat → Int32) × List Nat) => r = 6 ∧ js_tx u.2.2.1 u.2.2.2 ∧ u.2.2.2.length ≤ 4096 ∧ u.1 ≤ t.length) (fun u => [(o, .inr (2, [.ref tp, .ref pp, .ref nn, .ref ob, .ref nb, .int (nI sk.length), .int (nI u.1), .int u.2.1, .int (nI q0)])), (tp, .inr (0, [.ref tb, .int (nI t.length)])), (tb, .inl (dA 0, 4096, .inl f)), (pp, .inr (0, [.ref pb, .int (nI u.2.2.2.length)])), (pb, .inl (dA 0, 4096, .inl u.2.2.1)), (nn, .inr (1, [.ref pp, .ref s1, .ref s2, .ref s3, .int (nI ns.length)])), (s1, .inl (dA 1, 1024, .inl fS)), (s2, .inl (dA 1, 1024, .inl fE)), (s3, .inl (dA 1, 1024, .inl fH)), (ob, .inl (dA 0, 32, .inl fO)), (nb, .inl (dA 1, 32, .inl fB))]) belowR ([.ref o, .int (js_b t i)] : List Value).toArray sR AR 0 0 := ⟨_, rfl⟩
  rw [← hQ]
  refine jv_iload_n C (jd D_Rd_value 0 rfl) rfl 1 rfl ?_
  by_cases s1_34 : (js_b t i) = 34
  · refine jv_lookup (tgt := 81) (off := 80) C (jd D_Rd_value 1 rfl) (by decide) (by rw [s1_34] <;> rfl) (by decide) ?_
    rw [js_val, if_pos s1_34] at hval
    rcases hE : js_st t 4096 (i + 1) [] with qq | ⟨us, zq⟩ <;> rw [hE] at hval
    · cases hval
      refine jv_aload_n C (jd D_Rd_value 14 rfl) rfl 0 rfl ?_
      have hit : i < t.length := js_b_lt (by rw [s1_34]; decide)
      refine jv_iconst (v := 5) C (jd D_Rd_value 15 rfl) (by decide) ?_
      refine jv_callV (wr := [(nn, .inr (1, [.ref pp, .ref s1, .ref s2, .ref s3, .int (nI ns.length)])), (s1, .inl (dA 1, 1024, .inl fS)), (s2, .inl (dA 1, 1024, .inl fE)), (s3, .inl (dA 1, 1024, .inl fH)), (ob, .inl (dA 0, 32, .inl fO)), (nb, .inl (dA 1, 32, .inl fB))]) C cl_Rd_99 (c_Rd_string_no o tp pp nn ob nb (nI sk.length) ub pl i tb 4096 f t pb 4096 g pr 5 q0 h4 (by decide) ht (by decide) hR.2.2.2.2.1 hit hR.2.1 (Nat.le_refl _) (by decide) hE) [0, 1, 2, 3, 4] [5, 6, 7, 8, 9, 10] rfl rfl rfl rfl (by decide) rfl rfl 0 rfl ⟨Nat.le_of_ble_eq_true rfl, Nat.le_of_ble_eq_true rfl⟩ ⟨Nat.le_of_ble_eq_true rfl, Nat.le_of_ble_eq_true rfl⟩ rfl rfl (Nat.le_of_ble_eq_true rfl) (jd D_Rd_value 16 rfl) (fun v1 v k1 => ?_)
      obtain ⟨r1, rfl, k1⟩ := k1
      refine jv_fix [6, 7, 8, 9, 10, 0, 1, 2, 3, 4, 5] [(o, .inr (2, [.ref tp, .ref pp, .ref nn, .ref ob, .ref nb, .int (nI sk.length), .int (nI v.1), .int v.2.1, .int (nI q0)])), (tp, .inr (0, [.ref tb, .int (nI t.length)])), (tb, .inl (dA 0, 4096, .inl f)), (pp, .inr (0, [.ref pb, .int (nI v.2.2.2.length)])), (pb, .inl (dA 0, 4096, .inl v.2.2.1)), (nn, .inr (1, [.ref pp, .ref s1, .ref s2, .ref s3, .int (nI ns.length)])), (s1, .inl (dA 1, 1024, .inl fS)), (s2, .inl (dA 1, 1024, .inl fE)), (s3, .inl (dA 1, 1024, .inl fH)), (ob, .inl (dA 0, 32, .inl fO)), (nb, .inl (dA 1, 32, .inl fB))] [.int r1] 0 0 rfl rfl rfl (Nat.le_refl _) (Nat.le_refl _) ?_
      obtain ⟨k1a, k1⟩ := k1
      subst k1a
      rw [hQ]
      exact jv_iret C hr (v.1, v.2.1, v.2.2.1, v.2.2.2) (⟨rfl, k1.1, k1.2.1, k1.2.2⟩) rfl [0, 1, 2, 3, 4, 5, 6, 7, 8, 9, 10] rfl rfl (Nat.le_of_ble_eq_true rfl) (Nat.le_of_ble_eq_true rfl) (jd D_Rd_value 17 rfl)
    · cases hval
  by_cases s1_91 : (js_b t i) = 91
  · refine jv_lookup (tgt := 87) (off := 86) C (jd D_Rd_value 1 rfl) (by decide) (by rw [s1_91] <;> rfl) (by decide) ?_
    rw [js_val, if_neg s1_34, if_pos s1_91] at hval
    by_cases hE : 32 ≤ sk.length
    
    · rw [if_pos hE] at hval
      cases hval
      refine jv_aload_n C (jd D_Rd_value 18 rfl) rfl 0 rfl ?_
      have hit : i < t.length := js_b_lt (by rw [s1_91]; decide)
      refine jv_lveq (lv' := [(0, .ref o), (1, .int (nI 91))]) (by rw [s1_91]; rfl) ?_
      refine jv_iload_n C (jd D_Rd_value 19 rfl) rfl 1 rfl ?_
      refine jv_iconst (v := 1) C (jd D_Rd_value 20 rfl) (by decide) ?_
      refine jv_callV (wr := []) C cl_Rd_102 (c_Rd_open_no o tp pp nn ob nb tb pb s1 s2 s3 f g fS fE fH fO fB t pr sk ns i ub pl 91 1 hE hR.2.2.1) [0, 1, 2, 3, 4, 5, 6, 7, 8, 9, 10] [] rfl rfl rfl rfl (by decide) rfl rfl 0 rfl ⟨Nat.le_of_ble_eq_true rfl, Nat.le_of_ble_eq_true rfl⟩ ⟨Nat.le_of_ble_eq_true rfl, Nat.le_of_ble_eq_true rfl⟩ rfl rfl (Nat.le_of_ble_eq_true rfl) (jd D_Rd_value 21 rfl) (fun v2 _ k1 => ?_)
      obtain ⟨r1, rfl, k1⟩ := k1
      refine jv_fix [0, 1, 2, 3, 4, 5, 6, 7, 8, 9, 10] [(o, .inr (2, [.ref tp, .ref pp, .ref nn, .ref ob, .ref nb, .int (nI sk.length), .int (nI i), .int ub, .int (nI i)])), (tp, .inr (0, [.ref tb, .int (nI t.length)])), (tb, .inl (dA 0, 4096, .inl f)), (pp, .inr (0, [.ref pb, .int (nI pr.length)])), (pb, .inl (dA 0, 4096, .inl g)), (nn, .inr (1, [.ref pp, .ref s1, .ref s2, .ref s3, .int (nI ns.length)])), (s1, .inl (dA 1, 1024, .inl fS)), (s2, .inl (dA 1, 1024, .inl fE)), (s3, .inl (dA 1, 1024, .inl fH)), (ob, .inl (dA 0, 32, .inl fO)), (nb, .inl (dA 1, 32, .inl fB))] [.int r1] 0 0 rfl rfl rfl (Nat.le_refl _) (Nat.le_refl _) ?_
      subst k1
      rw [hQ]
      exact jv_iret C hr (i, ub, g, pr) (⟨rfl, (hR).2.2.2.2.1, Nat.le_trans (hR).2.1 (Nat.le_trans (hR).1 h4), (hR).1⟩) rfl [0, 1, 2, 3, 4, 5, 6, 7, 8, 9, 10] rfl rfl (Nat.le_of_ble_eq_true rfl) (Nat.le_of_ble_eq_true rfl) (jd D_Rd_value 22 rfl)
    · rw [if_neg hE] at hval
      cases hval
  by_cases s1_102 : (js_b t i) = 102
  · refine jv_lookup (tgt := 67) (off := 66) C (jd D_Rd_value 1 rfl) (by decide) (by rw [s1_102] <;> rfl) (by decide) ?_
    rw [js_val, if_neg s1_34, if_neg s1_91, if_pos s1_102] at hval
    rcases hE : js_li t 1 5 0 i with qq | zq <;> rw [hE] at hval
    · cases hval
      refine jv_aload_n C (jd D_Rd_value 6 rfl) rfl 0 rfl ?_
      refine jv_ldcS C 1 rfl (jd D_Rd_value 7 rfl) ?_
      refine jv_callV (wr := []) C cl_Rd_91 (c_Rd_literal_no o tp pp nn ob nb tb pb s1 s2 s3 f g fS fE fH fO fB t pr sk ns i ub pl 1 q0 ht h4 hR (by decide) (by decide) hE) [0, 1, 2, 3, 4, 5, 6, 7, 8, 9, 10] [] rfl rfl rfl rfl (by decide) rfl rfl 0 rfl ⟨Nat.le_of_ble_eq_true rfl, Nat.le_of_ble_eq_true rfl⟩ ⟨Nat.le_of_ble_eq_true rfl, Nat.le_of_ble_eq_true rfl⟩ rfl rfl (Nat.le_of_ble_eq_true rfl) (jd D_Rd_value 8 rfl) (fun v3 v k1 => ?_)
      obtain ⟨r1, rfl, k1⟩ := k1
      refine jv_fix [0, 1, 2, 3, 4, 5, 6, 7, 8, 9, 10] [(o, .inr (2, [.ref tp, .ref pp, .ref nn, .ref ob, .ref nb, .int (nI sk.length), .int (nI (i + v.1)), .int ub, .int (nI q0)])), (tp, .inr (0, [.ref tb, .int (nI t.length)])), (tb, .inl (dA 0, 4096, .inl f)), (pp, .inr (0, [.ref pb, .int (nI (pr ++ (js_wd 1).take v.1).length)])), (pb, .inl (dA 0, 4096, .inl v.2)), (nn, .inr (1, [.ref pp, .ref s1, .ref s2, .ref s3, .int (nI ns.length)])), (s1, .inl (dA 1, 1024, .inl fS)), (s2, .inl (dA 1, 1024, .inl fE)), (s3, .inl (dA 1, 1024, .inl fH)), (ob, .inl (dA 0, 32, .inl fO)), (nb, .inl (dA 1, 32, .inl fB))] [.int r1] 0 0 rfl rfl rfl (Nat.le_refl _) (Nat.le_refl _) ?_
      obtain ⟨k1a, k1⟩ := k1
      subst k1a
      rw [hQ]
      exact jv_iret C hr (i + v.1, ub, v.2, pr ++ (js_wd 1).take v.1) (⟨rfl, (k1).2.2.2.2.1, Nat.le_trans (k1).2.1 (Nat.le_trans (k1).1 h4), (k1).1⟩) rfl [0, 1, 2, 3, 4, 5, 6, 7, 8, 9, 10] rfl rfl (Nat.le_of_ble_eq_true rfl) (Nat.le_of_ble_eq_true rfl) (jd D_Rd_value 9 rfl)
    · cases hval
  by_cases s1_110 : (js_b t i) = 110
  · refine jv_lookup (tgt := 60) (off := 59) C (jd D_Rd_value 1 rfl) (by decide) (by rw [s1_110] <;> rfl) (by decide) ?_
    rw [js_val, if_neg s1_34, if_neg s1_91, if_neg s1_102, if_pos s1_110] at hval
    rcases hE : js_li t 0 4 0 i with qq | zq <;> rw [hE] at hval
    · cases hval
      refine jv_aload_n C (jd D_Rd_value 2 rfl) rfl 0 rfl ?_
      refine jv_ldcS C 0 rfl (jd D_Rd_value 3 rfl) ?_
      refine jv_callV (wr := []) C cl_Rd_91 (c_Rd_literal_no o tp pp nn ob nb tb pb s1 s2 s3 f g fS fE fH fO fB t pr sk ns i ub pl 0 q0 ht h4 hR (by decide) (by decide) hE) [0, 1, 2, 3, 4, 5, 6, 7, 8, 9, 10] [] rfl rfl rfl rfl (by decide) rfl rfl 0 rfl ⟨Nat.le_of_ble_eq_true rfl, Nat.le_of_ble_eq_true rfl⟩ ⟨Nat.le_of_ble_eq_true rfl, Nat.le_of_ble_eq_true rfl⟩ rfl rfl (Nat.le_of_ble_eq_true rfl) (jd D_Rd_value 4 rfl) (fun v4 v k1 => ?_)
      obtain ⟨r1, rfl, k1⟩ := k1
      refine jv_fix [0, 1, 2, 3, 4, 5, 6, 7, 8, 9, 10] [(o, .inr (2, [.ref tp, .ref pp, .ref nn, .ref ob, .ref nb, .int (nI sk.length), .int (nI (i + v.1)), .int ub, .int (nI q0)])), (tp, .inr (0, [.ref tb, .int (nI t.length)])), (tb, .inl (dA 0, 4096, .inl f)), (pp, .inr (0, [.ref pb, .int (nI (pr ++ (js_wd 0).take v.1).length)])), (pb, .inl (dA 0, 4096, .inl v.2)), (nn, .inr (1, [.ref pp, .ref s1, .ref s2, .ref s3, .int (nI ns.length)])), (s1, .inl (dA 1, 1024, .inl fS)), (s2, .inl (dA 1, 1024, .inl fE)), (s3, .inl (dA 1, 1024, .inl fH)), (ob, .inl (dA 0, 32, .inl fO)), (nb, .inl (dA 1, 32, .inl fB))] [.int r1] 0 0 rfl rfl rfl (Nat.le_refl _) (Nat.le_refl _) ?_
      obtain ⟨k1a, k1⟩ := k1
      subst k1a
      rw [hQ]
      exact jv_iret C hr (i + v.1, ub, v.2, pr ++ (js_wd 0).take v.1) (⟨rfl, (k1).2.2.2.2.1, Nat.le_trans (k1).2.1 (Nat.le_trans (k1).1 h4), (k1).1⟩) rfl [0, 1, 2, 3, 4, 5, 6, 7, 8, 9, 10] rfl rfl (Nat.le_of_ble_eq_true rfl) (Nat.le_of_ble_eq_true rfl) (jd D_Rd_value 5 rfl)
    · cases hval
  by_cases s1_116 : (js_b t i) = 116
  · refine jv_lookup (tgt := 74) (off := 73) C (jd D_Rd_value 1 rfl) (by decide) (by rw [s1_116] <;> rfl) (by decide) ?_
    rw [js_val, if_neg s1_34, if_neg s1_91, if_neg s1_102, if_neg s1_110, if_pos s1_116] at hval
    rcases hE : js_li t 2 4 0 i with qq | zq <;> rw [hE] at hval
    · cases hval
      refine jv_aload_n C (jd D_Rd_value 10 rfl) rfl 0 rfl ?_
      refine jv_ldcS C 2 rfl (jd D_Rd_value 11 rfl) ?_
      refine jv_callV (wr := []) C cl_Rd_91 (c_Rd_literal_no o tp pp nn ob nb tb pb s1 s2 s3 f g fS fE fH fO fB t pr sk ns i ub pl 2 q0 ht h4 hR (by decide) (by decide) hE) [0, 1, 2, 3, 4, 5, 6, 7, 8, 9, 10] [] rfl rfl rfl rfl (by decide) rfl rfl 0 rfl ⟨Nat.le_of_ble_eq_true rfl, Nat.le_of_ble_eq_true rfl⟩ ⟨Nat.le_of_ble_eq_true rfl, Nat.le_of_ble_eq_true rfl⟩ rfl rfl (Nat.le_of_ble_eq_true rfl) (jd D_Rd_value 12 rfl) (fun v5 v k1 => ?_)
      obtain ⟨r1, rfl, k1⟩ := k1
      refine jv_fix [0, 1, 2, 3, 4, 5, 6, 7, 8, 9, 10] [(o, .inr (2, [.ref tp, .ref pp, .ref nn, .ref ob, .ref nb, .int (nI sk.length), .int (nI (i + v.1)), .int ub, .int (nI q0)])), (tp, .inr (0, [.ref tb, .int (nI t.length)])), (tb, .inl (dA 0, 4096, .inl f)), (pp, .inr (0, [.ref pb, .int (nI (pr ++ (js_wd 2).take v.1).length)])), (pb, .inl (dA 0, 4096, .inl v.2)), (nn, .inr (1, [.ref pp, .ref s1, .ref s2, .ref s3, .int (nI ns.length)])), (s1, .inl (dA 1, 1024, .inl fS)), (s2, .inl (dA 1, 1024, .inl fE)), (s3, .inl (dA 1, 1024, .inl fH)), (ob, .inl (dA 0, 32, .inl fO)), (nb, .inl (dA 1, 32, .inl fB))] [.int r1] 0 0 rfl rfl rfl (Nat.le_refl _) (Nat.le_refl _) ?_
      obtain ⟨k1a, k1⟩ := k1
      subst k1a
      rw [hQ]
      exact jv_iret C hr (i + v.1, ub, v.2, pr ++ (js_wd 2).take v.1) (⟨rfl, (k1).2.2.2.2.1, Nat.le_trans (k1).2.1 (Nat.le_trans (k1).1 h4), (k1).1⟩) rfl [0, 1, 2, 3, 4, 5, 6, 7, 8, 9, 10] rfl rfl (Nat.le_of_ble_eq_true rfl) (Nat.le_of_ble_eq_true rfl) (jd D_Rd_value 13 rfl)
    · cases hval
  by_cases s1_123 : (js_b t i) = 123
  · refine jv_lookup (tgt := 94) (off := 93) C (jd D_Rd_value 1 rfl) (by decide) (by rw [s1_123] <;> rfl) (by decide) ?_
    rw [js_val, if_neg s1_34, if_neg s1_91, if_neg s1_102, if_neg s1_110, if_neg s1_116, if_pos s1_123] at hval
    by_cases hE : 32 ≤ sk.length
    
    · rw [if_pos hE] at hval
      cases hval
      refine jv_aload_n C (jd D_Rd_value 23 rfl) rfl 0 rfl ?_
      have hit : i < t.length := js_b_lt (by rw [s1_123]; decide)
      refine jv_lveq (lv' := [(0, .ref o), (1, .int (nI 123))]) (by rw [s1_123]; rfl) ?_
      refine jv_iload_n C (jd D_Rd_value 24 rfl) rfl 1 rfl ?_
      refine jv_iconst (v := 3) C (jd D_Rd_value 25 rfl) (by decide) ?_
      refine jv_callV (wr := []) C cl_Rd_102 (c_Rd_open_no o tp pp nn ob nb tb pb s1 s2 s3 f g fS fE fH fO fB t pr sk ns i ub pl 123 3 hE hR.2.2.1) [0, 1, 2, 3, 4, 5, 6, 7, 8, 9, 10] [] rfl rfl rfl rfl (by decide) rfl rfl 0 rfl ⟨Nat.le_of_ble_eq_true rfl, Nat.le_of_ble_eq_true rfl⟩ ⟨Nat.le_of_ble_eq_true rfl, Nat.le_of_ble_eq_true rfl⟩ rfl rfl (Nat.le_of_ble_eq_true rfl) (jd D_Rd_value 26 rfl) (fun v6 _ k1 => ?_)
      obtain ⟨r1, rfl, k1⟩ := k1
      refine jv_fix [0, 1, 2, 3, 4, 5, 6, 7, 8, 9, 10] [(o, .inr (2, [.ref tp, .ref pp, .ref nn, .ref ob, .ref nb, .int (nI sk.length), .int (nI i), .int ub, .int (nI i)])), (tp, .inr (0, [.ref tb, .int (nI t.length)])), (tb, .inl (dA 0, 4096, .inl f)), (pp, .inr (0, [.ref pb, .int (nI pr.length)])), (pb, .inl (dA 0, 4096, .inl g)), (nn, .inr (1, [.ref pp, .ref s1, .ref s2, .ref s3, .int (nI ns.length)])), (s1, .inl (dA 1, 1024, .inl fS)), (s2, .inl (dA 1, 1024, .inl fE)), (s3, .inl (dA 1, 1024, .inl fH)), (ob, .inl (dA 0, 32, .inl fO)), (nb, .inl (dA 1, 32, .inl fB))] [.int r1] 0 0 rfl rfl rfl (Nat.le_refl _) (Nat.le_refl _) ?_
      subst k1
      rw [hQ]
      exact jv_iret C hr (i, ub, g, pr) (⟨rfl, (hR).2.2.2.2.1, Nat.le_trans (hR).2.1 (Nat.le_trans (hR).1 h4), (hR).1⟩) rfl [0, 1, 2, 3, 4, 5, 6, 7, 8, 9, 10] rfl rfl (Nat.le_of_ble_eq_true rfl) (Nat.le_of_ble_eq_true rfl) (jd D_Rd_value 27 rfl)
    · rw [if_neg hE] at hval
      cases hval
  refine jv_lookup (tgt := 101) (off := 100) C (jd D_Rd_value 1 rfl) (by decide) (by rw [lv_osw s1_34 (by decide), lv_osw s1_91 (by decide), lv_osw s1_102 (by decide), lv_osw s1_110 (by decide), lv_osw s1_116 (by decide), lv_osw s1_123 (by decide)] <;> rfl) (by decide) ?_
  rw [js_val, if_neg s1_34, if_neg s1_91, if_neg s1_102, if_neg s1_110, if_neg s1_116, if_neg s1_123] at hval
  rcases hE : js_nu t i with qq | zq <;> rw [hE] at hval
  · cases hval
    refine jv_aload_n C (jd D_Rd_value 28 rfl) rfl 0 rfl ?_
    refine jv_iload_n C (jd D_Rd_value 29 rfl) rfl 1 rfl ?_
    refine jv_callV (wr := [(nn, .inr (1, [.ref pp, .ref s1, .ref s2, .ref s3, .int (nI ns.length)])), (s1, .inl (dA 1, 1024, .inl fS)), (s2, .inl (dA 1, 1024, .inl fE)), (s3, .inl (dA 1, 1024, .inl fH)), (ob, .inl (dA 0, 32, .inl fO)), (nb, .inl (dA 1, 32, .inl fB))]) C cl_Rd_106 (c_Rd_number_no o tp pp nn ob nb (nI sk.length) ub pl i tb 4096 f t pb 4096 g pr q0 h4 (by decide) ht (by decide) hR.2.2.2.2.1 hR.1 hR.2.1 (Nat.le_refl _) (by decide) hE) [0, 1, 2, 3, 4] [5, 6, 7, 8, 9, 10] rfl rfl rfl rfl (by decide) rfl rfl 0 rfl ⟨Nat.le_of_ble_eq_true rfl, Nat.le_of_ble_eq_true rfl⟩ ⟨Nat.le_of_ble_eq_true rfl, Nat.le_of_ble_eq_true rfl⟩ rfl rfl (Nat.le_of_ble_eq_true rfl) (jd D_Rd_value 30 rfl) (fun v7 _ k1 => ?_)
    obtain ⟨r1, rfl, k1⟩ := k1
    refine jv_fix [6, 7, 8, 9, 10, 0, 1, 2, 3, 4, 5] [(o, .inr (2, [.ref tp, .ref pp, .ref nn, .ref ob, .ref nb, .int (nI sk.length), .int (nI i), .int ub, .int (nI q0)])), (tp, .inr (0, [.ref tb, .int (nI t.length)])), (tb, .inl (dA 0, 4096, .inl f)), (pp, .inr (0, [.ref pb, .int (nI pr.length)])), (pb, .inl (dA 0, 4096, .inl g)), (nn, .inr (1, [.ref pp, .ref s1, .ref s2, .ref s3, .int (nI ns.length)])), (s1, .inl (dA 1, 1024, .inl fS)), (s2, .inl (dA 1, 1024, .inl fE)), (s3, .inl (dA 1, 1024, .inl fH)), (ob, .inl (dA 0, 32, .inl fO)), (nb, .inl (dA 1, 32, .inl fB))] [.int r1] 0 0 rfl rfl rfl (Nat.le_refl _) (Nat.le_refl _) ?_
    subst k1
    rw [hQ]
    exact jv_iret C hr (i, ub, g, pr) (⟨rfl, (hR).2.2.2.2.1, Nat.le_trans (hR).2.1 (Nat.le_trans (hR).1 h4), (hR).1⟩) rfl [0, 1, 2, 3, 4, 5, 6, 7, 8, 9, 10] rfl rfl (Nat.le_of_ble_eq_true rfl) (Nat.le_of_ble_eq_true rfl) (jd D_Rd_value 31 rfl)
  · cases hval
