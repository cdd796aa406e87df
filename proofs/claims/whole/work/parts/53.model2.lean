def js_ofx (x : Int32) : Int32 := if fn_Jl_canEncode x = 0 then -1 else js_iox 3 x.toInt8.toInt32 (jz_len.getD 3 0) 0
theorem js_et1 : ∀ b, b < 256 → nI b = 34 ∨ nI b = 92 ∨ nI b = 47 → fn_Rd_unitOfSign (nI b) = nI b := by decide +kernel
theorem js_et2a : ∀ b, b < 256 → ¬ nI b = 34 → ¬ nI b = 92 → ¬ nI b = 47 → js_ofx (nI b) < 0 → fn_Rd_unitOfSign (nI b) = -2 := by decide +kernel
theorem js_et2b : ∀ b, b < 256 → ¬ js_ofx (nI b) < 0 → fn_Rd_unitOfSign (nI b) = (if js_ofx (nI b) = 0 then 8 else if js_ofx (nI b) = 1 then 12 else if js_ofx (nI b) = 2 then 10 else if js_ofx (nI b) = 3 then 13 else 9) := by decide +kernel
theorem js_et3 : ∀ b, b < 256 → fn_Rd_unitOfSign (nI b) = -2 → ¬ nI b = 34 ∧ ¬ nI b = 92 ∧ ¬ nI b = 47 ∧ js_ofx (nI b) < 0 := by decide +kernel
theorem js_et4 : ∀ b, b < 256 → fn_Md_hex (nI b) = fn_Rd_hexDigit (nI b) ∧ (fn_Rd_hexDigit (nI b) < 0 → fn_Rd_hexDigit (nI b) = -1) := by decide +kernel
theorem js_hexeq {t : List Nat} (hb : js_by t) (q : Nat) : (js_b t q = -1 ∧ fn_Md_hex (js_b t q) < 0) ∨ (¬ js_b t q = -1 ∧ fn_Rd_hexDigit (js_b t q) = -1 ∧ fn_Md_hex (js_b t q) < 0) ∨ (¬ js_b t q = -1 ∧ ¬ fn_Rd_hexDigit (js_b t q) = -1 ∧ ¬ fn_Md_hex (js_b t q) < 0 ∧ fn_Md_hex (js_b t q) = fn_Rd_hexDigit (js_b t q)) := by
  rcases js_b_cases hb q with ⟨-, h⟩ | ⟨b, h1, -, h⟩
  · exact Or.inl ⟨h, by rw [h]; decide⟩
  · have h2 := js_et4 b h1
    rw [h, h2.1]
    by_cases w : fn_Rd_hexDigit (nI b) = -1
    · exact Or.inr (Or.inl ⟨js_nm1 (by omega), w, by rw [w]; decide⟩)
    · exact Or.inr (Or.inr ⟨js_nm1 (by omega), w, fun z => w (h2.2 z), rfl⟩)
theorem js_ua_e {t : List Nat} {p : Nat} (h : js_b t p = 92) : js_ua t p = (if js_b t (p + 1) = -1 then -1 else if js_b t (p + 1) = 117 then js_hx t 4 (p + 2) 0 else fn_Rd_unitOfSign (js_b t (p + 1))) := by
  rw [js_ua, if_neg (by rw [h]; decide), if_pos h]
theorem js_ub_e {t : List Nat} {p : Nat} (h : js_b t p = 92) : js_ub t p = (if js_b t (p + 1) = -1 then 2 else if js_b t (p + 1) = 117 then (if js_hok t 4 (p + 2) = true then 6 else 2) else 2) := by
  rw [js_ub, if_neg (by rw [h]; decide), if_pos h]
theorem js_hx_ok {t : List Nat} : ∀ (k p : Nat) (a : Int32), js_hok t k p = true ∨ js_hx t k p a = -1 ∨ js_hx t k p a = -2
  | 0, p, a => Or.inl rfl
  | k + 1, p, a => by
    rcases Classical.em (js_hok t (k + 1) p = true) with q | q
    · exact Or.inl q
    · exact Or.inr (js_hx_hok (k + 1) p a q)

set_option maxHeartbeats 4000000 in
set_option maxRecDepth 100000 in
/-- escaped: a sign -/
theorem c_Md_escaped_s {l : Launch} {D : va_G} {dA : Nat → ClassId} {zz : (Nat → Nat) × (Nat → Nat)} (o : Nat) (Q : Nat → Nat) (K : Nat → Int32) (tb N : Nat) (f : Nat → Int32) (t : List Nat) (p : Nat) (b1 v : Nat) (hl : t.length ≤ N) (hN : N < 2 ^ 29) (ht : js_tx f t) (hp : p < 2 ^ 29) (hb1 : b1 < 256) (e1 : js_b t (p + 1) = nI b1) (hs : fn_Rd_unitOfSign (nI b1) = nI v) (hv : v < 65536) : jv_M l D dA zz y_Md_escaped b_Md_escaped 8 (some (FieldType.int)) 5 [.ref o, .int 34] [(o, .inr (7, [.ref (Q 0), .int (K 1), .ref (Q 2), .int (K 3), .int (K 4), .int (K 5), .ref tb, .int (nI p), .int (nI t.length), .int (-1), .ref (Q 10), .int (K 11), .int (K 12), .ref (Q 13), .ref (Q 14), .ref (Q 15), .ref (Q 16), .ref (Q 17)])), (tb, .inl (dA 0, N, .inl f))] (jv_pi fun r (_ : Unit) => r = nI v) (fun _ => [(o, .inr (7, [.ref (Q 0), .int (K 1), .ref (Q 2), .int (K 3), .int (K 4), .int (K 5), .ref tb, .int (nI (p + 2)), .int (nI t.length), .int (-1), .ref (Q 10), .int (K 11), .int (K 12), .ref (Q 13), .ref (Q 14), .ref (Q 15), .ref (Q 16), .ref (Q 17)])), (tb, .inl (dA 0, N, .inl f))]) 0 0 := by
  refine jv_M.of [(0, .ref o), (1, .int 34)] (by decide) (Nat.le_of_ble_eq_true rfl) rfl ?_
  intro pR eR sR mR belowR methR cR AR C hr hin
  refine jv_aload_n C (jd D_Md_escaped 0 rfl) rfl 0 rfl ?_
  refine jv_get C fl_Md_117 0 rfl rfl (jd D_Md_escaped 1 rfl) ?_
  refine jv_istore_n C [(2, .int (nI p)), (0, .ref o), (1, .int 34)] (jd D_Md_escaped 2 rfl) rfl (by decide) rfl ?_
  refine jv_aload_n C (jd D_Md_escaped 3 rfl) rfl 1 rfl ?_
  refine jv_dup C (jd D_Md_escaped 4 rfl) rfl ?_
  refine jv_get C fl_Md_117 0 rfl rfl (jd D_Md_escaped 5 rfl) ?_
  refine jv_iconst (v := 1) C (jd D_Md_escaped 6 rfl) (by decide) ?_
  refine jv_iadd C (jd D_Md_escaped 7 rfl) ?_
  refine jv_ati (y := nI (p + 1)) (nI_1 p) ?_
  refine jv_put C fl_Md_117 Y_Md rfl 0 [(o, .inr (7, [.ref (Q 0), .int (K 1), .ref (Q 2), .int (K 3), .int (K 4), .int (K 5), .ref tb, .int (nI (p + 1)), .int (nI t.length), .int (-1), .ref (Q 10), .int (K 11), .int (K 12), .ref (Q 13), .ref (Q 14), .ref (Q 15), .ref (Q 16), .ref (Q 17)])), (tb, .inl (dA 0, N, .inl f))] rfl rfl rfl (Nat.le_of_ble_eq_true rfl) rfl rfl (jd D_Md_escaped 8 rfl) ?_
  refine jv_aload_n C (jd D_Md_escaped 9 rfl) rfl 1 rfl ?_
  refine jv_callV (wr := []) C cl_Md_129 (c_Md_c o Q K tb N f t (p + 1) (-1) hl hN ht (by omega)) [0, 1] [] rfl rfl rfl rfl (by decide) rfl rfl 0 rfl ⟨Nat.le_of_ble_eq_true rfl, Nat.le_of_ble_eq_true rfl⟩ ⟨Nat.le_of_ble_eq_true rfl, Nat.le_of_ble_eq_true rfl⟩ rfl rfl (Nat.le_of_ble_eq_true rfl) (jd D_Md_escaped 10 rfl) (fun v1 _ kc1 => ?_)
  obtain ⟨rc1, rfl, kc1⟩ := kc1
  refine jv_fix [0, 1] [(o, .inr (7, [.ref (Q 0), .int (K 1), .ref (Q 2), .int (K 3), .int (K 4), .int (K 5), .ref tb, .int (nI (p + 1)), .int (nI t.length), .int (-1), .ref (Q 10), .int (K 11), .int (K 12), .ref (Q 13), .ref (Q 14), .ref (Q 15), .ref (Q 16), .ref (Q 17)])), (tb, .inl (dA 0, N, .inl f))] [.int rc1] 0 0 rfl rfl rfl (Nat.le_refl _) (Nat.le_refl _) ?_
  subst kc1
  refine jv_istore_n C [(3, .int (js_b t (p + 1))), (2, .int (nI p)), (0, .ref o), (1, .int 34)] (jd D_Md_escaped 11 rfl) rfl (by decide) rfl ?_
  refine jv_aload_n C (jd D_Md_escaped 12 rfl) rfl 2 rfl ?_
  refine jv_dup C (jd D_Md_escaped 13 rfl) rfl ?_
  refine jv_get C fl_Md_117 0 rfl rfl (jd D_Md_escaped 14 rfl) ?_
  refine jv_iconst (v := 1) C (jd D_Md_escaped 15 rfl) (by decide) ?_
  refine jv_iadd C (jd D_Md_escaped 16 rfl) ?_
  refine jv_ati (y := nI (p + 2)) (nI_1 (p + 1)) ?_
  refine jv_put C fl_Md_117 Y_Md rfl 0 [(o, .inr (7, [.ref (Q 0), .int (K 1), .ref (Q 2), .int (K 3), .int (K 4), .int (K 5), .ref tb, .int (nI (p + 2)), .int (nI t.length), .int (-1), .ref (Q 10), .int (K 11), .int (K 12), .ref (Q 13), .ref (Q 14), .ref (Q 15), .ref (Q 16), .ref (Q 17)])), (tb, .inl (dA 0, N, .inl f))] rfl rfl rfl (Nat.le_of_ble_eq_true rfl) rfl rfl (jd D_Md_escaped 17 rfl) ?_
  rw [e1]
  refine jv_iload_n C (jd D_Md_escaped 18 rfl) rfl 0 rfl ?_
  refine jv_iload_n C (jd D_Md_escaped 19 rfl) rfl 3 rfl ?_
  refine jv_icmp_eq (tgt := 47) C (jd D_Md_escaped 20 rfl) (by decide) (fun c32 => ?_) (fun c32 => ?_)
  · refine jv_iload_n C (jd D_Md_escaped 27 rfl) rfl 0 rfl ?_
    exact jv_iret C hr () (by
    rw [← hs]
    exact (js_et1 b1 hb1 (Or.inl c32)).symm) rfl [0, 1] rfl rfl (Nat.le_of_ble_eq_true rfl) (Nat.le_of_ble_eq_true rfl) (jd D_Md_escaped 28 rfl)
  · refine jv_iload_n C (jd D_Md_escaped 21 rfl) rfl 0 rfl ?_
    refine jv_bipush (v := 92) C (jd D_Md_escaped 22 rfl) (by decide) ?_
    refine jv_icmp_eq (tgt := 47) C (jd D_Md_escaped 23 rfl) (by decide) (fun c38 => ?_) (fun c38 => ?_)
    · refine jv_iload_n C (jd D_Md_escaped 27 rfl) rfl 0 rfl ?_
      exact jv_iret C hr () (by
    rw [← hs]
    exact (js_et1 b1 hb1 (Or.inr (Or.inl c38))).symm) rfl [0, 1] rfl rfl (Nat.le_of_ble_eq_true rfl) (Nat.le_of_ble_eq_true rfl) (jd D_Md_escaped 28 rfl)
    · refine jv_iload_n C (jd D_Md_escaped 24 rfl) rfl 0 rfl ?_
      refine jv_bipush (v := 47) C (jd D_Md_escaped 25 rfl) (by decide) ?_
      refine jv_icmp_ne (tgt := 49) C (jd D_Md_escaped 26 rfl) (by decide) (fun c44 => ?_) (fun c44 => ?_)
      · refine jv_iload_n C (jd D_Md_escaped 29 rfl) rfl 0 rfl ?_
        refine jv_if_ge (tgt := 57) C (jd D_Md_escaped 30 rfl) (by decide) (fun c50 => ?_) (fun c50 => absurd (nI_pos' (by omega)) c50)
        refine jv_ldcS C 3 rfl (jd D_Md_escaped 33 rfl) ?_
        refine jv_iload_n C (jd D_Md_escaped 34 rfl) rfl 0 rfl ?_
        refine jv_callVs (wr := [(o, .inr (7, [.ref (Q 0), .int (K 1), .ref (Q 2), .int (K 3), .int (K 4), .int (K 5), .ref tb, .int (nI (p + 2)), .int (nI t.length), .int (-1), .ref (Q 10), .int (K 11), .int (K 12), .ref (Q 13), .ref (Q 14), .ref (Q 15), .ref (Q 16), .ref (Q 17)])), (tb, .inl (dA 0, N, .inl f))]) C cl_Md_153 (c_Js_indexOf 3 b1 (by decide) (by decide)) (by decide) rfl [] [0, 1] rfl rfl rfl rfl (by decide) ⟨Nat.le_of_ble_eq_true rfl, Nat.le_of_ble_eq_true rfl⟩ ⟨Nat.le_of_ble_eq_true rfl, Nat.le_of_ble_eq_true rfl⟩ rfl rfl (Nat.le_of_ble_eq_true rfl) (jd D_Md_escaped 35 rfl) (fun v2 _ k2 => ?_)
        obtain ⟨r2, rfl, k2⟩ := k2
        refine jv_fix [0, 1] [(o, .inr (7, [.ref (Q 0), .int (K 1), .ref (Q 2), .int (K 3), .int (K 4), .int (K 5), .ref tb, .int (nI (p + 2)), .int (nI t.length), .int (-1), .ref (Q 10), .int (K 11), .int (K 12), .ref (Q 13), .ref (Q 14), .ref (Q 15), .ref (Q 16), .ref (Q 17)])), (tb, .inl (dA 0, N, .inl f))] [.int r2] 0 0 rfl rfl rfl (Nat.le_refl _) (Nat.le_refl _) ?_
        have k2 : r2 = js_ofx (nI b1) := k2
        subst k2
        refine jv_istore C [(4, .int (js_ofx (nI b1))), (3, .int (nI b1)), (2, .int (nI p)), (0, .ref o), (1, .int 34)] (jd D_Md_escaped 36 rfl) (by decide) rfl ?_
        have h2 := js_et2a b1 hb1 c32 c38 c44
        refine jv_iload C (jd D_Md_escaped 37 rfl) 0 rfl ?_
        refine jv_if_lt (tgt := 116) C (jd D_Md_escaped 38 rfl) (by decide) (fun c67 => absurd c67 (fun q => absurd (hs.symm.trans (h2 q)) (js_nm2 (by omega)))) (fun c67 => ?_)
        have h3 := js_et2b b1 hb1 c67
        refine jv_iload C (jd D_Md_escaped 39 rfl) 0 rfl ?_
        refine jv_if_ne (tgt := 80) C (jd D_Md_escaped 40 rfl) (by decide) (fun c72 => ?_) (fun c72 => ?_)
        · refine jv_iload C (jd D_Md_escaped 43 rfl) 0 rfl ?_
          refine jv_iconst (v := 1) C (jd D_Md_escaped 44 rfl) (by decide) ?_
          refine jv_icmp_ne (tgt := 91) C (jd D_Md_escaped 45 rfl) (by decide) (fun c83 => ?_) (fun c83 => ?_)
          · refine jv_iload C (jd D_Md_escaped 48 rfl) 0 rfl ?_
            refine jv_iconst (v := 2) C (jd D_Md_escaped 49 rfl) (by decide) ?_
            refine jv_icmp_ne (tgt := 102) C (jd D_Md_escaped 50 rfl) (by decide) (fun c94 => ?_) (fun c94 => ?_)
            · refine jv_iload C (jd D_Md_escaped 53 rfl) 0 rfl ?_
              refine jv_iconst (v := 3) C (jd D_Md_escaped 54 rfl) (by decide) ?_
              refine jv_icmp_ne (tgt := 113) C (jd D_Md_escaped 55 rfl) (by decide) (fun c105 => ?_) (fun c105 => ?_)
              · refine jv_bipush (v := 9) C (jd D_Md_escaped 58 rfl) (by decide) ?_
                exact jv_iret C hr () (by
    rw [← hs, h3, if_neg c72, if_neg c83, if_neg c94, if_neg c105]) rfl [0, 1] rfl rfl (Nat.le_of_ble_eq_true rfl) (Nat.le_of_ble_eq_true rfl) (jd D_Md_escaped 59 rfl)
              · refine jv_bipush (v := 13) C (jd D_Md_escaped 56 rfl) (by decide) ?_
                refine jv_goto (tgt := 115) C (jd D_Md_escaped 57 rfl) (by decide) ?_
                exact jv_iret C hr () (by
    rw [← hs, h3, if_neg c72, if_neg c83, if_neg c94, if_pos c105]) rfl [0, 1] rfl rfl (Nat.le_of_ble_eq_true rfl) (Nat.le_of_ble_eq_true rfl) (jd D_Md_escaped 59 rfl)
            · refine jv_bipush (v := 10) C (jd D_Md_escaped 51 rfl) (by decide) ?_
              refine jv_goto (tgt := 115) C (jd D_Md_escaped 52 rfl) (by decide) ?_
              exact jv_iret C hr () (by
    rw [← hs, h3, if_neg c72, if_neg c83, if_pos c94]) rfl [0, 1] rfl rfl (Nat.le_of_ble_eq_true rfl) (Nat.le_of_ble_eq_true rfl) (jd D_Md_escaped 59 rfl)
          · refine jv_bipush (v := 12) C (jd D_Md_escaped 46 rfl) (by decide) ?_
            refine jv_goto (tgt := 115) C (jd D_Md_escaped 47 rfl) (by decide) ?_
            exact jv_iret C hr () (by
    rw [← hs, h3, if_neg c72, if_pos c83]) rfl [0, 1] rfl rfl (Nat.le_of_ble_eq_true rfl) (Nat.le_of_ble_eq_true rfl) (jd D_Md_escaped 59 rfl)
        · refine jv_bipush (v := 8) C (jd D_Md_escaped 41 rfl) (by decide) ?_
          refine jv_goto (tgt := 115) C (jd D_Md_escaped 42 rfl) (by decide) ?_
          exact jv_iret C hr () (by
    rw [← hs, h3, if_pos c72]) rfl [0, 1] rfl rfl (Nat.le_of_ble_eq_true rfl) (Nat.le_of_ble_eq_true rfl) (jd D_Md_escaped 59 rfl)
      · refine jv_iload_n C (jd D_Md_escaped 27 rfl) rfl 0 rfl ?_
        exact jv_iret C hr () (by
    rw [← hs]
    exact (js_et1 b1 hb1 (Or.inr (Or.inr c44))).symm) rfl [0, 1] rfl rfl (Nat.le_of_ble_eq_true rfl) (Nat.le_of_ble_eq_true rfl) (jd D_Md_escaped 28 rfl)

set_option maxHeartbeats 4000000 in
set_option maxRecDepth 100000 in
/-- escaped: the text ends -/
theorem c_Md_escaped_n1 {l : Launch} {D : va_G} {dA : Nat → ClassId} {zz : (Nat → Nat) × (Nat → Nat)} (o : Nat) (Q : Nat → Nat) (K : Nat → Int32) (tb N : Nat) (f : Nat → Int32) (t : List Nat) (p : Nat) (hl : t.length ≤ N) (hN : N < 2 ^ 29) (ht : js_tx f t) (hp : p < 2 ^ 29) (e1 : js_b t (p + 1) = -1) : jv_M l D dA zz y_Md_escaped b_Md_escaped 8 (some (FieldType.int)) 5 [.ref o, .int 34] [(o, .inr (7, [.ref (Q 0), .int (K 1), .ref (Q 2), .int (K 3), .int (K 4), .int (K 5), .ref tb, .int (nI p), .int (nI t.length), .int (-1), .ref (Q 10), .int (K 11), .int (K 12), .ref (Q 13), .ref (Q 14), .ref (Q 15), .ref (Q 16), .ref (Q 17)])), (tb, .inl (dA 0, N, .inl f))] (jv_pi fun r (_ : Unit) => r = -1) (fun _ => [(o, .inr (7, [.ref (Q 0), .int (K 1), .ref (Q 2), .int (K 3), .int (K 4), .int (K 5), .ref tb, .int (nI (p + 2)), .int (nI t.length), .int (nI t.length), .ref (Q 10), .int (K 11), .int (K 12), .ref (Q 13), .ref (Q 14), .ref (Q 15), .ref (Q 16), .ref (Q 17)])), (tb, .inl (dA 0, N, .inl f))]) 0 0 := by
  refine jv_M.of [(0, .ref o), (1, .int 34)] (by decide) (Nat.le_of_ble_eq_true rfl) rfl ?_
  intro pR eR sR mR belowR methR cR AR C hr hin
  refine jv_aload_n C (jd D_Md_escaped 0 rfl) rfl 0 rfl ?_
  refine jv_get C fl_Md_117 0 rfl rfl (jd D_Md_escaped 1 rfl) ?_
  refine jv_istore_n C [(2, .int (nI p)), (0, .ref o), (1, .int 34)] (jd D_Md_escaped 2 rfl) rfl (by decide) rfl ?_
  refine jv_aload_n C (jd D_Md_escaped 3 rfl) rfl 1 rfl ?_
  refine jv_dup C (jd D_Md_escaped 4 rfl) rfl ?_
  refine jv_get C fl_Md_117 0 rfl rfl (jd D_Md_escaped 5 rfl) ?_
  refine jv_iconst (v := 1) C (jd D_Md_escaped 6 rfl) (by decide) ?_
  refine jv_iadd C (jd D_Md_escaped 7 rfl) ?_
  refine jv_ati (y := nI (p + 1)) (nI_1 p) ?_
  refine jv_put C fl_Md_117 Y_Md rfl 0 [(o, .inr (7, [.ref (Q 0), .int (K 1), .ref (Q 2), .int (K 3), .int (K 4), .int (K 5), .ref tb, .int (nI (p + 1)), .int (nI t.length), .int (-1), .ref (Q 10), .int (K 11), .int (K 12), .ref (Q 13), .ref (Q 14), .ref (Q 15), .ref (Q 16), .ref (Q 17)])), (tb, .inl (dA 0, N, .inl f))] rfl rfl rfl (Nat.le_of_ble_eq_true rfl) rfl rfl (jd D_Md_escaped 8 rfl) ?_
  refine jv_aload_n C (jd D_Md_escaped 9 rfl) rfl 1 rfl ?_
  refine jv_callV (wr := []) C cl_Md_129 (c_Md_c o Q K tb N f t (p + 1) (-1) hl hN ht (by omega)) [0, 1] [] rfl rfl rfl rfl (by decide) rfl rfl 0 rfl ⟨Nat.le_of_ble_eq_true rfl, Nat.le_of_ble_eq_true rfl⟩ ⟨Nat.le_of_ble_eq_true rfl, Nat.le_of_ble_eq_true rfl⟩ rfl rfl (Nat.le_of_ble_eq_true rfl) (jd D_Md_escaped 10 rfl) (fun v1 _ kc1 => ?_)
  obtain ⟨rc1, rfl, kc1⟩ := kc1
  refine jv_fix [0, 1] [(o, .inr (7, [.ref (Q 0), .int (K 1), .ref (Q 2), .int (K 3), .int (K 4), .int (K 5), .ref tb, .int (nI (p + 1)), .int (nI t.length), .int (-1), .ref (Q 10), .int (K 11), .int (K 12), .ref (Q 13), .ref (Q 14), .ref (Q 15), .ref (Q 16), .ref (Q 17)])), (tb, .inl (dA 0, N, .inl f))] [.int rc1] 0 0 rfl rfl rfl (Nat.le_refl _) (Nat.le_refl _) ?_
  subst kc1
  refine jv_istore_n C [(3, .int (js_b t (p + 1))), (2, .int (nI p)), (0, .ref o), (1, .int 34)] (jd D_Md_escaped 11 rfl) rfl (by decide) rfl ?_
  refine jv_aload_n C (jd D_Md_escaped 12 rfl) rfl 2 rfl ?_
  refine jv_dup C (jd D_Md_escaped 13 rfl) rfl ?_
  refine jv_get C fl_Md_117 0 rfl rfl (jd D_Md_escaped 14 rfl) ?_
  refine jv_iconst (v := 1) C (jd D_Md_escaped 15 rfl) (by decide) ?_
  refine jv_iadd C (jd D_Md_escaped 16 rfl) ?_
  refine jv_ati (y := nI (p + 2)) (nI_1 (p + 1)) ?_
  refine jv_put C fl_Md_117 Y_Md rfl 0 [(o, .inr (7, [.ref (Q 0), .int (K 1), .ref (Q 2), .int (K 3), .int (K 4), .int (K 5), .ref tb, .int (nI (p + 2)), .int (nI t.length), .int (-1), .ref (Q 10), .int (K 11), .int (K 12), .ref (Q 13), .ref (Q 14), .ref (Q 15), .ref (Q 16), .ref (Q 17)])), (tb, .inl (dA 0, N, .inl f))] rfl rfl rfl (Nat.le_of_ble_eq_true rfl) rfl rfl (jd D_Md_escaped 17 rfl) ?_
  rw [e1]
  refine jv_iload_n C (jd D_Md_escaped 18 rfl) rfl 0 rfl ?_
  refine jv_iload_n C (jd D_Md_escaped 19 rfl) rfl 3 rfl ?_
  refine jv_icmp_eq (tgt := 47) C (jd D_Md_escaped 20 rfl) (by decide) (fun c32 => absurd c32 (by decide)) (fun c32 => ?_)
  refine jv_iload_n C (jd D_Md_escaped 21 rfl) rfl 0 rfl ?_
  refine jv_bipush (v := 92) C (jd D_Md_escaped 22 rfl) (by decide) ?_
  refine jv_icmp_eq (tgt := 47) C (jd D_Md_escaped 23 rfl) (by decide) (fun c38 => absurd c38 (by decide)) (fun c38 => ?_)
  refine jv_iload_n C (jd D_Md_escaped 24 rfl) rfl 0 rfl ?_
  refine jv_bipush (v := 47) C (jd D_Md_escaped 25 rfl) (by decide) ?_
  refine jv_icmp_ne (tgt := 49) C (jd D_Md_escaped 26 rfl) (by decide) (fun c44 => ?_) (fun c44 => absurd c44 (by decide))
  refine jv_iload_n C (jd D_Md_escaped 29 rfl) rfl 0 rfl ?_
  refine jv_if_ge (tgt := 57) C (jd D_Md_escaped 30 rfl) (by decide) (fun c50 => absurd c50 (by decide)) (fun c50 => ?_)
  refine jv_iconst (v := -1) C (jd D_Md_escaped 31 rfl) (by decide) ?_
  refine jv_goto (tgt := 63) C (jd D_Md_escaped 32 rfl) (by decide) ?_
  refine jv_istore C [(4, .int (-1)), (3, .int (-1)), (2, .int (nI p)), (0, .ref o), (1, .int 34)] (jd D_Md_escaped 36 rfl) (by decide) rfl ?_
  refine jv_iload C (jd D_Md_escaped 37 rfl) 0 rfl ?_
  refine jv_if_lt (tgt := 116) C (jd D_Md_escaped 38 rfl) (by decide) (fun c67 => ?_) (fun c67 => absurd (by decide) c67)
  refine jv_iload_n C (jd D_Md_escaped 60 rfl) rfl 1 rfl ?_
  refine jv_bipush (v := 117) C (jd D_Md_escaped 61 rfl) (by decide) ?_
  refine jv_icmp_ne (tgt := 203) C (jd D_Md_escaped 62 rfl) (by decide) (fun c119 => ?_) (fun c119 => absurd c119 (by decide))
  refine jv_aload_n C (jd D_Md_escaped 106 rfl) rfl 3 rfl ?_
  refine jv_iload_n C (jd D_Md_escaped 107 rfl) rfl 1 rfl ?_
  refine jv_if_ge (tgt := 215) C (jd D_Md_escaped 108 rfl) (by decide) (fun c205 => absurd c205 (by decide)) (fun c205 => ?_)
  refine jv_aload_n C (jd D_Md_escaped 109 rfl) rfl 3 rfl ?_
  refine jv_get C fl_Md_120 0 rfl rfl (jd D_Md_escaped 110 rfl) ?_
  refine jv_goto (tgt := 216) C (jd D_Md_escaped 111 rfl) (by decide) ?_
  refine jv_callV (wr := [(tb, .inl (dA 0, N, .inl f))]) C cl_Md_133 (c_Md_fail o Q K tb (nI (p + 2)) (nI t.length) (nI t.length)) [0] [1] rfl rfl rfl rfl (by decide) rfl rfl 0 rfl ⟨Nat.le_of_ble_eq_true rfl, Nat.le_of_ble_eq_true rfl⟩ ⟨Nat.le_of_ble_eq_true rfl, Nat.le_of_ble_eq_true rfl⟩ rfl rfl (Nat.le_of_ble_eq_true rfl) (jd D_Md_escaped 113 rfl) (fun v2 _ kf9 => ?_)
  obtain ⟨rf9, rfl, kf9⟩ := kf9
  refine jv_fix [1, 0] [(o, .inr (7, [.ref (Q 0), .int (K 1), .ref (Q 2), .int (K 3), .int (K 4), .int (K 5), .ref tb, .int (nI (p + 2)), .int (nI t.length), .int (nI t.length), .ref (Q 10), .int (K 11), .int (K 12), .ref (Q 13), .ref (Q 14), .ref (Q 15), .ref (Q 16), .ref (Q 17)])), (tb, .inl (dA 0, N, .inl f))] [.int rf9] 0 0 rfl rfl rfl (Nat.le_refl _) (Nat.le_refl _) ?_
  subst kf9
  refine jv_pop C (jd D_Md_escaped 114 rfl) rfl ?_
  refine jv_iconst (v := -1) C (jd D_Md_escaped 115 rfl) (by decide) ?_
  exact jv_iret C hr () (rfl) rfl [0, 1] rfl rfl (Nat.le_of_ble_eq_true rfl) (Nat.le_of_ble_eq_true rfl) (jd D_Md_escaped 116 rfl)

set_option maxHeartbeats 4000000 in
set_option maxRecDepth 100000 in
/-- escaped: no sign -/
theorem c_Md_escaped_n2 {l : Launch} {D : va_G} {dA : Nat → ClassId} {zz : (Nat → Nat) × (Nat → Nat)} (o : Nat) (Q : Nat → Nat) (K : Nat → Int32) (tb N : Nat) (f : Nat → Int32) (t : List Nat) (p : Nat) (b1 : Nat) (hl : t.length ≤ N) (hN : N < 2 ^ 29) (ht : js_tx f t) (hp : p < 2 ^ 29) (hb1 : b1 < 256) (e1 : js_b t (p + 1) = nI b1) (h117 : b1 ≠ 117) (hs : fn_Rd_unitOfSign (nI b1) = -2) : jv_M l D dA zz y_Md_escaped b_Md_escaped 8 (some (FieldType.int)) 5 [.ref o, .int 34] [(o, .inr (7, [.ref (Q 0), .int (K 1), .ref (Q 2), .int (K 3), .int (K 4), .int (K 5), .ref tb, .int (nI p), .int (nI t.length), .int (-1), .ref (Q 10), .int (K 11), .int (K 12), .ref (Q 13), .ref (Q 14), .ref (Q 15), .ref (Q 16), .ref (Q 17)])), (tb, .inl (dA 0, N, .inl f))] (jv_pi fun r (_ : Unit) => r = -1) (fun _ => [(o, .inr (7, [.ref (Q 0), .int (K 1), .ref (Q 2), .int (K 3), .int (K 4), .int (K 5), .ref tb, .int (nI (p + 2)), .int (nI t.length), .int (nI p), .ref (Q 10), .int (K 11), .int (K 12), .ref (Q 13), .ref (Q 14), .ref (Q 15), .ref (Q 16), .ref (Q 17)])), (tb, .inl (dA 0, N, .inl f))]) 0 0 := by
  refine jv_M.of [(0, .ref o), (1, .int 34)] (by decide) (Nat.le_of_ble_eq_true rfl) rfl ?_
  intro pR eR sR mR belowR methR cR AR C hr hin
  have hx := js_et3 b1 hb1 hs
  refine jv_aload_n C (jd D_Md_escaped 0 rfl) rfl 0 rfl ?_
  refine jv_get C fl_Md_117 0 rfl rfl (jd D_Md_escaped 1 rfl) ?_
  refine jv_istore_n C [(2, .int (nI p)), (0, .ref o), (1, .int 34)] (jd D_Md_escaped 2 rfl) rfl (by decide) rfl ?_
  refine jv_aload_n C (jd D_Md_escaped 3 rfl) rfl 1 rfl ?_
  refine jv_dup C (jd D_Md_escaped 4 rfl) rfl ?_
  refine jv_get C fl_Md_117 0 rfl rfl (jd D_Md_escaped 5 rfl) ?_
  refine jv_iconst (v := 1) C (jd D_Md_escaped 6 rfl) (by decide) ?_
  refine jv_iadd C (jd D_Md_escaped 7 rfl) ?_
  refine jv_ati (y := nI (p + 1)) (nI_1 p) ?_
  refine jv_put C fl_Md_117 Y_Md rfl 0 [(o, .inr (7, [.ref (Q 0), .int (K 1), .ref (Q 2), .int (K 3), .int (K 4), .int (K 5), .ref tb, .int (nI (p + 1)), .int (nI t.length), .int (-1), .ref (Q 10), .int (K 11), .int (K 12), .ref (Q 13), .ref (Q 14), .ref (Q 15), .ref (Q 16), .ref (Q 17)])), (tb, .inl (dA 0, N, .inl f))] rfl rfl rfl (Nat.le_of_ble_eq_true rfl) rfl rfl (jd D_Md_escaped 8 rfl) ?_
  refine jv_aload_n C (jd D_Md_escaped 9 rfl) rfl 1 rfl ?_
  refine jv_callV (wr := []) C cl_Md_129 (c_Md_c o Q K tb N f t (p + 1) (-1) hl hN ht (by omega)) [0, 1] [] rfl rfl rfl rfl (by decide) rfl rfl 0 rfl ⟨Nat.le_of_ble_eq_true rfl, Nat.le_of_ble_eq_true rfl⟩ ⟨Nat.le_of_ble_eq_true rfl, Nat.le_of_ble_eq_true rfl⟩ rfl rfl (Nat.le_of_ble_eq_true rfl) (jd D_Md_escaped 10 rfl) (fun v1 _ kc1 => ?_)
  obtain ⟨rc1, rfl, kc1⟩ := kc1
  refine jv_fix [0, 1] [(o, .inr (7, [.ref (Q 0), .int (K 1), .ref (Q 2), .int (K 3), .int (K 4), .int (K 5), .ref tb, .int (nI (p + 1)), .int (nI t.length), .int (-1), .ref (Q 10), .int (K 11), .int (K 12), .ref (Q 13), .ref (Q 14), .ref (Q 15), .ref (Q 16), .ref (Q 17)])), (tb, .inl (dA 0, N, .inl f))] [.int rc1] 0 0 rfl rfl rfl (Nat.le_refl _) (Nat.le_refl _) ?_
  subst kc1
  refine jv_istore_n C [(3, .int (js_b t (p + 1))), (2, .int (nI p)), (0, .ref o), (1, .int 34)] (jd D_Md_escaped 11 rfl) rfl (by decide) rfl ?_
  refine jv_aload_n C (jd D_Md_escaped 12 rfl) rfl 2 rfl ?_
  refine jv_dup C (jd D_Md_escaped 13 rfl) rfl ?_
  refine jv_get C fl_Md_117 0 rfl rfl (jd D_Md_escaped 14 rfl) ?_
  refine jv_iconst (v := 1) C (jd D_Md_escaped 15 rfl) (by decide) ?_
  refine jv_iadd C (jd D_Md_escaped 16 rfl) ?_
  refine jv_ati (y := nI (p + 2)) (nI_1 (p + 1)) ?_
  refine jv_put C fl_Md_117 Y_Md rfl 0 [(o, .inr (7, [.ref (Q 0), .int (K 1), .ref (Q 2), .int (K 3), .int (K 4), .int (K 5), .ref tb, .int (nI (p + 2)), .int (nI t.length), .int (-1), .ref (Q 10), .int (K 11), .int (K 12), .ref (Q 13), .ref (Q 14), .ref (Q 15), .ref (Q 16), .ref (Q 17)])), (tb, .inl (dA 0, N, .inl f))] rfl rfl rfl (Nat.le_of_ble_eq_true rfl) rfl rfl (jd D_Md_escaped 17 rfl) ?_
  rw [e1]
  refine jv_iload_n C (jd D_Md_escaped 18 rfl) rfl 0 rfl ?_
  refine jv_iload_n C (jd D_Md_escaped 19 rfl) rfl 3 rfl ?_
  refine jv_icmp_eq (tgt := 47) C (jd D_Md_escaped 20 rfl) (by decide) (fun c32 => absurd c32 (hx.1)) (fun c32 => ?_)
  refine jv_iload_n C (jd D_Md_escaped 21 rfl) rfl 0 rfl ?_
  refine jv_bipush (v := 92) C (jd D_Md_escaped 22 rfl) (by decide) ?_
  refine jv_icmp_eq (tgt := 47) C (jd D_Md_escaped 23 rfl) (by decide) (fun c38 => absurd c38 (hx.2.1)) (fun c38 => ?_)
  refine jv_iload_n C (jd D_Md_escaped 24 rfl) rfl 0 rfl ?_
  refine jv_bipush (v := 47) C (jd D_Md_escaped 25 rfl) (by decide) ?_
  refine jv_icmp_ne (tgt := 49) C (jd D_Md_escaped 26 rfl) (by decide) (fun c44 => ?_) (fun c44 => absurd c44 (hx.2.2.1))
  refine jv_iload_n C (jd D_Md_escaped 29 rfl) rfl 0 rfl ?_
  refine jv_if_ge (tgt := 57) C (jd D_Md_escaped 30 rfl) (by decide) (fun c50 => ?_) (fun c50 => absurd (nI_pos' (by omega)) c50)
  refine jv_ldcS C 3 rfl (jd D_Md_escaped 33 rfl) ?_
  refine jv_iload_n C (jd D_Md_escaped 34 rfl) rfl 0 rfl ?_
  refine jv_callVs (wr := [(o, .inr (7, [.ref (Q 0), .int (K 1), .ref (Q 2), .int (K 3), .int (K 4), .int (K 5), .ref tb, .int (nI (p + 2)), .int (nI t.length), .int (-1), .ref (Q 10), .int (K 11), .int (K 12), .ref (Q 13), .ref (Q 14), .ref (Q 15), .ref (Q 16), .ref (Q 17)])), (tb, .inl (dA 0, N, .inl f))]) C cl_Md_153 (c_Js_indexOf 3 b1 (by decide) (by decide)) (by decide) rfl [] [0, 1] rfl rfl rfl rfl (by decide) ⟨Nat.le_of_ble_eq_true rfl, Nat.le_of_ble_eq_true rfl⟩ ⟨Nat.le_of_ble_eq_true rfl, Nat.le_of_ble_eq_true rfl⟩ rfl rfl (Nat.le_of_ble_eq_true rfl) (jd D_Md_escaped 35 rfl) (fun v2 _ k2 => ?_)
  obtain ⟨r2, rfl, k2⟩ := k2
  refine jv_fix [0, 1] [(o, .inr (7, [.ref (Q 0), .int (K 1), .ref (Q 2), .int (K 3), .int (K 4), .int (K 5), .ref tb, .int (nI (p + 2)), .int (nI t.length), .int (-1), .ref (Q 10), .int (K 11), .int (K 12), .ref (Q 13), .ref (Q 14), .ref (Q 15), .ref (Q 16), .ref (Q 17)])), (tb, .inl (dA 0, N, .inl f))] [.int r2] 0 0 rfl rfl rfl (Nat.le_refl _) (Nat.le_refl _) ?_
  have k2 : r2 = js_ofx (nI b1) := k2
  subst k2
  refine jv_istore C [(4, .int (js_ofx (nI b1))), (3, .int (nI b1)), (2, .int (nI p)), (0, .ref o), (1, .int 34)] (jd D_Md_escaped 36 rfl) (by decide) rfl ?_
  refine jv_iload C (jd D_Md_escaped 37 rfl) 0 rfl ?_
  refine jv_if_lt (tgt := 116) C (jd D_Md_escaped 38 rfl) (by decide) (fun c67 => ?_) (fun c67 => absurd (hx.2.2.2) c67)
  refine jv_iload_n C (jd D_Md_escaped 60 rfl) rfl 1 rfl ?_
  refine jv_bipush (v := 117) C (jd D_Md_escaped 61 rfl) (by decide) ?_
  refine jv_icmp_ne (tgt := 203) C (jd D_Md_escaped 62 rfl) (by decide) (fun c119 => ?_) (fun c119 => absurd c119 (fun q => h117 ((nI_eq (b := 117) (by omega) (by decide)).mp q)))
  refine jv_aload_n C (jd D_Md_escaped 106 rfl) rfl 3 rfl ?_
  refine jv_iload_n C (jd D_Md_escaped 107 rfl) rfl 1 rfl ?_
  refine jv_if_ge (tgt := 215) C (jd D_Md_escaped 108 rfl) (by decide) (fun c205 => ?_) (fun c205 => absurd (nI_pos' (by omega)) c205)
  refine jv_iload_n C (jd D_Md_escaped 112 rfl) rfl 2 rfl ?_
  refine jv_callV (wr := [(tb, .inl (dA 0, N, .inl f))]) C cl_Md_133 (c_Md_fail o Q K tb (nI (p + 2)) (nI t.length) (nI p)) [0] [1] rfl rfl rfl rfl (by decide) rfl rfl 0 rfl ⟨Nat.le_of_ble_eq_true rfl, Nat.le_of_ble_eq_true rfl⟩ ⟨Nat.le_of_ble_eq_true rfl, Nat.le_of_ble_eq_true rfl⟩ rfl rfl (Nat.le_of_ble_eq_true rfl) (jd D_Md_escaped 113 rfl) (fun v3 _ kf9 => ?_)
  obtain ⟨rf9, rfl, kf9⟩ := kf9
  refine jv_fix [1, 0] [(o, .inr (7, [.ref (Q 0), .int (K 1), .ref (Q 2), .int (K 3), .int (K 4), .int (K 5), .ref tb, .int (nI (p + 2)), .int (nI t.length), .int (nI p), .ref (Q 10), .int (K 11), .int (K 12), .ref (Q 13), .ref (Q 14), .ref (Q 15), .ref (Q 16), .ref (Q 17)])), (tb, .inl (dA 0, N, .inl f))] [.int rf9] 0 0 rfl rfl rfl (Nat.le_refl _) (Nat.le_refl _) ?_
  subst kf9
  refine jv_pop C (jd D_Md_escaped 114 rfl) rfl ?_
  refine jv_iconst (v := -1) C (jd D_Md_escaped 115 rfl) (by decide) ?_
  exact jv_iret C hr () (rfl) rfl [0, 1] rfl rfl (Nat.le_of_ble_eq_true rfl) (Nat.le_of_ble_eq_true rfl) (jd D_Md_escaped 116 rfl)

set_option maxHeartbeats 4000000 in
set_option maxRecDepth 100000 in
/-- escaped: four hex digits -/
theorem c_Md_escaped_u {l : Launch} {D : va_G} {dA : Nat → ClassId} {zz : (Nat → Nat) × (Nat → Nat)} (o : Nat) (Q : Nat → Nat) (K : Nat → Int32) (tb N : Nat) (f : Nat → Int32) (t : List Nat) (p : Nat) (v : Nat) (hl : t.length ≤ N) (hN : N < 2 ^ 29) (ht : js_tx f t) (hp : p < 2 ^ 29) (e1 : js_b t (p + 1) = 117) (hh : js_hx t 4 (p + 2) 0 = nI v) (hv : v < 65536) : jv_M l D dA zz y_Md_escaped b_Md_escaped 8 (some (FieldType.int)) 5 [.ref o, .int 34] [(o, .inr (7, [.ref (Q 0), .int (K 1), .ref (Q 2), .int (K 3), .int (K 4), .int (K 5), .ref tb, .int (nI p), .int (nI t.length), .int (-1), .ref (Q 10), .int (K 11), .int (K 12), .ref (Q 13), .ref (Q 14), .ref (Q 15), .ref (Q 16), .ref (Q 17)])), (tb, .inl (dA 0, N, .inl f))] (jv_pi fun r (_ : Unit) => r = nI v) (fun _ => [(o, .inr (7, [.ref (Q 0), .int (K 1), .ref (Q 2), .int (K 3), .int (K 4), .int (K 5), .ref tb, .int (nI (p + 6)), .int (nI t.length), .int (-1), .ref (Q 10), .int (K 11), .int (K 12), .ref (Q 13), .ref (Q 14), .ref (Q 15), .ref (Q 16), .ref (Q 17)])), (tb, .inl (dA 0, N, .inl f))]) 0 0 := by
  refine jv_M.of [(0, .ref o), (1, .int 34)] (by decide) (Nat.le_of_ble_eq_true rfl) rfl ?_
  intro pR eR sR mR belowR methR cR AR C hr hin
  obtain ⟨QR, hQ⟩ : ∃ QR, QR = jv_E D (jv_pi fun r (_ : Unit) => r = nI v) (fun _ => [(o, .inr (7, [.ref (Q 0), .int (K 1), .ref (Q 2), .int (K 3), .int (K 4), .int (K 5), .ref tb, .int (nI (p + 6)), .int (nI t.length), .int (-1), .ref (Q 10), .int (K 11), .int (K 12), .ref (Q 13), .ref (Q 14), .ref (Q 15), .ref (Q 16), .ref (Q 17)])), (tb, .inl (dA 0, N, .inl f))]) belowR ([.ref o, .int 34] : List Value).toArray sR AR 0 0 := ⟨_, rfl⟩
  rw [← hQ]
  have hbt := ht.by
  refine jv_aload_n C (jd D_Md_escaped 0 rfl) rfl 0 rfl ?_
  refine jv_get C fl_Md_117 0 rfl rfl (jd D_Md_escaped 1 rfl) ?_
  refine jv_istore_n C [(2, .int (nI p)), (0, .ref o), (1, .int 34)] (jd D_Md_escaped 2 rfl) rfl (by decide) rfl ?_
  refine jv_aload_n C (jd D_Md_escaped 3 rfl) rfl 1 rfl ?_
  refine jv_dup C (jd D_Md_escaped 4 rfl) rfl ?_
  refine jv_get C fl_Md_117 0 rfl rfl (jd D_Md_escaped 5 rfl) ?_
  refine jv_iconst (v := 1) C (jd D_Md_escaped 6 rfl) (by decide) ?_
  refine jv_iadd C (jd D_Md_escaped 7 rfl) ?_
  refine jv_ati (y := nI (p + 1)) (nI_1 p) ?_
  refine jv_put C fl_Md_117 Y_Md rfl 0 [(o, .inr (7, [.ref (Q 0), .int (K 1), .ref (Q 2), .int (K 3), .int (K 4), .int (K 5), .ref tb, .int (nI (p + 1)), .int (nI t.length), .int (-1), .ref (Q 10), .int (K 11), .int (K 12), .ref (Q 13), .ref (Q 14), .ref (Q 15), .ref (Q 16), .ref (Q 17)])), (tb, .inl (dA 0, N, .inl f))] rfl rfl rfl (Nat.le_of_ble_eq_true rfl) rfl rfl (jd D_Md_escaped 8 rfl) ?_
  refine jv_aload_n C (jd D_Md_escaped 9 rfl) rfl 1 rfl ?_
  refine jv_callV (wr := []) C cl_Md_129 (c_Md_c o Q K tb N f t (p + 1) (-1) hl hN ht (by omega)) [0, 1] [] rfl rfl rfl rfl (by decide) rfl rfl 0 rfl ⟨Nat.le_of_ble_eq_true rfl, Nat.le_of_ble_eq_true rfl⟩ ⟨Nat.le_of_ble_eq_true rfl, Nat.le_of_ble_eq_true rfl⟩ rfl rfl (Nat.le_of_ble_eq_true rfl) (jd D_Md_escaped 10 rfl) (fun v1 _ kc1 => ?_)
  obtain ⟨rc1, rfl, kc1⟩ := kc1
  refine jv_fix [0, 1] [(o, .inr (7, [.ref (Q 0), .int (K 1), .ref (Q 2), .int (K 3), .int (K 4), .int (K 5), .ref tb, .int (nI (p + 1)), .int (nI t.length), .int (-1), .ref (Q 10), .int (K 11), .int (K 12), .ref (Q 13), .ref (Q 14), .ref (Q 15), .ref (Q 16), .ref (Q 17)])), (tb, .inl (dA 0, N, .inl f))] [.int rc1] 0 0 rfl rfl rfl (Nat.le_refl _) (Nat.le_refl _) ?_
  subst kc1
  refine jv_istore_n C [(3, .int (js_b t (p + 1))), (2, .int (nI p)), (0, .ref o), (1, .int 34)] (jd D_Md_escaped 11 rfl) rfl (by decide) rfl ?_
  refine jv_aload_n C (jd D_Md_escaped 12 rfl) rfl 2 rfl ?_
  refine jv_dup C (jd D_Md_escaped 13 rfl) rfl ?_
  refine jv_get C fl_Md_117 0 rfl rfl (jd D_Md_escaped 14 rfl) ?_
  refine jv_iconst (v := 1) C (jd D_Md_escaped 15 rfl) (by decide) ?_
  refine jv_iadd C (jd D_Md_escaped 16 rfl) ?_
  refine jv_ati (y := nI (p + 2)) (nI_1 (p + 1)) ?_
  refine jv_put C fl_Md_117 Y_Md rfl 0 [(o, .inr (7, [.ref (Q 0), .int (K 1), .ref (Q 2), .int (K 3), .int (K 4), .int (K 5), .ref tb, .int (nI (p + 2)), .int (nI t.length), .int (-1), .ref (Q 10), .int (K 11), .int (K 12), .ref (Q 13), .ref (Q 14), .ref (Q 15), .ref (Q 16), .ref (Q 17)])), (tb, .inl (dA 0, N, .inl f))] rfl rfl rfl (Nat.le_of_ble_eq_true rfl) rfl rfl (jd D_Md_escaped 17 rfl) ?_
  rw [e1]
  refine jv_iload_n C (jd D_Md_escaped 18 rfl) rfl 0 rfl ?_
  refine jv_iload_n C (jd D_Md_escaped 19 rfl) rfl 3 rfl ?_
  refine jv_icmp_eq (tgt := 47) C (jd D_Md_escaped 20 rfl) (by decide) (fun c32 => absurd c32 (by decide)) (fun c32 => ?_)
  refine jv_iload_n C (jd D_Md_escaped 21 rfl) rfl 0 rfl ?_
  refine jv_bipush (v := 92) C (jd D_Md_escaped 22 rfl) (by decide) ?_
  refine jv_icmp_eq (tgt := 47) C (jd D_Md_escaped 23 rfl) (by decide) (fun c38 => absurd c38 (by decide)) (fun c38 => ?_)
  refine jv_iload_n C (jd D_Md_escaped 24 rfl) rfl 0 rfl ?_
  refine jv_bipush (v := 47) C (jd D_Md_escaped 25 rfl) (by decide) ?_
  refine jv_icmp_ne (tgt := 49) C (jd D_Md_escaped 26 rfl) (by decide) (fun c44 => ?_) (fun c44 => absurd c44 (by decide))
  refine jv_iload_n C (jd D_Md_escaped 29 rfl) rfl 0 rfl ?_
  refine jv_if_ge (tgt := 57) C (jd D_Md_escaped 30 rfl) (by decide) (fun c50 => ?_) (fun c50 => absurd (by decide) c50)
  refine jv_ldcS C 3 rfl (jd D_Md_escaped 33 rfl) ?_
  refine jv_iload_n C (jd D_Md_escaped 34 rfl) rfl 0 rfl ?_
  refine jv_callVs (wr := [(o, .inr (7, [.ref (Q 0), .int (K 1), .ref (Q 2), .int (K 3), .int (K 4), .int (K 5), .ref tb, .int (nI (p + 2)), .int (nI t.length), .int (-1), .ref (Q 10), .int (K 11), .int (K 12), .ref (Q 13), .ref (Q 14), .ref (Q 15), .ref (Q 16), .ref (Q 17)])), (tb, .inl (dA 0, N, .inl f))]) C cl_Md_153 (c_Js_indexOf 3 117 (by decide) (by decide)) (by decide) rfl [] [0, 1] rfl rfl rfl rfl (by decide) ⟨Nat.le_of_ble_eq_true rfl, Nat.le_of_ble_eq_true rfl⟩ ⟨Nat.le_of_ble_eq_true rfl, Nat.le_of_ble_eq_true rfl⟩ rfl rfl (Nat.le_of_ble_eq_true rfl) (jd D_Md_escaped 35 rfl) (fun v2 _ k2 => ?_)
  obtain ⟨r2, rfl, k2⟩ := k2
  refine jv_fix [0, 1] [(o, .inr (7, [.ref (Q 0), .int (K 1), .ref (Q 2), .int (K 3), .int (K 4), .int (K 5), .ref tb, .int (nI (p + 2)), .int (nI t.length), .int (-1), .ref (Q 10), .int (K 11), .int (K 12), .ref (Q 13), .ref (Q 14), .ref (Q 15), .ref (Q 16), .ref (Q 17)])), (tb, .inl (dA 0, N, .inl f))] [.int r2] 0 0 rfl rfl rfl (Nat.le_refl _) (Nat.le_refl _) ?_
  have k2 : r2 = js_ofx (nI 117) := k2
  subst k2
  refine jv_istore C [(4, .int (js_ofx (nI 117))), (3, .int 117), (2, .int (nI p)), (0, .ref o), (1, .int 34)] (jd D_Md_escaped 36 rfl) (by decide) rfl ?_
  refine jv_iload C (jd D_Md_escaped 37 rfl) 0 rfl ?_
  refine jv_if_lt (tgt := 116) C (jd D_Md_escaped 38 rfl) (by decide) (fun c67 => ?_) (fun c67 => absurd (by decide) c67)
  refine jv_iload_n C (jd D_Md_escaped 60 rfl) rfl 1 rfl ?_
  refine jv_bipush (v := 117) C (jd D_Md_escaped 61 rfl) (by decide) ?_
  refine jv_icmp_ne (tgt := 203) C (jd D_Md_escaped 62 rfl) (by decide) (fun c119 => absurd c119 (fun q => q rfl)) (fun c119 => ?_)
  refine jv_iconst (v := 0) C (jd D_Md_escaped 63 rfl) (by decide) ?_
  refine jv_istore C [(5, .int 0), (4, .int (js_ofx (nI 117))), (3, .int 117), (2, .int (nI p)), (0, .ref o), (1, .int 34)] (jd D_Md_escaped 64 rfl) (by decide) rfl ?_
  refine jv_iconst (v := 0) C (jd D_Md_escaped 65 rfl) (by decide) ?_
  refine jv_istore C [(6, .int 0), (5, .int 0), (4, .int (js_ofx (nI 117))), (3, .int 117), (2, .int (nI p)), (0, .ref o), (1, .int 34)] (jd D_Md_escaped 66 rfl) (by decide) rfl ?_
  have hL128 : ∀ (n : Nat) (i0 : Nat) (acc : Int32), i0 ≤ 4 → 5 ≤ i0 + n → js_hx t (4 - i0) (p + 2 + i0) acc = nI v → jv_V pR l eR (jv_rm 5 0 0) sR mR ([.ref o, .int 34] : List Value).toArray belowR methR cR 0 0 QR D AR 8 [(o, .inr (7, [.ref (Q 0), .int (K 1), .ref (Q 2), .int (K 3), .int (K 4), .int (K 5), .ref tb, .int (nI (p + 2 + i0)), .int (nI t.length), .int (-1), .ref (Q 10), .int (K 11), .int (K 12), .ref (Q 13), .ref (Q 14), .ref (Q 15), .ref (Q 16), .ref (Q 17)])), (tb, .inl (dA 0, N, .inl f))] [(0, .ref o), (1, .int 34), (2, .int (nI p)), (3, .int 117), (4, .int (js_ofx (nI 117))), (5, .int acc), (6, .int (nI i0))] 128 [] := by
    intro n
    induction n with
    | zero =>
      intro i0 acc h0 h1
      exact absurd h1 (by omega)
    | succ n ih =>
      intro i0 acc hi hm hx
      refine jv_iload C (jd D_Md_escaped 67 rfl) 6 rfl ?_
      refine jv_iconst (v := 4) C (jd D_Md_escaped 68 rfl) (by decide) ?_
      refine jv_icmp_ge (tgt := 200) C (jd D_Md_escaped 69 rfl) (by decide) (fun c131 => ?_) (fun c131 => ?_)
      · have h4 : i0 = 4 := by
          have := (nI_leI (a := 4) (b := i0) (by decide) (by omega)).mp c131
          omega
        have ev : acc = nI v := by
          rw [h4, Nat.sub_self, js_hx] at hx
          exact hx
        rw [h4]
        refine jv_iload C (jd D_Md_escaped 104 rfl) 5 rfl ?_
        rw [hQ]
        exact jv_iret C hr () (ev) rfl [0, 1] rfl rfl (Nat.le_of_ble_eq_true rfl) (Nat.le_of_ble_eq_true rfl) (jd D_Md_escaped 105 rfl)
      · have hlt : i0 < 4 := by
          rcases Nat.lt_or_ge i0 4 with q | q
          · exact q
          · exact absurd (nI_le (a := 4) q (by omega)) c131
        have hx2 := hx
        rw [show 4 - i0 = (4 - (i0 + 1)) + 1 by omega, js_hx] at hx2
        have hq := js_hexeq hbt (p + 2 + i0)
        refine jv_aload_n C (jd D_Md_escaped 70 rfl) rfl 0 rfl ?_
        refine jv_callV (wr := []) C cl_Md_129 (c_Md_c o Q K tb N f t (p + 2 + i0) (-1) hl hN ht (by omega)) [0, 1] [] rfl rfl rfl rfl (by decide) rfl rfl 0 rfl ⟨Nat.le_of_ble_eq_true rfl, Nat.le_of_ble_eq_true rfl⟩ ⟨Nat.le_of_ble_eq_true rfl, Nat.le_of_ble_eq_true rfl⟩ rfl rfl (Nat.le_of_ble_eq_true rfl) (jd D_Md_escaped 71 rfl) (fun v3 _ kc3 => ?_)
        obtain ⟨rc3, rfl, kc3⟩ := kc3
        refine jv_fix [0, 1] [(o, .inr (7, [.ref (Q 0), .int (K 1), .ref (Q 2), .int (K 3), .int (K 4), .int (K 5), .ref tb, .int (nI (p + 2 + i0)), .int (nI t.length), .int (-1), .ref (Q 10), .int (K 11), .int (K 12), .ref (Q 13), .ref (Q 14), .ref (Q 15), .ref (Q 16), .ref (Q 17)])), (tb, .inl (dA 0, N, .inl f))] [.int rc3] 0 0 rfl rfl rfl (Nat.le_refl _) (Nat.le_refl _) ?_
        subst kc3
        refine jv_callS (wr := [(o, .inr (7, [.ref (Q 0), .int (K 1), .ref (Q 2), .int (K 3), .int (K 4), .int (K 5), .ref tb, .int (nI (p + 2 + i0)), .int (nI t.length), .int (-1), .ref (Q 10), .int (K 11), .int (K 12), .ref (Q 13), .ref (Q 14), .ref (Q 15), .ref (Q 16), .ref (Q 17)])), (tb, .inl (dA 0, N, .inl f))]) C cl_Md_156 (c_Md_hex (js_b t (p + 2 + i0))) [] [0, 1] rfl rfl rfl rfl (by decide) ⟨Nat.le_of_ble_eq_true rfl, Nat.le_of_ble_eq_true rfl⟩ ⟨Nat.le_of_ble_eq_true rfl, Nat.le_of_ble_eq_true rfl⟩ rfl rfl (Nat.le_of_ble_eq_true rfl) (jd D_Md_escaped 72 rfl) (fun v4 _ k5 => ?_)
        obtain ⟨r5, rfl, k5⟩ := k5
        refine jv_fix [0, 1] [(o, .inr (7, [.ref (Q 0), .int (K 1), .ref (Q 2), .int (K 3), .int (K 4), .int (K 5), .ref tb, .int (nI (p + 2 + i0)), .int (nI t.length), .int (-1), .ref (Q 10), .int (K 11), .int (K 12), .ref (Q 13), .ref (Q 14), .ref (Q 15), .ref (Q 16), .ref (Q 17)])), (tb, .inl (dA 0, N, .inl f))] [.int r5] 0 0 rfl rfl rfl (Nat.le_refl _) (Nat.le_refl _) ?_
        subst k5
        refine jv_istore C [(7, .int (fn_Md_hex (js_b t (p + 2 + i0)))), (0, .ref o), (1, .int 34), (2, .int (nI p)), (3, .int 117), (4, .int (js_ofx (nI 117))), (5, .int acc), (6, .int (nI i0))] (jd D_Md_escaped 73 rfl) (by decide) rfl ?_
        refine jv_iload C (jd D_Md_escaped 74 rfl) 0 rfl ?_
        refine jv_if_ge (tgt := 174) C (jd D_Md_escaped 75 rfl) (by decide) (fun c145 => ?_) (fun c145 => absurd (Int32.not_lt.mp (by
  rcases hq with q | q | q
  · rw [if_pos q.1] at hx2
    exact absurd hx2.symm (js_nm1 (by omega))
  · rw [if_neg q.1, if_pos q.2.1] at hx2
    exact absurd hx2.symm (js_nm2 (by omega))
  · exact q.2.2.1)) c145)
        have hq3 : ¬ js_b t (p + 2 + i0) = -1 ∧ ¬ fn_Rd_hexDigit (js_b t (p + 2 + i0)) = -1 ∧ fn_Md_hex (js_b t (p + 2 + i0)) = fn_Rd_hexDigit (js_b t (p + 2 + i0)) := by
          rcases hq with q | q | q
          · exact absurd c145 (Int32.not_le.mpr q.2)
          · exact absurd c145 (Int32.not_le.mpr q.2.2)
          · exact ⟨q.1, q.2.1, q.2.2.2⟩
        have hq4 := hq3.2.2
        rw [if_neg hq3.1, if_neg hq3.2.1] at hx2
        refine jv_bipush (v := 16) C (jd D_Md_escaped 90 rfl) (by decide) ?_
        refine jv_iload C (jd D_Md_escaped 91 rfl) 6 rfl ?_
        refine jv_imul C (jd D_Md_escaped 92 rfl) ?_
        refine jv_iload C (jd D_Md_escaped 93 rfl) 0 rfl ?_
        refine jv_iadd C (jd D_Md_escaped 94 rfl) ?_
        refine jv_ati (y := acc * 16 + fn_Rd_hexDigit (js_b t (p + 2 + i0))) (by rw [hq4, Int32.mul_comm]) ?_
        refine jv_istore C [(5, .int (acc * 16 + fn_Rd_hexDigit (js_b t (p + 2 + i0)))), (7, .int (fn_Md_hex (js_b t (p + 2 + i0)))), (0, .ref o), (1, .int 34), (2, .int (nI p)), (3, .int 117), (4, .int (js_ofx (nI 117))), (6, .int (nI i0))] (jd D_Md_escaped 95 rfl) (by decide) rfl ?_
        refine jv_aload_n C (jd D_Md_escaped 96 rfl) rfl 2 rfl ?_
        refine jv_dup C (jd D_Md_escaped 97 rfl) rfl ?_
        refine jv_get C fl_Md_117 0 rfl rfl (jd D_Md_escaped 98 rfl) ?_
        refine jv_iconst (v := 1) C (jd D_Md_escaped 99 rfl) (by decide) ?_
        refine jv_iadd C (jd D_Md_escaped 100 rfl) ?_
        refine jv_ati (y := nI (p + 2 + i0 + 1)) (nI_1 _) ?_
        refine jv_put C fl_Md_117 Y_Md rfl 0 [(o, .inr (7, [.ref (Q 0), .int (K 1), .ref (Q 2), .int (K 3), .int (K 4), .int (K 5), .ref tb, .int (nI (p + 2 + i0 + 1)), .int (nI t.length), .int (-1), .ref (Q 10), .int (K 11), .int (K 12), .ref (Q 13), .ref (Q 14), .ref (Q 15), .ref (Q 16), .ref (Q 17)])), (tb, .inl (dA 0, N, .inl f))] rfl rfl rfl (Nat.le_of_ble_eq_true rfl) rfl rfl (jd D_Md_escaped 101 rfl) ?_
        rw [Nat.add_assoc (p + 2) i0 1]
        refine jv_iinc (v := nI (i0 + 1)) C [(6, .int (nI (i0 + 1))), (5, .int (acc * 16 + fn_Rd_hexDigit (js_b t (p + 2 + i0)))), (7, .int (fn_Md_hex (js_b t (p + 2 + i0)))), (0, .ref o), (1, .int 34), (2, .int (nI p)), (3, .int 117), (4, .int (js_ofx (nI 117)))] (jd D_Md_escaped 102 rfl) 7 rfl (nI_1 i0) (by decide) rfl ?_
        refine jv_goto (tgt := 128) C (jd D_Md_escaped 103 rfl) (by decide) ?_
        refine jv_lvsub [3, 4, 5, 6, 7, 1, 0] rfl ?_
        exact ih (i0 + 1) (acc * 16 + fn_Rd_hexDigit (js_b t (p + 2 + i0))) (by omega) (by omega) hx2
  refine jv_lvsub [5, 6, 4, 3, 2, 1, 0] rfl ?_
  exact hL128 5 0 0 (Nat.zero_le _) (by omega) hh

set_option maxHeartbeats 4000000 in
set_option maxRecDepth 100000 in
/-- escaped: no four hex digits -/
theorem c_Md_escaped_un {l : Launch} {D : va_G} {dA : Nat → ClassId} {zz : (Nat → Nat) × (Nat → Nat)} (o : Nat) (Q : Nat → Nat) (K : Nat → Int32) (tb N : Nat) (f : Nat → Int32) (t : List Nat) (p : Nat) (rr : Int32) (hl : t.length ≤ N) (hN : N < 2 ^ 29) (ht : js_tx f t) (hp : p < 2 ^ 29) (e1 : js_b t (p + 1) = 117) (hh : js_hx t 4 (p + 2) 0 = rr) (hrr : js_hok t 4 (p + 2) = false) : jv_M l D dA zz y_Md_escaped b_Md_escaped 8 (some (FieldType.int)) 5 [.ref o, .int 34] [(o, .inr (7, [.ref (Q 0), .int (K 1), .ref (Q 2), .int (K 3), .int (K 4), .int (K 5), .ref tb, .int (nI p), .int (nI t.length), .int (-1), .ref (Q 10), .int (K 11), .int (K 12), .ref (Q 13), .ref (Q 14), .ref (Q 15), .ref (Q 16), .ref (Q 17)])), (tb, .inl (dA 0, N, .inl f))] (jv_pi fun r (_ : Int32) => r = -1) (fun a => [(o, .inr (7, [.ref (Q 0), .int (K 1), .ref (Q 2), .int (K 3), .int (K 4), .int (K 5), .ref tb, .int a, .int (nI t.length), .int (nI (if rr = -1 then t.length else p)), .ref (Q 10), .int (K 11), .int (K 12), .ref (Q 13), .ref (Q 14), .ref (Q 15), .ref (Q 16), .ref (Q 17)])), (tb, .inl (dA 0, N, .inl f))]) 0 0 := by
  refine jv_M.of [(0, .ref o), (1, .int 34)] (by decide) (Nat.le_of_ble_eq_true rfl) rfl ?_
  intro pR eR sR mR belowR methR cR AR C hr hin
  obtain ⟨QR, hQ⟩ : ∃ QR, QR = jv_E D (jv_pi fun r (_ : Int32) => r = -1) (fun a => [(o, .inr (7, [.ref (Q 0), .int (K 1), .ref (Q 2), .int (K 3), .int (K 4), .int (K 5), .ref tb, .int a, .int (nI t.length), .int (nI (if rr = -1 then t.length else p)), .ref (Q 10), .int (K 11), .int (K 12), .ref (Q 13), .ref (Q 14), .ref (Q 15), .ref (Q 16), .ref (Q 17)])), (tb, .inl (dA 0, N, .inl f))]) belowR ([.ref o, .int 34] : List Value).toArray sR AR 0 0 := ⟨_, rfl⟩
  rw [← hQ]
  have hbt := ht.by
  refine jv_aload_n C (jd D_Md_escaped 0 rfl) rfl 0 rfl ?_
  refine jv_get C fl_Md_117 0 rfl rfl (jd D_Md_escaped 1 rfl) ?_
  refine jv_istore_n C [(2, .int (nI p)), (0, .ref o), (1, .int 34)] (jd D_Md_escaped 2 rfl) rfl (by decide) rfl ?_
  refine jv_aload_n C (jd D_Md_escaped 3 rfl) rfl 1 rfl ?_
  refine jv_dup C (jd D_Md_escaped 4 rfl) rfl ?_
  refine jv_get C fl_Md_117 0 rfl rfl (jd D_Md_escaped 5 rfl) ?_
  refine jv_iconst (v := 1) C (jd D_Md_escaped 6 rfl) (by decide) ?_
  refine jv_iadd C (jd D_Md_escaped 7 rfl) ?_
  refine jv_ati (y := nI (p + 1)) (nI_1 p) ?_
  refine jv_put C fl_Md_117 Y_Md rfl 0 [(o, .inr (7, [.ref (Q 0), .int (K 1), .ref (Q 2), .int (K 3), .int (K 4), .int (K 5), .ref tb, .int (nI (p + 1)), .int (nI t.length), .int (-1), .ref (Q 10), .int (K 11), .int (K 12), .ref (Q 13), .ref (Q 14), .ref (Q 15), .ref (Q 16), .ref (Q 17)])), (tb, .inl (dA 0, N, .inl f))] rfl rfl rfl (Nat.le_of_ble_eq_true rfl) rfl rfl (jd D_Md_escaped 8 rfl) ?_
  refine jv_aload_n C (jd D_Md_escaped 9 rfl) rfl 1 rfl ?_
  refine jv_callV (wr := []) C cl_Md_129 (c_Md_c o Q K tb N f t (p + 1) (-1) hl hN ht (by omega)) [0, 1] [] rfl rfl rfl rfl (by decide) rfl rfl 0 rfl ⟨Nat.le_of_ble_eq_true rfl, Nat.le_of_ble_eq_true rfl⟩ ⟨Nat.le_of_ble_eq_true rfl, Nat.le_of_ble_eq_true rfl⟩ rfl rfl (Nat.le_of_ble_eq_true rfl) (jd D_Md_escaped 10 rfl) (fun v1 _ kc1 => ?_)
  obtain ⟨rc1, rfl, kc1⟩ := kc1
  refine jv_fix [0, 1] [(o, .inr (7, [.ref (Q 0), .int (K 1), .ref (Q 2), .int (K 3), .int (K 4), .int (K 5), .ref tb, .int (nI (p + 1)), .int (nI t.length), .int (-1), .ref (Q 10), .int (K 11), .int (K 12), .ref (Q 13), .ref (Q 14), .ref (Q 15), .ref (Q 16), .ref (Q 17)])), (tb, .inl (dA 0, N, .inl f))] [.int rc1] 0 0 rfl rfl rfl (Nat.le_refl _) (Nat.le_refl _) ?_
  subst kc1
  refine jv_istore_n C [(3, .int (js_b t (p + 1))), (2, .int (nI p)), (0, .ref o), (1, .int 34)] (jd D_Md_escaped 11 rfl) rfl (by decide) rfl ?_
  refine jv_aload_n C (jd D_Md_escaped 12 rfl) rfl 2 rfl ?_
  refine jv_dup C (jd D_Md_escaped 13 rfl) rfl ?_
  refine jv_get C fl_Md_117 0 rfl rfl (jd D_Md_escaped 14 rfl) ?_
  refine jv_iconst (v := 1) C (jd D_Md_escaped 15 rfl) (by decide) ?_
  refine jv_iadd C (jd D_Md_escaped 16 rfl) ?_
  refine jv_ati (y := nI (p + 2)) (nI_1 (p + 1)) ?_
  refine jv_put C fl_Md_117 Y_Md rfl 0 [(o, .inr (7, [.ref (Q 0), .int (K 1), .ref (Q 2), .int (K 3), .int (K 4), .int (K 5), .ref tb, .int (nI (p + 2)), .int (nI t.length), .int (-1), .ref (Q 10), .int (K 11), .int (K 12), .ref (Q 13), .ref (Q 14), .ref (Q 15), .ref (Q 16), .ref (Q 17)])), (tb, .inl (dA 0, N, .inl f))] rfl rfl rfl (Nat.le_of_ble_eq_true rfl) rfl rfl (jd D_Md_escaped 17 rfl) ?_
  rw [e1]
  refine jv_iload_n C (jd D_Md_escaped 18 rfl) rfl 0 rfl ?_
  refine jv_iload_n C (jd D_Md_escaped 19 rfl) rfl 3 rfl ?_
  refine jv_icmp_eq (tgt := 47) C (jd D_Md_escaped 20 rfl) (by decide) (fun c32 => absurd c32 (by decide)) (fun c32 => ?_)
  refine jv_iload_n C (jd D_Md_escaped 21 rfl) rfl 0 rfl ?_
  refine jv_bipush (v := 92) C (jd D_Md_escaped 22 rfl) (by decide) ?_
  refine jv_icmp_eq (tgt := 47) C (jd D_Md_escaped 23 rfl) (by decide) (fun c38 => absurd c38 (by decide)) (fun c38 => ?_)
  refine jv_iload_n C (jd D_Md_escaped 24 rfl) rfl 0 rfl ?_
  refine jv_bipush (v := 47) C (jd D_Md_escaped 25 rfl) (by decide) ?_
  refine jv_icmp_ne (tgt := 49) C (jd D_Md_escaped 26 rfl) (by decide) (fun c44 => ?_) (fun c44 => absurd c44 (by decide))
  refine jv_iload_n C (jd D_Md_escaped 29 rfl) rfl 0 rfl ?_
  refine jv_if_ge (tgt := 57) C (jd D_Md_escaped 30 rfl) (by decide) (fun c50 => ?_) (fun c50 => absurd (by decide) c50)
  refine jv_ldcS C 3 rfl (jd D_Md_escaped 33 rfl) ?_
  refine jv_iload_n C (jd D_Md_escaped 34 rfl) rfl 0 rfl ?_
  refine jv_callVs (wr := [(o, .inr (7, [.ref (Q 0), .int (K 1), .ref (Q 2), .int (K 3), .int (K 4), .int (K 5), .ref tb, .int (nI (p + 2)), .int (nI t.length), .int (-1), .ref (Q 10), .int (K 11), .int (K 12), .ref (Q 13), .ref (Q 14), .ref (Q 15), .ref (Q 16), .ref (Q 17)])), (tb, .inl (dA 0, N, .inl f))]) C cl_Md_153 (c_Js_indexOf 3 117 (by decide) (by decide)) (by decide) rfl [] [0, 1] rfl rfl rfl rfl (by decide) ⟨Nat.le_of_ble_eq_true rfl, Nat.le_of_ble_eq_true rfl⟩ ⟨Nat.le_of_ble_eq_true rfl, Nat.le_of_ble_eq_true rfl⟩ rfl rfl (Nat.le_of_ble_eq_true rfl) (jd D_Md_escaped 35 rfl) (fun v2 _ k2 => ?_)
  obtain ⟨r2, rfl, k2⟩ := k2
  refine jv_fix [0, 1] [(o, .inr (7, [.ref (Q 0), .int (K 1), .ref (Q 2), .int (K 3), .int (K 4), .int (K 5), .ref tb, .int (nI (p + 2)), .int (nI t.length), .int (-1), .ref (Q 10), .int (K 11), .int (K 12), .ref (Q 13), .ref (Q 14), .ref (Q 15), .ref (Q 16), .ref (Q 17)])), (tb, .inl (dA 0, N, .inl f))] [.int r2] 0 0 rfl rfl rfl (Nat.le_refl _) (Nat.le_refl _) ?_
  have k2 : r2 = js_ofx (nI 117) := k2
  subst k2
  refine jv_istore C [(4, .int (js_ofx (nI 117))), (3, .int 117), (2, .int (nI p)), (0, .ref o), (1, .int 34)] (jd D_Md_escaped 36 rfl) (by decide) rfl ?_
  refine jv_iload C (jd D_Md_escaped 37 rfl) 0 rfl ?_
  refine jv_if_lt (tgt := 116) C (jd D_Md_escaped 38 rfl) (by decide) (fun c67 => ?_) (fun c67 => absurd (by decide) c67)
  refine jv_iload_n C (jd D_Md_escaped 60 rfl) rfl 1 rfl ?_
  refine jv_bipush (v := 117) C (jd D_Md_escaped 61 rfl) (by decide) ?_
  refine jv_icmp_ne (tgt := 203) C (jd D_Md_escaped 62 rfl) (by decide) (fun c119 => absurd c119 (fun q => q rfl)) (fun c119 => ?_)
  refine jv_iconst (v := 0) C (jd D_Md_escaped 63 rfl) (by decide) ?_
  refine jv_istore C [(5, .int 0), (4, .int (js_ofx (nI 117))), (3, .int 117), (2, .int (nI p)), (0, .ref o), (1, .int 34)] (jd D_Md_escaped 64 rfl) (by decide) rfl ?_
  refine jv_iconst (v := 0) C (jd D_Md_escaped 65 rfl) (by decide) ?_
  refine jv_istore C [(6, .int 0), (5, .int 0), (4, .int (js_ofx (nI 117))), (3, .int 117), (2, .int (nI p)), (0, .ref o), (1, .int 34)] (jd D_Md_escaped 66 rfl) (by decide) rfl ?_
  have hL128 : ∀ (n : Nat) (i0 : Nat) (acc : Int32), i0 ≤ 4 → 5 ≤ i0 + n → js_hx t (4 - i0) (p + 2 + i0) acc = rr → js_hok t (4 - i0) (p + 2 + i0) = false → jv_V pR l eR (jv_rm 5 0 0) sR mR ([.ref o, .int 34] : List Value).toArray belowR methR cR 0 0 QR D AR 8 [(o, .inr (7, [.ref (Q 0), .int (K 1), .ref (Q 2), .int (K 3), .int (K 4), .int (K 5), .ref tb, .int (nI (p + 2 + i0)), .int (nI t.length), .int (-1), .ref (Q 10), .int (K 11), .int (K 12), .ref (Q 13), .ref (Q 14), .ref (Q 15), .ref (Q 16), .ref (Q 17)])), (tb, .inl (dA 0, N, .inl f))] [(0, .ref o), (1, .int 34), (2, .int (nI p)), (3, .int 117), (4, .int (js_ofx (nI 117))), (5, .int acc), (6, .int (nI i0))] 128 [] := by
    intro n
    induction n with
    | zero =>
      intro i0 acc h0 h1
      exact absurd h1 (by omega)
    | succ n ih =>
      intro i0 acc hi hm hx hok0
      refine jv_iload C (jd D_Md_escaped 67 rfl) 6 rfl ?_
      refine jv_iconst (v := 4) C (jd D_Md_escaped 68 rfl) (by decide) ?_
      refine jv_icmp_ge (tgt := 200) C (jd D_Md_escaped 69 rfl) (by decide) (fun c131 => ?_) (fun c131 => ?_)
      · exact absurd hok0 (by
          have := (nI_leI (a := 4) (b := i0) (by decide) (by omega)).mp c131
          rw [show i0 = 4 by omega, Nat.sub_self, js_hok]
          exact fun q => by cases q)
      · have hlt : i0 < 4 := by
          rcases Nat.lt_or_ge i0 4 with q | q
          · exact q
          · exact absurd (nI_le (a := 4) q (by omega)) c131
        have hx2 := hx
        rw [show 4 - i0 = (4 - (i0 + 1)) + 1 by omega, js_hx] at hx2
        have hq := js_hexeq hbt (p + 2 + i0)
        refine jv_aload_n C (jd D_Md_escaped 70 rfl) rfl 0 rfl ?_
        refine jv_callV (wr := []) C cl_Md_129 (c_Md_c o Q K tb N f t (p + 2 + i0) (-1) hl hN ht (by omega)) [0, 1] [] rfl rfl rfl rfl (by decide) rfl rfl 0 rfl ⟨Nat.le_of_ble_eq_true rfl, Nat.le_of_ble_eq_true rfl⟩ ⟨Nat.le_of_ble_eq_true rfl, Nat.le_of_ble_eq_true rfl⟩ rfl rfl (Nat.le_of_ble_eq_true rfl) (jd D_Md_escaped 71 rfl) (fun v3 _ kc3 => ?_)
        obtain ⟨rc3, rfl, kc3⟩ := kc3
        refine jv_fix [0, 1] [(o, .inr (7, [.ref (Q 0), .int (K 1), .ref (Q 2), .int (K 3), .int (K 4), .int (K 5), .ref tb, .int (nI (p + 2 + i0)), .int (nI t.length), .int (-1), .ref (Q 10), .int (K 11), .int (K 12), .ref (Q 13), .ref (Q 14), .ref (Q 15), .ref (Q 16), .ref (Q 17)])), (tb, .inl (dA 0, N, .inl f))] [.int rc3] 0 0 rfl rfl rfl (Nat.le_refl _) (Nat.le_refl _) ?_
        subst kc3
        refine jv_callS (wr := [(o, .inr (7, [.ref (Q 0), .int (K 1), .ref (Q 2), .int (K 3), .int (K 4), .int (K 5), .ref tb, .int (nI (p + 2 + i0)), .int (nI t.length), .int (-1), .ref (Q 10), .int (K 11), .int (K 12), .ref (Q 13), .ref (Q 14), .ref (Q 15), .ref (Q 16), .ref (Q 17)])), (tb, .inl (dA 0, N, .inl f))]) C cl_Md_156 (c_Md_hex (js_b t (p + 2 + i0))) [] [0, 1] rfl rfl rfl rfl (by decide) ⟨Nat.le_of_ble_eq_true rfl, Nat.le_of_ble_eq_true rfl⟩ ⟨Nat.le_of_ble_eq_true rfl, Nat.le_of_ble_eq_true rfl⟩ rfl rfl (Nat.le_of_ble_eq_true rfl) (jd D_Md_escaped 72 rfl) (fun v4 _ k5 => ?_)
        obtain ⟨r5, rfl, k5⟩ := k5
        refine jv_fix [0, 1] [(o, .inr (7, [.ref (Q 0), .int (K 1), .ref (Q 2), .int (K 3), .int (K 4), .int (K 5), .ref tb, .int (nI (p + 2 + i0)), .int (nI t.length), .int (-1), .ref (Q 10), .int (K 11), .int (K 12), .ref (Q 13), .ref (Q 14), .ref (Q 15), .ref (Q 16), .ref (Q 17)])), (tb, .inl (dA 0, N, .inl f))] [.int r5] 0 0 rfl rfl rfl (Nat.le_refl _) (Nat.le_refl _) ?_
        subst k5
        refine jv_istore C [(7, .int (fn_Md_hex (js_b t (p + 2 + i0)))), (0, .ref o), (1, .int 34), (2, .int (nI p)), (3, .int 117), (4, .int (js_ofx (nI 117))), (5, .int acc), (6, .int (nI i0))] (jd D_Md_escaped 73 rfl) (by decide) rfl ?_
        refine jv_iload C (jd D_Md_escaped 74 rfl) 0 rfl ?_
        refine jv_if_ge (tgt := 174) C (jd D_Md_escaped 75 rfl) (by decide) (fun c145 => ?_) (fun c145 => ?_)
        · have hq3 : ¬ js_b t (p + 2 + i0) = -1 ∧ ¬ fn_Rd_hexDigit (js_b t (p + 2 + i0)) = -1 ∧ fn_Md_hex (js_b t (p + 2 + i0)) = fn_Rd_hexDigit (js_b t (p + 2 + i0)) := by
            rcases hq with q | q | q
            · exact absurd c145 (Int32.not_le.mpr q.2)
            · exact absurd c145 (Int32.not_le.mpr q.2.2)
            · exact ⟨q.1, q.2.1, q.2.2.2⟩
          have hq4 := hq3.2.2
          rw [if_neg hq3.1, if_neg hq3.2.1] at hx2
          have hok2 := hok0
          rw [show 4 - i0 = (4 - (i0 + 1)) + 1 by omega, js_hok, if_neg hq3.1, if_neg hq3.2.1] at hok2
          refine jv_bipush (v := 16) C (jd D_Md_escaped 90 rfl) (by decide) ?_
          refine jv_iload C (jd D_Md_escaped 91 rfl) 6 rfl ?_
          refine jv_imul C (jd D_Md_escaped 92 rfl) ?_
          refine jv_iload C (jd D_Md_escaped 93 rfl) 0 rfl ?_
          refine jv_iadd C (jd D_Md_escaped 94 rfl) ?_
          refine jv_ati (y := acc * 16 + fn_Rd_hexDigit (js_b t (p + 2 + i0))) (by rw [hq4, Int32.mul_comm]) ?_
          refine jv_istore C [(5, .int (acc * 16 + fn_Rd_hexDigit (js_b t (p + 2 + i0)))), (7, .int (fn_Md_hex (js_b t (p + 2 + i0)))), (0, .ref o), (1, .int 34), (2, .int (nI p)), (3, .int 117), (4, .int (js_ofx (nI 117))), (6, .int (nI i0))] (jd D_Md_escaped 95 rfl) (by decide) rfl ?_
          refine jv_aload_n C (jd D_Md_escaped 96 rfl) rfl 2 rfl ?_
          refine jv_dup C (jd D_Md_escaped 97 rfl) rfl ?_
          refine jv_get C fl_Md_117 0 rfl rfl (jd D_Md_escaped 98 rfl) ?_
          refine jv_iconst (v := 1) C (jd D_Md_escaped 99 rfl) (by decide) ?_
          refine jv_iadd C (jd D_Md_escaped 100 rfl) ?_
          refine jv_ati (y := nI (p + 2 + i0 + 1)) (nI_1 _) ?_
          refine jv_put C fl_Md_117 Y_Md rfl 0 [(o, .inr (7, [.ref (Q 0), .int (K 1), .ref (Q 2), .int (K 3), .int (K 4), .int (K 5), .ref tb, .int (nI (p + 2 + i0 + 1)), .int (nI t.length), .int (-1), .ref (Q 10), .int (K 11), .int (K 12), .ref (Q 13), .ref (Q 14), .ref (Q 15), .ref (Q 16), .ref (Q 17)])), (tb, .inl (dA 0, N, .inl f))] rfl rfl rfl (Nat.le_of_ble_eq_true rfl) rfl rfl (jd D_Md_escaped 101 rfl) ?_
          rw [Nat.add_assoc (p + 2) i0 1]
          refine jv_iinc (v := nI (i0 + 1)) C [(6, .int (nI (i0 + 1))), (5, .int (acc * 16 + fn_Rd_hexDigit (js_b t (p + 2 + i0)))), (7, .int (fn_Md_hex (js_b t (p + 2 + i0)))), (0, .ref o), (1, .int 34), (2, .int (nI p)), (3, .int 117), (4, .int (js_ofx (nI 117)))] (jd D_Md_escaped 102 rfl) 7 rfl (nI_1 i0) (by decide) rfl ?_
          refine jv_goto (tgt := 128) C (jd D_Md_escaped 103 rfl) (by decide) ?_
          refine jv_lvsub [3, 4, 5, 6, 7, 1, 0] rfl ?_
          exact ih (i0 + 1) (acc * 16 + fn_Rd_hexDigit (js_b t (p + 2 + i0))) (by omega) (by omega) hx2 hok2
        · have hneg : fn_Md_hex (js_b t (p + 2 + i0)) < 0 := Int32.not_le.mp c145
          refine jv_aload_n C (jd D_Md_escaped 76 rfl) rfl 1 rfl ?_
          refine jv_aload_n C (jd D_Md_escaped 77 rfl) rfl 1 rfl ?_
          refine jv_get C fl_Md_117 0 rfl rfl (jd D_Md_escaped 78 rfl) ?_
          refine jv_aload_n C (jd D_Md_escaped 79 rfl) rfl 1 rfl ?_
          refine jv_get C fl_Md_120 0 rfl rfl (jd D_Md_escaped 80 rfl) ?_
          refine jv_icmp_lt (tgt := 167) C (jd D_Md_escaped 81 rfl) (by decide) (fun c157 => ?_) (fun c157 => ?_)
          · have hbn : ¬ js_b t (p + 2 + i0) = -1 := fun q => by
              have h1 := (nI_ltI (a := p + 2 + i0) (b := t.length) (by omega) (by omega)).mp c157
              rw [js_b, List.getElem?_eq_getElem h1] at q
              exact js_nm1 (by have := hbt _ (List.getElem_mem h1); omega) q
            have ew : nI p = nI (if rr = -1 then t.length else p) := by
              rw [if_neg hbn] at hx2
              rcases hq with q | q | q
              · exact absurd q.1 hbn
              · rw [if_pos q.2.1] at hx2
                rw [if_neg (by rw [← hx2]; decide)]
              · exact absurd hneg q.2.2.1
            refine jv_iload_n C (jd D_Md_escaped 85 rfl) rfl 3 rfl ?_
            refine jv_ati (y := nI (if rr = -1 then t.length else p)) ew ?_
            refine jv_callV (wr := [(tb, .inl (dA 0, N, .inl f))]) C cl_Md_133 (c_Md_fail o Q K tb (nI (p + 2 + i0)) (nI t.length) (nI (if rr = -1 then t.length else p))) [0] [1] rfl rfl rfl rfl (by decide) rfl rfl 0 rfl ⟨Nat.le_of_ble_eq_true rfl, Nat.le_of_ble_eq_true rfl⟩ ⟨Nat.le_of_ble_eq_true rfl, Nat.le_of_ble_eq_true rfl⟩ rfl rfl (Nat.le_of_ble_eq_true rfl) (jd D_Md_escaped 86 rfl) (fun v5 _ kf9 => ?_)
            obtain ⟨rf9, rfl, kf9⟩ := kf9
            refine jv_fix [1, 0] [(o, .inr (7, [.ref (Q 0), .int (K 1), .ref (Q 2), .int (K 3), .int (K 4), .int (K 5), .ref tb, .int (nI (p + 2 + i0)), .int (nI t.length), .int (nI (if rr = -1 then t.length else p)), .ref (Q 10), .int (K 11), .int (K 12), .ref (Q 13), .ref (Q 14), .ref (Q 15), .ref (Q 16), .ref (Q 17)])), (tb, .inl (dA 0, N, .inl f))] [.int rf9] 0 0 rfl rfl rfl (Nat.le_refl _) (Nat.le_refl _) ?_
            subst kf9
            refine jv_pop C (jd D_Md_escaped 87 rfl) rfl ?_
            refine jv_iconst (v := -1) C (jd D_Md_escaped 88 rfl) (by decide) ?_
            rw [hQ]
            exact jv_iret C hr (nI (p + 2 + i0)) (rfl) rfl [0, 1] rfl rfl (Nat.le_of_ble_eq_true rfl) (Nat.le_of_ble_eq_true rfl) (jd D_Md_escaped 89 rfl)
          · refine jv_aload_n C (jd D_Md_escaped 82 rfl) rfl 1 rfl ?_
            refine jv_get C fl_Md_120 0 rfl rfl (jd D_Md_escaped 83 rfl) ?_
            have hbe : js_b t (p + 2 + i0) = -1 := js_b_end ((nI_leI (by omega) (by omega)).mp (Int32.not_lt.mp c157))
            have ew : nI t.length = nI (if rr = -1 then t.length else p) := by
              rw [if_pos hbe] at hx2
              rw [if_pos hx2.symm]
            refine jv_goto (tgt := 168) C (jd D_Md_escaped 84 rfl) (by decide) ?_
            refine jv_ati (y := nI (if rr = -1 then t.length else p)) ew ?_
            refine jv_callV (wr := [(tb, .inl (dA 0, N, .inl f))]) C cl_Md_133 (c_Md_fail o Q K tb (nI (p + 2 + i0)) (nI t.length) (nI (if rr = -1 then t.length else p))) [0] [1] rfl rfl rfl rfl (by decide) rfl rfl 0 rfl ⟨Nat.le_of_ble_eq_true rfl, Nat.le_of_ble_eq_true rfl⟩ ⟨Nat.le_of_ble_eq_true rfl, Nat.le_of_ble_eq_true rfl⟩ rfl rfl (Nat.le_of_ble_eq_true rfl) (jd D_Md_escaped 86 rfl) (fun v6 _ kf9 => ?_)
            obtain ⟨rf9, rfl, kf9⟩ := kf9
            refine jv_fix [1, 0] [(o, .inr (7, [.ref (Q 0), .int (K 1), .ref (Q 2), .int (K 3), .int (K 4), .int (K 5), .ref tb, .int (nI (p + 2 + i0)), .int (nI t.length), .int (nI (if rr = -1 then t.length else p)), .ref (Q 10), .int (K 11), .int (K 12), .ref (Q 13), .ref (Q 14), .ref (Q 15), .ref (Q 16), .ref (Q 17)])), (tb, .inl (dA 0, N, .inl f))] [.int rf9] 0 0 rfl rfl rfl (Nat.le_refl _) (Nat.le_refl _) ?_
            subst kf9
            refine jv_pop C (jd D_Md_escaped 87 rfl) rfl ?_
            refine jv_iconst (v := -1) C (jd D_Md_escaped 88 rfl) (by decide) ?_
            rw [hQ]
            exact jv_iret C hr (nI (p + 2 + i0)) (rfl) rfl [0, 1] rfl rfl (Nat.le_of_ble_eq_true rfl) (Nat.le_of_ble_eq_true rfl) (jd D_Md_escaped 89 rfl)
  refine jv_lvsub [5, 6, 4, 3, 2, 1, 0] rfl ?_
  exact hL128 5 0 0 (Nat.zero_le _) (by omega) hh hrr
