set_option maxHeartbeats 4000000 in
set_option maxRecDepth 100000 in
/-- Reader.endOfDigits(q) -/
theorem c_Rd_endOfDigits {l : Launch} {D : va_G} {dA : Nat → ClassId} (o tp pp nn ob nb : Nat) (dp ub pl : Int32) (i : Nat) (tb N : Nat) (f : Nat → Int32) (t : List Nat) (q : Nat) (hl : t.length ≤ N) (hN : N < 2 ^ 30) (ht : js_tx f t) (hq : q ≤ t.length) : jv_M l D dA y_Rd_endOfDigits b_Rd_endOfDigits 3 (some (FieldType.int)) 2 [.ref o, .int (nI q)] [(o, .inr (2, [.ref tp, .ref pp, .ref nn, .ref ob, .ref nb, .int dp, .int (nI i), .int ub, .int pl])), (tp, .inr (0, [.ref tb, .int (nI t.length)])), (tb, .inl (dA 0, N, .inl f))] (jv_pi fun r (_ : Unit) => r = nI (js_dg t (t.length - q) q)) (fun _ => [(o, .inr (2, [.ref tp, .ref pp, .ref nn, .ref ob, .ref nb, .int dp, .int (nI i), .int ub, .int pl])), (tp, .inr (0, [.ref tb, .int (nI t.length)])), (tb, .inl (dA 0, N, .inl f))]) 0 0 := by
  refine jv_M.of [(0, .ref o), (1, .int (nI q))] (by decide) (Nat.le_of_ble_eq_true rfl) rfl ?_
  intro pR eR sR mR belowR methR cR AR C hr hin
  obtain ⟨QR, hQ⟩ : ∃ QR, QR = jv_E D (jv_pi fun r (_ : Unit) => r = nI (js_dg t (t.length - q) q)) (fun _ => [(o, .inr (2, [.ref tp, .ref pp, .ref nn, .ref ob, .ref nb, .int dp, .int (nI i), .int ub, .int pl])), (tp, .inr (0, [.ref tb, .int (nI t.length)])), (tb, .inl (dA 0, N, .inl f))]) belowR ([.ref o, .int (nI q)] : List Value).toArray sR AR 0 0 := ⟨_, rfl⟩
  rw [← hQ]
  refine jv_iload_n C (jd D_Rd_endOfDigits 0 rfl) rfl 1 rfl ?_
  refine jv_istore_n C [(2, .int (nI q)), (0, .ref o), (1, .int (nI q))] (jd D_Rd_endOfDigits 1 rfl) rfl (by decide) rfl ?_
  have hL2 : ∀ (n : Nat) (j : Nat), q ≤ j → j ≤ t.length → t.length + 1 ≤ j + n → js_dg t (t.length - j) j = js_dg t (t.length - q) q → jv_V pR l eR (jv_rm 2 0 0) sR mR ([.ref o, .int (nI q)] : List Value).toArray belowR methR cR 0 0 QR D AR 3 [(o, .inr (2, [.ref tp, .ref pp, .ref nn, .ref ob, .ref nb, .int dp, .int (nI i), .int ub, .int pl])), (tp, .inr (0, [.ref tb, .int (nI t.length)])), (tb, .inl (dA 0, N, .inl f))] [(0, .ref o), (1, .int (nI q)), (2, .int (nI j))] 2 [] := by
    intro n
    induction n with
    | zero =>
      intro j h0 h1 h2
      exact absurd h2 (by omega)
    | succ n ih =>
      intro j hqj hj hm he
      refine jv_iload_n C (jd D_Rd_endOfDigits 2 rfl) rfl 2 rfl ?_
      refine jv_aload_n C (jd D_Rd_endOfDigits 3 rfl) rfl 0 rfl ?_
      refine jv_get C fl_Rd_9 0 rfl rfl (jd D_Rd_endOfDigits 4 rfl) ?_
      refine jv_callV (wr := [(o, .inr (2, [.ref tp, .ref pp, .ref nn, .ref ob, .ref nb, .int dp, .int (nI i), .int ub, .int pl]))]) C cl_Rd_78 (c_Tx_length tp tb N f t) [1, 2] [0] rfl rfl rfl rfl (by decide) rfl rfl 0 rfl ⟨Nat.le_of_ble_eq_true rfl, Nat.le_of_ble_eq_true rfl⟩ ⟨Nat.le_of_ble_eq_true rfl, Nat.le_of_ble_eq_true rfl⟩ rfl rfl (Nat.le_of_ble_eq_true rfl) (jd D_Rd_endOfDigits 5 rfl) (fun v1 _ k1 => ?_)
      obtain ⟨r1, rfl, k1⟩ := k1
      refine jv_fix [0, 1, 2] [(o, .inr (2, [.ref tp, .ref pp, .ref nn, .ref ob, .ref nb, .int dp, .int (nI i), .int ub, .int pl])), (tp, .inr (0, [.ref tb, .int (nI t.length)])), (tb, .inl (dA 0, N, .inl f))] [.int r1, .int (nI j)] 0 0 rfl rfl rfl (Nat.le_refl _) (Nat.le_refl _) ?_
      subst k1
      refine jv_icmp_ge (tgt := 33) C (jd D_Rd_endOfDigits 6 rfl) (by decide) (fun c10 => ?_) (fun c10 => ?_)
      · refine jv_iload_n C (jd D_Rd_endOfDigits 15 rfl) rfl 2 rfl ?_
        rw [hQ]
        exact jv_iret C hr () (by rw [← he, show t.length - j = 0 from (by have := (nI_leI (a := t.length) (b := j) (by omega) (by omega)).mp c10; omega), js_dg]) rfl [0, 1, 2] rfl rfl (Nat.le_of_ble_eq_true rfl) (Nat.le_of_ble_eq_true rfl) (jd D_Rd_endOfDigits 16 rfl)
      · have hlt : j < t.length := by
          rcases Nat.lt_or_ge j t.length with y | y
          · exact y
          · exact absurd (nI_le y (by omega)) c10
        refine jv_aload_n C (jd D_Rd_endOfDigits 7 rfl) rfl 0 rfl ?_
        refine jv_get C fl_Rd_9 0 rfl rfl (jd D_Rd_endOfDigits 8 rfl) ?_
        refine jv_iload_n C (jd D_Rd_endOfDigits 9 rfl) rfl 2 rfl ?_
        refine jv_callV (wr := [(o, .inr (2, [.ref tp, .ref pp, .ref nn, .ref ob, .ref nb, .int dp, .int (nI i), .int ub, .int pl]))]) C cl_Rd_50 (c_Tx_at tp tb N f t (nI j) hl (by omega) ht) [1, 2] [0] rfl rfl rfl rfl (by decide) rfl rfl 0 rfl ⟨Nat.le_of_ble_eq_true rfl, Nat.le_of_ble_eq_true rfl⟩ ⟨Nat.le_of_ble_eq_true rfl, Nat.le_of_ble_eq_true rfl⟩ rfl rfl (Nat.le_of_ble_eq_true rfl) (jd D_Rd_endOfDigits 10 rfl) (fun v2 _ k2 => ?_)
        obtain ⟨r2, rfl, k2⟩ := k2
        refine jv_fix [0, 1, 2] [(o, .inr (2, [.ref tp, .ref pp, .ref nn, .ref ob, .ref nb, .int dp, .int (nI i), .int ub, .int pl])), (tp, .inr (0, [.ref tb, .int (nI t.length)])), (tb, .inl (dA 0, N, .inl f))] [.int r2] 0 0 rfl rfl rfl (Nat.le_refl _) (Nat.le_refl _) ?_
        rw [js_at_nat (by omega) (by omega)] at k2
        subst k2
        refine jv_callS (wr := [(o, .inr (2, [.ref tp, .ref pp, .ref nn, .ref ob, .ref nb, .int dp, .int (nI i), .int ub, .int pl])), (tp, .inr (0, [.ref tb, .int (nI t.length)])), (tb, .inl (dA 0, N, .inl f))]) C cl_Rd_125 (c_Rd_isDigit (js_b t j)) [] [0, 1, 2] rfl rfl rfl rfl (by decide) ⟨Nat.le_of_ble_eq_true rfl, Nat.le_of_ble_eq_true rfl⟩ ⟨Nat.le_of_ble_eq_true rfl, Nat.le_of_ble_eq_true rfl⟩ rfl rfl (Nat.le_of_ble_eq_true rfl) (jd D_Rd_endOfDigits 11 rfl) (fun v3 _ k3 => ?_)
        obtain ⟨r3, rfl, k3⟩ := k3
        refine jv_fix [0, 1, 2] [(o, .inr (2, [.ref tp, .ref pp, .ref nn, .ref ob, .ref nb, .int dp, .int (nI i), .int ub, .int pl])), (tp, .inr (0, [.ref tb, .int (nI t.length)])), (tb, .inl (dA 0, N, .inl f))] [.int r3] 0 0 rfl rfl rfl (Nat.le_refl _) (Nat.le_refl _) ?_
        subst k3
        refine jv_if_eq (tgt := 33) C (jd D_Rd_endOfDigits 12 rfl) (by decide) (fun c24 => ?_) (fun c24 => ?_)
        · refine jv_iload_n C (jd D_Rd_endOfDigits 15 rfl) rfl 2 rfl ?_
          rw [hQ]
          exact jv_iret C hr () (by rw [← he, show t.length - j = (t.length - (j + 1)) + 1 by omega, js_dg, if_pos c24]) rfl [0, 1, 2] rfl rfl (Nat.le_of_ble_eq_true rfl) (Nat.le_of_ble_eq_true rfl) (jd D_Rd_endOfDigits 16 rfl)
        · refine jv_iinc (v := nI (j + 1)) C [(2, .int (nI (j + 1))), (0, .ref o), (1, .int (nI q))] (jd D_Rd_endOfDigits 13 rfl) 2 rfl (nI_1 j) (by decide) rfl ?_
          refine jv_goto (tgt := 2) C (jd D_Rd_endOfDigits 14 rfl) (by decide) ?_
          refine jv_lvsub [1, 2, 0] rfl ?_
          exact ih (j + 1) (by omega) (by omega) (by omega) (by rw [← he, show t.length - j = (t.length - (j + 1)) + 1 by omega, js_dg, if_neg c24])
  refine jv_lvsub [1, 2, 0] rfl ?_
  exact hL2 (t.length + 1 - q) q (Nat.le_refl _) hq (by omega) rfl

set_option maxHeartbeats 4000000 in
set_option maxRecDepth 100000 in
/-- Reader.isTooGreat(q, z) -/
theorem c_Rd_isTooGreat {l : Launch} {D : va_G} {dA : Nat → ClassId} (o tp pp nn ob nb : Nat) (dp ub pl : Int32) (i : Nat) (tb N : Nat) (f : Nat → Int32) (t : List Nat) (q z : Nat) (hl : t.length ≤ N) (hN : N < 2 ^ 30) (ht : js_tx f t) (hq : q ≤ z) (hz : z ≤ t.length) : jv_M l D dA y_Rd_isTooGreat b_Rd_isTooGreat 6 (some (FieldType.boolean)) 2 [.ref o, .int (nI q), .int (nI z)] [(o, .inr (2, [.ref tp, .ref pp, .ref nn, .ref ob, .ref nb, .int dp, .int (nI i), .int ub, .int pl])), (tp, .inr (0, [.ref tb, .int (nI t.length)])), (tb, .inl (dA 0, N, .inl f))] (jv_pi fun r (_ : Unit) => js_bool (9007199254740991 < js_tg t (z - q) q 0) r) (fun _ => [(o, .inr (2, [.ref tp, .ref pp, .ref nn, .ref ob, .ref nb, .int dp, .int (nI i), .int ub, .int pl])), (tp, .inr (0, [.ref tb, .int (nI t.length)])), (tb, .inl (dA 0, N, .inl f))]) 0 0 := by
  refine jv_M.of [(0, .ref o), (1, .int (nI q)), (2, .int (nI z))] (by decide) (Nat.le_of_ble_eq_true rfl) rfl ?_
  intro pR eR sR mR belowR methR cR AR C hr hin
  obtain ⟨QR, hQ⟩ : ∃ QR, QR = jv_E D (jv_pi fun r (_ : Unit) => js_bool (9007199254740991 < js_tg t (z - q) q 0) r) (fun _ => [(o, .inr (2, [.ref tp, .ref pp, .ref nn, .ref ob, .ref nb, .int dp, .int (nI i), .int ub, .int pl])), (tp, .inr (0, [.ref tb, .int (nI t.length)])), (tb, .inl (dA 0, N, .inl f))]) belowR ([.ref o, .int (nI q), .int (nI z)] : List Value).toArray sR AR 0 0 := ⟨_, rfl⟩
  rw [← hQ]
  refine jv_lconst (v := 0) C (jd D_Rd_isTooGreat 0 rfl) (by decide) ?_
  refine jv_lstore_n C [(3, .long 0), (0, .ref o), (1, .int (nI q)), (2, .int (nI z))] (jd D_Rd_isTooGreat 1 rfl) rfl (by decide) rfl ?_
  refine jv_iload_n C (jd D_Rd_isTooGreat 2 rfl) rfl 2 rfl ?_
  refine jv_istore C [(5, .int (nI q)), (3, .long 0), (0, .ref o), (1, .int (nI q)), (2, .int (nI z))] (jd D_Rd_isTooGreat 3 rfl) (by decide) rfl ?_
  have hL5 : ∀ (n : Nat) (j : Nat) (sz : Int64), q ≤ j → j ≤ z → z + 1 ≤ j + n → js_tg t (z - j) j sz = js_tg t (z - q) q 0 → jv_V pR l eR (jv_rm 2 0 0) sR mR ([.ref o, .int (nI q), .int (nI z)] : List Value).toArray belowR methR cR 0 0 QR D AR 6 [(o, .inr (2, [.ref tp, .ref pp, .ref nn, .ref ob, .ref nb, .int dp, .int (nI i), .int ub, .int pl])), (tp, .inr (0, [.ref tb, .int (nI t.length)])), (tb, .inl (dA 0, N, .inl f))] [(0, .ref o), (1, .int (nI q)), (2, .int (nI z)), (3, .long sz), (5, .int (nI j))] 5 [] := by
    intro n
    induction n with
    | zero =>
      intro j sz h0 h1 h2
      exact absurd h2 (by omega)
    | succ n ih =>
      intro j sz hqj hj hm he
      refine jv_iload C (jd D_Rd_isTooGreat 4 rfl) 4 rfl ?_
      refine jv_iload_n C (jd D_Rd_isTooGreat 5 rfl) rfl 2 rfl ?_
      refine jv_icmp_ge (tgt := 45) C (jd D_Rd_isTooGreat 6 rfl) (by decide) (fun c8 => ?_) (fun c8 => ?_)
      · have hfin : sz = js_tg t (z - q) q 0 := by
          rw [← he]
          rw [show z - j = 0 from (by have := (nI_leI (a := z) (b := j) (by omega) (by omega)).mp c8; omega), js_tg]
        refine jv_lload_n C (jd D_Rd_isTooGreat 25 rfl) rfl 3 rfl ?_
        refine jv_ldc2_w (v := 9007199254740991) C (jm2 (List.mem_of_getElem? (i := 222) rfl)) (jd D_Rd_isTooGreat 26 rfl) ?_
        refine jv_lcmp C (jd D_Rd_isTooGreat 27 rfl) ?_
        refine jv_if_le (tgt := 57) C (jd D_Rd_isTooGreat 28 rfl) (by decide) (fun c50 => ?_) (fun c50 => ?_)
        · refine jv_iconst (v := 0) C (jd D_Rd_isTooGreat 31 rfl) (by decide) ?_
          rw [hQ]
          exact jv_iret C hr () (Or.inr ⟨rfl, fun y => (Int64.not_lt.mpr ((lg_cmp_le _ _).mp c50)) (by rw [hfin]; exact y)⟩) rfl [0, 1, 2] rfl rfl (Nat.le_of_ble_eq_true rfl) (Nat.le_of_ble_eq_true rfl) (jd D_Rd_isTooGreat 32 rfl)
        · refine jv_iconst (v := 1) C (jd D_Rd_isTooGreat 29 rfl) (by decide) ?_
          refine jv_goto (tgt := 58) C (jd D_Rd_isTooGreat 30 rfl) (by decide) ?_
          rw [hQ]
          exact jv_iret C hr () (Or.inl ⟨rfl, by rw [← hfin]; exact (Int64.not_le.mp (fun y => c50 ((lg_cmp_le _ _).mpr y)))⟩) rfl [0, 1, 2] rfl rfl (Nat.le_of_ble_eq_true rfl) (Nat.le_of_ble_eq_true rfl) (jd D_Rd_isTooGreat 32 rfl)
      · have hlt : j < z := by
          rcases Nat.lt_or_ge j z with y | y
          · exact y
          · exact absurd (nI_le y (by omega)) c8
        refine jv_lload_n C (jd D_Rd_isTooGreat 7 rfl) rfl 3 rfl ?_
        refine jv_ldc2_w (v := 9007199254740991) C (jm2 (List.mem_of_getElem? (i := 222) rfl)) (jd D_Rd_isTooGreat 8 rfl) ?_
        refine jv_lcmp C (jd D_Rd_isTooGreat 9 rfl) ?_
        refine jv_if_gt (tgt := 45) C (jd D_Rd_isTooGreat 10 rfl) (by decide) (fun c16 => ?_) (fun c16 => ?_)
        · have hfin : sz = js_tg t (z - q) q 0 := by
            rw [← he]
            rw [show z - j = (z - (j + 1)) + 1 by omega, js_tg, if_pos ((lg_cmp_gt _ _).mp c16)]
          refine jv_lload_n C (jd D_Rd_isTooGreat 25 rfl) rfl 3 rfl ?_
          refine jv_ldc2_w (v := 9007199254740991) C (jm2 (List.mem_of_getElem? (i := 222) rfl)) (jd D_Rd_isTooGreat 26 rfl) ?_
          refine jv_lcmp C (jd D_Rd_isTooGreat 27 rfl) ?_
          refine jv_if_le (tgt := 57) C (jd D_Rd_isTooGreat 28 rfl) (by decide) (fun c50 => ?_) (fun c50 => ?_)
          · refine jv_iconst (v := 0) C (jd D_Rd_isTooGreat 31 rfl) (by decide) ?_
            rw [hQ]
            exact jv_iret C hr () (Or.inr ⟨rfl, fun y => (Int64.not_lt.mpr ((lg_cmp_le _ _).mp c50)) (by rw [hfin]; exact y)⟩) rfl [0, 1, 2] rfl rfl (Nat.le_of_ble_eq_true rfl) (Nat.le_of_ble_eq_true rfl) (jd D_Rd_isTooGreat 32 rfl)
          · refine jv_iconst (v := 1) C (jd D_Rd_isTooGreat 29 rfl) (by decide) ?_
            refine jv_goto (tgt := 58) C (jd D_Rd_isTooGreat 30 rfl) (by decide) ?_
            rw [hQ]
            exact jv_iret C hr () (Or.inl ⟨rfl, by rw [← hfin]; exact (Int64.not_le.mp (fun y => c50 ((lg_cmp_le _ _).mpr y)))⟩) rfl [0, 1, 2] rfl rfl (Nat.le_of_ble_eq_true rfl) (Nat.le_of_ble_eq_true rfl) (jd D_Rd_isTooGreat 32 rfl)
        · refine jv_lload_n C (jd D_Rd_isTooGreat 11 rfl) rfl 3 rfl ?_
          refine jv_ldc2_w (v := 10) C (jm2 (List.mem_of_getElem? (i := 223) rfl)) (jd D_Rd_isTooGreat 12 rfl) ?_
          refine jv_lmul C (jd D_Rd_isTooGreat 13 rfl) ?_
          refine jv_aload_n C (jd D_Rd_isTooGreat 14 rfl) rfl 0 rfl ?_
          refine jv_get C fl_Rd_9 0 rfl rfl (jd D_Rd_isTooGreat 15 rfl) ?_
          refine jv_iload C (jd D_Rd_isTooGreat 16 rfl) 4 rfl ?_
          refine jv_callV (wr := [(o, .inr (2, [.ref tp, .ref pp, .ref nn, .ref ob, .ref nb, .int dp, .int (nI i), .int ub, .int pl]))]) C cl_Rd_50 (c_Tx_at tp tb N f t (nI j) hl (by omega) ht) [1, 2] [0] rfl rfl rfl rfl (by decide) rfl rfl 0 rfl ⟨Nat.le_of_ble_eq_true rfl, Nat.le_of_ble_eq_true rfl⟩ ⟨Nat.le_of_ble_eq_true rfl, Nat.le_of_ble_eq_true rfl⟩ rfl rfl (Nat.le_of_ble_eq_true rfl) (jd D_Rd_isTooGreat 17 rfl) (fun v1 _ k2 => ?_)
          obtain ⟨r2, rfl, k2⟩ := k2
          refine jv_fix [0, 1, 2] [(o, .inr (2, [.ref tp, .ref pp, .ref nn, .ref ob, .ref nb, .int dp, .int (nI i), .int ub, .int pl])), (tp, .inr (0, [.ref tb, .int (nI t.length)])), (tb, .inl (dA 0, N, .inl f))] [.int r2, .long (sz * 10)] 0 0 rfl rfl rfl (Nat.le_refl _) (Nat.le_refl _) ?_
          rw [js_at_nat (by omega) (by omega)] at k2
          subst k2
          refine jv_bipush (v := 48) C (jd D_Rd_isTooGreat 18 rfl) (by decide) ?_
          refine jv_isub C (jd D_Rd_isTooGreat 19 rfl) ?_
          refine jv_i2l C (jd D_Rd_isTooGreat 20 rfl) ?_
          refine jv_ladd C (jd D_Rd_isTooGreat 21 rfl) ?_
          refine jv_lstore_n C [(3, .long ((sz * 10) + (((js_b t j) - 48).toInt64))), (0, .ref o), (1, .int (nI q)), (2, .int (nI z)), (5, .int (nI j))] (jd D_Rd_isTooGreat 22 rfl) rfl (by decide) rfl ?_
          refine jv_iinc (v := nI (j + 1)) C [(5, .int (nI (j + 1))), (3, .long ((sz * 10) + (((js_b t j) - 48).toInt64))), (0, .ref o), (1, .int (nI q)), (2, .int (nI z))] (jd D_Rd_isTooGreat 23 rfl) 4 rfl (nI_1 j) (by decide) rfl ?_
          refine jv_goto (tgt := 5) C (jd D_Rd_isTooGreat 24 rfl) (by decide) ?_
          refine jv_lvsub [2, 3, 4, 1, 0] rfl ?_
          exact ih (j + 1) _ (by omega) (by omega) (by omega) (by rw [← he, show z - j = (z - (j + 1)) + 1 by omega, js_tg, if_neg (fun y => c16 ((lg_cmp_gt _ _).mpr y))])
  refine jv_lvsub [2, 3, 4, 1, 0] rfl ?_
  exact hL5 (z + 1 - q) q 0 (Nat.le_refl _) hq (by omega) rfl
